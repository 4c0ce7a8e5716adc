theorem dc_M_expect_173 : decode bc_M_expect 173 = .ok (.iload_n 1, 1) := by decide +kernel
theorem dc_M_expect_174 : decode bc_M_expect 174 = .ok (.invokevirtual 217, 3) := by decide +kernel
theorem dc_M_expect_177 : decode bc_M_expect 177 = .ok (.aload_n 0, 1) := by decide +kernel
theorem dc_M_expect_178 : decode bc_M_expect 178 = .ok (.iload_n 3, 1) := by decide +kernel
theorem dc_M_expect_179 : decode bc_M_expect 179 = .ok (.iload_n 1, 1) := by decide +kernel
theorem dc_M_expect_180 : decode bc_M_expect 180 = .ok (.invokevirtual 217, 3) := by decide +kernel
theorem dc_M_expect_183 : decode bc_M_expect 183 = .ok (.aload_n 0, 1) := by decide +kernel
theorem dc_M_expect_184 : decode bc_M_expect 184 = .ok (.iconst 1, 1) := by decide +kernel
theorem dc_M_expect_185 : decode bc_M_expect 185 = .ok (.iload_n 1, 1) := by decide +kernel
theorem dc_M_expect_186 : decode bc_M_expect 186 = .ok (.invokevirtual 217, 3) := by decide +kernel
theorem dc_M_expect_189 : decode bc_M_expect 189 = .ok (.goto 78, 3) := by decide +kernel
theorem dc_M_expect_192 : decode bc_M_expect 192 = .ok (.aload_n 0, 1) := by decide +kernel
theorem dc_M_expect_193 : decode bc_M_expect 193 = .ok (.bipush 7, 2) := by decide +kernel
theorem dc_M_expect_195 : decode bc_M_expect 195 = .ok (.iload_n 1, 1) := by decide +kernel
theorem dc_M_expect_196 : decode bc_M_expect 196 = .ok (.invokevirtual 217, 3) := by decide +kernel
theorem dc_M_expect_199 : decode bc_M_expect 199 = .ok (.aload_n 0, 1) := by decide +kernel
theorem dc_M_expect_200 : decode bc_M_expect 200 = .ok (.bipush 9, 2) := by decide +kernel
theorem dc_M_expect_202 : decode bc_M_expect 202 = .ok (.iload_n 1, 1) := by decide +kernel
theorem dc_M_expect_203 : decode bc_M_expect 203 = .ok (.invokevirtual 217, 3) := by decide +kernel
theorem dc_M_expect_206 : decode bc_M_expect 206 = .ok (.goto 61, 3) := by decide +kernel
theorem dc_M_expect_209 : decode bc_M_expect 209 = .ok (.aload_n 0, 1) := by decide +kernel
theorem dc_M_expect_210 : decode bc_M_expect 210 = .ok (.iconst 2, 1) := by decide +kernel
theorem dc_M_expect_211 : decode bc_M_expect 211 = .ok (.iload_n 1, 1) := by decide +kernel
theorem dc_M_expect_212 : decode bc_M_expect 212 = .ok (.invokevirtual 217, 3) := by decide +kernel
theorem dc_M_expect_215 : decode bc_M_expect 215 = .ok (.goto 52, 3) := by decide +kernel
theorem dc_M_expect_218 : decode bc_M_expect 218 = .ok (.aload_n 0, 1) := by decide +kernel
theorem dc_M_expect_219 : decode bc_M_expect 219 = .ok (.bipush 8, 2) := by decide +kernel
theorem dc_M_expect_221 : decode bc_M_expect 221 = .ok (.iload_n 1, 1) := by decide +kernel
theorem dc_M_expect_222 : decode bc_M_expect 222 = .ok (.invokevirtual 217, 3) := by decide +kernel
theorem dc_M_expect_225 : decode bc_M_expect 225 = .ok (.aload_n 0, 1) := by decide +kernel
theorem dc_M_expect_226 : decode bc_M_expect 226 = .ok (.iconst 2, 1) := by decide +kernel
theorem dc_M_expect_227 : decode bc_M_expect 227 = .ok (.iload_n 1, 1) := by decide +kernel
theorem dc_M_expect_228 : decode bc_M_expect 228 = .ok (.invokevirtual 217, 3) := by decide +kernel
theorem dc_M_expect_231 : decode bc_M_expect 231 = .ok (.aload_n 0, 1) := by decide +kernel
theorem dc_M_expect_232 : decode bc_M_expect 232 = .ok (.iconst 5, 1) := by decide +kernel
theorem dc_M_expect_233 : decode bc_M_expect 233 = .ok (.iload_n 1, 1) := by decide +kernel
theorem dc_M_expect_234 : decode bc_M_expect 234 = .ok (.invokevirtual 217, 3) := by decide +kernel
theorem dc_M_expect_237 : decode bc_M_expect 237 = .ok (.aload_n 0, 1) := by decide +kernel
theorem dc_M_expect_238 : decode bc_M_expect 238 = .ok (.iconst 1, 1) := by decide +kernel
theorem dc_M_expect_239 : decode bc_M_expect 239 = .ok (.iload_n 1, 1) := by decide +kernel
theorem dc_M_expect_240 : decode bc_M_expect 240 = .ok (.invokevirtual 217, 3) := by decide +kernel
theorem dc_M_expect_243 : decode bc_M_expect 243 = .ok (.goto 24, 3) := by decide +kernel
theorem dc_M_expect_246 : decode bc_M_expect 246 = .ok (.aload_n 0, 1) := by decide +kernel
theorem dc_M_expect_247 : decode bc_M_expect 247 = .ok (.iconst 1, 1) := by decide +kernel
theorem dc_M_expect_248 : decode bc_M_expect 248 = .ok (.iload_n 1, 1) := by decide +kernel
theorem dc_M_expect_249 : decode bc_M_expect 249 = .ok (.invokevirtual 217, 3) := by decide +kernel
theorem dc_M_expect_252 : decode bc_M_expect 252 = .ok (.goto 15, 3) := by decide +kernel
theorem dc_M_expect_255 : decode bc_M_expect 255 = .ok (.aload_n 0, 1) := by decide +kernel
theorem dc_M_expect_256 : decode bc_M_expect 256 = .ok (.iconst 1, 1) := by decide +kernel
theorem dc_M_expect_257 : decode bc_M_expect 257 = .ok (.iload_n 1, 1) := by decide +kernel
theorem dc_M_expect_258 : decode bc_M_expect 258 = .ok (.invokevirtual 217, 3) := by decide +kernel
theorem dc_M_expect_261 : decode bc_M_expect 261 = .ok (.aload_n 0, 1) := by decide +kernel
theorem dc_M_expect_262 : decode bc_M_expect 262 = .ok (.iconst 1, 1) := by decide +kernel
theorem dc_M_expect_263 : decode bc_M_expect 263 = .ok (.iload_n 1, 1) := by decide +kernel
theorem dc_M_expect_264 : decode bc_M_expect 264 = .ok (.invokevirtual 217, 3) := by decide +kernel
theorem dc_M_expect_267 : decode bc_M_expect 267 = .ok (.return_, 1) := by decide +kernel
theorem dc_M_letBinds_0 : decode bc_M_letBinds 0 = .ok (.aload_n 0, 1) := by decide +kernel
theorem dc_M_letBinds_1 : decode bc_M_letBinds 1 = .ok (.aload_n 0, 1) := by decide +kernel
theorem dc_M_letBinds_2 : decode bc_M_letBinds 2 = .ok (.getfield 210, 3) := by decide +kernel
theorem dc_M_letBinds_5 : decode bc_M_letBinds 5 = .ok (.bipush 24, 2) := by decide +kernel
theorem dc_M_letBinds_7 : decode bc_M_letBinds 7 = .ok (.if_icmp .ge 7, 3) := by decide +kernel
theorem dc_M_letBinds_10 : decode bc_M_letBinds 10 = .ok (.iconst 1, 1) := by decide +kernel
theorem dc_M_letBinds_11 : decode bc_M_letBinds 11 = .ok (.goto 4, 3) := by decide +kernel
theorem dc_M_letBinds_14 : decode bc_M_letBinds 14 = .ok (.iconst 0, 1) := by decide +kernel
theorem dc_M_letBinds_15 : decode bc_M_letBinds 15 = .ok (.invokevirtual 213, 3) := by decide +kernel
theorem dc_M_letBinds_18 : decode bc_M_letBinds 18 = .ok (.ifCond .eq 16, 3) := by decide +kernel
theorem dc_M_letBinds_21 : decode bc_M_letBinds 21 = .ok (.aload_n 0, 1) := by decide +kernel
theorem dc_M_letBinds_22 : decode bc_M_letBinds 22 = .ok (.bipush 10, 2) := by decide +kernel
theorem dc_M_letBinds_24 : decode bc_M_letBinds 24 = .ok (.iload_n 1, 1) := by decide +kernel
theorem dc_M_letBinds_25 : decode bc_M_letBinds 25 = .ok (.invokevirtual 217, 3) := by decide +kernel
theorem dc_M_letBinds_28 : decode bc_M_letBinds 28 = .ok (.aload_n 0, 1) := by decide +kernel
theorem dc_M_letBinds_29 : decode bc_M_letBinds 29 = .ok (.iconst 1, 1) := by decide +kernel
theorem dc_M_letBinds_30 : decode bc_M_letBinds 30 = .ok (.iload_n 1, 1) := by decide +kernel
theorem dc_M_letBinds_31 : decode bc_M_letBinds 31 = .ok (.invokevirtual 217, 3) := by decide +kernel
theorem dc_M_letBinds_34 : decode bc_M_letBinds 34 = .ok (.return_, 1) := by decide +kernel
theorem dc_M_bind_0 : decode bc_M_bind 0 = .ok (.aload_n 0, 1) := by decide +kernel
theorem dc_M_bind_1 : decode bc_M_bind 1 = .ok (.aload_n 0, 1) := by decide +kernel
theorem dc_M_bind_2 : decode bc_M_bind 2 = .ok (.getfield 210, 3) := by decide +kernel
theorem dc_M_bind_5 : decode bc_M_bind 5 = .ok (.bipush 24, 2) := by decide +kernel
theorem dc_M_bind_7 : decode bc_M_bind 7 = .ok (.if_icmp .ge 7, 3) := by decide +kernel
theorem dc_M_bind_10 : decode bc_M_bind 10 = .ok (.iconst 1, 1) := by decide +kernel
theorem dc_M_bind_11 : decode bc_M_bind 11 = .ok (.goto 4, 3) := by decide +kernel
theorem dc_M_bind_14 : decode bc_M_bind 14 = .ok (.iconst 0, 1) := by decide +kernel
theorem dc_M_bind_15 : decode bc_M_bind 15 = .ok (.invokevirtual 213, 3) := by decide +kernel
theorem dc_M_bind_18 : decode bc_M_bind 18 = .ok (.ifCond .eq 13, 3) := by decide +kernel
theorem dc_M_bind_21 : decode bc_M_bind 21 = .ok (.aload_n 0, 1) := by decide +kernel
theorem dc_M_bind_22 : decode bc_M_bind 22 = .ok (.dup, 1) := by decide +kernel
theorem dc_M_bind_23 : decode bc_M_bind 23 = .ok (.getfield 210, 3) := by decide +kernel
theorem dc_M_bind_26 : decode bc_M_bind 26 = .ok (.iconst 1, 1) := by decide +kernel
theorem dc_M_bind_27 : decode bc_M_bind 27 = .ok (.iadd, 1) := by decide +kernel
theorem dc_M_bind_28 : decode bc_M_bind 28 = .ok (.putfield 210, 3) := by decide +kernel
theorem dc_M_bind_31 : decode bc_M_bind 31 = .ok (.return_, 1) := by decide +kernel
theorem dc_M_definition_0 : decode bc_M_definition 0 = .ok (.aload_n 0, 1) := by decide +kernel
theorem dc_M_definition_1 : decode bc_M_definition 1 = .ok (.iconst 0, 1) := by decide +kernel
theorem dc_M_definition_2 : decode bc_M_definition 2 = .ok (.putfield 77, 3) := by decide +kernel
theorem dc_M_definition_5 : decode bc_M_definition 5 = .ok (.aload_n 0, 1) := by decide +kernel
theorem dc_M_definition_6 : decode bc_M_definition 6 = .ok (.iload_n 1, 1) := by decide +kernel
theorem dc_M_definition_7 : decode bc_M_definition 7 = .ok (.invokevirtual 264, 3) := by decide +kernel
theorem dc_M_definition_10 : decode bc_M_definition 10 = .ok (.ifCond .ne 5, 3) := by decide +kernel
theorem dc_M_definition_13 : decode bc_M_definition 13 = .ok (.iconst (-1), 1) := by decide +kernel
theorem dc_M_definition_14 : decode bc_M_definition 14 = .ok (.ireturn, 1) := by decide +kernel
theorem dc_M_definition_15 : decode bc_M_definition 15 = .ok (.iload_n 2, 1) := by decide +kernel
theorem dc_M_definition_16 : decode bc_M_definition 16 = .ok (.ifCond .ne 12, 3) := by decide +kernel
theorem dc_M_definition_19 : decode bc_M_definition 19 = .ok (.aload_n 0, 1) := by decide +kernel
theorem dc_M_definition_20 : decode bc_M_definition 20 = .ok (.getfield 17, 3) := by decide +kernel
theorem dc_M_definition_23 : decode bc_M_definition 23 = .ok (.iload_n 1, 1) := by decide +kernel
theorem dc_M_definition_24 : decode bc_M_definition 24 = .ok (.iaload, 1) := by decide +kernel
theorem dc_M_definition_25 : decode bc_M_definition 25 = .ok (.goto 60, 3) := by decide +kernel
theorem dc_M_definition_28 : decode bc_M_definition 28 = .ok (.iload_n 2, 1) := by decide +kernel
theorem dc_M_definition_29 : decode bc_M_definition 29 = .ok (.iconst 1, 1) := by decide +kernel
theorem dc_M_definition_30 : decode bc_M_definition 30 = .ok (.if_icmp .ne 12, 3) := by decide +kernel
theorem dc_M_definition_33 : decode bc_M_definition 33 = .ok (.aload_n 0, 1) := by decide +kernel
theorem dc_M_definition_34 : decode bc_M_definition 34 = .ok (.getfield 21, 3) := by decide +kernel
theorem dc_M_definition_37 : decode bc_M_definition 37 = .ok (.iload_n 1, 1) := by decide +kernel
theorem dc_M_definition_38 : decode bc_M_definition 38 = .ok (.iaload, 1) := by decide +kernel
theorem dc_M_definition_39 : decode bc_M_definition 39 = .ok (.goto 46, 3) := by decide +kernel
theorem dc_M_definition_42 : decode bc_M_definition 42 = .ok (.iload_n 2, 1) := by decide +kernel
theorem dc_M_definition_43 : decode bc_M_definition 43 = .ok (.iconst 2, 1) := by decide +kernel
theorem dc_M_definition_44 : decode bc_M_definition 44 = .ok (.if_icmp .ne 12, 3) := by decide +kernel
theorem dc_M_definition_47 : decode bc_M_definition 47 = .ok (.aload_n 0, 1) := by decide +kernel
theorem dc_M_definition_48 : decode bc_M_definition 48 = .ok (.getfield 24, 3) := by decide +kernel
theorem dc_M_definition_51 : decode bc_M_definition 51 = .ok (.iload_n 1, 1) := by decide +kernel
theorem dc_M_definition_52 : decode bc_M_definition 52 = .ok (.iaload, 1) := by decide +kernel
theorem dc_M_definition_53 : decode bc_M_definition 53 = .ok (.goto 32, 3) := by decide +kernel
theorem dc_M_definition_56 : decode bc_M_definition 56 = .ok (.iload_n 2, 1) := by decide +kernel
theorem dc_M_definition_57 : decode bc_M_definition 57 = .ok (.iconst 3, 1) := by decide +kernel
theorem dc_M_definition_58 : decode bc_M_definition 58 = .ok (.if_icmp .ne 12, 3) := by decide +kernel
theorem dc_M_definition_61 : decode bc_M_definition 61 = .ok (.aload_n 0, 1) := by decide +kernel
theorem dc_M_definition_62 : decode bc_M_definition 62 = .ok (.getfield 27, 3) := by decide +kernel
theorem dc_M_definition_65 : decode bc_M_definition 65 = .ok (.iload_n 1, 1) := by decide +kernel
theorem dc_M_definition_66 : decode bc_M_definition 66 = .ok (.iaload, 1) := by decide +kernel
theorem dc_M_definition_67 : decode bc_M_definition 67 = .ok (.goto 18, 3) := by decide +kernel
theorem dc_M_definition_70 : decode bc_M_definition 70 = .ok (.iload_n 2, 1) := by decide +kernel
theorem dc_M_definition_71 : decode bc_M_definition 71 = .ok (.iconst 4, 1) := by decide +kernel
theorem dc_M_definition_72 : decode bc_M_definition 72 = .ok (.if_icmp .ne 12, 3) := by decide +kernel
theorem dc_M_definition_75 : decode bc_M_definition 75 = .ok (.aload_n 0, 1) := by decide +kernel
theorem dc_M_definition_76 : decode bc_M_definition 76 = .ok (.getfield 30, 3) := by decide +kernel
theorem dc_M_definition_79 : decode bc_M_definition 79 = .ok (.iload_n 1, 1) := by decide +kernel
theorem dc_M_definition_80 : decode bc_M_definition 80 = .ok (.iaload, 1) := by decide +kernel
theorem dc_M_definition_81 : decode bc_M_definition 81 = .ok (.goto 4, 3) := by decide +kernel
theorem dc_M_definition_84 : decode bc_M_definition 84 = .ok (.iconst (-1), 1) := by decide +kernel
theorem dc_M_definition_85 : decode bc_M_definition 85 = .ok (.ireturn, 1) := by decide +kernel
theorem dc_M_isDefinition_0 : decode bc_M_isDefinition 0 = .ok (.iload_n 1, 1) := by decide +kernel
theorem dc_M_isDefinition_1 : decode bc_M_isDefinition 1 = .ok (.ifCond .lt 15, 3) := by decide +kernel
theorem dc_M_isDefinition_4 : decode bc_M_isDefinition 4 = .ok (.iload_n 1, 1) := by decide +kernel
theorem dc_M_isDefinition_5 : decode bc_M_isDefinition 5 = .ok (.aload_n 0, 1) := by decide +kernel
theorem dc_M_isDefinition_6 : decode bc_M_isDefinition 6 = .ok (.getfield 251, 3) := by decide +kernel
theorem dc_M_isDefinition_9 : decode bc_M_isDefinition 9 = .ok (.if_icmp .ge 7, 3) := by decide +kernel
theorem dc_M_isDefinition_12 : decode bc_M_isDefinition 12 = .ok (.iconst 1, 1) := by decide +kernel
theorem dc_M_isDefinition_13 : decode bc_M_isDefinition 13 = .ok (.goto 4, 3) := by decide +kernel
theorem dc_M_isDefinition_16 : decode bc_M_isDefinition 16 = .ok (.iconst 0, 1) := by decide +kernel
theorem dc_M_isDefinition_17 : decode bc_M_isDefinition 17 = .ok (.ireturn, 1) := by decide +kernel
theorem dc_M_title_0 : decode bc_M_title 0 = .ok (.aload_n 0, 1) := by decide +kernel
theorem dc_M_title_1 : decode bc_M_title 1 = .ok (.iconst 0, 1) := by decide +kernel
theorem dc_M_title_2 : decode bc_M_title 2 = .ok (.putfield 77, 3) := by decide +kernel
theorem dc_M_title_5 : decode bc_M_title 5 = .ok (.aload_n 0, 1) := by decide +kernel
theorem dc_M_title_6 : decode bc_M_title 6 = .ok (.iload_n 1, 1) := by decide +kernel
theorem dc_M_title_7 : decode bc_M_title 7 = .ok (.invokevirtual 264, 3) := by decide +kernel
theorem dc_M_title_10 : decode bc_M_title 10 = .ok (.ifCond .eq 30, 3) := by decide +kernel
theorem dc_M_title_13 : decode bc_M_title 13 = .ok (.iload_n 2, 1) := by decide +kernel
theorem dc_M_title_14 : decode bc_M_title 14 = .ok (.iconst (-1), 1) := by decide +kernel
theorem dc_M_title_15 : decode bc_M_title 15 = .ok (.if_icmp .lt 25, 3) := by decide +kernel
theorem dc_M_title_18 : decode bc_M_title 18 = .ok (.iload_n 2, 1) := by decide +kernel
theorem dc_M_title_19 : decode bc_M_title 19 = .ok (.aload_n 0, 1) := by decide +kernel
theorem dc_M_title_20 : decode bc_M_title 20 = .ok (.getfield 24, 3) := by decide +kernel
theorem dc_M_title_23 : decode bc_M_title 23 = .ok (.aload_n 0, 1) := by decide +kernel
theorem dc_M_title_24 : decode bc_M_title 24 = .ok (.iload_n 1, 1) := by decide +kernel
theorem dc_M_title_25 : decode bc_M_title 25 = .ok (.invokevirtual 264, 3) := by decide +kernel
theorem dc_M_title_28 : decode bc_M_title 28 = .ok (.ifCond .eq 7, 3) := by decide +kernel
theorem dc_M_title_31 : decode bc_M_title 31 = .ok (.iload_n 1, 1) := by decide +kernel
theorem dc_M_title_32 : decode bc_M_title 32 = .ok (.goto 4, 3) := by decide +kernel
theorem dc_M_title_35 : decode bc_M_title 35 = .ok (.iconst 0, 1) := by decide +kernel
theorem dc_M_title_36 : decode bc_M_title 36 = .ok (.iaload, 1) := by decide +kernel
theorem dc_M_title_37 : decode bc_M_title 37 = .ok (.if_icmp .lt 5, 3) := by decide +kernel
theorem dc_M_title_40 : decode bc_M_title 40 = .ok (.lconst 0, 1) := by decide +kernel
theorem dc_M_title_41 : decode bc_M_title 41 = .ok (.lreturn, 1) := by decide +kernel
theorem dc_M_title_42 : decode bc_M_title 42 = .ok (.iload_n 2, 1) := by decide +kernel
theorem dc_M_title_43 : decode bc_M_title 43 = .ok (.ifCond .ge 12, 3) := by decide +kernel
theorem dc_M_title_46 : decode bc_M_title 46 = .ok (.aload_n 0, 1) := by decide +kernel
theorem dc_M_title_47 : decode bc_M_title 47 = .ok (.getfield 33, 3) := by decide +kernel
theorem dc_M_title_50 : decode bc_M_title 50 = .ok (.iload_n 1, 1) := by decide +kernel
theorem dc_M_title_51 : decode bc_M_title 51 = .ok (.laload, 1) := by decide +kernel
theorem dc_M_title_52 : decode bc_M_title 52 = .ok (.goto 14, 3) := by decide +kernel
theorem dc_M_title_55 : decode bc_M_title 55 = .ok (.aload_n 0, 1) := by decide +kernel
theorem dc_M_title_56 : decode bc_M_title 56 = .ok (.getfield 37, 3) := by decide +kernel
theorem dc_M_title_59 : decode bc_M_title 59 = .ok (.bipush 8, 2) := by decide +kernel
theorem dc_M_title_61 : decode bc_M_title 61 = .ok (.iload_n 1, 1) := by decide +kernel
theorem dc_M_title_62 : decode bc_M_title 62 = .ok (.imul, 1) := by decide +kernel
theorem dc_M_title_63 : decode bc_M_title 63 = .ok (.iload_n 2, 1) := by decide +kernel
theorem dc_M_title_64 : decode bc_M_title 64 = .ok (.iadd, 1) := by decide +kernel
theorem dc_M_title_65 : decode bc_M_title 65 = .ok (.laload, 1) := by decide +kernel
theorem dc_M_title_66 : decode bc_M_title 66 = .ok (.lreturn, 1) := by decide +kernel
theorem dc_M_parameter_0 : decode bc_M_parameter 0 = .ok (.aload_n 0, 1) := by decide +kernel
theorem dc_M_parameter_1 : decode bc_M_parameter 1 = .ok (.iconst 0, 1) := by decide +kernel
theorem dc_M_parameter_2 : decode bc_M_parameter 2 = .ok (.putfield 77, 3) := by decide +kernel
theorem dc_M_parameter_5 : decode bc_M_parameter 5 = .ok (.aload_n 0, 1) := by decide +kernel
theorem dc_M_parameter_6 : decode bc_M_parameter 6 = .ok (.iload_n 1, 1) := by decide +kernel
theorem dc_M_parameter_7 : decode bc_M_parameter 7 = .ok (.invokevirtual 264, 3) := by decide +kernel
theorem dc_M_parameter_10 : decode bc_M_parameter 10 = .ok (.ifCond .eq 43, 3) := by decide +kernel
theorem dc_M_parameter_13 : decode bc_M_parameter 13 = .ok (.iload_n 2, 1) := by decide +kernel
theorem dc_M_parameter_14 : decode bc_M_parameter 14 = .ok (.ifCond .lt 39, 3) := by decide +kernel
theorem dc_M_parameter_17 : decode bc_M_parameter 17 = .ok (.iload_n 2, 1) := by decide +kernel
theorem dc_M_parameter_18 : decode bc_M_parameter 18 = .ok (.aload_n 0, 1) := by decide +kernel
theorem dc_M_parameter_19 : decode bc_M_parameter 19 = .ok (.getfield 24, 3) := by decide +kernel
theorem dc_M_parameter_22 : decode bc_M_parameter 22 = .ok (.aload_n 0, 1) := by decide +kernel
theorem dc_M_parameter_23 : decode bc_M_parameter 23 = .ok (.iload_n 1, 1) := by decide +kernel
theorem dc_M_parameter_24 : decode bc_M_parameter 24 = .ok (.invokevirtual 264, 3) := by decide +kernel
theorem dc_M_parameter_27 : decode bc_M_parameter 27 = .ok (.ifCond .eq 7, 3) := by decide +kernel
theorem dc_M_parameter_30 : decode bc_M_parameter 30 = .ok (.iload_n 1, 1) := by decide +kernel
theorem dc_M_parameter_31 : decode bc_M_parameter 31 = .ok (.goto 4, 3) := by decide +kernel
theorem dc_M_parameter_34 : decode bc_M_parameter 34 = .ok (.iconst 0, 1) := by decide +kernel
theorem dc_M_parameter_35 : decode bc_M_parameter 35 = .ok (.iaload, 1) := by decide +kernel
theorem dc_M_parameter_36 : decode bc_M_parameter 36 = .ok (.if_icmp .ge 17, 3) := by decide +kernel
theorem dc_M_parameter_39 : decode bc_M_parameter 39 = .ok (.aload_n 0, 1) := by decide +kernel
theorem dc_M_parameter_40 : decode bc_M_parameter 40 = .ok (.getfield 40, 3) := by decide +kernel
theorem dc_M_parameter_43 : decode bc_M_parameter 43 = .ok (.bipush 8, 2) := by decide +kernel
theorem dc_M_parameter_45 : decode bc_M_parameter 45 = .ok (.iload_n 1, 1) := by decide +kernel
theorem dc_M_parameter_46 : decode bc_M_parameter 46 = .ok (.imul, 1) := by decide +kernel
theorem dc_M_parameter_47 : decode bc_M_parameter 47 = .ok (.iload_n 2, 1) := by decide +kernel
theorem dc_M_parameter_48 : decode bc_M_parameter 48 = .ok (.iadd, 1) := by decide +kernel
theorem dc_M_parameter_49 : decode bc_M_parameter 49 = .ok (.iaload, 1) := by decide +kernel
theorem dc_M_parameter_50 : decode bc_M_parameter 50 = .ok (.goto 4, 3) := by decide +kernel
theorem dc_M_parameter_53 : decode bc_M_parameter 53 = .ok (.iconst (-1), 1) := by decide +kernel
theorem dc_M_parameter_54 : decode bc_M_parameter 54 = .ok (.ireturn, 1) := by decide +kernel
theorem dc_M_node_0 : decode bc_M_node 0 = .ok (.aload_n 0, 1) := by decide +kernel
theorem dc_M_node_1 : decode bc_M_node 1 = .ok (.iconst 0, 1) := by decide +kernel
theorem dc_M_node_2 : decode bc_M_node 2 = .ok (.putfield 77, 3) := by decide +kernel
theorem dc_M_node_5 : decode bc_M_node 5 = .ok (.iload_n 1, 1) := by decide +kernel
theorem dc_M_node_6 : decode bc_M_node 6 = .ok (.ifCond .lt 11, 3) := by decide +kernel
theorem dc_M_node_9 : decode bc_M_node 9 = .ok (.iload_n 1, 1) := by decide +kernel
theorem dc_M_node_10 : decode bc_M_node 10 = .ok (.aload_n 0, 1) := by decide +kernel
theorem dc_M_node_11 : decode bc_M_node 11 = .ok (.getfield 207, 3) := by decide +kernel
theorem dc_M_node_14 : decode bc_M_node 14 = .ok (.if_icmp .lt 5, 3) := by decide +kernel
theorem dc_M_node_17 : decode bc_M_node 17 = .ok (.iconst (-1), 1) := by decide +kernel
theorem dc_M_node_18 : decode bc_M_node 18 = .ok (.ireturn, 1) := by decide +kernel
theorem dc_M_node_19 : decode bc_M_node 19 = .ok (.iload_n 2, 1) := by decide +kernel
theorem dc_M_node_20 : decode bc_M_node 20 = .ok (.tableswitch 106 0 7 #[48, 55, 62, 71, 78, 85, 92, 99], 48) := by decide +kernel
theorem dc_M_node_68 : decode bc_M_node 68 = .ok (.aload_n 0, 1) := by decide +kernel
theorem dc_M_node_69 : decode bc_M_node 69 = .ok (.getfield 43, 3) := by decide +kernel
theorem dc_M_node_72 : decode bc_M_node 72 = .ok (.iload_n 1, 1) := by decide +kernel
theorem dc_M_node_73 : decode bc_M_node 73 = .ok (.iaload, 1) := by decide +kernel
theorem dc_M_node_74 : decode bc_M_node 74 = .ok (.ireturn, 1) := by decide +kernel
theorem dc_M_node_75 : decode bc_M_node 75 = .ok (.aload_n 0, 1) := by decide +kernel
theorem dc_M_node_76 : decode bc_M_node 76 = .ok (.iload_n 1, 1) := by decide +kernel
theorem dc_M_node_77 : decode bc_M_node 77 = .ok (.iconst 1, 1) := by decide +kernel
theorem dc_M_node_78 : decode bc_M_node 78 = .ok (.invokevirtual 267, 3) := by decide +kernel
theorem dc_M_node_81 : decode bc_M_node 81 = .ok (.ireturn, 1) := by decide +kernel
theorem dc_M_node_82 : decode bc_M_node 82 = .ok (.iconst 1, 1) := by decide +kernel
theorem dc_M_node_83 : decode bc_M_node 83 = .ok (.aload_n 0, 1) := by decide +kernel
theorem dc_M_node_84 : decode bc_M_node 84 = .ok (.iload_n 1, 1) := by decide +kernel
theorem dc_M_node_85 : decode bc_M_node 85 = .ok (.iconst 0, 1) := by decide +kernel
theorem dc_M_node_86 : decode bc_M_node 86 = .ok (.invokevirtual 267, 3) := by decide +kernel
theorem dc_M_node_89 : decode bc_M_node 89 = .ok (.iadd, 1) := by decide +kernel
theorem dc_M_node_90 : decode bc_M_node 90 = .ok (.ireturn, 1) := by decide +kernel
theorem dc_M_node_91 : decode bc_M_node 91 = .ok (.aload_n 0, 1) := by decide +kernel
theorem dc_M_node_92 : decode bc_M_node 92 = .ok (.getfield 49, 3) := by decide +kernel
theorem dc_M_node_95 : decode bc_M_node 95 = .ok (.iload_n 1, 1) := by decide +kernel
theorem dc_M_node_96 : decode bc_M_node 96 = .ok (.iaload, 1) := by decide +kernel
theorem dc_M_node_97 : decode bc_M_node 97 = .ok (.ireturn, 1) := by decide +kernel
theorem dc_M_node_98 : decode bc_M_node 98 = .ok (.aload_n 0, 1) := by decide +kernel
theorem dc_M_node_99 : decode bc_M_node 99 = .ok (.getfield 46, 3) := by decide +kernel
theorem dc_M_node_102 : decode bc_M_node 102 = .ok (.iload_n 1, 1) := by decide +kernel
theorem dc_M_node_103 : decode bc_M_node 103 = .ok (.iaload, 1) := by decide +kernel
theorem dc_M_node_104 : decode bc_M_node 104 = .ok (.ireturn, 1) := by decide +kernel
theorem dc_M_node_105 : decode bc_M_node 105 = .ok (.aload_n 0, 1) := by decide +kernel
theorem dc_M_node_106 : decode bc_M_node 106 = .ok (.getfield 52, 3) := by decide +kernel
theorem dc_M_node_109 : decode bc_M_node 109 = .ok (.iload_n 1, 1) := by decide +kernel
theorem dc_M_node_110 : decode bc_M_node 110 = .ok (.iaload, 1) := by decide +kernel
theorem dc_M_node_111 : decode bc_M_node 111 = .ok (.ireturn, 1) := by decide +kernel
theorem dc_M_node_112 : decode bc_M_node 112 = .ok (.aload_n 0, 1) := by decide +kernel
theorem dc_M_node_113 : decode bc_M_node 113 = .ok (.getfield 55, 3) := by decide +kernel
theorem dc_M_node_116 : decode bc_M_node 116 = .ok (.iload_n 1, 1) := by decide +kernel
theorem dc_M_node_117 : decode bc_M_node 117 = .ok (.iaload, 1) := by decide +kernel
theorem dc_M_node_118 : decode bc_M_node 118 = .ok (.ireturn, 1) := by decide +kernel
theorem dc_M_node_119 : decode bc_M_node 119 = .ok (.aload_n 0, 1) := by decide +kernel
theorem dc_M_node_120 : decode bc_M_node 120 = .ok (.getfield 58, 3) := by decide +kernel
theorem dc_M_node_123 : decode bc_M_node 123 = .ok (.iload_n 1, 1) := by decide +kernel
theorem dc_M_node_124 : decode bc_M_node 124 = .ok (.iaload, 1) := by decide +kernel
theorem dc_M_node_125 : decode bc_M_node 125 = .ok (.ireturn, 1) := by decide +kernel
theorem dc_M_node_126 : decode bc_M_node 126 = .ok (.iconst (-1), 1) := by decide +kernel
theorem dc_M_node_127 : decode bc_M_node 127 = .ok (.ireturn, 1) := by decide +kernel
theorem dc_M_within_0 : decode bc_M_within 0 = .ok (.iconst 0, 1) := by decide +kernel
theorem dc_M_within_1 : decode bc_M_within 1 = .ok (.istore_n 3, 1) := by decide +kernel
theorem dc_M_within_2 : decode bc_M_within 2 = .ok (.iload_n 1, 1) := by decide +kernel
theorem dc_M_within_3 : decode bc_M_within 3 = .ok (.iconst 1, 1) := by decide +kernel
theorem dc_M_within_4 : decode bc_M_within 4 = .ok (.iadd, 1) := by decide +kernel
theorem dc_M_within_5 : decode bc_M_within 5 = .ok (.istore 4, 2) := by decide +kernel
theorem dc_M_within_7 : decode bc_M_within 7 = .ok (.iload 4, 2) := by decide +kernel
theorem dc_M_within_9 : decode bc_M_within 9 = .ok (.aload_n 0, 1) := by decide +kernel
theorem dc_M_within_10 : decode bc_M_within 10 = .ok (.getfield 207, 3) := by decide +kernel
theorem dc_M_within_13 : decode bc_M_within 13 = .ok (.if_icmp .ge 43, 3) := by decide +kernel
theorem dc_M_within_16 : decode bc_M_within 16 = .ok (.aload_n 0, 1) := by decide +kernel
theorem dc_M_within_17 : decode bc_M_within 17 = .ok (.getfield 46, 3) := by decide +kernel
theorem dc_M_within_20 : decode bc_M_within 20 = .ok (.iload 4, 2) := by decide +kernel
theorem dc_M_within_22 : decode bc_M_within 22 = .ok (.iaload, 1) := by decide +kernel
theorem dc_M_within_23 : decode bc_M_within 23 = .ok (.iload_n 1, 1) := by decide +kernel
theorem dc_M_within_24 : decode bc_M_within 24 = .ok (.if_icmp .lt 32, 3) := by decide +kernel
theorem dc_M_within_27 : decode bc_M_within 27 = .ok (.iload_n 3, 1) := by decide +kernel
theorem dc_M_within_28 : decode bc_M_within 28 = .ok (.iload_n 2, 1) := by decide +kernel
theorem dc_M_within_29 : decode bc_M_within 29 = .ok (.ifCond .eq 14, 3) := by decide +kernel
theorem dc_M_within_32 : decode bc_M_within 32 = .ok (.aload_n 0, 1) := by decide +kernel
theorem dc_M_within_33 : decode bc_M_within 33 = .ok (.getfield 46, 3) := by decide +kernel
theorem dc_M_within_36 : decode bc_M_within 36 = .ok (.iload 4, 2) := by decide +kernel
theorem dc_M_within_38 : decode bc_M_within 38 = .ok (.iaload, 1) := by decide +kernel
theorem dc_M_within_39 : decode bc_M_within 39 = .ok (.iload_n 1, 1) := by decide +kernel
theorem dc_M_within_40 : decode bc_M_within 40 = .ok (.if_icmp .ne 7, 3) := by decide +kernel
theorem dc_M_within_43 : decode bc_M_within 43 = .ok (.iconst 1, 1) := by decide +kernel
theorem dc_M_within_44 : decode bc_M_within 44 = .ok (.goto 4, 3) := by decide +kernel
theorem dc_M_within_47 : decode bc_M_within 47 = .ok (.iconst 0, 1) := by decide +kernel
theorem dc_M_within_48 : decode bc_M_within 48 = .ok (.iadd, 1) := by decide +kernel
theorem dc_M_within_49 : decode bc_M_within 49 = .ok (.istore_n 3, 1) := by decide +kernel
theorem dc_M_within_50 : decode bc_M_within 50 = .ok (.iinc 4 1, 3) := by decide +kernel
theorem dc_M_within_53 : decode bc_M_within 53 = .ok (.goto (-46), 3) := by decide +kernel
theorem dc_M_within_56 : decode bc_M_within 56 = .ok (.iload_n 3, 1) := by decide +kernel
theorem dc_M_within_57 : decode bc_M_within 57 = .ok (.ireturn, 1) := by decide +kernel
theorem dc_M_name_0 : decode bc_M_name 0 = .ok (.aload_n 0, 1) := by decide +kernel
theorem dc_M_name_1 : decode bc_M_name 1 = .ok (.iconst 0, 1) := by decide +kernel
theorem dc_M_name_2 : decode bc_M_name 2 = .ok (.putfield 77, 3) := by decide +kernel
theorem dc_M_name_5 : decode bc_M_name 5 = .ok (.iload_n 1, 1) := by decide +kernel
theorem dc_M_name_6 : decode bc_M_name 6 = .ok (.ifCond .lt 20, 3) := by decide +kernel
theorem dc_M_name_9 : decode bc_M_name 9 = .ok (.iload_n 1, 1) := by decide +kernel
theorem dc_M_name_10 : decode bc_M_name 10 = .ok (.aload_n 0, 1) := by decide +kernel
theorem dc_M_name_11 : decode bc_M_name 11 = .ok (.getfield 207, 3) := by decide +kernel
theorem dc_M_name_14 : decode bc_M_name 14 = .ok (.if_icmp .ge 12, 3) := by decide +kernel
theorem dc_M_name_17 : decode bc_M_name 17 = .ok (.iload_n 2, 1) := by decide +kernel
theorem dc_M_name_18 : decode bc_M_name 18 = .ok (.ifCond .lt 8, 3) := by decide +kernel
theorem dc_M_name_21 : decode bc_M_name 21 = .ok (.iload_n 2, 1) := by decide +kernel
theorem dc_M_name_22 : decode bc_M_name 22 = .ok (.iconst 1, 1) := by decide +kernel
theorem dc_M_name_23 : decode bc_M_name 23 = .ok (.if_icmp .le 7, 3) := by decide +kernel
theorem dc_M_name_26 : decode bc_M_name 26 = .ok (.lconst 0, 1) := by decide +kernel
theorem dc_M_name_27 : decode bc_M_name 27 = .ok (.goto 22, 3) := by decide +kernel
theorem dc_M_name_30 : decode bc_M_name 30 = .ok (.iload_n 2, 1) := by decide +kernel
theorem dc_M_name_31 : decode bc_M_name 31 = .ok (.ifCond .ne 12, 3) := by decide +kernel
theorem dc_M_name_34 : decode bc_M_name 34 = .ok (.aload_n 0, 1) := by decide +kernel
theorem dc_M_name_35 : decode bc_M_name 35 = .ok (.getfield 64, 3) := by decide +kernel
theorem dc_M_name_38 : decode bc_M_name 38 = .ok (.iload_n 1, 1) := by decide +kernel
theorem dc_M_name_39 : decode bc_M_name 39 = .ok (.laload, 1) := by decide +kernel
theorem dc_M_name_40 : decode bc_M_name 40 = .ok (.goto 9, 3) := by decide +kernel
theorem dc_M_name_43 : decode bc_M_name 43 = .ok (.aload_n 0, 1) := by decide +kernel
theorem dc_M_name_44 : decode bc_M_name 44 = .ok (.getfield 67, 3) := by decide +kernel
theorem dc_M_name_47 : decode bc_M_name 47 = .ok (.iload_n 1, 1) := by decide +kernel
theorem dc_M_name_48 : decode bc_M_name 48 = .ok (.laload, 1) := by decide +kernel
theorem dc_M_name_49 : decode bc_M_name 49 = .ok (.lreturn, 1) := by decide +kernel
theorem dc_M_number_0 : decode bc_M_number 0 = .ok (.aload_n 0, 1) := by decide +kernel
theorem dc_M_number_1 : decode bc_M_number 1 = .ok (.iconst 0, 1) := by decide +kernel
theorem dc_M_number_2 : decode bc_M_number 2 = .ok (.putfield 77, 3) := by decide +kernel
theorem dc_M_number_5 : decode bc_M_number 5 = .ok (.iload_n 1, 1) := by decide +kernel
theorem dc_M_number_6 : decode bc_M_number 6 = .ok (.ifCond .lt 11, 3) := by decide +kernel
theorem dc_M_number_9 : decode bc_M_number 9 = .ok (.iload_n 1, 1) := by decide +kernel
theorem dc_M_number_10 : decode bc_M_number 10 = .ok (.aload_n 0, 1) := by decide +kernel
theorem dc_M_number_11 : decode bc_M_number 11 = .ok (.getfield 207, 3) := by decide +kernel
theorem dc_M_number_14 : decode bc_M_number 14 = .ok (.if_icmp .lt 7, 3) := by decide +kernel
theorem dc_M_number_17 : decode bc_M_number 17 = .ok (.iconst 0, 1) := by decide +kernel
theorem dc_M_number_18 : decode bc_M_number 18 = .ok (.goto 9, 3) := by decide +kernel
theorem dc_M_number_21 : decode bc_M_number 21 = .ok (.aload_n 0, 1) := by decide +kernel
theorem dc_M_number_22 : decode bc_M_number 22 = .ok (.getfield 61, 3) := by decide +kernel
theorem dc_M_number_25 : decode bc_M_number 25 = .ok (.iload_n 1, 1) := by decide +kernel
theorem dc_M_number_26 : decode bc_M_number 26 = .ok (.iaload, 1) := by decide +kernel
theorem dc_M_number_27 : decode bc_M_number 27 = .ok (.ireturn, 1) := by decide +kernel
theorem dc_M_look_0 : decode bc_M_look 0 = .ok (.aload_n 0, 1) := by decide +kernel
theorem dc_M_look_1 : decode bc_M_look 1 = .ok (.iconst 0, 1) := by decide +kernel
theorem dc_M_look_2 : decode bc_M_look 2 = .ok (.putfield 77, 3) := by decide +kernel
theorem dc_M_look_5 : decode bc_M_look 5 = .ok (.iload_n 1, 1) := by decide +kernel
theorem dc_M_look_6 : decode bc_M_look 6 = .ok (.ifCond .ne 10, 3) := by decide +kernel
theorem dc_M_look_9 : decode bc_M_look 9 = .ok (.aload_n 0, 1) := by decide +kernel
theorem dc_M_look_10 : decode bc_M_look 10 = .ok (.getfield 80, 3) := by decide +kernel
theorem dc_M_look_13 : decode bc_M_look 13 = .ok (.goto 52, 3) := by decide +kernel
theorem dc_M_look_16 : decode bc_M_look 16 = .ok (.iload_n 1, 1) := by decide +kernel
theorem dc_M_look_17 : decode bc_M_look 17 = .ok (.iconst 1, 1) := by decide +kernel
theorem dc_M_look_18 : decode bc_M_look 18 = .ok (.if_icmp .ne 10, 3) := by decide +kernel
theorem dc_M_look_21 : decode bc_M_look 21 = .ok (.aload_n 0, 1) := by decide +kernel
theorem dc_M_look_22 : decode bc_M_look 22 = .ok (.getfield 83, 3) := by decide +kernel
theorem dc_M_look_25 : decode bc_M_look 25 = .ok (.goto 40, 3) := by decide +kernel
theorem dc_M_look_28 : decode bc_M_look 28 = .ok (.iload_n 1, 1) := by decide +kernel
theorem dc_M_look_29 : decode bc_M_look 29 = .ok (.iconst 2, 1) := by decide +kernel
theorem dc_M_look_30 : decode bc_M_look 30 = .ok (.if_icmp .ne 10, 3) := by decide +kernel
theorem dc_M_look_33 : decode bc_M_look 33 = .ok (.aload_n 0, 1) := by decide +kernel
theorem dc_M_look_34 : decode bc_M_look 34 = .ok (.getfield 13, 3) := by decide +kernel
theorem dc_M_look_37 : decode bc_M_look 37 = .ok (.goto 28, 3) := by decide +kernel
theorem dc_M_look_40 : decode bc_M_look 40 = .ok (.iload_n 1, 1) := by decide +kernel
theorem dc_M_look_41 : decode bc_M_look 41 = .ok (.iconst 3, 1) := by decide +kernel
theorem dc_M_look_42 : decode bc_M_look 42 = .ok (.if_icmp .ne 10, 3) := by decide +kernel
theorem dc_M_look_45 : decode bc_M_look 45 = .ok (.aload_n 0, 1) := by decide +kernel
theorem dc_M_look_46 : decode bc_M_look 46 = .ok (.getfield 251, 3) := by decide +kernel
theorem dc_M_look_49 : decode bc_M_look 49 = .ok (.goto 16, 3) := by decide +kernel
theorem dc_M_look_52 : decode bc_M_look 52 = .ok (.iload_n 1, 1) := by decide +kernel
theorem dc_M_look_53 : decode bc_M_look 53 = .ok (.iconst 4, 1) := by decide +kernel
theorem dc_M_look_54 : decode bc_M_look 54 = .ok (.if_icmp .ne 10, 3) := by decide +kernel
theorem dc_M_look_57 : decode bc_M_look 57 = .ok (.aload_n 0, 1) := by decide +kernel
theorem dc_M_look_58 : decode bc_M_look 58 = .ok (.getfield 207, 3) := by decide +kernel
theorem dc_M_look_61 : decode bc_M_look 61 = .ok (.goto 4, 3) := by decide +kernel
theorem dc_M_look_64 : decode bc_M_look 64 = .ok (.iconst (-1), 1) := by decide +kernel
theorem dc_M_look_65 : decode bc_M_look 65 = .ok (.ireturn, 1) := by decide +kernel
theorem dc_L_law_0 : decode code 0 = .ok (.new 7, 3) := by decide +kernel
theorem dc_L_law_3 : decode code 3 = .ok (.dup, 1) := by decide +kernel
theorem dc_L_law_4 : decode code 4 = .ok (.invokespecial 9, 3) := by decide +kernel
theorem dc_L_law_7 : decode code 7 = .ok (.astore_n 1, 1) := by decide +kernel
theorem dc_L_law_8 : decode code 8 = .ok (.new 10, 3) := by decide +kernel
theorem dc_L_law_11 : decode code 11 = .ok (.dup, 1) := by decide +kernel
theorem dc_L_law_12 : decode code 12 = .ok (.invokespecial 12, 3) := by decide +kernel
theorem dc_L_law_15 : decode code 15 = .ok (.astore_n 2, 1) := by decide +kernel
theorem dc_L_law_16 : decode code 16 = .ok (.iconst 0, 1) := by decide +kernel
theorem dc_L_law_17 : decode code 17 = .ok (.istore_n 3, 1) := by decide +kernel
theorem dc_L_law_18 : decode code 18 = .ok (.iload_n 3, 1) := by decide +kernel
theorem dc_L_law_19 : decode code 19 = .ok (.aload_n 0, 1) := by decide +kernel
theorem dc_L_law_20 : decode code 20 = .ok (.arraylength, 1) := by decide +kernel
theorem dc_L_law_21 : decode code 21 = .ok (.iconst 4, 1) := by decide +kernel
theorem dc_L_law_22 : decode code 22 = .ok (.isub, 1) := by decide +kernel
theorem dc_L_law_23 : decode code 23 = .ok (.if_icmp .gt 371, 3) := by decide +kernel
theorem dc_L_law_26 : decode code 26 = .ok (.aload_n 0, 1) := by decide +kernel
theorem dc_L_law_27 : decode code 27 = .ok (.iload_n 3, 1) := by decide +kernel
theorem dc_L_law_28 : decode code 28 = .ok (.iaload, 1) := by decide +kernel
theorem dc_L_law_29 : decode code 29 = .ok (.bipush 15, 2) := by decide +kernel
theorem dc_L_law_31 : decode code 31 = .ok (.iand, 1) := by decide +kernel
theorem dc_L_law_32 : decode code 32 = .ok (.tableswitch 356 0 9 #[56, 119, 130, 143, 176, 210, 243, 276, 310, 333], 56) := by decide +kernel
theorem dc_L_law_88 : decode code 88 = .ok (.aload_n 1, 1) := by decide +kernel
theorem dc_L_law_89 : decode code 89 = .ok (.aload_n 0, 1) := by decide +kernel
theorem dc_L_law_90 : decode code 90 = .ok (.iload_n 3, 1) := by decide +kernel
theorem dc_L_law_91 : decode code 91 = .ok (.iconst 1, 1) := by decide +kernel
theorem dc_L_law_92 : decode code 92 = .ok (.iadd, 1) := by decide +kernel
theorem dc_L_law_93 : decode code 93 = .ok (.iaload, 1) := by decide +kernel
theorem dc_L_law_94 : decode code 94 = .ok (.i2l, 1) := by decide +kernel
theorem dc_L_law_95 : decode code 95 = .ok (.bipush 32, 2) := by decide +kernel
theorem dc_L_law_97 : decode code 97 = .ok (.lshl, 1) := by decide +kernel
theorem dc_L_law_98 : decode code 98 = .ok (.aload_n 0, 1) := by decide +kernel
theorem dc_L_law_99 : decode code 99 = .ok (.iload_n 3, 1) := by decide +kernel
theorem dc_L_law_100 : decode code 100 = .ok (.iconst 2, 1) := by decide +kernel
theorem dc_L_law_101 : decode code 101 = .ok (.iadd, 1) := by decide +kernel
theorem dc_L_law_102 : decode code 102 = .ok (.iaload, 1) := by decide +kernel
theorem dc_L_law_103 : decode code 103 = .ok (.i2l, 1) := by decide +kernel
theorem dc_L_law_104 : decode code 104 = .ok (.ldc2_w 13, 3) := by decide +kernel
theorem dc_L_law_107 : decode code 107 = .ok (.land, 1) := by decide +kernel
theorem dc_L_law_108 : decode code 108 = .ok (.lor, 1) := by decide +kernel
theorem dc_L_law_109 : decode code 109 = .ok (.aload_n 0, 1) := by decide +kernel
theorem dc_L_law_110 : decode code 110 = .ok (.iload_n 3, 1) := by decide +kernel
theorem dc_L_law_111 : decode code 111 = .ok (.iconst 3, 1) := by decide +kernel
theorem dc_L_law_112 : decode code 112 = .ok (.iadd, 1) := by decide +kernel
theorem dc_L_law_113 : decode code 113 = .ok (.iaload, 1) := by decide +kernel
theorem dc_L_law_114 : decode code 114 = .ok (.invokevirtual 15, 3) := by decide +kernel
theorem dc_L_law_117 : decode code 117 = .ok (.aload_n 2, 1) := by decide +kernel
theorem dc_L_law_118 : decode code 118 = .ok (.aload_n 0, 1) := by decide +kernel
theorem dc_L_law_119 : decode code 119 = .ok (.iload_n 3, 1) := by decide +kernel
theorem dc_L_law_120 : decode code 120 = .ok (.iconst 1, 1) := by decide +kernel
theorem dc_L_law_121 : decode code 121 = .ok (.iadd, 1) := by decide +kernel
theorem dc_L_law_122 : decode code 122 = .ok (.iaload, 1) := by decide +kernel
theorem dc_L_law_123 : decode code 123 = .ok (.i2l, 1) := by decide +kernel
theorem dc_L_law_124 : decode code 124 = .ok (.bipush 32, 2) := by decide +kernel
theorem dc_L_law_126 : decode code 126 = .ok (.lshl, 1) := by decide +kernel
theorem dc_L_law_127 : decode code 127 = .ok (.aload_n 0, 1) := by decide +kernel
theorem dc_L_law_128 : decode code 128 = .ok (.iload_n 3, 1) := by decide +kernel
theorem dc_L_law_129 : decode code 129 = .ok (.iconst 2, 1) := by decide +kernel
theorem dc_L_law_130 : decode code 130 = .ok (.iadd, 1) := by decide +kernel
theorem dc_L_law_131 : decode code 131 = .ok (.iaload, 1) := by decide +kernel
theorem dc_L_law_132 : decode code 132 = .ok (.i2l, 1) := by decide +kernel
theorem dc_L_law_133 : decode code 133 = .ok (.ldc2_w 13, 3) := by decide +kernel
theorem dc_L_law_136 : decode code 136 = .ok (.land, 1) := by decide +kernel
theorem dc_L_law_137 : decode code 137 = .ok (.lor, 1) := by decide +kernel
theorem dc_L_law_138 : decode code 138 = .ok (.aload_n 0, 1) := by decide +kernel
theorem dc_L_law_139 : decode code 139 = .ok (.iload_n 3, 1) := by decide +kernel
theorem dc_L_law_140 : decode code 140 = .ok (.iconst 3, 1) := by decide +kernel
theorem dc_L_law_141 : decode code 141 = .ok (.iadd, 1) := by decide +kernel
theorem dc_L_law_142 : decode code 142 = .ok (.iaload, 1) := by decide +kernel
theorem dc_L_law_143 : decode code 143 = .ok (.invokevirtual 19, 3) := by decide +kernel
theorem dc_L_law_146 : decode code 146 = .ok (.if_icmp .eq 242, 3) := by decide +kernel
theorem dc_L_law_149 : decode code 149 = .ok (.iconst 0, 1) := by decide +kernel
theorem dc_L_law_150 : decode code 150 = .ok (.ireturn, 1) := by decide +kernel
theorem dc_L_law_151 : decode code 151 = .ok (.aload_n 1, 1) := by decide +kernel
theorem dc_L_law_152 : decode code 152 = .ok (.invokevirtual 20, 3) := by decide +kernel
theorem dc_L_law_155 : decode code 155 = .ok (.aload_n 2, 1) := by decide +kernel
theorem dc_L_law_156 : decode code 156 = .ok (.invokevirtual 23, 3) := by decide +kernel
theorem dc_L_law_159 : decode code 159 = .ok (.goto 229, 3) := by decide +kernel
theorem dc_L_law_162 : decode code 162 = .ok (.aload_n 1, 1) := by decide +kernel
theorem dc_L_law_163 : decode code 163 = .ok (.invokevirtual 24, 3) := by decide +kernel
theorem dc_L_law_166 : decode code 166 = .ok (.aload_n 2, 1) := by decide +kernel
theorem dc_L_law_167 : decode code 167 = .ok (.invokevirtual 28, 3) := by decide +kernel
theorem dc_L_law_170 : decode code 170 = .ok (.if_icmp .eq 218, 3) := by decide +kernel
theorem dc_L_law_173 : decode code 173 = .ok (.iconst 0, 1) := by decide +kernel
theorem dc_L_law_174 : decode code 174 = .ok (.ireturn, 1) := by decide +kernel
theorem dc_L_law_175 : decode code 175 = .ok (.aload_n 1, 1) := by decide +kernel
theorem dc_L_law_176 : decode code 176 = .ok (.aload_n 0, 1) := by decide +kernel
theorem dc_L_law_177 : decode code 177 = .ok (.iload_n 3, 1) := by decide +kernel
theorem dc_L_law_178 : decode code 178 = .ok (.iconst 1, 1) := by decide +kernel
theorem dc_L_law_179 : decode code 179 = .ok (.iadd, 1) := by decide +kernel
theorem dc_L_law_180 : decode code 180 = .ok (.iaload, 1) := by decide +kernel
theorem dc_L_law_181 : decode code 181 = .ok (.aload_n 0, 1) := by decide +kernel
theorem dc_L_law_182 : decode code 182 = .ok (.iload_n 3, 1) := by decide +kernel
theorem dc_L_law_183 : decode code 183 = .ok (.iconst 2, 1) := by decide +kernel
theorem dc_L_law_184 : decode code 184 = .ok (.iadd, 1) := by decide +kernel
theorem dc_L_law_185 : decode code 185 = .ok (.iaload, 1) := by decide +kernel
theorem dc_L_law_186 : decode code 186 = .ok (.invokevirtual 29, 3) := by decide +kernel
theorem dc_L_law_189 : decode code 189 = .ok (.aload_n 2, 1) := by decide +kernel
theorem dc_L_law_190 : decode code 190 = .ok (.aload_n 0, 1) := by decide +kernel
theorem dc_L_law_191 : decode code 191 = .ok (.iload_n 3, 1) := by decide +kernel
theorem dc_L_law_192 : decode code 192 = .ok (.iconst 1, 1) := by decide +kernel
theorem dc_L_law_193 : decode code 193 = .ok (.iadd, 1) := by decide +kernel
theorem dc_L_law_194 : decode code 194 = .ok (.iaload, 1) := by decide +kernel
theorem dc_L_law_195 : decode code 195 = .ok (.aload_n 0, 1) := by decide +kernel
theorem dc_L_law_196 : decode code 196 = .ok (.iload_n 3, 1) := by decide +kernel
theorem dc_L_law_197 : decode code 197 = .ok (.iconst 2, 1) := by decide +kernel
theorem dc_L_law_198 : decode code 198 = .ok (.iadd, 1) := by decide +kernel
theorem dc_L_law_199 : decode code 199 = .ok (.iaload, 1) := by decide +kernel
theorem dc_L_law_200 : decode code 200 = .ok (.invokevirtual 33, 3) := by decide +kernel
theorem dc_L_law_203 : decode code 203 = .ok (.if_icmp .eq 185, 3) := by decide +kernel
theorem dc_L_law_206 : decode code 206 = .ok (.iconst 0, 1) := by decide +kernel
theorem dc_L_law_207 : decode code 207 = .ok (.ireturn, 1) := by decide +kernel
theorem dc_L_law_208 : decode code 208 = .ok (.aload_n 1, 1) := by decide +kernel
theorem dc_L_law_209 : decode code 209 = .ok (.aload_n 0, 1) := by decide +kernel
theorem dc_L_law_210 : decode code 210 = .ok (.iload_n 3, 1) := by decide +kernel
theorem dc_L_law_211 : decode code 211 = .ok (.iconst 1, 1) := by decide +kernel
theorem dc_L_law_212 : decode code 212 = .ok (.iadd, 1) := by decide +kernel
theorem dc_L_law_213 : decode code 213 = .ok (.iaload, 1) := by decide +kernel
theorem dc_L_law_214 : decode code 214 = .ok (.aload_n 0, 1) := by decide +kernel
theorem dc_L_law_215 : decode code 215 = .ok (.iload_n 3, 1) := by decide +kernel
theorem dc_L_law_216 : decode code 216 = .ok (.iconst 2, 1) := by decide +kernel
theorem dc_L_law_217 : decode code 217 = .ok (.iadd, 1) := by decide +kernel
theorem dc_L_law_218 : decode code 218 = .ok (.iaload, 1) := by decide +kernel
theorem dc_L_law_219 : decode code 219 = .ok (.invokevirtual 34, 3) := by decide +kernel
theorem dc_L_law_222 : decode code 222 = .ok (.aload_n 2, 1) := by decide +kernel
theorem dc_L_law_223 : decode code 223 = .ok (.aload_n 0, 1) := by decide +kernel
theorem dc_L_law_224 : decode code 224 = .ok (.iload_n 3, 1) := by decide +kernel
theorem dc_L_law_225 : decode code 225 = .ok (.iconst 1, 1) := by decide +kernel
theorem dc_L_law_226 : decode code 226 = .ok (.iadd, 1) := by decide +kernel
theorem dc_L_law_227 : decode code 227 = .ok (.iaload, 1) := by decide +kernel
theorem dc_L_law_228 : decode code 228 = .ok (.aload_n 0, 1) := by decide +kernel
theorem dc_L_law_229 : decode code 229 = .ok (.iload_n 3, 1) := by decide +kernel
theorem dc_L_law_230 : decode code 230 = .ok (.iconst 2, 1) := by decide +kernel
theorem dc_L_law_231 : decode code 231 = .ok (.iadd, 1) := by decide +kernel
theorem dc_L_law_232 : decode code 232 = .ok (.iaload, 1) := by decide +kernel
theorem dc_L_law_233 : decode code 233 = .ok (.invokevirtual 38, 3) := by decide +kernel
theorem dc_L_law_236 : decode code 236 = .ok (.lcmp, 1) := by decide +kernel
theorem dc_L_law_237 : decode code 237 = .ok (.ifCond .eq 151, 3) := by decide +kernel
theorem dc_L_law_240 : decode code 240 = .ok (.iconst 0, 1) := by decide +kernel
theorem dc_L_law_241 : decode code 241 = .ok (.ireturn, 1) := by decide +kernel
theorem dc_L_law_242 : decode code 242 = .ok (.aload_n 1, 1) := by decide +kernel
theorem dc_L_law_243 : decode code 243 = .ok (.aload_n 0, 1) := by decide +kernel
theorem dc_L_law_244 : decode code 244 = .ok (.iload_n 3, 1) := by decide +kernel
theorem dc_L_law_245 : decode code 245 = .ok (.iconst 1, 1) := by decide +kernel
theorem dc_L_law_246 : decode code 246 = .ok (.iadd, 1) := by decide +kernel
theorem dc_L_law_247 : decode code 247 = .ok (.iaload, 1) := by decide +kernel
theorem dc_L_law_248 : decode code 248 = .ok (.aload_n 0, 1) := by decide +kernel
theorem dc_L_law_249 : decode code 249 = .ok (.iload_n 3, 1) := by decide +kernel
theorem dc_L_law_250 : decode code 250 = .ok (.iconst 2, 1) := by decide +kernel
theorem dc_L_law_251 : decode code 251 = .ok (.iadd, 1) := by decide +kernel
theorem dc_L_law_252 : decode code 252 = .ok (.iaload, 1) := by decide +kernel
theorem dc_L_law_253 : decode code 253 = .ok (.invokevirtual 39, 3) := by decide +kernel
theorem dc_L_law_256 : decode code 256 = .ok (.aload_n 2, 1) := by decide +kernel
theorem dc_L_law_257 : decode code 257 = .ok (.aload_n 0, 1) := by decide +kernel
theorem dc_L_law_258 : decode code 258 = .ok (.iload_n 3, 1) := by decide +kernel
theorem dc_L_law_259 : decode code 259 = .ok (.iconst 1, 1) := by decide +kernel
theorem dc_L_law_260 : decode code 260 = .ok (.iadd, 1) := by decide +kernel
theorem dc_L_law_261 : decode code 261 = .ok (.iaload, 1) := by decide +kernel
theorem dc_L_law_262 : decode code 262 = .ok (.aload_n 0, 1) := by decide +kernel
theorem dc_L_law_263 : decode code 263 = .ok (.iload_n 3, 1) := by decide +kernel
theorem dc_L_law_264 : decode code 264 = .ok (.iconst 2, 1) := by decide +kernel
theorem dc_L_law_265 : decode code 265 = .ok (.iadd, 1) := by decide +kernel
theorem dc_L_law_266 : decode code 266 = .ok (.iaload, 1) := by decide +kernel
theorem dc_L_law_267 : decode code 267 = .ok (.invokevirtual 42, 3) := by decide +kernel
theorem dc_L_law_270 : decode code 270 = .ok (.if_icmp .eq 118, 3) := by decide +kernel
theorem dc_L_law_273 : decode code 273 = .ok (.iconst 0, 1) := by decide +kernel
theorem dc_L_law_274 : decode code 274 = .ok (.ireturn, 1) := by decide +kernel
theorem dc_L_law_275 : decode code 275 = .ok (.aload_n 1, 1) := by decide +kernel
theorem dc_L_law_276 : decode code 276 = .ok (.aload_n 0, 1) := by decide +kernel
theorem dc_L_law_277 : decode code 277 = .ok (.iload_n 3, 1) := by decide +kernel
theorem dc_L_law_278 : decode code 278 = .ok (.iconst 1, 1) := by decide +kernel
theorem dc_L_law_279 : decode code 279 = .ok (.iadd, 1) := by decide +kernel
theorem dc_L_law_280 : decode code 280 = .ok (.iaload, 1) := by decide +kernel
theorem dc_L_law_281 : decode code 281 = .ok (.aload_n 0, 1) := by decide +kernel
theorem dc_L_law_282 : decode code 282 = .ok (.iload_n 3, 1) := by decide +kernel
theorem dc_L_law_283 : decode code 283 = .ok (.iconst 2, 1) := by decide +kernel
theorem dc_L_law_284 : decode code 284 = .ok (.iadd, 1) := by decide +kernel
theorem dc_L_law_285 : decode code 285 = .ok (.iaload, 1) := by decide +kernel
theorem dc_L_law_286 : decode code 286 = .ok (.invokevirtual 43, 3) := by decide +kernel
theorem dc_L_law_289 : decode code 289 = .ok (.aload_n 2, 1) := by decide +kernel
theorem dc_L_law_290 : decode code 290 = .ok (.aload_n 0, 1) := by decide +kernel
theorem dc_L_law_291 : decode code 291 = .ok (.iload_n 3, 1) := by decide +kernel
theorem dc_L_law_292 : decode code 292 = .ok (.iconst 1, 1) := by decide +kernel
theorem dc_L_law_293 : decode code 293 = .ok (.iadd, 1) := by decide +kernel
theorem dc_L_law_294 : decode code 294 = .ok (.iaload, 1) := by decide +kernel
theorem dc_L_law_295 : decode code 295 = .ok (.aload_n 0, 1) := by decide +kernel
theorem dc_L_law_296 : decode code 296 = .ok (.iload_n 3, 1) := by decide +kernel
theorem dc_L_law_297 : decode code 297 = .ok (.iconst 2, 1) := by decide +kernel
theorem dc_L_law_298 : decode code 298 = .ok (.iadd, 1) := by decide +kernel
theorem dc_L_law_299 : decode code 299 = .ok (.iaload, 1) := by decide +kernel
theorem dc_L_law_300 : decode code 300 = .ok (.invokevirtual 46, 3) := by decide +kernel
theorem dc_L_law_303 : decode code 303 = .ok (.if_icmp .eq 85, 3) := by decide +kernel
theorem dc_L_law_306 : decode code 306 = .ok (.iconst 0, 1) := by decide +kernel
theorem dc_L_law_307 : decode code 307 = .ok (.ireturn, 1) := by decide +kernel
theorem dc_L_law_308 : decode code 308 = .ok (.aload_n 1, 1) := by decide +kernel
theorem dc_L_law_309 : decode code 309 = .ok (.aload_n 0, 1) := by decide +kernel
theorem dc_L_law_310 : decode code 310 = .ok (.iload_n 3, 1) := by decide +kernel
theorem dc_L_law_311 : decode code 311 = .ok (.iconst 1, 1) := by decide +kernel
theorem dc_L_law_312 : decode code 312 = .ok (.iadd, 1) := by decide +kernel
theorem dc_L_law_313 : decode code 313 = .ok (.iaload, 1) := by decide +kernel
theorem dc_L_law_314 : decode code 314 = .ok (.aload_n 0, 1) := by decide +kernel
theorem dc_L_law_315 : decode code 315 = .ok (.iload_n 3, 1) := by decide +kernel
theorem dc_L_law_316 : decode code 316 = .ok (.iconst 2, 1) := by decide +kernel
theorem dc_L_law_317 : decode code 317 = .ok (.iadd, 1) := by decide +kernel
theorem dc_L_law_318 : decode code 318 = .ok (.iaload, 1) := by decide +kernel
theorem dc_L_law_319 : decode code 319 = .ok (.invokevirtual 47, 3) := by decide +kernel
theorem dc_L_law_322 : decode code 322 = .ok (.aload_n 2, 1) := by decide +kernel
theorem dc_L_law_323 : decode code 323 = .ok (.aload_n 0, 1) := by decide +kernel
theorem dc_L_law_324 : decode code 324 = .ok (.iload_n 3, 1) := by decide +kernel
theorem dc_L_law_325 : decode code 325 = .ok (.iconst 1, 1) := by decide +kernel
theorem dc_L_law_326 : decode code 326 = .ok (.iadd, 1) := by decide +kernel
theorem dc_L_law_327 : decode code 327 = .ok (.iaload, 1) := by decide +kernel
theorem dc_L_law_328 : decode code 328 = .ok (.aload_n 0, 1) := by decide +kernel
theorem dc_L_law_329 : decode code 329 = .ok (.iload_n 3, 1) := by decide +kernel
theorem dc_L_law_330 : decode code 330 = .ok (.iconst 2, 1) := by decide +kernel
theorem dc_L_law_331 : decode code 331 = .ok (.iadd, 1) := by decide +kernel
theorem dc_L_law_332 : decode code 332 = .ok (.iaload, 1) := by decide +kernel
theorem dc_L_law_333 : decode code 333 = .ok (.invokevirtual 50, 3) := by decide +kernel
theorem dc_L_law_336 : decode code 336 = .ok (.lcmp, 1) := by decide +kernel
theorem dc_L_law_337 : decode code 337 = .ok (.ifCond .eq 51, 3) := by decide +kernel
theorem dc_L_law_340 : decode code 340 = .ok (.iconst 0, 1) := by decide +kernel
theorem dc_L_law_341 : decode code 341 = .ok (.ireturn, 1) := by decide +kernel
theorem dc_L_law_342 : decode code 342 = .ok (.aload_n 1, 1) := by decide +kernel
theorem dc_L_law_343 : decode code 343 = .ok (.aload_n 0, 1) := by decide +kernel
theorem dc_L_law_344 : decode code 344 = .ok (.iload_n 3, 1) := by decide +kernel
theorem dc_L_law_345 : decode code 345 = .ok (.iconst 1, 1) := by decide +kernel
theorem dc_L_law_346 : decode code 346 = .ok (.iadd, 1) := by decide +kernel
theorem dc_L_law_347 : decode code 347 = .ok (.iaload, 1) := by decide +kernel
theorem dc_L_law_348 : decode code 348 = .ok (.invokevirtual 51, 3) := by decide +kernel
theorem dc_L_law_351 : decode code 351 = .ok (.aload_n 2, 1) := by decide +kernel
theorem dc_L_law_352 : decode code 352 = .ok (.aload_n 0, 1) := by decide +kernel
theorem dc_L_law_353 : decode code 353 = .ok (.iload_n 3, 1) := by decide +kernel
theorem dc_L_law_354 : decode code 354 = .ok (.iconst 1, 1) := by decide +kernel
theorem dc_L_law_355 : decode code 355 = .ok (.iadd, 1) := by decide +kernel
theorem dc_L_law_356 : decode code 356 = .ok (.iaload, 1) := by decide +kernel
theorem dc_L_law_357 : decode code 357 = .ok (.invokevirtual 55, 3) := by decide +kernel
theorem dc_L_law_360 : decode code 360 = .ok (.if_icmp .eq 28, 3) := by decide +kernel
theorem dc_L_law_363 : decode code 363 = .ok (.iconst 0, 1) := by decide +kernel
theorem dc_L_law_364 : decode code 364 = .ok (.ireturn, 1) := by decide +kernel
theorem dc_L_law_365 : decode code 365 = .ok (.aload_n 1, 1) := by decide +kernel
theorem dc_L_law_366 : decode code 366 = .ok (.aload_n 0, 1) := by decide +kernel
theorem dc_L_law_367 : decode code 367 = .ok (.iload_n 3, 1) := by decide +kernel
theorem dc_L_law_368 : decode code 368 = .ok (.iconst 1, 1) := by decide +kernel
theorem dc_L_law_369 : decode code 369 = .ok (.iadd, 1) := by decide +kernel
theorem dc_L_law_370 : decode code 370 = .ok (.iaload, 1) := by decide +kernel
theorem dc_L_law_371 : decode code 371 = .ok (.invokevirtual 56, 3) := by decide +kernel
theorem dc_L_law_374 : decode code 374 = .ok (.aload_n 2, 1) := by decide +kernel
theorem dc_L_law_375 : decode code 375 = .ok (.aload_n 0, 1) := by decide +kernel
theorem dc_L_law_376 : decode code 376 = .ok (.iload_n 3, 1) := by decide +kernel
theorem dc_L_law_377 : decode code 377 = .ok (.iconst 1, 1) := by decide +kernel
theorem dc_L_law_378 : decode code 378 = .ok (.iadd, 1) := by decide +kernel
theorem dc_L_law_379 : decode code 379 = .ok (.iaload, 1) := by decide +kernel
theorem dc_L_law_380 : decode code 380 = .ok (.invokevirtual 59, 3) := by decide +kernel
theorem dc_L_law_383 : decode code 383 = .ok (.if_icmp .eq 5, 3) := by decide +kernel
theorem dc_L_law_386 : decode code 386 = .ok (.iconst 0, 1) := by decide +kernel
theorem dc_L_law_387 : decode code 387 = .ok (.ireturn, 1) := by decide +kernel
theorem dc_L_law_388 : decode code 388 = .ok (.iinc 3 4, 3) := by decide +kernel
theorem dc_L_law_391 : decode code 391 = .ok (.goto (-373), 3) := by decide +kernel
theorem dc_L_law_394 : decode code 394 = .ok (.iconst 1, 1) := by decide +kernel
theorem dc_L_law_395 : decode code 395 = .ok (.ireturn, 1) := by decide +kernel
