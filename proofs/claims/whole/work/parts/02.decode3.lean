theorem dc_M_next_52 : decode bc_M_next 52 = .ok (.aload_n 0, 1) := by decide +kernel
theorem dc_M_next_53 : decode bc_M_next 53 = .ok (.aload_n 0, 1) := by decide +kernel
theorem dc_M_next_54 : decode bc_M_next 54 = .ok (.getfield 93, 3) := by decide +kernel
theorem dc_M_next_57 : decode bc_M_next 57 = .ok (.putfield 96, 3) := by decide +kernel
theorem dc_M_next_60 : decode bc_M_next 60 = .ok (.aload_n 0, 1) := by decide +kernel
theorem dc_M_next_61 : decode bc_M_next 61 = .ok (.getfield 93, 3) := by decide +kernel
theorem dc_M_next_64 : decode bc_M_next 64 = .ok (.aload_n 0, 1) := by decide +kernel
theorem dc_M_next_65 : decode bc_M_next 65 = .ok (.getfield 80, 3) := by decide +kernel
theorem dc_M_next_68 : decode bc_M_next 68 = .ok (.if_icmp .ne 9, 3) := by decide +kernel
theorem dc_M_next_71 : decode bc_M_next 71 = .ok (.aload_n 0, 1) := by decide +kernel
theorem dc_M_next_72 : decode bc_M_next 72 = .ok (.iconst 4, 1) := by decide +kernel
theorem dc_M_next_73 : decode bc_M_next 73 = .ok (.putfield 99, 3) := by decide +kernel
theorem dc_M_next_76 : decode bc_M_next 76 = .ok (.return_, 1) := by decide +kernel
theorem dc_M_next_77 : decode bc_M_next 77 = .ok (.aload_n 0, 1) := by decide +kernel
theorem dc_M_next_78 : decode bc_M_next 78 = .ok (.getfield 7, 3) := by decide +kernel
theorem dc_M_next_81 : decode bc_M_next 81 = .ok (.aload_n 0, 1) := by decide +kernel
theorem dc_M_next_82 : decode bc_M_next 82 = .ok (.getfield 93, 3) := by decide +kernel
theorem dc_M_next_85 : decode bc_M_next 85 = .ok (.baload, 1) := by decide +kernel
theorem dc_M_next_86 : decode bc_M_next 86 = .ok (.bipush 40, 2) := by decide +kernel
theorem dc_M_next_88 : decode bc_M_next 88 = .ok (.if_icmp .eq 17, 3) := by decide +kernel
theorem dc_M_next_91 : decode bc_M_next 91 = .ok (.aload_n 0, 1) := by decide +kernel
theorem dc_M_next_92 : decode bc_M_next 92 = .ok (.getfield 7, 3) := by decide +kernel
theorem dc_M_next_95 : decode bc_M_next 95 = .ok (.aload_n 0, 1) := by decide +kernel
theorem dc_M_next_96 : decode bc_M_next 96 = .ok (.getfield 93, 3) := by decide +kernel
theorem dc_M_next_99 : decode bc_M_next 99 = .ok (.baload, 1) := by decide +kernel
theorem dc_M_next_100 : decode bc_M_next 100 = .ok (.bipush 41, 2) := by decide +kernel
theorem dc_M_next_102 : decode bc_M_next 102 = .ok (.if_icmp .ne 37, 3) := by decide +kernel
theorem dc_M_next_105 : decode bc_M_next 105 = .ok (.aload_n 0, 1) := by decide +kernel
theorem dc_M_next_106 : decode bc_M_next 106 = .ok (.aload_n 0, 1) := by decide +kernel
theorem dc_M_next_107 : decode bc_M_next 107 = .ok (.getfield 7, 3) := by decide +kernel
theorem dc_M_next_110 : decode bc_M_next 110 = .ok (.aload_n 0, 1) := by decide +kernel
theorem dc_M_next_111 : decode bc_M_next 111 = .ok (.getfield 93, 3) := by decide +kernel
theorem dc_M_next_114 : decode bc_M_next 114 = .ok (.baload, 1) := by decide +kernel
theorem dc_M_next_115 : decode bc_M_next 115 = .ok (.bipush 40, 2) := by decide +kernel
theorem dc_M_next_117 : decode bc_M_next 117 = .ok (.if_icmp .ne 7, 3) := by decide +kernel
theorem dc_M_next_120 : decode bc_M_next 120 = .ok (.iconst 0, 1) := by decide +kernel
theorem dc_M_next_121 : decode bc_M_next 121 = .ok (.goto 4, 3) := by decide +kernel
theorem dc_M_next_124 : decode bc_M_next 124 = .ok (.iconst 1, 1) := by decide +kernel
theorem dc_M_next_125 : decode bc_M_next 125 = .ok (.putfield 99, 3) := by decide +kernel
theorem dc_M_next_128 : decode bc_M_next 128 = .ok (.aload_n 0, 1) := by decide +kernel
theorem dc_M_next_129 : decode bc_M_next 129 = .ok (.dup, 1) := by decide +kernel
theorem dc_M_next_130 : decode bc_M_next 130 = .ok (.getfield 93, 3) := by decide +kernel
theorem dc_M_next_133 : decode bc_M_next 133 = .ok (.iconst 1, 1) := by decide +kernel
theorem dc_M_next_134 : decode bc_M_next 134 = .ok (.iadd, 1) := by decide +kernel
theorem dc_M_next_135 : decode bc_M_next 135 = .ok (.putfield 93, 3) := by decide +kernel
theorem dc_M_next_138 : decode bc_M_next 138 = .ok (.return_, 1) := by decide +kernel
theorem dc_M_next_139 : decode bc_M_next 139 = .ok (.aload_n 0, 1) := by decide +kernel
theorem dc_M_next_140 : decode bc_M_next 140 = .ok (.aload_n 0, 1) := by decide +kernel
theorem dc_M_next_141 : decode bc_M_next 141 = .ok (.getfield 93, 3) := by decide +kernel
theorem dc_M_next_144 : decode bc_M_next 144 = .ok (.invokevirtual 102, 3) := by decide +kernel
theorem dc_M_next_147 : decode bc_M_next 147 = .ok (.ifCond .eq 16, 3) := by decide +kernel
theorem dc_M_next_150 : decode bc_M_next 150 = .ok (.aload_n 0, 1) := by decide +kernel
theorem dc_M_next_151 : decode bc_M_next 151 = .ok (.dup, 1) := by decide +kernel
theorem dc_M_next_152 : decode bc_M_next 152 = .ok (.getfield 93, 3) := by decide +kernel
theorem dc_M_next_155 : decode bc_M_next 155 = .ok (.iconst 1, 1) := by decide +kernel
theorem dc_M_next_156 : decode bc_M_next 156 = .ok (.iadd, 1) := by decide +kernel
theorem dc_M_next_157 : decode bc_M_next 157 = .ok (.putfield 93, 3) := by decide +kernel
theorem dc_M_next_160 : decode bc_M_next 160 = .ok (.goto (-21), 3) := by decide +kernel
theorem dc_M_next_163 : decode bc_M_next 163 = .ok (.aload_n 0, 1) := by decide +kernel
theorem dc_M_next_164 : decode bc_M_next 164 = .ok (.getfield 93, 3) := by decide +kernel
theorem dc_M_next_167 : decode bc_M_next 167 = .ok (.aload_n 0, 1) := by decide +kernel
theorem dc_M_next_168 : decode bc_M_next 168 = .ok (.getfield 96, 3) := by decide +kernel
theorem dc_M_next_171 : decode bc_M_next 171 = .ok (.if_icmp .ne 13, 3) := by decide +kernel
theorem dc_M_next_174 : decode bc_M_next 174 = .ok (.aload_n 0, 1) := by decide +kernel
theorem dc_M_next_175 : decode bc_M_next 175 = .ok (.iconst 1, 1) := by decide +kernel
theorem dc_M_next_176 : decode bc_M_next 176 = .ok (.aload_n 0, 1) := by decide +kernel
theorem dc_M_next_177 : decode bc_M_next 177 = .ok (.getfield 96, 3) := by decide +kernel
theorem dc_M_next_180 : decode bc_M_next 180 = .ok (.invokevirtual 105, 3) := by decide +kernel
theorem dc_M_next_183 : decode bc_M_next 183 = .ok (.return_, 1) := by decide +kernel
theorem dc_M_next_184 : decode bc_M_next 184 = .ok (.aload_n 0, 1) := by decide +kernel
theorem dc_M_next_185 : decode bc_M_next 185 = .ok (.getfield 7, 3) := by decide +kernel
theorem dc_M_next_188 : decode bc_M_next 188 = .ok (.aload_n 0, 1) := by decide +kernel
theorem dc_M_next_189 : decode bc_M_next 189 = .ok (.getfield 96, 3) := by decide +kernel
theorem dc_M_next_192 : decode bc_M_next 192 = .ok (.baload, 1) := by decide +kernel
theorem dc_M_next_193 : decode bc_M_next 193 = .ok (.invokestatic 86, 3) := by decide +kernel
theorem dc_M_next_196 : decode bc_M_next 196 = .ok (.ifCond .eq 10, 3) := by decide +kernel
theorem dc_M_next_199 : decode bc_M_next 199 = .ok (.aload_n 0, 1) := by decide +kernel
theorem dc_M_next_200 : decode bc_M_next 200 = .ok (.invokevirtual 109, 3) := by decide +kernel
theorem dc_M_next_203 : decode bc_M_next 203 = .ok (.goto 7, 3) := by decide +kernel
theorem dc_M_next_206 : decode bc_M_next 206 = .ok (.aload_n 0, 1) := by decide +kernel
theorem dc_M_next_207 : decode bc_M_next 207 = .ok (.invokevirtual 112, 3) := by decide +kernel
theorem dc_M_next_210 : decode bc_M_next 210 = .ok (.return_, 1) := by decide +kernel
theorem dc_M_isRun_0 : decode bc_M_isRun 0 = .ok (.iload_n 1, 1) := by decide +kernel
theorem dc_M_isRun_1 : decode bc_M_isRun 1 = .ok (.aload_n 0, 1) := by decide +kernel
theorem dc_M_isRun_2 : decode bc_M_isRun 2 = .ok (.getfield 80, 3) := by decide +kernel
theorem dc_M_isRun_5 : decode bc_M_isRun 5 = .ok (.if_icmp .ge 42, 3) := by decide +kernel
theorem dc_M_isRun_8 : decode bc_M_isRun 8 = .ok (.aload_n 0, 1) := by decide +kernel
theorem dc_M_isRun_9 : decode bc_M_isRun 9 = .ok (.getfield 7, 3) := by decide +kernel
theorem dc_M_isRun_12 : decode bc_M_isRun 12 = .ok (.iload_n 1, 1) := by decide +kernel
theorem dc_M_isRun_13 : decode bc_M_isRun 13 = .ok (.baload, 1) := by decide +kernel
theorem dc_M_isRun_14 : decode bc_M_isRun 14 = .ok (.invokestatic 86, 3) := by decide +kernel
theorem dc_M_isRun_17 : decode bc_M_isRun 17 = .ok (.ifCond .ne 26, 3) := by decide +kernel
theorem dc_M_isRun_20 : decode bc_M_isRun 20 = .ok (.aload_n 0, 1) := by decide +kernel
theorem dc_M_isRun_21 : decode bc_M_isRun 21 = .ok (.getfield 7, 3) := by decide +kernel
theorem dc_M_isRun_24 : decode bc_M_isRun 24 = .ok (.iload_n 1, 1) := by decide +kernel
theorem dc_M_isRun_25 : decode bc_M_isRun 25 = .ok (.baload, 1) := by decide +kernel
theorem dc_M_isRun_26 : decode bc_M_isRun 26 = .ok (.invokestatic 90, 3) := by decide +kernel
theorem dc_M_isRun_29 : decode bc_M_isRun 29 = .ok (.ifCond .ne 14, 3) := by decide +kernel
theorem dc_M_isRun_32 : decode bc_M_isRun 32 = .ok (.aload_n 0, 1) := by decide +kernel
theorem dc_M_isRun_33 : decode bc_M_isRun 33 = .ok (.getfield 7, 3) := by decide +kernel
theorem dc_M_isRun_36 : decode bc_M_isRun 36 = .ok (.iload_n 1, 1) := by decide +kernel
theorem dc_M_isRun_37 : decode bc_M_isRun 37 = .ok (.baload, 1) := by decide +kernel
theorem dc_M_isRun_38 : decode bc_M_isRun 38 = .ok (.bipush 45, 2) := by decide +kernel
theorem dc_M_isRun_40 : decode bc_M_isRun 40 = .ok (.if_icmp .ne 7, 3) := by decide +kernel
theorem dc_M_isRun_43 : decode bc_M_isRun 43 = .ok (.iconst 1, 1) := by decide +kernel
theorem dc_M_isRun_44 : decode bc_M_isRun 44 = .ok (.goto 4, 3) := by decide +kernel
theorem dc_M_isRun_47 : decode bc_M_isRun 47 = .ok (.iconst 0, 1) := by decide +kernel
theorem dc_M_isRun_48 : decode bc_M_isRun 48 = .ok (.ireturn, 1) := by decide +kernel
theorem dc_M_isLetter_0 : decode bc_M_isLetter 0 = .ok (.iload_n 0, 1) := by decide +kernel
theorem dc_M_isLetter_1 : decode bc_M_isLetter 1 = .ok (.bipush 97, 2) := by decide +kernel
theorem dc_M_isLetter_3 : decode bc_M_isLetter 3 = .ok (.if_icmp .lt 13, 3) := by decide +kernel
theorem dc_M_isLetter_6 : decode bc_M_isLetter 6 = .ok (.iload_n 0, 1) := by decide +kernel
theorem dc_M_isLetter_7 : decode bc_M_isLetter 7 = .ok (.bipush 122, 2) := by decide +kernel
theorem dc_M_isLetter_9 : decode bc_M_isLetter 9 = .ok (.if_icmp .gt 7, 3) := by decide +kernel
theorem dc_M_isLetter_12 : decode bc_M_isLetter 12 = .ok (.iconst 1, 1) := by decide +kernel
theorem dc_M_isLetter_13 : decode bc_M_isLetter 13 = .ok (.goto 4, 3) := by decide +kernel
theorem dc_M_isLetter_16 : decode bc_M_isLetter 16 = .ok (.iconst 0, 1) := by decide +kernel
theorem dc_M_isLetter_17 : decode bc_M_isLetter 17 = .ok (.ireturn, 1) := by decide +kernel
theorem dc_M_isDigit_0 : decode bc_M_isDigit 0 = .ok (.iload_n 0, 1) := by decide +kernel
theorem dc_M_isDigit_1 : decode bc_M_isDigit 1 = .ok (.bipush 48, 2) := by decide +kernel
theorem dc_M_isDigit_3 : decode bc_M_isDigit 3 = .ok (.if_icmp .lt 13, 3) := by decide +kernel
theorem dc_M_isDigit_6 : decode bc_M_isDigit 6 = .ok (.iload_n 0, 1) := by decide +kernel
theorem dc_M_isDigit_7 : decode bc_M_isDigit 7 = .ok (.bipush 57, 2) := by decide +kernel
theorem dc_M_isDigit_9 : decode bc_M_isDigit 9 = .ok (.if_icmp .gt 7, 3) := by decide +kernel
theorem dc_M_isDigit_12 : decode bc_M_isDigit 12 = .ok (.iconst 1, 1) := by decide +kernel
theorem dc_M_isDigit_13 : decode bc_M_isDigit 13 = .ok (.goto 4, 3) := by decide +kernel
theorem dc_M_isDigit_16 : decode bc_M_isDigit 16 = .ok (.iconst 0, 1) := by decide +kernel
theorem dc_M_isDigit_17 : decode bc_M_isDigit 17 = .ok (.ireturn, 1) := by decide +kernel
theorem dc_M_wrong_0 : decode bc_M_wrong 0 = .ok (.aload_n 0, 1) := by decide +kernel
theorem dc_M_wrong_1 : decode bc_M_wrong 1 = .ok (.getfield 83, 3) := by decide +kernel
theorem dc_M_wrong_4 : decode bc_M_wrong 4 = .ok (.ifCond .ne 13, 3) := by decide +kernel
theorem dc_M_wrong_7 : decode bc_M_wrong 7 = .ok (.aload_n 0, 1) := by decide +kernel
theorem dc_M_wrong_8 : decode bc_M_wrong 8 = .ok (.iload_n 1, 1) := by decide +kernel
theorem dc_M_wrong_9 : decode bc_M_wrong 9 = .ok (.putfield 83, 3) := by decide +kernel
theorem dc_M_wrong_12 : decode bc_M_wrong 12 = .ok (.aload_n 0, 1) := by decide +kernel
theorem dc_M_wrong_13 : decode bc_M_wrong 13 = .ok (.iload_n 2, 1) := by decide +kernel
theorem dc_M_wrong_14 : decode bc_M_wrong 14 = .ok (.putfield 13, 3) := by decide +kernel
theorem dc_M_wrong_17 : decode bc_M_wrong 17 = .ok (.return_, 1) := by decide +kernel
theorem dc_M_readName_0 : decode bc_M_readName 0 = .ok (.aload_n 0, 1) := by decide +kernel
theorem dc_M_readName_1 : decode bc_M_readName 1 = .ok (.iconst 2, 1) := by decide +kernel
theorem dc_M_readName_2 : decode bc_M_readName 2 = .ok (.putfield 99, 3) := by decide +kernel
theorem dc_M_readName_5 : decode bc_M_readName 5 = .ok (.aload_n 0, 1) := by decide +kernel
theorem dc_M_readName_6 : decode bc_M_readName 6 = .ok (.lconst 0, 1) := by decide +kernel
theorem dc_M_readName_7 : decode bc_M_readName 7 = .ok (.putfield 115, 3) := by decide +kernel
theorem dc_M_readName_10 : decode bc_M_readName 10 = .ok (.aload_n 0, 1) := by decide +kernel
theorem dc_M_readName_11 : decode bc_M_readName 11 = .ok (.getfield 93, 3) := by decide +kernel
theorem dc_M_readName_14 : decode bc_M_readName 14 = .ok (.aload_n 0, 1) := by decide +kernel
theorem dc_M_readName_15 : decode bc_M_readName 15 = .ok (.getfield 96, 3) := by decide +kernel
theorem dc_M_readName_18 : decode bc_M_readName 18 = .ok (.isub, 1) := by decide +kernel
theorem dc_M_readName_19 : decode bc_M_readName 19 = .ok (.bipush 12, 2) := by decide +kernel
theorem dc_M_readName_21 : decode bc_M_readName 21 = .ok (.if_icmp .gt 7, 3) := by decide +kernel
theorem dc_M_readName_24 : decode bc_M_readName 24 = .ok (.iconst 1, 1) := by decide +kernel
theorem dc_M_readName_25 : decode bc_M_readName 25 = .ok (.goto 4, 3) := by decide +kernel
theorem dc_M_readName_28 : decode bc_M_readName 28 = .ok (.iconst 0, 1) := by decide +kernel
theorem dc_M_readName_29 : decode bc_M_readName 29 = .ok (.istore_n 1, 1) := by decide +kernel
theorem dc_M_readName_30 : decode bc_M_readName 30 = .ok (.aload_n 0, 1) := by decide +kernel
theorem dc_M_readName_31 : decode bc_M_readName 31 = .ok (.getfield 96, 3) := by decide +kernel
theorem dc_M_readName_34 : decode bc_M_readName 34 = .ok (.istore_n 2, 1) := by decide +kernel
theorem dc_M_readName_35 : decode bc_M_readName 35 = .ok (.iload_n 2, 1) := by decide +kernel
theorem dc_M_readName_36 : decode bc_M_readName 36 = .ok (.aload_n 0, 1) := by decide +kernel
theorem dc_M_readName_37 : decode bc_M_readName 37 = .ok (.getfield 93, 3) := by decide +kernel
theorem dc_M_readName_40 : decode bc_M_readName 40 = .ok (.if_icmp .ge 56, 3) := by decide +kernel
theorem dc_M_readName_43 : decode bc_M_readName 43 = .ok (.iload_n 1, 1) := by decide +kernel
theorem dc_M_readName_44 : decode bc_M_readName 44 = .ok (.ifCond .eq 19, 3) := by decide +kernel
theorem dc_M_readName_47 : decode bc_M_readName 47 = .ok (.aload_n 0, 1) := by decide +kernel
theorem dc_M_readName_48 : decode bc_M_readName 48 = .ok (.getfield 7, 3) := by decide +kernel
theorem dc_M_readName_51 : decode bc_M_readName 51 = .ok (.iload_n 2, 1) := by decide +kernel
theorem dc_M_readName_52 : decode bc_M_readName 52 = .ok (.baload, 1) := by decide +kernel
theorem dc_M_readName_53 : decode bc_M_readName 53 = .ok (.invokestatic 86, 3) := by decide +kernel
theorem dc_M_readName_56 : decode bc_M_readName 56 = .ok (.ifCond .eq 7, 3) := by decide +kernel
theorem dc_M_readName_59 : decode bc_M_readName 59 = .ok (.iconst 1, 1) := by decide +kernel
theorem dc_M_readName_60 : decode bc_M_readName 60 = .ok (.goto 4, 3) := by decide +kernel
theorem dc_M_readName_63 : decode bc_M_readName 63 = .ok (.iconst 0, 1) := by decide +kernel
theorem dc_M_readName_64 : decode bc_M_readName 64 = .ok (.istore_n 1, 1) := by decide +kernel
theorem dc_M_readName_65 : decode bc_M_readName 65 = .ok (.aload_n 0, 1) := by decide +kernel
theorem dc_M_readName_66 : decode bc_M_readName 66 = .ok (.ldc2_w 119, 3) := by decide +kernel
theorem dc_M_readName_69 : decode bc_M_readName 69 = .ok (.aload_n 0, 1) := by decide +kernel
theorem dc_M_readName_70 : decode bc_M_readName 70 = .ok (.getfield 115, 3) := by decide +kernel
theorem dc_M_readName_73 : decode bc_M_readName 73 = .ok (.lmul, 1) := by decide +kernel
theorem dc_M_readName_74 : decode bc_M_readName 74 = .ok (.aload_n 0, 1) := by decide +kernel
theorem dc_M_readName_75 : decode bc_M_readName 75 = .ok (.getfield 7, 3) := by decide +kernel
theorem dc_M_readName_78 : decode bc_M_readName 78 = .ok (.iload_n 2, 1) := by decide +kernel
theorem dc_M_readName_79 : decode bc_M_readName 79 = .ok (.baload, 1) := by decide +kernel
theorem dc_M_readName_80 : decode bc_M_readName 80 = .ok (.bipush 97, 2) := by decide +kernel
theorem dc_M_readName_82 : decode bc_M_readName 82 = .ok (.isub, 1) := by decide +kernel
theorem dc_M_readName_83 : decode bc_M_readName 83 = .ok (.iconst 1, 1) := by decide +kernel
theorem dc_M_readName_84 : decode bc_M_readName 84 = .ok (.iadd, 1) := by decide +kernel
theorem dc_M_readName_85 : decode bc_M_readName 85 = .ok (.i2l, 1) := by decide +kernel
theorem dc_M_readName_86 : decode bc_M_readName 86 = .ok (.ladd, 1) := by decide +kernel
theorem dc_M_readName_87 : decode bc_M_readName 87 = .ok (.putfield 115, 3) := by decide +kernel
theorem dc_M_readName_90 : decode bc_M_readName 90 = .ok (.iinc 2 1, 3) := by decide +kernel
theorem dc_M_readName_93 : decode bc_M_readName 93 = .ok (.goto (-58), 3) := by decide +kernel
theorem dc_M_readName_96 : decode bc_M_readName 96 = .ok (.iload_n 1, 1) := by decide +kernel
theorem dc_M_readName_97 : decode bc_M_readName 97 = .ok (.ifCond .ne 12, 3) := by decide +kernel
theorem dc_M_readName_100 : decode bc_M_readName 100 = .ok (.aload_n 0, 1) := by decide +kernel
theorem dc_M_readName_101 : decode bc_M_readName 101 = .ok (.iconst 1, 1) := by decide +kernel
theorem dc_M_readName_102 : decode bc_M_readName 102 = .ok (.aload_n 0, 1) := by decide +kernel
theorem dc_M_readName_103 : decode bc_M_readName 103 = .ok (.getfield 96, 3) := by decide +kernel
theorem dc_M_readName_106 : decode bc_M_readName 106 = .ok (.invokevirtual 105, 3) := by decide +kernel
theorem dc_M_readName_109 : decode bc_M_readName 109 = .ok (.return_, 1) := by decide +kernel
theorem dc_M_readNumber_0 : decode bc_M_readNumber 0 = .ok (.aload_n 0, 1) := by decide +kernel
theorem dc_M_readNumber_1 : decode bc_M_readNumber 1 = .ok (.iconst 3, 1) := by decide +kernel
theorem dc_M_readNumber_2 : decode bc_M_readNumber 2 = .ok (.putfield 99, 3) := by decide +kernel
theorem dc_M_readNumber_5 : decode bc_M_readNumber 5 = .ok (.aload_n 0, 1) := by decide +kernel
theorem dc_M_readNumber_6 : decode bc_M_readNumber 6 = .ok (.getfield 7, 3) := by decide +kernel
theorem dc_M_readNumber_9 : decode bc_M_readNumber 9 = .ok (.aload_n 0, 1) := by decide +kernel
theorem dc_M_readNumber_10 : decode bc_M_readNumber 10 = .ok (.getfield 96, 3) := by decide +kernel
theorem dc_M_readNumber_13 : decode bc_M_readNumber 13 = .ok (.baload, 1) := by decide +kernel
theorem dc_M_readNumber_14 : decode bc_M_readNumber 14 = .ok (.bipush 45, 2) := by decide +kernel
theorem dc_M_readNumber_16 : decode bc_M_readNumber 16 = .ok (.if_icmp .ne 12, 3) := by decide +kernel
theorem dc_M_readNumber_19 : decode bc_M_readNumber 19 = .ok (.aload_n 0, 1) := by decide +kernel
theorem dc_M_readNumber_20 : decode bc_M_readNumber 20 = .ok (.getfield 96, 3) := by decide +kernel
theorem dc_M_readNumber_23 : decode bc_M_readNumber 23 = .ok (.iconst 1, 1) := by decide +kernel
theorem dc_M_readNumber_24 : decode bc_M_readNumber 24 = .ok (.iadd, 1) := by decide +kernel
theorem dc_M_readNumber_25 : decode bc_M_readNumber 25 = .ok (.goto 7, 3) := by decide +kernel
theorem dc_M_readNumber_28 : decode bc_M_readNumber 28 = .ok (.aload_n 0, 1) := by decide +kernel
theorem dc_M_readNumber_29 : decode bc_M_readNumber 29 = .ok (.getfield 96, 3) := by decide +kernel
theorem dc_M_readNumber_32 : decode bc_M_readNumber 32 = .ok (.istore_n 1, 1) := by decide +kernel
theorem dc_M_readNumber_33 : decode bc_M_readNumber 33 = .ok (.iload_n 1, 1) := by decide +kernel
theorem dc_M_readNumber_34 : decode bc_M_readNumber 34 = .ok (.aload_n 0, 1) := by decide +kernel
theorem dc_M_readNumber_35 : decode bc_M_readNumber 35 = .ok (.getfield 93, 3) := by decide +kernel
theorem dc_M_readNumber_38 : decode bc_M_readNumber 38 = .ok (.if_icmp .ge 7, 3) := by decide +kernel
theorem dc_M_readNumber_41 : decode bc_M_readNumber 41 = .ok (.iconst 1, 1) := by decide +kernel
theorem dc_M_readNumber_42 : decode bc_M_readNumber 42 = .ok (.goto 4, 3) := by decide +kernel
theorem dc_M_readNumber_45 : decode bc_M_readNumber 45 = .ok (.iconst 0, 1) := by decide +kernel
theorem dc_M_readNumber_46 : decode bc_M_readNumber 46 = .ok (.istore_n 2, 1) := by decide +kernel
theorem dc_M_readNumber_47 : decode bc_M_readNumber 47 = .ok (.lconst 0, 1) := by decide +kernel
theorem dc_M_readNumber_48 : decode bc_M_readNumber 48 = .ok (.lstore_n 3, 1) := by decide +kernel
theorem dc_M_readNumber_49 : decode bc_M_readNumber 49 = .ok (.iload_n 1, 1) := by decide +kernel
theorem dc_M_readNumber_50 : decode bc_M_readNumber 50 = .ok (.istore 5, 2) := by decide +kernel
theorem dc_M_readNumber_52 : decode bc_M_readNumber 52 = .ok (.iload 5, 2) := by decide +kernel
theorem dc_M_readNumber_54 : decode bc_M_readNumber 54 = .ok (.aload_n 0, 1) := by decide +kernel
theorem dc_M_readNumber_55 : decode bc_M_readNumber 55 = .ok (.getfield 93, 3) := by decide +kernel
theorem dc_M_readNumber_58 : decode bc_M_readNumber 58 = .ok (.if_icmp .ge 62, 3) := by decide +kernel
theorem dc_M_readNumber_61 : decode bc_M_readNumber 61 = .ok (.iload_n 2, 1) := by decide +kernel
theorem dc_M_readNumber_62 : decode bc_M_readNumber 62 = .ok (.ifCond .eq 20, 3) := by decide +kernel
theorem dc_M_readNumber_65 : decode bc_M_readNumber 65 = .ok (.aload_n 0, 1) := by decide +kernel
theorem dc_M_readNumber_66 : decode bc_M_readNumber 66 = .ok (.getfield 7, 3) := by decide +kernel
theorem dc_M_readNumber_69 : decode bc_M_readNumber 69 = .ok (.iload 5, 2) := by decide +kernel
theorem dc_M_readNumber_71 : decode bc_M_readNumber 71 = .ok (.baload, 1) := by decide +kernel
theorem dc_M_readNumber_72 : decode bc_M_readNumber 72 = .ok (.invokestatic 90, 3) := by decide +kernel
theorem dc_M_readNumber_75 : decode bc_M_readNumber 75 = .ok (.ifCond .eq 7, 3) := by decide +kernel
theorem dc_M_readNumber_78 : decode bc_M_readNumber 78 = .ok (.iconst 1, 1) := by decide +kernel
theorem dc_M_readNumber_79 : decode bc_M_readNumber 79 = .ok (.goto 4, 3) := by decide +kernel
theorem dc_M_readNumber_82 : decode bc_M_readNumber 82 = .ok (.iconst 0, 1) := by decide +kernel
theorem dc_M_readNumber_83 : decode bc_M_readNumber 83 = .ok (.istore_n 2, 1) := by decide +kernel
theorem dc_M_readNumber_84 : decode bc_M_readNumber 84 = .ok (.lload_n 3, 1) := by decide +kernel
theorem dc_M_readNumber_85 : decode bc_M_readNumber 85 = .ok (.ldc2_w 121, 3) := by decide +kernel
theorem dc_M_readNumber_88 : decode bc_M_readNumber 88 = .ok (.lcmp, 1) := by decide +kernel
theorem dc_M_readNumber_89 : decode bc_M_readNumber 89 = .ok (.ifCond .le 7, 3) := by decide +kernel
theorem dc_M_readNumber_92 : decode bc_M_readNumber 92 = .ok (.lload_n 3, 1) := by decide +kernel
theorem dc_M_readNumber_93 : decode bc_M_readNumber 93 = .ok (.goto 20, 3) := by decide +kernel
theorem dc_M_readNumber_96 : decode bc_M_readNumber 96 = .ok (.ldc2_w 123, 3) := by decide +kernel
theorem dc_M_readNumber_99 : decode bc_M_readNumber 99 = .ok (.lload_n 3, 1) := by decide +kernel
theorem dc_M_readNumber_100 : decode bc_M_readNumber 100 = .ok (.lmul, 1) := by decide +kernel
theorem dc_M_readNumber_101 : decode bc_M_readNumber 101 = .ok (.aload_n 0, 1) := by decide +kernel
theorem dc_M_readNumber_102 : decode bc_M_readNumber 102 = .ok (.getfield 7, 3) := by decide +kernel
theorem dc_M_readNumber_105 : decode bc_M_readNumber 105 = .ok (.iload 5, 2) := by decide +kernel
theorem dc_M_readNumber_107 : decode bc_M_readNumber 107 = .ok (.baload, 1) := by decide +kernel
theorem dc_M_readNumber_108 : decode bc_M_readNumber 108 = .ok (.bipush 48, 2) := by decide +kernel
theorem dc_M_readNumber_110 : decode bc_M_readNumber 110 = .ok (.isub, 1) := by decide +kernel
theorem dc_M_readNumber_111 : decode bc_M_readNumber 111 = .ok (.i2l, 1) := by decide +kernel
theorem dc_M_readNumber_112 : decode bc_M_readNumber 112 = .ok (.ladd, 1) := by decide +kernel
theorem dc_M_readNumber_113 : decode bc_M_readNumber 113 = .ok (.lstore_n 3, 1) := by decide +kernel
theorem dc_M_readNumber_114 : decode bc_M_readNumber 114 = .ok (.iinc 5 1, 3) := by decide +kernel
theorem dc_M_readNumber_117 : decode bc_M_readNumber 117 = .ok (.goto (-65), 3) := by decide +kernel
theorem dc_M_readNumber_120 : decode bc_M_readNumber 120 = .ok (.iload_n 1, 1) := by decide +kernel
theorem dc_M_readNumber_121 : decode bc_M_readNumber 121 = .ok (.aload_n 0, 1) := by decide +kernel
theorem dc_M_readNumber_122 : decode bc_M_readNumber 122 = .ok (.getfield 96, 3) := by decide +kernel
theorem dc_M_readNumber_125 : decode bc_M_readNumber 125 = .ok (.if_icmp .le 8, 3) := by decide +kernel
theorem dc_M_readNumber_128 : decode bc_M_readNumber 128 = .ok (.lload_n 3, 1) := by decide +kernel
theorem dc_M_readNumber_129 : decode bc_M_readNumber 129 = .ok (.lneg, 1) := by decide +kernel
theorem dc_M_readNumber_130 : decode bc_M_readNumber 130 = .ok (.goto 4, 3) := by decide +kernel
theorem dc_M_readNumber_133 : decode bc_M_readNumber 133 = .ok (.lload_n 3, 1) := by decide +kernel
theorem dc_M_readNumber_134 : decode bc_M_readNumber 134 = .ok (.lstore_n 3, 1) := by decide +kernel
theorem dc_M_readNumber_135 : decode bc_M_readNumber 135 = .ok (.iload_n 2, 1) := by decide +kernel
theorem dc_M_readNumber_136 : decode bc_M_readNumber 136 = .ok (.ifCond .eq 19, 3) := by decide +kernel
theorem dc_M_readNumber_139 : decode bc_M_readNumber 139 = .ok (.lload_n 3, 1) := by decide +kernel
theorem dc_M_readNumber_140 : decode bc_M_readNumber 140 = .ok (.ldc2_w 125, 3) := by decide +kernel
theorem dc_M_readNumber_143 : decode bc_M_readNumber 143 = .ok (.lcmp, 1) := by decide +kernel
theorem dc_M_readNumber_144 : decode bc_M_readNumber 144 = .ok (.ifCond .lt 11, 3) := by decide +kernel
theorem dc_M_readNumber_147 : decode bc_M_readNumber 147 = .ok (.lload_n 3, 1) := by decide +kernel
theorem dc_M_readNumber_148 : decode bc_M_readNumber 148 = .ok (.ldc2_w 127, 3) := by decide +kernel
theorem dc_M_readNumber_151 : decode bc_M_readNumber 151 = .ok (.lcmp, 1) := by decide +kernel
theorem dc_M_readNumber_152 : decode bc_M_readNumber 152 = .ok (.ifCond .le 12, 3) := by decide +kernel
theorem dc_M_readNumber_155 : decode bc_M_readNumber 155 = .ok (.aload_n 0, 1) := by decide +kernel
theorem dc_M_readNumber_156 : decode bc_M_readNumber 156 = .ok (.iconst 1, 1) := by decide +kernel
theorem dc_M_readNumber_157 : decode bc_M_readNumber 157 = .ok (.aload_n 0, 1) := by decide +kernel
theorem dc_M_readNumber_158 : decode bc_M_readNumber 158 = .ok (.getfield 96, 3) := by decide +kernel
theorem dc_M_readNumber_161 : decode bc_M_readNumber 161 = .ok (.invokevirtual 105, 3) := by decide +kernel
theorem dc_M_readNumber_164 : decode bc_M_readNumber 164 = .ok (.aload_n 0, 1) := by decide +kernel
theorem dc_M_readNumber_165 : decode bc_M_readNumber 165 = .ok (.lload_n 3, 1) := by decide +kernel
theorem dc_M_readNumber_166 : decode bc_M_readNumber 166 = .ok (.l2i, 1) := by decide +kernel
theorem dc_M_readNumber_167 : decode bc_M_readNumber 167 = .ok (.putfield 129, 3) := by decide +kernel
theorem dc_M_readNumber_170 : decode bc_M_readNumber 170 = .ok (.return_, 1) := by decide +kernel
theorem dc_M_readDefinition_0 : decode bc_M_readDefinition 0 = .ok (.aload_n 0, 1) := by decide +kernel
theorem dc_M_readDefinition_1 : decode bc_M_readDefinition 1 = .ok (.aload_n 0, 1) := by decide +kernel
theorem dc_M_readDefinition_2 : decode bc_M_readDefinition 2 = .ok (.getfield 99, 3) := by decide +kernel
theorem dc_M_readDefinition_5 : decode bc_M_readDefinition 5 = .ok (.ifCond .ne 16, 3) := by decide +kernel
theorem dc_M_readDefinition_8 : decode bc_M_readDefinition 8 = .ok (.aload_n 0, 1) := by decide +kernel
theorem dc_M_readDefinition_9 : decode bc_M_readDefinition 9 = .ok (.getfield 251, 3) := by decide +kernel
theorem dc_M_readDefinition_12 : decode bc_M_readDefinition 12 = .ok (.bipush 64, 2) := by decide +kernel
theorem dc_M_readDefinition_14 : decode bc_M_readDefinition 14 = .ok (.if_icmp .ge 7, 3) := by decide +kernel
theorem dc_M_readDefinition_17 : decode bc_M_readDefinition 17 = .ok (.iconst 1, 1) := by decide +kernel
theorem dc_M_readDefinition_18 : decode bc_M_readDefinition 18 = .ok (.goto 4, 3) := by decide +kernel
theorem dc_M_readDefinition_21 : decode bc_M_readDefinition 21 = .ok (.iconst 0, 1) := by decide +kernel
theorem dc_M_readDefinition_22 : decode bc_M_readDefinition 22 = .ok (.invokevirtual 213, 3) := by decide +kernel
theorem dc_M_readDefinition_25 : decode bc_M_readDefinition 25 = .ok (.pop, 1) := by decide +kernel
theorem dc_M_readDefinition_26 : decode bc_M_readDefinition 26 = .ok (.aload_n 0, 1) := by decide +kernel
theorem dc_M_readDefinition_27 : decode bc_M_readDefinition 27 = .ok (.getfield 83, 3) := by decide +kernel
theorem dc_M_readDefinition_30 : decode bc_M_readDefinition 30 = .ok (.ifCond .le 4, 3) := by decide +kernel
theorem dc_M_readDefinition_33 : decode bc_M_readDefinition 33 = .ok (.return_, 1) := by decide +kernel
theorem dc_M_readDefinition_34 : decode bc_M_readDefinition 34 = .ok (.aload_n 0, 1) := by decide +kernel
theorem dc_M_readDefinition_35 : decode bc_M_readDefinition 35 = .ok (.getfield 251, 3) := by decide +kernel
theorem dc_M_readDefinition_38 : decode bc_M_readDefinition 38 = .ok (.istore_n 1, 1) := by decide +kernel
theorem dc_M_readDefinition_39 : decode bc_M_readDefinition 39 = .ok (.aload_n 0, 1) := by decide +kernel
theorem dc_M_readDefinition_40 : decode bc_M_readDefinition 40 = .ok (.invokevirtual 232, 3) := by decide +kernel
theorem dc_M_readDefinition_43 : decode bc_M_readDefinition 43 = .ok (.aload_n 0, 1) := by decide +kernel
theorem dc_M_readDefinition_44 : decode bc_M_readDefinition 44 = .ok (.aload_n 0, 1) := by decide +kernel
theorem dc_M_readDefinition_45 : decode bc_M_readDefinition 45 = .ok (.getfield 83, 3) := by decide +kernel
theorem dc_M_readDefinition_48 : decode bc_M_readDefinition 48 = .ok (.ifCond .gt 21, 3) := by decide +kernel
theorem dc_M_readDefinition_51 : decode bc_M_readDefinition 51 = .ok (.aload_n 0, 1) := by decide +kernel
theorem dc_M_readDefinition_52 : decode bc_M_readDefinition 52 = .ok (.ldc 198, 2) := by decide +kernel
theorem dc_M_readDefinition_54 : decode bc_M_readDefinition 54 = .ok (.invokevirtual 144, 3) := by decide +kernel
theorem dc_M_readDefinition_57 : decode bc_M_readDefinition 57 = .ok (.ifCond .ne 12, 3) := by decide +kernel
theorem dc_M_readDefinition_60 : decode bc_M_readDefinition 60 = .ok (.aload_n 0, 1) := by decide +kernel
theorem dc_M_readDefinition_61 : decode bc_M_readDefinition 61 = .ok (.ldc 200, 2) := by decide +kernel
theorem dc_M_readDefinition_63 : decode bc_M_readDefinition 63 = .ok (.invokevirtual 144, 3) := by decide +kernel
theorem dc_M_readDefinition_66 : decode bc_M_readDefinition 66 = .ok (.ifCond .eq 7, 3) := by decide +kernel
theorem dc_M_readDefinition_69 : decode bc_M_readDefinition 69 = .ok (.iconst 1, 1) := by decide +kernel
theorem dc_M_readDefinition_70 : decode bc_M_readDefinition 70 = .ok (.goto 4, 3) := by decide +kernel
theorem dc_M_readDefinition_73 : decode bc_M_readDefinition 73 = .ok (.iconst 0, 1) := by decide +kernel
theorem dc_M_readDefinition_74 : decode bc_M_readDefinition 74 = .ok (.invokevirtual 213, 3) := by decide +kernel
theorem dc_M_readDefinition_77 : decode bc_M_readDefinition 77 = .ok (.pop, 1) := by decide +kernel
theorem dc_M_readDefinition_78 : decode bc_M_readDefinition 78 = .ok (.aload_n 0, 1) := by decide +kernel
theorem dc_M_readDefinition_79 : decode bc_M_readDefinition 79 = .ok (.getfield 17, 3) := by decide +kernel
theorem dc_M_readDefinition_82 : decode bc_M_readDefinition 82 = .ok (.iload_n 1, 1) := by decide +kernel
theorem dc_M_readDefinition_83 : decode bc_M_readDefinition 83 = .ok (.aload_n 0, 1) := by decide +kernel
theorem dc_M_readDefinition_84 : decode bc_M_readDefinition 84 = .ok (.getfield 83, 3) := by decide +kernel
theorem dc_M_readDefinition_87 : decode bc_M_readDefinition 87 = .ok (.ifCond .ne 16, 3) := by decide +kernel
theorem dc_M_readDefinition_90 : decode bc_M_readDefinition 90 = .ok (.aload_n 0, 1) := by decide +kernel
theorem dc_M_readDefinition_91 : decode bc_M_readDefinition 91 = .ok (.ldc 200, 2) := by decide +kernel
theorem dc_M_readDefinition_93 : decode bc_M_readDefinition 93 = .ok (.invokevirtual 144, 3) := by decide +kernel
theorem dc_M_readDefinition_96 : decode bc_M_readDefinition 96 = .ok (.ifCond .eq 7, 3) := by decide +kernel
theorem dc_M_readDefinition_99 : decode bc_M_readDefinition 99 = .ok (.iconst 1, 1) := by decide +kernel
theorem dc_M_readDefinition_100 : decode bc_M_readDefinition 100 = .ok (.goto 4, 3) := by decide +kernel
theorem dc_M_readDefinition_103 : decode bc_M_readDefinition 103 = .ok (.iconst 0, 1) := by decide +kernel
theorem dc_M_readDefinition_104 : decode bc_M_readDefinition 104 = .ok (.iastore, 1) := by decide +kernel
theorem dc_M_readDefinition_105 : decode bc_M_readDefinition 105 = .ok (.aload_n 0, 1) := by decide +kernel
theorem dc_M_readDefinition_106 : decode bc_M_readDefinition 106 = .ok (.getfield 83, 3) := by decide +kernel
theorem dc_M_readDefinition_109 : decode bc_M_readDefinition 109 = .ok (.ifCond .ne 7, 3) := by decide +kernel
theorem dc_M_readDefinition_112 : decode bc_M_readDefinition 112 = .ok (.aload_n 0, 1) := by decide +kernel
theorem dc_M_readDefinition_113 : decode bc_M_readDefinition 113 = .ok (.invokevirtual 232, 3) := by decide +kernel
theorem dc_M_readDefinition_116 : decode bc_M_readDefinition 116 = .ok (.iconst 0, 1) := by decide +kernel
theorem dc_M_readDefinition_117 : decode bc_M_readDefinition 117 = .ok (.istore_n 2, 1) := by decide +kernel
theorem dc_M_readDefinition_118 : decode bc_M_readDefinition 118 = .ok (.iconst 0, 1) := by decide +kernel
theorem dc_M_readDefinition_119 : decode bc_M_readDefinition 119 = .ok (.istore_n 3, 1) := by decide +kernel
theorem dc_M_readDefinition_120 : decode bc_M_readDefinition 120 = .ok (.iload_n 3, 1) := by decide +kernel
theorem dc_M_readDefinition_121 : decode bc_M_readDefinition 121 = .ok (.iload_n 1, 1) := by decide +kernel
theorem dc_M_readDefinition_122 : decode bc_M_readDefinition 122 = .ok (.if_icmp .ge 33, 3) := by decide +kernel
theorem dc_M_readDefinition_125 : decode bc_M_readDefinition 125 = .ok (.iload_n 2, 1) := by decide +kernel
theorem dc_M_readDefinition_126 : decode bc_M_readDefinition 126 = .ok (.ifCond .ne 17, 3) := by decide +kernel
theorem dc_M_readDefinition_129 : decode bc_M_readDefinition 129 = .ok (.aload_n 0, 1) := by decide +kernel
theorem dc_M_readDefinition_130 : decode bc_M_readDefinition 130 = .ok (.getfield 33, 3) := by decide +kernel
theorem dc_M_readDefinition_133 : decode bc_M_readDefinition 133 = .ok (.iload_n 3, 1) := by decide +kernel
theorem dc_M_readDefinition_134 : decode bc_M_readDefinition 134 = .ok (.laload, 1) := by decide +kernel
theorem dc_M_readDefinition_135 : decode bc_M_readDefinition 135 = .ok (.aload_n 0, 1) := by decide +kernel
theorem dc_M_readDefinition_136 : decode bc_M_readDefinition 136 = .ok (.getfield 115, 3) := by decide +kernel
theorem dc_M_readDefinition_139 : decode bc_M_readDefinition 139 = .ok (.lcmp, 1) := by decide +kernel
theorem dc_M_readDefinition_140 : decode bc_M_readDefinition 140 = .ok (.ifCond .ne 7, 3) := by decide +kernel
theorem dc_M_readDefinition_143 : decode bc_M_readDefinition 143 = .ok (.iconst 1, 1) := by decide +kernel
theorem dc_M_readDefinition_144 : decode bc_M_readDefinition 144 = .ok (.goto 4, 3) := by decide +kernel
theorem dc_M_readDefinition_147 : decode bc_M_readDefinition 147 = .ok (.iconst 0, 1) := by decide +kernel
theorem dc_M_readDefinition_148 : decode bc_M_readDefinition 148 = .ok (.istore_n 2, 1) := by decide +kernel
theorem dc_M_readDefinition_149 : decode bc_M_readDefinition 149 = .ok (.iinc 3 1, 3) := by decide +kernel
theorem dc_M_readDefinition_152 : decode bc_M_readDefinition 152 = .ok (.goto (-32), 3) := by decide +kernel
theorem dc_M_readDefinition_155 : decode bc_M_readDefinition 155 = .ok (.aload_n 0, 1) := by decide +kernel
theorem dc_M_readDefinition_156 : decode bc_M_readDefinition 156 = .ok (.aload_n 0, 1) := by decide +kernel
theorem dc_M_readDefinition_157 : decode bc_M_readDefinition 157 = .ok (.getfield 83, 3) := by decide +kernel
theorem dc_M_readDefinition_160 : decode bc_M_readDefinition 160 = .ok (.ifCond .gt 14, 3) := by decide +kernel
theorem dc_M_readDefinition_163 : decode bc_M_readDefinition 163 = .ok (.aload_n 0, 1) := by decide +kernel
theorem dc_M_readDefinition_164 : decode bc_M_readDefinition 164 = .ok (.invokevirtual 224, 3) := by decide +kernel
theorem dc_M_readDefinition_167 : decode bc_M_readDefinition 167 = .ok (.ifCond .eq 11, 3) := by decide +kernel
theorem dc_M_readDefinition_170 : decode bc_M_readDefinition 170 = .ok (.iload_n 2, 1) := by decide +kernel
theorem dc_M_readDefinition_171 : decode bc_M_readDefinition 171 = .ok (.ifCond .ne 7, 3) := by decide +kernel
theorem dc_M_readDefinition_174 : decode bc_M_readDefinition 174 = .ok (.iconst 1, 1) := by decide +kernel
theorem dc_M_readDefinition_175 : decode bc_M_readDefinition 175 = .ok (.goto 4, 3) := by decide +kernel
theorem dc_M_readDefinition_178 : decode bc_M_readDefinition 178 = .ok (.iconst 0, 1) := by decide +kernel
theorem dc_M_readDefinition_179 : decode bc_M_readDefinition 179 = .ok (.invokevirtual 213, 3) := by decide +kernel
theorem dc_M_readDefinition_182 : decode bc_M_readDefinition 182 = .ok (.pop, 1) := by decide +kernel
theorem dc_M_readDefinition_183 : decode bc_M_readDefinition 183 = .ok (.aload_n 0, 1) := by decide +kernel
theorem dc_M_readDefinition_184 : decode bc_M_readDefinition 184 = .ok (.getfield 33, 3) := by decide +kernel
theorem dc_M_readDefinition_187 : decode bc_M_readDefinition 187 = .ok (.iload_n 1, 1) := by decide +kernel
theorem dc_M_readDefinition_188 : decode bc_M_readDefinition 188 = .ok (.aload_n 0, 1) := by decide +kernel
theorem dc_M_readDefinition_189 : decode bc_M_readDefinition 189 = .ok (.getfield 115, 3) := by decide +kernel
theorem dc_M_readDefinition_192 : decode bc_M_readDefinition 192 = .ok (.lastore, 1) := by decide +kernel
theorem dc_M_readDefinition_193 : decode bc_M_readDefinition 193 = .ok (.aload_n 0, 1) := by decide +kernel
theorem dc_M_readDefinition_194 : decode bc_M_readDefinition 194 = .ok (.getfield 30, 3) := by decide +kernel
theorem dc_M_readDefinition_197 : decode bc_M_readDefinition 197 = .ok (.iload_n 1, 1) := by decide +kernel
theorem dc_M_readDefinition_198 : decode bc_M_readDefinition 198 = .ok (.aload_n 0, 1) := by decide +kernel
theorem dc_M_readDefinition_199 : decode bc_M_readDefinition 199 = .ok (.getfield 96, 3) := by decide +kernel
theorem dc_M_readDefinition_202 : decode bc_M_readDefinition 202 = .ok (.iastore, 1) := by decide +kernel
theorem dc_M_readDefinition_203 : decode bc_M_readDefinition 203 = .ok (.aload_n 0, 1) := by decide +kernel
theorem dc_M_readDefinition_204 : decode bc_M_readDefinition 204 = .ok (.getfield 24, 3) := by decide +kernel
theorem dc_M_readDefinition_207 : decode bc_M_readDefinition 207 = .ok (.iload_n 1, 1) := by decide +kernel
theorem dc_M_readDefinition_208 : decode bc_M_readDefinition 208 = .ok (.iconst 0, 1) := by decide +kernel
theorem dc_M_readDefinition_209 : decode bc_M_readDefinition 209 = .ok (.iastore, 1) := by decide +kernel
theorem dc_M_readDefinition_210 : decode bc_M_readDefinition 210 = .ok (.aload_n 0, 1) := by decide +kernel
theorem dc_M_readDefinition_211 : decode bc_M_readDefinition 211 = .ok (.getfield 83, 3) := by decide +kernel
theorem dc_M_readDefinition_214 : decode bc_M_readDefinition 214 = .ok (.ifCond .ne 24, 3) := by decide +kernel
theorem dc_M_readDefinition_217 : decode bc_M_readDefinition 217 = .ok (.aload_n 0, 1) := by decide +kernel
theorem dc_M_readDefinition_218 : decode bc_M_readDefinition 218 = .ok (.invokevirtual 232, 3) := by decide +kernel
theorem dc_M_readDefinition_221 : decode bc_M_readDefinition 221 = .ok (.aload_n 0, 1) := by decide +kernel
theorem dc_M_readDefinition_222 : decode bc_M_readDefinition 222 = .ok (.aload_n 0, 1) := by decide +kernel
theorem dc_M_readDefinition_223 : decode bc_M_readDefinition 223 = .ok (.getfield 99, 3) := by decide +kernel
theorem dc_M_readDefinition_226 : decode bc_M_readDefinition 226 = .ok (.ifCond .ne 7, 3) := by decide +kernel
theorem dc_M_readDefinition_229 : decode bc_M_readDefinition 229 = .ok (.iconst 1, 1) := by decide +kernel
theorem dc_M_readDefinition_230 : decode bc_M_readDefinition 230 = .ok (.goto 4, 3) := by decide +kernel
theorem dc_M_readDefinition_233 : decode bc_M_readDefinition 233 = .ok (.iconst 0, 1) := by decide +kernel
theorem dc_M_readDefinition_234 : decode bc_M_readDefinition 234 = .ok (.invokevirtual 213, 3) := by decide +kernel
theorem dc_M_readDefinition_237 : decode bc_M_readDefinition 237 = .ok (.pop, 1) := by decide +kernel
theorem dc_M_readDefinition_238 : decode bc_M_readDefinition 238 = .ok (.iconst 1, 1) := by decide +kernel
theorem dc_M_readDefinition_239 : decode bc_M_readDefinition 239 = .ok (.istore_n 3, 1) := by decide +kernel
theorem dc_M_readDefinition_240 : decode bc_M_readDefinition 240 = .ok (.iload_n 3, 1) := by decide +kernel
theorem dc_M_readDefinition_241 : decode bc_M_readDefinition 241 = .ok (.ifCond .eq 71, 3) := by decide +kernel
theorem dc_M_readDefinition_244 : decode bc_M_readDefinition 244 = .ok (.aload_n 0, 1) := by decide +kernel
theorem dc_M_readDefinition_245 : decode bc_M_readDefinition 245 = .ok (.getfield 83, 3) := by decide +kernel
theorem dc_M_readDefinition_248 : decode bc_M_readDefinition 248 = .ok (.ifCond .ne 64, 3) := by decide +kernel
theorem dc_M_readDefinition_251 : decode bc_M_readDefinition 251 = .ok (.aload_n 0, 1) := by decide +kernel
theorem dc_M_readDefinition_252 : decode bc_M_readDefinition 252 = .ok (.invokevirtual 232, 3) := by decide +kernel
theorem dc_M_readDefinition_255 : decode bc_M_readDefinition 255 = .ok (.aload_n 0, 1) := by decide +kernel
theorem dc_M_readDefinition_256 : decode bc_M_readDefinition 256 = .ok (.aload_n 0, 1) := by decide +kernel
theorem dc_M_readDefinition_257 : decode bc_M_readDefinition 257 = .ok (.getfield 99, 3) := by decide +kernel
theorem dc_M_readDefinition_260 : decode bc_M_readDefinition 260 = .ok (.ifCond .eq 11, 3) := by decide +kernel
theorem dc_M_readDefinition_263 : decode bc_M_readDefinition 263 = .ok (.aload_n 0, 1) := by decide +kernel
theorem dc_M_readDefinition_264 : decode bc_M_readDefinition 264 = .ok (.getfield 99, 3) := by decide +kernel
theorem dc_M_readDefinition_267 : decode bc_M_readDefinition 267 = .ok (.iconst 1, 1) := by decide +kernel
theorem dc_M_readDefinition_268 : decode bc_M_readDefinition 268 = .ok (.if_icmp .ne 7, 3) := by decide +kernel
theorem dc_M_readDefinition_271 : decode bc_M_readDefinition 271 = .ok (.iconst 1, 1) := by decide +kernel
theorem dc_M_readDefinition_272 : decode bc_M_readDefinition 272 = .ok (.goto 4, 3) := by decide +kernel
theorem dc_M_readDefinition_275 : decode bc_M_readDefinition 275 = .ok (.iconst 0, 1) := by decide +kernel
theorem dc_M_readDefinition_276 : decode bc_M_readDefinition 276 = .ok (.invokevirtual 213, 3) := by decide +kernel
theorem dc_M_readDefinition_279 : decode bc_M_readDefinition 279 = .ok (.pop, 1) := by decide +kernel
theorem dc_M_readDefinition_280 : decode bc_M_readDefinition 280 = .ok (.aload_n 0, 1) := by decide +kernel
theorem dc_M_readDefinition_281 : decode bc_M_readDefinition 281 = .ok (.getfield 99, 3) := by decide +kernel
theorem dc_M_readDefinition_284 : decode bc_M_readDefinition 284 = .ok (.ifCond .ne 7, 3) := by decide +kernel
theorem dc_M_readDefinition_287 : decode bc_M_readDefinition 287 = .ok (.iconst 1, 1) := by decide +kernel
theorem dc_M_readDefinition_288 : decode bc_M_readDefinition 288 = .ok (.goto 4, 3) := by decide +kernel
theorem dc_M_readDefinition_291 : decode bc_M_readDefinition 291 = .ok (.iconst 0, 1) := by decide +kernel
theorem dc_M_readDefinition_292 : decode bc_M_readDefinition 292 = .ok (.istore_n 3, 1) := by decide +kernel
theorem dc_M_readDefinition_293 : decode bc_M_readDefinition 293 = .ok (.iload_n 3, 1) := by decide +kernel
theorem dc_M_readDefinition_294 : decode bc_M_readDefinition 294 = .ok (.ifCond .eq (-54), 3) := by decide +kernel
theorem dc_M_readDefinition_297 : decode bc_M_readDefinition 297 = .ok (.aload_n 0, 1) := by decide +kernel
theorem dc_M_readDefinition_298 : decode bc_M_readDefinition 298 = .ok (.getfield 83, 3) := by decide +kernel
theorem dc_M_readDefinition_301 : decode bc_M_readDefinition 301 = .ok (.ifCond .ne (-61), 3) := by decide +kernel
theorem dc_M_readDefinition_304 : decode bc_M_readDefinition 304 = .ok (.aload_n 0, 1) := by decide +kernel
theorem dc_M_readDefinition_305 : decode bc_M_readDefinition 305 = .ok (.iload_n 1, 1) := by decide +kernel
theorem dc_M_readDefinition_306 : decode bc_M_readDefinition 306 = .ok (.invokevirtual 254, 3) := by decide +kernel
theorem dc_M_readDefinition_309 : decode bc_M_readDefinition 309 = .ok (.goto (-69), 3) := by decide +kernel
theorem dc_M_readDefinition_312 : decode bc_M_readDefinition 312 = .ok (.aload_n 0, 1) := by decide +kernel
theorem dc_M_readDefinition_313 : decode bc_M_readDefinition 313 = .ok (.getfield 83, 3) := by decide +kernel
theorem dc_M_readDefinition_316 : decode bc_M_readDefinition 316 = .ok (.ifCond .ne 69, 3) := by decide +kernel
theorem dc_M_readDefinition_319 : decode bc_M_readDefinition 319 = .ok (.aload_n 0, 1) := by decide +kernel
theorem dc_M_readDefinition_320 : decode bc_M_readDefinition 320 = .ok (.invokevirtual 232, 3) := by decide +kernel
theorem dc_M_readDefinition_323 : decode bc_M_readDefinition 323 = .ok (.aload_n 0, 1) := by decide +kernel
theorem dc_M_readDefinition_324 : decode bc_M_readDefinition 324 = .ok (.aload_n 0, 1) := by decide +kernel
theorem dc_M_readDefinition_325 : decode bc_M_readDefinition 325 = .ok (.getfield 83, 3) := by decide +kernel
theorem dc_M_readDefinition_328 : decode bc_M_readDefinition 328 = .ok (.ifCond .gt 27, 3) := by decide +kernel
theorem dc_M_readDefinition_331 : decode bc_M_readDefinition 331 = .ok (.aload_n 0, 1) := by decide +kernel
theorem dc_M_readDefinition_332 : decode bc_M_readDefinition 332 = .ok (.invokevirtual 189, 3) := by decide +kernel
theorem dc_M_readDefinition_335 : decode bc_M_readDefinition 335 = .ok (.ifCond .lt 24, 3) := by decide +kernel
theorem dc_M_readDefinition_338 : decode bc_M_readDefinition 338 = .ok (.aload_n 0, 1) := by decide +kernel
theorem dc_M_readDefinition_339 : decode bc_M_readDefinition 339 = .ok (.getfield 17, 3) := by decide +kernel
theorem dc_M_readDefinition_342 : decode bc_M_readDefinition 342 = .ok (.iload_n 1, 1) := by decide +kernel
theorem dc_M_readDefinition_343 : decode bc_M_readDefinition 343 = .ok (.iaload, 1) := by decide +kernel
theorem dc_M_readDefinition_344 : decode bc_M_readDefinition 344 = .ok (.ifCond .eq 11, 3) := by decide +kernel
theorem dc_M_readDefinition_347 : decode bc_M_readDefinition 347 = .ok (.aload_n 0, 1) := by decide +kernel
theorem dc_M_readDefinition_348 : decode bc_M_readDefinition 348 = .ok (.invokevirtual 189, 3) := by decide +kernel
theorem dc_M_readDefinition_351 : decode bc_M_readDefinition 351 = .ok (.iconst 2, 1) := by decide +kernel
theorem dc_M_readDefinition_352 : decode bc_M_readDefinition 352 = .ok (.if_icmp .ge 7, 3) := by decide +kernel
theorem dc_M_readDefinition_355 : decode bc_M_readDefinition 355 = .ok (.iconst 1, 1) := by decide +kernel
theorem dc_M_readDefinition_356 : decode bc_M_readDefinition 356 = .ok (.goto 4, 3) := by decide +kernel
theorem dc_M_readDefinition_359 : decode bc_M_readDefinition 359 = .ok (.iconst 0, 1) := by decide +kernel
theorem dc_M_readDefinition_360 : decode bc_M_readDefinition 360 = .ok (.invokevirtual 213, 3) := by decide +kernel
theorem dc_M_readDefinition_363 : decode bc_M_readDefinition 363 = .ok (.pop, 1) := by decide +kernel
theorem dc_M_readDefinition_364 : decode bc_M_readDefinition 364 = .ok (.aload_n 0, 1) := by decide +kernel
theorem dc_M_readDefinition_365 : decode bc_M_readDefinition 365 = .ok (.getfield 21, 3) := by decide +kernel
theorem dc_M_readDefinition_368 : decode bc_M_readDefinition 368 = .ok (.iload_n 1, 1) := by decide +kernel
theorem dc_M_readDefinition_369 : decode bc_M_readDefinition 369 = .ok (.aload_n 0, 1) := by decide +kernel
theorem dc_M_readDefinition_370 : decode bc_M_readDefinition 370 = .ok (.getfield 83, 3) := by decide +kernel
theorem dc_M_readDefinition_373 : decode bc_M_readDefinition 373 = .ok (.ifCond .le 7, 3) := by decide +kernel
theorem dc_M_readDefinition_376 : decode bc_M_readDefinition 376 = .ok (.iconst 0, 1) := by decide +kernel
theorem dc_M_readDefinition_377 : decode bc_M_readDefinition 377 = .ok (.goto 7, 3) := by decide +kernel
theorem dc_M_readDefinition_380 : decode bc_M_readDefinition 380 = .ok (.aload_n 0, 1) := by decide +kernel
theorem dc_M_readDefinition_381 : decode bc_M_readDefinition 381 = .ok (.invokevirtual 189, 3) := by decide +kernel
theorem dc_M_readDefinition_384 : decode bc_M_readDefinition 384 = .ok (.iastore, 1) := by decide +kernel
theorem dc_M_readDefinition_385 : decode bc_M_readDefinition 385 = .ok (.aload_n 0, 1) := by decide +kernel
theorem dc_M_readDefinition_386 : decode bc_M_readDefinition 386 = .ok (.getfield 27, 3) := by decide +kernel
theorem dc_M_readDefinition_389 : decode bc_M_readDefinition 389 = .ok (.iload_n 1, 1) := by decide +kernel
theorem dc_M_readDefinition_390 : decode bc_M_readDefinition 390 = .ok (.aload_n 0, 1) := by decide +kernel
theorem dc_M_readDefinition_391 : decode bc_M_readDefinition 391 = .ok (.getfield 207, 3) := by decide +kernel
theorem dc_M_readDefinition_394 : decode bc_M_readDefinition 394 = .ok (.iastore, 1) := by decide +kernel
theorem dc_M_readDefinition_395 : decode bc_M_readDefinition 395 = .ok (.aload_n 0, 1) := by decide +kernel
theorem dc_M_readDefinition_396 : decode bc_M_readDefinition 396 = .ok (.aload_n 0, 1) := by decide +kernel
theorem dc_M_readDefinition_397 : decode bc_M_readDefinition 397 = .ok (.getfield 24, 3) := by decide +kernel
theorem dc_M_readDefinition_400 : decode bc_M_readDefinition 400 = .ok (.iload_n 1, 1) := by decide +kernel
theorem dc_M_readDefinition_401 : decode bc_M_readDefinition 401 = .ok (.iaload, 1) := by decide +kernel
theorem dc_M_readDefinition_402 : decode bc_M_readDefinition 402 = .ok (.putfield 210, 3) := by decide +kernel
theorem dc_M_readDefinition_405 : decode bc_M_readDefinition 405 = .ok (.aload_n 0, 1) := by decide +kernel
theorem dc_M_readDefinition_406 : decode bc_M_readDefinition 406 = .ok (.getfield 83, 3) := by decide +kernel
theorem dc_M_readDefinition_409 : decode bc_M_readDefinition 409 = .ok (.ifCond .ne 21, 3) := by decide +kernel
theorem dc_M_readDefinition_412 : decode bc_M_readDefinition 412 = .ok (.aload_n 0, 1) := by decide +kernel
theorem dc_M_readDefinition_413 : decode bc_M_readDefinition 413 = .ok (.aload_n 0, 1) := by decide +kernel
theorem dc_M_readDefinition_414 : decode bc_M_readDefinition 414 = .ok (.getfield 17, 3) := by decide +kernel
theorem dc_M_readDefinition_417 : decode bc_M_readDefinition 417 = .ok (.iload_n 1, 1) := by decide +kernel
theorem dc_M_readDefinition_418 : decode bc_M_readDefinition 418 = .ok (.iaload, 1) := by decide +kernel
theorem dc_M_readDefinition_419 : decode bc_M_readDefinition 419 = .ok (.ifCond .ne 7, 3) := by decide +kernel
theorem dc_M_readDefinition_422 : decode bc_M_readDefinition 422 = .ok (.iconst 1, 1) := by decide +kernel
theorem dc_M_readDefinition_423 : decode bc_M_readDefinition 423 = .ok (.goto 4, 3) := by decide +kernel
theorem dc_M_readDefinition_426 : decode bc_M_readDefinition 426 = .ok (.iconst 0, 1) := by decide +kernel
theorem dc_M_readDefinition_427 : decode bc_M_readDefinition 427 = .ok (.invokevirtual 257, 3) := by decide +kernel
theorem dc_M_readDefinition_430 : decode bc_M_readDefinition 430 = .ok (.aload_n 0, 1) := by decide +kernel
theorem dc_M_readDefinition_431 : decode bc_M_readDefinition 431 = .ok (.getfield 83, 3) := by decide +kernel
theorem dc_M_readDefinition_434 : decode bc_M_readDefinition 434 = .ok (.ifCond .ne 25, 3) := by decide +kernel
theorem dc_M_readDefinition_437 : decode bc_M_readDefinition 437 = .ok (.aload_n 0, 1) := by decide +kernel
theorem dc_M_readDefinition_438 : decode bc_M_readDefinition 438 = .ok (.invokevirtual 232, 3) := by decide +kernel
theorem dc_M_readDefinition_441 : decode bc_M_readDefinition 441 = .ok (.aload_n 0, 1) := by decide +kernel
theorem dc_M_readDefinition_442 : decode bc_M_readDefinition 442 = .ok (.aload_n 0, 1) := by decide +kernel
theorem dc_M_readDefinition_443 : decode bc_M_readDefinition 443 = .ok (.getfield 99, 3) := by decide +kernel
theorem dc_M_readDefinition_446 : decode bc_M_readDefinition 446 = .ok (.iconst 1, 1) := by decide +kernel
theorem dc_M_readDefinition_447 : decode bc_M_readDefinition 447 = .ok (.if_icmp .ne 7, 3) := by decide +kernel
theorem dc_M_readDefinition_450 : decode bc_M_readDefinition 450 = .ok (.iconst 1, 1) := by decide +kernel
theorem dc_M_readDefinition_451 : decode bc_M_readDefinition 451 = .ok (.goto 4, 3) := by decide +kernel
theorem dc_M_readDefinition_454 : decode bc_M_readDefinition 454 = .ok (.iconst 0, 1) := by decide +kernel
theorem dc_M_readDefinition_455 : decode bc_M_readDefinition 455 = .ok (.invokevirtual 213, 3) := by decide +kernel
theorem dc_M_readDefinition_458 : decode bc_M_readDefinition 458 = .ok (.pop, 1) := by decide +kernel
theorem dc_M_readDefinition_459 : decode bc_M_readDefinition 459 = .ok (.aload_n 0, 1) := by decide +kernel
theorem dc_M_readDefinition_460 : decode bc_M_readDefinition 460 = .ok (.dup, 1) := by decide +kernel
theorem dc_M_readDefinition_461 : decode bc_M_readDefinition 461 = .ok (.getfield 251, 3) := by decide +kernel
theorem dc_M_readDefinition_464 : decode bc_M_readDefinition 464 = .ok (.iconst 1, 1) := by decide +kernel
theorem dc_M_readDefinition_465 : decode bc_M_readDefinition 465 = .ok (.iadd, 1) := by decide +kernel
theorem dc_M_readDefinition_466 : decode bc_M_readDefinition 466 = .ok (.putfield 251, 3) := by decide +kernel
theorem dc_M_readDefinition_469 : decode bc_M_readDefinition 469 = .ok (.return_, 1) := by decide +kernel
theorem dc_M_must_0 : decode bc_M_must 0 = .ok (.aload_n 0, 1) := by decide +kernel
theorem dc_M_must_1 : decode bc_M_must 1 = .ok (.getfield 83, 3) := by decide +kernel
theorem dc_M_must_4 : decode bc_M_must 4 = .ok (.ifCond .ne 20, 3) := by decide +kernel
theorem dc_M_must_7 : decode bc_M_must 7 = .ok (.aload_n 0, 1) := by decide +kernel
theorem dc_M_must_8 : decode bc_M_must 8 = .ok (.getfield 99, 3) := by decide +kernel
theorem dc_M_must_11 : decode bc_M_must 11 = .ok (.iconst 4, 1) := by decide +kernel
theorem dc_M_must_12 : decode bc_M_must 12 = .ok (.if_icmp .ne 12, 3) := by decide +kernel
theorem dc_M_must_15 : decode bc_M_must 15 = .ok (.aload_n 0, 1) := by decide +kernel
theorem dc_M_must_16 : decode bc_M_must 16 = .ok (.iconst 3, 1) := by decide +kernel
theorem dc_M_must_17 : decode bc_M_must 17 = .ok (.aload_n 0, 1) := by decide +kernel
theorem dc_M_must_18 : decode bc_M_must 18 = .ok (.getfield 80, 3) := by decide +kernel
theorem dc_M_must_21 : decode bc_M_must 21 = .ok (.invokevirtual 105, 3) := by decide +kernel
theorem dc_M_must_24 : decode bc_M_must 24 = .ok (.aload_n 0, 1) := by decide +kernel
theorem dc_M_must_25 : decode bc_M_must 25 = .ok (.getfield 83, 3) := by decide +kernel
theorem dc_M_must_28 : decode bc_M_must 28 = .ok (.ifCond .ne 16, 3) := by decide +kernel
theorem dc_M_must_31 : decode bc_M_must 31 = .ok (.iload_n 1, 1) := by decide +kernel
theorem dc_M_must_32 : decode bc_M_must 32 = .ok (.ifCond .ne 12, 3) := by decide +kernel
theorem dc_M_must_35 : decode bc_M_must 35 = .ok (.aload_n 0, 1) := by decide +kernel
theorem dc_M_must_36 : decode bc_M_must 36 = .ok (.iconst 2, 1) := by decide +kernel
theorem dc_M_must_37 : decode bc_M_must 37 = .ok (.aload_n 0, 1) := by decide +kernel
theorem dc_M_must_38 : decode bc_M_must 38 = .ok (.getfield 96, 3) := by decide +kernel
theorem dc_M_must_41 : decode bc_M_must 41 = .ok (.invokevirtual 105, 3) := by decide +kernel
theorem dc_M_must_44 : decode bc_M_must 44 = .ok (.aload_n 0, 1) := by decide +kernel
theorem dc_M_must_45 : decode bc_M_must 45 = .ok (.getfield 83, 3) := by decide +kernel
theorem dc_M_must_48 : decode bc_M_must 48 = .ok (.ifCond .ne 7, 3) := by decide +kernel
theorem dc_M_must_51 : decode bc_M_must 51 = .ok (.iconst 1, 1) := by decide +kernel
theorem dc_M_must_52 : decode bc_M_must 52 = .ok (.goto 4, 3) := by decide +kernel
theorem dc_M_must_55 : decode bc_M_must 55 = .ok (.iconst 0, 1) := by decide +kernel
theorem dc_M_must_56 : decode bc_M_must 56 = .ok (.ireturn, 1) := by decide +kernel
theorem dc_M_is_0 : decode bc_M_is 0 = .ok (.aload_n 0, 1) := by decide +kernel
theorem dc_M_is_1 : decode bc_M_is 1 = .ok (.getfield 99, 3) := by decide +kernel
theorem dc_M_is_4 : decode bc_M_is 4 = .ok (.iconst 2, 1) := by decide +kernel
theorem dc_M_is_5 : decode bc_M_is 5 = .ok (.if_icmp .ne 19, 3) := by decide +kernel
theorem dc_M_is_8 : decode bc_M_is 8 = .ok (.aload_n 0, 1) := by decide +kernel
theorem dc_M_is_9 : decode bc_M_is 9 = .ok (.getfield 93, 3) := by decide +kernel
theorem dc_M_is_12 : decode bc_M_is 12 = .ok (.aload_n 0, 1) := by decide +kernel
theorem dc_M_is_13 : decode bc_M_is 13 = .ok (.getfield 96, 3) := by decide +kernel
theorem dc_M_is_16 : decode bc_M_is 16 = .ok (.isub, 1) := by decide +kernel
theorem dc_M_is_17 : decode bc_M_is 17 = .ok (.aload_n 1, 1) := by decide +kernel
theorem dc_M_is_18 : decode bc_M_is 18 = .ok (.invokevirtual 132, 3) := by decide +kernel
theorem dc_M_is_21 : decode bc_M_is 21 = .ok (.if_icmp .eq 5, 3) := by decide +kernel
theorem dc_M_is_24 : decode bc_M_is 24 = .ok (.iconst 0, 1) := by decide +kernel
theorem dc_M_is_25 : decode bc_M_is 25 = .ok (.ireturn, 1) := by decide +kernel
theorem dc_M_is_26 : decode bc_M_is 26 = .ok (.iconst 1, 1) := by decide +kernel
theorem dc_M_is_27 : decode bc_M_is 27 = .ok (.istore_n 2, 1) := by decide +kernel
theorem dc_M_is_28 : decode bc_M_is 28 = .ok (.iconst 0, 1) := by decide +kernel
theorem dc_M_is_29 : decode bc_M_is 29 = .ok (.istore_n 3, 1) := by decide +kernel
theorem dc_M_is_30 : decode bc_M_is 30 = .ok (.iload_n 3, 1) := by decide +kernel
theorem dc_M_is_31 : decode bc_M_is 31 = .ok (.aload_n 1, 1) := by decide +kernel
theorem dc_M_is_32 : decode bc_M_is 32 = .ok (.invokevirtual 132, 3) := by decide +kernel
theorem dc_M_is_35 : decode bc_M_is 35 = .ok (.if_icmp .ge 38, 3) := by decide +kernel
theorem dc_M_is_38 : decode bc_M_is 38 = .ok (.iload_n 2, 1) := by decide +kernel
theorem dc_M_is_39 : decode bc_M_is 39 = .ok (.ifCond .eq 26, 3) := by decide +kernel
theorem dc_M_is_42 : decode bc_M_is 42 = .ok (.aload_n 0, 1) := by decide +kernel
theorem dc_M_is_43 : decode bc_M_is 43 = .ok (.getfield 7, 3) := by decide +kernel
theorem dc_M_is_46 : decode bc_M_is 46 = .ok (.aload_n 0, 1) := by decide +kernel
theorem dc_M_is_47 : decode bc_M_is 47 = .ok (.getfield 96, 3) := by decide +kernel
theorem dc_M_is_50 : decode bc_M_is 50 = .ok (.iload_n 3, 1) := by decide +kernel
theorem dc_M_is_51 : decode bc_M_is 51 = .ok (.iadd, 1) := by decide +kernel
theorem dc_M_is_52 : decode bc_M_is 52 = .ok (.baload, 1) := by decide +kernel
theorem dc_M_is_53 : decode bc_M_is 53 = .ok (.aload_n 1, 1) := by decide +kernel
theorem dc_M_is_54 : decode bc_M_is 54 = .ok (.iload_n 3, 1) := by decide +kernel
theorem dc_M_is_55 : decode bc_M_is 55 = .ok (.invokevirtual 138, 3) := by decide +kernel
theorem dc_M_is_58 : decode bc_M_is 58 = .ok (.if_icmp .ne 7, 3) := by decide +kernel
theorem dc_M_is_61 : decode bc_M_is 61 = .ok (.iconst 1, 1) := by decide +kernel
theorem dc_M_is_62 : decode bc_M_is 62 = .ok (.goto 4, 3) := by decide +kernel
theorem dc_M_is_65 : decode bc_M_is 65 = .ok (.iconst 0, 1) := by decide +kernel
theorem dc_M_is_66 : decode bc_M_is 66 = .ok (.istore_n 2, 1) := by decide +kernel
theorem dc_M_is_67 : decode bc_M_is 67 = .ok (.iinc 3 1, 3) := by decide +kernel
theorem dc_M_is_70 : decode bc_M_is 70 = .ok (.goto (-40), 3) := by decide +kernel
theorem dc_M_is_73 : decode bc_M_is 73 = .ok (.iload_n 2, 1) := by decide +kernel
theorem dc_M_is_74 : decode bc_M_is 74 = .ok (.ireturn, 1) := by decide +kernel
theorem dc_M_isOwn_0 : decode bc_M_isOwn 0 = .ok (.aload_n 0, 1) := by decide +kernel
theorem dc_M_isOwn_1 : decode bc_M_isOwn 1 = .ok (.getfield 99, 3) := by decide +kernel
theorem dc_M_isOwn_4 : decode bc_M_isOwn 4 = .ok (.iconst 2, 1) := by decide +kernel
theorem dc_M_isOwn_5 : decode bc_M_isOwn 5 = .ok (.if_icmp .ne 55, 3) := by decide +kernel
theorem dc_M_isOwn_8 : decode bc_M_isOwn 8 = .ok (.aload_n 0, 1) := by decide +kernel
theorem dc_M_isOwn_9 : decode bc_M_isOwn 9 = .ok (.invokevirtual 189, 3) := by decide +kernel
theorem dc_M_isOwn_12 : decode bc_M_isOwn 12 = .ok (.ifCond .ge 48, 3) := by decide +kernel
theorem dc_M_isOwn_15 : decode bc_M_isOwn 15 = .ok (.aload_n 0, 1) := by decide +kernel
theorem dc_M_isOwn_16 : decode bc_M_isOwn 16 = .ok (.invokevirtual 192, 3) := by decide +kernel
theorem dc_M_isOwn_19 : decode bc_M_isOwn 19 = .ok (.ifCond .ge 41, 3) := by decide +kernel
theorem dc_M_isOwn_22 : decode bc_M_isOwn 22 = .ok (.aload_n 0, 1) := by decide +kernel
theorem dc_M_isOwn_23 : decode bc_M_isOwn 23 = .ok (.invokevirtual 195, 3) := by decide +kernel
theorem dc_M_isOwn_26 : decode bc_M_isOwn 26 = .ok (.ifCond .ge 34, 3) := by decide +kernel
theorem dc_M_isOwn_29 : decode bc_M_isOwn 29 = .ok (.aload_n 0, 1) := by decide +kernel
theorem dc_M_isOwn_30 : decode bc_M_isOwn 30 = .ok (.ldc 198, 2) := by decide +kernel
theorem dc_M_isOwn_32 : decode bc_M_isOwn 32 = .ok (.invokevirtual 144, 3) := by decide +kernel
theorem dc_M_isOwn_35 : decode bc_M_isOwn 35 = .ok (.ifCond .ne 25, 3) := by decide +kernel
theorem dc_M_isOwn_38 : decode bc_M_isOwn 38 = .ok (.aload_n 0, 1) := by decide +kernel
theorem dc_M_isOwn_39 : decode bc_M_isOwn 39 = .ok (.ldc 200, 2) := by decide +kernel
theorem dc_M_isOwn_41 : decode bc_M_isOwn 41 = .ok (.invokevirtual 144, 3) := by decide +kernel
theorem dc_M_isOwn_44 : decode bc_M_isOwn 44 = .ok (.ifCond .ne 16, 3) := by decide +kernel
theorem dc_M_isOwn_47 : decode bc_M_isOwn 47 = .ok (.aload_n 0, 1) := by decide +kernel
theorem dc_M_isOwn_48 : decode bc_M_isOwn 48 = .ok (.ldc 202, 2) := by decide +kernel
theorem dc_M_isOwn_50 : decode bc_M_isOwn 50 = .ok (.invokevirtual 144, 3) := by decide +kernel
theorem dc_M_isOwn_53 : decode bc_M_isOwn 53 = .ok (.ifCond .ne 7, 3) := by decide +kernel
theorem dc_M_isOwn_56 : decode bc_M_isOwn 56 = .ok (.iconst 1, 1) := by decide +kernel
theorem dc_M_isOwn_57 : decode bc_M_isOwn 57 = .ok (.goto 4, 3) := by decide +kernel
theorem dc_M_isOwn_60 : decode bc_M_isOwn 60 = .ok (.iconst 0, 1) := by decide +kernel
theorem dc_M_isOwn_61 : decode bc_M_isOwn 61 = .ok (.ireturn, 1) := by decide +kernel
theorem dc_M_type_0 : decode bc_M_type 0 = .ok (.aload_n 0, 1) := by decide +kernel
theorem dc_M_type_1 : decode bc_M_type 1 = .ok (.ldc 142, 2) := by decide +kernel
theorem dc_M_type_3 : decode bc_M_type 3 = .ok (.invokevirtual 144, 3) := by decide +kernel
theorem dc_M_type_6 : decode bc_M_type 6 = .ok (.ifCond .eq 7, 3) := by decide +kernel
theorem dc_M_type_9 : decode bc_M_type 9 = .ok (.iconst 0, 1) := by decide +kernel
theorem dc_M_type_10 : decode bc_M_type 10 = .ok (.goto 43, 3) := by decide +kernel
theorem dc_M_type_13 : decode bc_M_type 13 = .ok (.aload_n 0, 1) := by decide +kernel
theorem dc_M_type_14 : decode bc_M_type 14 = .ok (.ldc 148, 2) := by decide +kernel
theorem dc_M_type_16 : decode bc_M_type 16 = .ok (.invokevirtual 144, 3) := by decide +kernel
theorem dc_M_type_19 : decode bc_M_type 19 = .ok (.ifCond .eq 7, 3) := by decide +kernel
theorem dc_M_type_22 : decode bc_M_type 22 = .ok (.iconst 1, 1) := by decide +kernel
theorem dc_M_type_23 : decode bc_M_type 23 = .ok (.goto 30, 3) := by decide +kernel
theorem dc_M_type_26 : decode bc_M_type 26 = .ok (.aload_n 0, 1) := by decide +kernel
theorem dc_M_type_27 : decode bc_M_type 27 = .ok (.ldc 150, 2) := by decide +kernel
theorem dc_M_type_29 : decode bc_M_type 29 = .ok (.invokevirtual 144, 3) := by decide +kernel
theorem dc_M_type_32 : decode bc_M_type 32 = .ok (.ifCond .eq 7, 3) := by decide +kernel
theorem dc_M_type_35 : decode bc_M_type 35 = .ok (.iconst 2, 1) := by decide +kernel
theorem dc_M_type_36 : decode bc_M_type 36 = .ok (.goto 17, 3) := by decide +kernel
theorem dc_M_type_39 : decode bc_M_type 39 = .ok (.aload_n 0, 1) := by decide +kernel
theorem dc_M_type_40 : decode bc_M_type 40 = .ok (.ldc 152, 2) := by decide +kernel
theorem dc_M_type_42 : decode bc_M_type 42 = .ok (.invokevirtual 144, 3) := by decide +kernel
theorem dc_M_type_45 : decode bc_M_type 45 = .ok (.ifCond .eq 7, 3) := by decide +kernel
theorem dc_M_type_48 : decode bc_M_type 48 = .ok (.iconst 3, 1) := by decide +kernel
theorem dc_M_type_49 : decode bc_M_type 49 = .ok (.goto 4, 3) := by decide +kernel
theorem dc_M_type_52 : decode bc_M_type 52 = .ok (.iconst (-1), 1) := by decide +kernel
theorem dc_M_type_53 : decode bc_M_type 53 = .ok (.ireturn, 1) := by decide +kernel
theorem dc_M_stableKind_0 : decode bc_M_stableKind 0 = .ok (.aload_n 0, 1) := by decide +kernel
theorem dc_M_stableKind_1 : decode bc_M_stableKind 1 = .ok (.invokevirtual 168, 3) := by decide +kernel
theorem dc_M_stableKind_4 : decode bc_M_stableKind 4 = .ok (.ifCond .lt 8, 3) := by decide +kernel
theorem dc_M_stableKind_7 : decode bc_M_stableKind 7 = .ok (.aload_n 0, 1) := by decide +kernel
theorem dc_M_stableKind_8 : decode bc_M_stableKind 8 = .ok (.invokevirtual 168, 3) := by decide +kernel
theorem dc_M_stableKind_11 : decode bc_M_stableKind 11 = .ok (.ireturn, 1) := by decide +kernel
theorem dc_M_stableKind_12 : decode bc_M_stableKind 12 = .ok (.aload_n 0, 1) := by decide +kernel
theorem dc_M_stableKind_13 : decode bc_M_stableKind 13 = .ok (.ldc 171, 2) := by decide +kernel
theorem dc_M_stableKind_15 : decode bc_M_stableKind 15 = .ok (.invokevirtual 144, 3) := by decide +kernel
theorem dc_M_stableKind_18 : decode bc_M_stableKind 18 = .ok (.ifCond .eq 8, 3) := by decide +kernel
theorem dc_M_stableKind_21 : decode bc_M_stableKind 21 = .ok (.bipush 10, 2) := by decide +kernel
theorem dc_M_stableKind_23 : decode bc_M_stableKind 23 = .ok (.goto 102, 3) := by decide +kernel
theorem dc_M_stableKind_26 : decode bc_M_stableKind 26 = .ok (.aload_n 0, 1) := by decide +kernel
theorem dc_M_stableKind_27 : decode bc_M_stableKind 27 = .ok (.ldc 173, 2) := by decide +kernel
theorem dc_M_stableKind_29 : decode bc_M_stableKind 29 = .ok (.invokevirtual 144, 3) := by decide +kernel
theorem dc_M_stableKind_32 : decode bc_M_stableKind 32 = .ok (.ifCond .eq 8, 3) := by decide +kernel
theorem dc_M_stableKind_35 : decode bc_M_stableKind 35 = .ok (.bipush 11, 2) := by decide +kernel
theorem dc_M_stableKind_37 : decode bc_M_stableKind 37 = .ok (.goto 88, 3) := by decide +kernel
theorem dc_M_stableKind_40 : decode bc_M_stableKind 40 = .ok (.aload_n 0, 1) := by decide +kernel
theorem dc_M_stableKind_41 : decode bc_M_stableKind 41 = .ok (.ldc 175, 2) := by decide +kernel
theorem dc_M_stableKind_43 : decode bc_M_stableKind 43 = .ok (.invokevirtual 144, 3) := by decide +kernel
theorem dc_M_stableKind_46 : decode bc_M_stableKind 46 = .ok (.ifCond .eq 8, 3) := by decide +kernel
theorem dc_M_stableKind_49 : decode bc_M_stableKind 49 = .ok (.bipush 12, 2) := by decide +kernel
theorem dc_M_stableKind_51 : decode bc_M_stableKind 51 = .ok (.goto 74, 3) := by decide +kernel
theorem dc_M_stableKind_54 : decode bc_M_stableKind 54 = .ok (.aload_n 0, 1) := by decide +kernel
theorem dc_M_stableKind_55 : decode bc_M_stableKind 55 = .ok (.ldc 177, 2) := by decide +kernel
theorem dc_M_stableKind_57 : decode bc_M_stableKind 57 = .ok (.invokevirtual 144, 3) := by decide +kernel
theorem dc_M_stableKind_60 : decode bc_M_stableKind 60 = .ok (.ifCond .eq 8, 3) := by decide +kernel
theorem dc_M_stableKind_63 : decode bc_M_stableKind 63 = .ok (.bipush 13, 2) := by decide +kernel
theorem dc_M_stableKind_65 : decode bc_M_stableKind 65 = .ok (.goto 60, 3) := by decide +kernel
