theorem dX6_init_0 : decode cX6_init 0 = .ok (.aload_n 0, 1) := by decide +kernel
theorem dX6_init_1 : decode cX6_init 1 = .ok (.invokespecial 1, 3) := by decide +kernel
theorem dX6_init_4 : decode cX6_init 4 = .ok (.aload_n 0, 1) := by decide +kernel
theorem dX6_init_5 : decode cX6_init 5 = .ok (.bipush 40, 2) := by decide +kernel
theorem dX6_init_7 : decode cX6_init 7 = .ok (.newarray .int, 2) := by decide +kernel
theorem dX6_init_9 : decode cX6_init 9 = .ok (.putfield 7, 3) := by decide +kernel
theorem dX6_init_12 : decode cX6_init 12 = .ok (.aload_n 0, 1) := by decide +kernel
theorem dX6_init_13 : decode cX6_init 13 = .ok (.bipush 40, 2) := by decide +kernel
theorem dX6_init_15 : decode cX6_init 15 = .ok (.newarray .int, 2) := by decide +kernel
theorem dX6_init_17 : decode cX6_init 17 = .ok (.putfield 13, 3) := by decide +kernel
theorem dX6_init_20 : decode cX6_init 20 = .ok (.aload_n 0, 1) := by decide +kernel
theorem dX6_init_21 : decode cX6_init 21 = .ok (.bipush 40, 2) := by decide +kernel
theorem dX6_init_23 : decode cX6_init 23 = .ok (.newarray .int, 2) := by decide +kernel
theorem dX6_init_25 : decode cX6_init 25 = .ok (.putfield 16, 3) := by decide +kernel
theorem dX6_init_28 : decode cX6_init 28 = .ok (.aload_n 0, 1) := by decide +kernel
theorem dX6_init_29 : decode cX6_init 29 = .ok (.bipush 40, 2) := by decide +kernel
theorem dX6_init_31 : decode cX6_init 31 = .ok (.newarray .int, 2) := by decide +kernel
theorem dX6_init_33 : decode cX6_init 33 = .ok (.putfield 19, 3) := by decide +kernel
theorem dX6_init_36 : decode cX6_init 36 = .ok (.aload_n 0, 1) := by decide +kernel
theorem dX6_init_37 : decode cX6_init 37 = .ok (.bipush 40, 2) := by decide +kernel
theorem dX6_init_39 : decode cX6_init 39 = .ok (.newarray .int, 2) := by decide +kernel
theorem dX6_init_41 : decode cX6_init 41 = .ok (.putfield 22, 3) := by decide +kernel
theorem dX6_init_44 : decode cX6_init 44 = .ok (.aload_n 0, 1) := by decide +kernel
theorem dX6_init_45 : decode cX6_init 45 = .ok (.bipush 10, 2) := by decide +kernel
theorem dX6_init_47 : decode cX6_init 47 = .ok (.newarray .int, 2) := by decide +kernel
theorem dX6_init_49 : decode cX6_init 49 = .ok (.putfield 25, 3) := by decide +kernel
theorem dX6_init_52 : decode cX6_init 52 = .ok (.aload_n 0, 1) := by decide +kernel
theorem dX6_init_53 : decode cX6_init 53 = .ok (.bipush 10, 2) := by decide +kernel
theorem dX6_init_55 : decode cX6_init 55 = .ok (.newarray .boolean, 2) := by decide +kernel
theorem dX6_init_57 : decode cX6_init 57 = .ok (.putfield 28, 3) := by decide +kernel
theorem dX6_init_60 : decode cX6_init 60 = .ok (.aload_n 0, 1) := by decide +kernel
theorem dX6_init_61 : decode cX6_init 61 = .ok (.bipush 10, 2) := by decide +kernel
theorem dX6_init_63 : decode cX6_init 63 = .ok (.newarray .boolean, 2) := by decide +kernel
theorem dX6_init_65 : decode cX6_init 65 = .ok (.putfield 32, 3) := by decide +kernel
theorem dX6_init_68 : decode cX6_init 68 = .ok (.aload_n 0, 1) := by decide +kernel
theorem dX6_init_69 : decode cX6_init 69 = .ok (.sipush 310, 3) := by decide +kernel
theorem dX6_init_72 : decode cX6_init 72 = .ok (.newarray .int, 2) := by decide +kernel
theorem dX6_init_74 : decode cX6_init 74 = .ok (.putfield 35, 3) := by decide +kernel
theorem dX6_init_77 : decode cX6_init 77 = .ok (.aload_n 0, 1) := by decide +kernel
theorem dX6_init_78 : decode cX6_init 78 = .ok (.sipush 310, 3) := by decide +kernel
theorem dX6_init_81 : decode cX6_init 81 = .ok (.newarray .int, 2) := by decide +kernel
theorem dX6_init_83 : decode cX6_init 83 = .ok (.putfield 38, 3) := by decide +kernel
theorem dX6_init_86 : decode cX6_init 86 = .ok (.aload_n 0, 1) := by decide +kernel
theorem dX6_init_87 : decode cX6_init 87 = .ok (.sipush 310, 3) := by decide +kernel
theorem dX6_init_90 : decode cX6_init 90 = .ok (.newarray .int, 2) := by decide +kernel
theorem dX6_init_92 : decode cX6_init 92 = .ok (.putfield 41, 3) := by decide +kernel
theorem dX6_init_95 : decode cX6_init 95 = .ok (.aload_n 0, 1) := by decide +kernel
theorem dX6_init_96 : decode cX6_init 96 = .ok (.sipush 310, 3) := by decide +kernel
theorem dX6_init_99 : decode cX6_init 99 = .ok (.newarray .boolean, 2) := by decide +kernel
theorem dX6_init_101 : decode cX6_init 101 = .ok (.putfield 44, 3) := by decide +kernel
theorem dX6_init_104 : decode cX6_init 104 = .ok (.aload_n 0, 1) := by decide +kernel
theorem dX6_init_105 : decode cX6_init 105 = .ok (.sipush 1000, 3) := by decide +kernel
theorem dX6_init_108 : decode cX6_init 108 = .ok (.newarray .int, 2) := by decide +kernel
theorem dX6_init_110 : decode cX6_init 110 = .ok (.putfield 47, 3) := by decide +kernel
theorem dX6_init_113 : decode cX6_init 113 = .ok (.aload_n 0, 1) := by decide +kernel
theorem dX6_init_114 : decode cX6_init 114 = .ok (.sipush 1000, 3) := by decide +kernel
theorem dX6_init_117 : decode cX6_init 117 = .ok (.newarray .int, 2) := by decide +kernel
theorem dX6_init_119 : decode cX6_init 119 = .ok (.putfield 50, 3) := by decide +kernel
theorem dX6_init_122 : decode cX6_init 122 = .ok (.aload_n 0, 1) := by decide +kernel
theorem dX6_init_123 : decode cX6_init 123 = .ok (.sipush 1000, 3) := by decide +kernel
theorem dX6_init_126 : decode cX6_init 126 = .ok (.newarray .int, 2) := by decide +kernel
theorem dX6_init_128 : decode cX6_init 128 = .ok (.putfield 53, 3) := by decide +kernel
theorem dX6_init_131 : decode cX6_init 131 = .ok (.aload_n 0, 1) := by decide +kernel
theorem dX6_init_132 : decode cX6_init 132 = .ok (.sipush 1000, 3) := by decide +kernel
theorem dX6_init_135 : decode cX6_init 135 = .ok (.newarray .int, 2) := by decide +kernel
theorem dX6_init_137 : decode cX6_init 137 = .ok (.putfield 56, 3) := by decide +kernel
theorem dX6_init_140 : decode cX6_init 140 = .ok (.aload_n 0, 1) := by decide +kernel
theorem dX6_init_141 : decode cX6_init 141 = .ok (.sipush 1000, 3) := by decide +kernel
theorem dX6_init_144 : decode cX6_init 144 = .ok (.newarray .int, 2) := by decide +kernel
theorem dX6_init_146 : decode cX6_init 146 = .ok (.putfield 59, 3) := by decide +kernel
theorem dX6_init_149 : decode cX6_init 149 = .ok (.aload_n 0, 1) := by decide +kernel
theorem dX6_init_150 : decode cX6_init 150 = .ok (.bipush 60, 2) := by decide +kernel
theorem dX6_init_152 : decode cX6_init 152 = .ok (.newarray .int, 2) := by decide +kernel
theorem dX6_init_154 : decode cX6_init 154 = .ok (.putfield 62, 3) := by decide +kernel
theorem dX6_init_157 : decode cX6_init 157 = .ok (.aload_n 0, 1) := by decide +kernel
theorem dX6_init_158 : decode cX6_init 158 = .ok (.bipush 60, 2) := by decide +kernel
theorem dX6_init_160 : decode cX6_init 160 = .ok (.newarray .boolean, 2) := by decide +kernel
theorem dX6_init_162 : decode cX6_init 162 = .ok (.putfield 65, 3) := by decide +kernel
theorem dX6_init_165 : decode cX6_init 165 = .ok (.aload_n 0, 1) := by decide +kernel
theorem dX6_init_166 : decode cX6_init 166 = .ok (.sipush 1000, 3) := by decide +kernel
theorem dX6_init_169 : decode cX6_init 169 = .ok (.newarray .int, 2) := by decide +kernel
theorem dX6_init_171 : decode cX6_init 171 = .ok (.putfield 68, 3) := by decide +kernel
theorem dX6_init_174 : decode cX6_init 174 = .ok (.aload_n 0, 1) := by decide +kernel
theorem dX6_init_175 : decode cX6_init 175 = .ok (.sipush 1300, 3) := by decide +kernel
theorem dX6_init_178 : decode cX6_init 178 = .ok (.newarray .int, 2) := by decide +kernel
theorem dX6_init_180 : decode cX6_init 180 = .ok (.putfield 71, 3) := by decide +kernel
theorem dX6_init_183 : decode cX6_init 183 = .ok (.aload_n 0, 1) := by decide +kernel
theorem dX6_init_184 : decode cX6_init 184 = .ok (.sipush 1300, 3) := by decide +kernel
theorem dX6_init_187 : decode cX6_init 187 = .ok (.newarray .int, 2) := by decide +kernel
theorem dX6_init_189 : decode cX6_init 189 = .ok (.putfield 74, 3) := by decide +kernel
theorem dX6_init_192 : decode cX6_init 192 = .ok (.aload_n 0, 1) := by decide +kernel
theorem dX6_init_193 : decode cX6_init 193 = .ok (.sipush 1300, 3) := by decide +kernel
theorem dX6_init_196 : decode cX6_init 196 = .ok (.newarray .int, 2) := by decide +kernel
theorem dX6_init_198 : decode cX6_init 198 = .ok (.putfield 77, 3) := by decide +kernel
theorem dX6_init_201 : decode cX6_init 201 = .ok (.aload_n 0, 1) := by decide +kernel
theorem dX6_init_202 : decode cX6_init 202 = .ok (.sipush 1300, 3) := by decide +kernel
theorem dX6_init_205 : decode cX6_init 205 = .ok (.newarray .int, 2) := by decide +kernel
theorem dX6_init_207 : decode cX6_init 207 = .ok (.putfield 80, 3) := by decide +kernel
theorem dX6_init_210 : decode cX6_init 210 = .ok (.aload_n 0, 1) := by decide +kernel
theorem dX6_init_211 : decode cX6_init 211 = .ok (.sipush 1300, 3) := by decide +kernel
theorem dX6_init_214 : decode cX6_init 214 = .ok (.newarray .boolean, 2) := by decide +kernel
theorem dX6_init_216 : decode cX6_init 216 = .ok (.putfield 83, 3) := by decide +kernel
theorem dX6_init_219 : decode cX6_init 219 = .ok (.aload_n 0, 1) := by decide +kernel
theorem dX6_init_220 : decode cX6_init 220 = .ok (.sipush 1000, 3) := by decide +kernel
theorem dX6_init_223 : decode cX6_init 223 = .ok (.newarray .boolean, 2) := by decide +kernel
theorem dX6_init_225 : decode cX6_init 225 = .ok (.putfield 86, 3) := by decide +kernel
theorem dX6_init_228 : decode cX6_init 228 = .ok (.return_, 1) := by decide +kernel
theorem dX6_in_0 : decode cX6_in 0 = .ok (.iload_n 0, 1) := by decide +kernel
theorem dX6_in_1 : decode cX6_in 1 = .ok (.iload_n 1, 1) := by decide +kernel
theorem dX6_in_2 : decode cX6_in 2 = .ok (.if_icmp .lt 12, 3) := by decide +kernel
theorem dX6_in_5 : decode cX6_in 5 = .ok (.iload_n 0, 1) := by decide +kernel
theorem dX6_in_6 : decode cX6_in 6 = .ok (.iload_n 2, 1) := by decide +kernel
theorem dX6_in_7 : decode cX6_in 7 = .ok (.if_icmp .gt 7, 3) := by decide +kernel
theorem dX6_in_10 : decode cX6_in 10 = .ok (.iconst 1, 1) := by decide +kernel
theorem dX6_in_11 : decode cX6_in 11 = .ok (.goto 4, 3) := by decide +kernel
theorem dX6_in_14 : decode cX6_in 14 = .ok (.iconst 0, 1) := by decide +kernel
theorem dX6_in_15 : decode cX6_in 15 = .ok (.ireturn, 1) := by decide +kernel
theorem dX6_isName_0 : decode cX6_isName 0 = .ok (.iload_n 0, 1) := by decide +kernel
theorem dX6_isName_1 : decode cX6_isName 1 = .ok (.iconst 0, 1) := by decide +kernel
theorem dX6_isName_2 : decode cX6_isName 2 = .ok (.bipush 30, 2) := by decide +kernel
theorem dX6_isName_4 : decode cX6_isName 4 = .ok (.invokestatic 89, 3) := by decide +kernel
theorem dX6_isName_7 : decode cX6_isName 7 = .ok (.ireturn, 1) := by decide +kernel
theorem dX6_isLoader_0 : decode cX6_isLoader 0 = .ok (.iload_n 1, 1) := by decide +kernel
theorem dX6_isLoader_1 : decode cX6_isLoader 1 = .ok (.iconst 0, 1) := by decide +kernel
theorem dX6_isLoader_2 : decode cX6_isLoader 2 = .ok (.aload_n 0, 1) := by decide +kernel
theorem dX6_isLoader_3 : decode cX6_isLoader 3 = .ok (.getfield 93, 3) := by decide +kernel
theorem dX6_isLoader_6 : decode cX6_isLoader 6 = .ok (.iconst 1, 1) := by decide +kernel
theorem dX6_isLoader_7 : decode cX6_isLoader 7 = .ok (.isub, 1) := by decide +kernel
theorem dX6_isLoader_8 : decode cX6_isLoader 8 = .ok (.invokestatic 89, 3) := by decide +kernel
theorem dX6_isLoader_11 : decode cX6_isLoader 11 = .ok (.ireturn, 1) := by decide +kernel
theorem dX6_isFile_0 : decode cX6_isFile 0 = .ok (.iload_n 1, 1) := by decide +kernel
theorem dX6_isFile_1 : decode cX6_isFile 1 = .ok (.iconst 0, 1) := by decide +kernel
theorem dX6_isFile_2 : decode cX6_isFile 2 = .ok (.aload_n 0, 1) := by decide +kernel
theorem dX6_isFile_3 : decode cX6_isFile 3 = .ok (.getfield 97, 3) := by decide +kernel
theorem dX6_isFile_6 : decode cX6_isFile 6 = .ok (.iconst 1, 1) := by decide +kernel
theorem dX6_isFile_7 : decode cX6_isFile 7 = .ok (.isub, 1) := by decide +kernel
theorem dX6_isFile_8 : decode cX6_isFile 8 = .ok (.invokestatic 89, 3) := by decide +kernel
theorem dX6_isFile_11 : decode cX6_isFile 11 = .ok (.ireturn, 1) := by decide +kernel
theorem dX6_isModule_0 : decode cX6_isModule 0 = .ok (.iload_n 1, 1) := by decide +kernel
theorem dX6_isModule_1 : decode cX6_isModule 1 = .ok (.iconst 0, 1) := by decide +kernel
theorem dX6_isModule_2 : decode cX6_isModule 2 = .ok (.aload_n 0, 1) := by decide +kernel
theorem dX6_isModule_3 : decode cX6_isModule 3 = .ok (.getfield 100, 3) := by decide +kernel
theorem dX6_isModule_6 : decode cX6_isModule 6 = .ok (.iconst 1, 1) := by decide +kernel
theorem dX6_isModule_7 : decode cX6_isModule 7 = .ok (.isub, 1) := by decide +kernel
theorem dX6_isModule_8 : decode cX6_isModule 8 = .ok (.invokestatic 89, 3) := by decide +kernel
theorem dX6_isModule_11 : decode cX6_isModule 11 = .ok (.ireturn, 1) := by decide +kernel
theorem dX6_isThing_0 : decode cX6_isThing 0 = .ok (.iload_n 1, 1) := by decide +kernel
theorem dX6_isThing_1 : decode cX6_isThing 1 = .ok (.iconst 0, 1) := by decide +kernel
theorem dX6_isThing_2 : decode cX6_isThing 2 = .ok (.aload_n 0, 1) := by decide +kernel
theorem dX6_isThing_3 : decode cX6_isThing 3 = .ok (.getfield 103, 3) := by decide +kernel
theorem dX6_isThing_6 : decode cX6_isThing 6 = .ok (.iconst 1, 1) := by decide +kernel
theorem dX6_isThing_7 : decode cX6_isThing 7 = .ok (.isub, 1) := by decide +kernel
theorem dX6_isThing_8 : decode cX6_isThing 8 = .ok (.invokestatic 89, 3) := by decide +kernel
theorem dX6_isThing_11 : decode cX6_isThing 11 = .ok (.ireturn, 1) := by decide +kernel
theorem dX6_file_0 : decode cX6_file 0 = .ok (.iload_n 1, 1) := by decide +kernel
theorem dX6_file_1 : decode cX6_file 1 = .ok (.invokestatic 106, 3) := by decide +kernel
theorem dX6_file_4 : decode cX6_file 4 = .ok (.ifCond .eq 39, 3) := by decide +kernel
theorem dX6_file_7 : decode cX6_file 7 = .ok (.iload_n 3, 1) := by decide +kernel
theorem dX6_file_8 : decode cX6_file 8 = .ok (.iconst (-1), 1) := by decide +kernel
theorem dX6_file_9 : decode cX6_file 9 = .ok (.if_icmp .eq 10, 3) := by decide +kernel
theorem dX6_file_12 : decode cX6_file 12 = .ok (.iload_n 3, 1) := by decide +kernel
theorem dX6_file_13 : decode cX6_file 13 = .ok (.invokestatic 106, 3) := by decide +kernel
theorem dX6_file_16 : decode cX6_file 16 = .ok (.ifCond .eq 27, 3) := by decide +kernel
theorem dX6_file_19 : decode cX6_file 19 = .ok (.iload 4, 2) := by decide +kernel
theorem dX6_file_21 : decode cX6_file 21 = .ok (.iconst (-1), 1) := by decide +kernel
theorem dX6_file_22 : decode cX6_file 22 = .ok (.if_icmp .eq 11, 3) := by decide +kernel
theorem dX6_file_25 : decode cX6_file 25 = .ok (.iload 4, 2) := by decide +kernel
theorem dX6_file_27 : decode cX6_file 27 = .ok (.invokestatic 106, 3) := by decide +kernel
theorem dX6_file_30 : decode cX6_file 30 = .ok (.ifCond .eq 13, 3) := by decide +kernel
theorem dX6_file_33 : decode cX6_file 33 = .ok (.iload 5, 2) := by decide +kernel
theorem dX6_file_35 : decode cX6_file 35 = .ok (.iconst 0, 1) := by decide +kernel
theorem dX6_file_36 : decode cX6_file 36 = .ok (.iconst 3, 1) := by decide +kernel
theorem dX6_file_37 : decode cX6_file 37 = .ok (.invokestatic 89, 3) := by decide +kernel
theorem dX6_file_40 : decode cX6_file 40 = .ok (.ifCond .ne 6, 3) := by decide +kernel
theorem dX6_file_43 : decode cX6_file 43 = .ok (.bipush (-2), 2) := by decide +kernel
theorem dX6_file_45 : decode cX6_file 45 = .ok (.ireturn, 1) := by decide +kernel
theorem dX6_file_46 : decode cX6_file 46 = .ok (.aload_n 0, 1) := by decide +kernel
theorem dX6_file_47 : decode cX6_file 47 = .ok (.getfield 97, 3) := by decide +kernel
theorem dX6_file_50 : decode cX6_file 50 = .ok (.bipush 40, 2) := by decide +kernel
theorem dX6_file_52 : decode cX6_file 52 = .ok (.if_icmp .ne 6, 3) := by decide +kernel
theorem dX6_file_55 : decode cX6_file 55 = .ok (.bipush (-4), 2) := by decide +kernel
theorem dX6_file_57 : decode cX6_file 57 = .ok (.ireturn, 1) := by decide +kernel
theorem dX6_file_58 : decode cX6_file 58 = .ok (.aload_n 0, 1) := by decide +kernel
theorem dX6_file_59 : decode cX6_file 59 = .ok (.getfield 7, 3) := by decide +kernel
theorem dX6_file_62 : decode cX6_file 62 = .ok (.aload_n 0, 1) := by decide +kernel
theorem dX6_file_63 : decode cX6_file 63 = .ok (.getfield 97, 3) := by decide +kernel
theorem dX6_file_66 : decode cX6_file 66 = .ok (.iload_n 1, 1) := by decide +kernel
theorem dX6_file_67 : decode cX6_file 67 = .ok (.iastore, 1) := by decide +kernel
theorem dX6_file_68 : decode cX6_file 68 = .ok (.aload_n 0, 1) := by decide +kernel
theorem dX6_file_69 : decode cX6_file 69 = .ok (.getfield 13, 3) := by decide +kernel
theorem dX6_file_72 : decode cX6_file 72 = .ok (.aload_n 0, 1) := by decide +kernel
theorem dX6_file_73 : decode cX6_file 73 = .ok (.getfield 97, 3) := by decide +kernel
theorem dX6_file_76 : decode cX6_file 76 = .ok (.iload_n 2, 1) := by decide +kernel
theorem dX6_file_77 : decode cX6_file 77 = .ok (.iastore, 1) := by decide +kernel
theorem dX6_file_78 : decode cX6_file 78 = .ok (.aload_n 0, 1) := by decide +kernel
theorem dX6_file_79 : decode cX6_file 79 = .ok (.getfield 16, 3) := by decide +kernel
theorem dX6_file_82 : decode cX6_file 82 = .ok (.aload_n 0, 1) := by decide +kernel
theorem dX6_file_83 : decode cX6_file 83 = .ok (.getfield 97, 3) := by decide +kernel
theorem dX6_file_86 : decode cX6_file 86 = .ok (.iload_n 3, 1) := by decide +kernel
theorem dX6_file_87 : decode cX6_file 87 = .ok (.iastore, 1) := by decide +kernel
theorem dX6_file_88 : decode cX6_file 88 = .ok (.aload_n 0, 1) := by decide +kernel
theorem dX6_file_89 : decode cX6_file 89 = .ok (.getfield 19, 3) := by decide +kernel
theorem dX6_file_92 : decode cX6_file 92 = .ok (.aload_n 0, 1) := by decide +kernel
theorem dX6_file_93 : decode cX6_file 93 = .ok (.getfield 97, 3) := by decide +kernel
theorem dX6_file_96 : decode cX6_file 96 = .ok (.iload 4, 2) := by decide +kernel
theorem dX6_file_98 : decode cX6_file 98 = .ok (.iastore, 1) := by decide +kernel
theorem dX6_file_99 : decode cX6_file 99 = .ok (.aload_n 0, 1) := by decide +kernel
theorem dX6_file_100 : decode cX6_file 100 = .ok (.getfield 22, 3) := by decide +kernel
theorem dX6_file_103 : decode cX6_file 103 = .ok (.aload_n 0, 1) := by decide +kernel
theorem dX6_file_104 : decode cX6_file 104 = .ok (.getfield 97, 3) := by decide +kernel
theorem dX6_file_107 : decode cX6_file 107 = .ok (.iload 5, 2) := by decide +kernel
theorem dX6_file_109 : decode cX6_file 109 = .ok (.iastore, 1) := by decide +kernel
theorem dX6_file_110 : decode cX6_file 110 = .ok (.aload_n 0, 1) := by decide +kernel
theorem dX6_file_111 : decode cX6_file 111 = .ok (.dup, 1) := by decide +kernel
theorem dX6_file_112 : decode cX6_file 112 = .ok (.getfield 97, 3) := by decide +kernel
theorem dX6_file_115 : decode cX6_file 115 = .ok (.iconst 1, 1) := by decide +kernel
theorem dX6_file_116 : decode cX6_file 116 = .ok (.iadd, 1) := by decide +kernel
theorem dX6_file_117 : decode cX6_file 117 = .ok (.putfield 97, 3) := by decide +kernel
theorem dX6_file_120 : decode cX6_file 120 = .ok (.aload_n 0, 1) := by decide +kernel
theorem dX6_file_121 : decode cX6_file 121 = .ok (.getfield 97, 3) := by decide +kernel
theorem dX6_file_124 : decode cX6_file 124 = .ok (.iconst 1, 1) := by decide +kernel
theorem dX6_file_125 : decode cX6_file 125 = .ok (.isub, 1) := by decide +kernel
theorem dX6_file_126 : decode cX6_file 126 = .ok (.ireturn, 1) := by decide +kernel
theorem dX6_loader_0 : decode cX6_loader 0 = .ok (.iload_n 1, 1) := by decide +kernel
theorem dX6_loader_1 : decode cX6_loader 1 = .ok (.iconst (-1), 1) := by decide +kernel
theorem dX6_loader_2 : decode cX6_loader 2 = .ok (.if_icmp .eq 24, 3) := by decide +kernel
theorem dX6_loader_5 : decode cX6_loader 5 = .ok (.aload_n 0, 1) := by decide +kernel
theorem dX6_loader_6 : decode cX6_loader 6 = .ok (.iload_n 1, 1) := by decide +kernel
theorem dX6_loader_7 : decode cX6_loader 7 = .ok (.invokevirtual 110, 3) := by decide +kernel
theorem dX6_loader_10 : decode cX6_loader 10 = .ok (.ifCond .eq 13, 3) := by decide +kernel
theorem dX6_loader_13 : decode cX6_loader 13 = .ok (.aload_n 0, 1) := by decide +kernel
theorem dX6_loader_14 : decode cX6_loader 14 = .ok (.getfield 25, 3) := by decide +kernel
theorem dX6_loader_17 : decode cX6_loader 17 = .ok (.iload_n 1, 1) := by decide +kernel
theorem dX6_loader_18 : decode cX6_loader 18 = .ok (.iaload, 1) := by decide +kernel
theorem dX6_loader_19 : decode cX6_loader 19 = .ok (.iconst (-1), 1) := by decide +kernel
theorem dX6_loader_20 : decode cX6_loader 20 = .ok (.if_icmp .eq 6, 3) := by decide +kernel
theorem dX6_loader_23 : decode cX6_loader 23 = .ok (.bipush (-2), 2) := by decide +kernel
theorem dX6_loader_25 : decode cX6_loader 25 = .ok (.ireturn, 1) := by decide +kernel
theorem dX6_loader_26 : decode cX6_loader 26 = .ok (.iload_n 1, 1) := by decide +kernel
theorem dX6_loader_27 : decode cX6_loader 27 = .ok (.iconst (-1), 1) := by decide +kernel
theorem dX6_loader_28 : decode cX6_loader 28 = .ok (.if_icmp .eq 15, 3) := by decide +kernel
theorem dX6_loader_31 : decode cX6_loader 31 = .ok (.aload_n 0, 1) := by decide +kernel
theorem dX6_loader_32 : decode cX6_loader 32 = .ok (.getfield 32, 3) := by decide +kernel
theorem dX6_loader_35 : decode cX6_loader 35 = .ok (.iload_n 1, 1) := by decide +kernel
theorem dX6_loader_36 : decode cX6_loader 36 = .ok (.baload, 1) := by decide +kernel
theorem dX6_loader_37 : decode cX6_loader 37 = .ok (.ifCond .eq 6, 3) := by decide +kernel
theorem dX6_loader_40 : decode cX6_loader 40 = .ok (.bipush (-3), 2) := by decide +kernel
theorem dX6_loader_42 : decode cX6_loader 42 = .ok (.ireturn, 1) := by decide +kernel
theorem dX6_loader_43 : decode cX6_loader 43 = .ok (.aload_n 0, 1) := by decide +kernel
theorem dX6_loader_44 : decode cX6_loader 44 = .ok (.getfield 93, 3) := by decide +kernel
theorem dX6_loader_47 : decode cX6_loader 47 = .ok (.bipush 10, 2) := by decide +kernel
theorem dX6_loader_49 : decode cX6_loader 49 = .ok (.if_icmp .ne 6, 3) := by decide +kernel
theorem dX6_loader_52 : decode cX6_loader 52 = .ok (.bipush (-4), 2) := by decide +kernel
theorem dX6_loader_54 : decode cX6_loader 54 = .ok (.ireturn, 1) := by decide +kernel
theorem dX6_loader_55 : decode cX6_loader 55 = .ok (.aload_n 0, 1) := by decide +kernel
theorem dX6_loader_56 : decode cX6_loader 56 = .ok (.getfield 25, 3) := by decide +kernel
theorem dX6_loader_59 : decode cX6_loader 59 = .ok (.aload_n 0, 1) := by decide +kernel
theorem dX6_loader_60 : decode cX6_loader 60 = .ok (.getfield 93, 3) := by decide +kernel
theorem dX6_loader_63 : decode cX6_loader 63 = .ok (.iload_n 1, 1) := by decide +kernel
theorem dX6_loader_64 : decode cX6_loader 64 = .ok (.iastore, 1) := by decide +kernel
theorem dX6_loader_65 : decode cX6_loader 65 = .ok (.aload_n 0, 1) := by decide +kernel
theorem dX6_loader_66 : decode cX6_loader 66 = .ok (.getfield 28, 3) := by decide +kernel
theorem dX6_loader_69 : decode cX6_loader 69 = .ok (.aload_n 0, 1) := by decide +kernel
theorem dX6_loader_70 : decode cX6_loader 70 = .ok (.getfield 93, 3) := by decide +kernel
theorem dX6_loader_73 : decode cX6_loader 73 = .ok (.iload_n 2, 1) := by decide +kernel
theorem dX6_loader_74 : decode cX6_loader 74 = .ok (.bastore, 1) := by decide +kernel
theorem dX6_loader_75 : decode cX6_loader 75 = .ok (.iconst 0, 1) := by decide +kernel
theorem dX6_loader_76 : decode cX6_loader 76 = .ok (.istore_n 3, 1) := by decide +kernel
theorem dX6_loader_77 : decode cX6_loader 77 = .ok (.iload_n 3, 1) := by decide +kernel
theorem dX6_loader_78 : decode cX6_loader 78 = .ok (.bipush 31, 2) := by decide +kernel
theorem dX6_loader_80 : decode cX6_loader 80 = .ok (.if_icmp .ge 54, 3) := by decide +kernel
theorem dX6_loader_83 : decode cX6_loader 83 = .ok (.aload_n 0, 1) := by decide +kernel
theorem dX6_loader_84 : decode cX6_loader 84 = .ok (.getfield 35, 3) := by decide +kernel
theorem dX6_loader_87 : decode cX6_loader 87 = .ok (.bipush 31, 2) := by decide +kernel
theorem dX6_loader_89 : decode cX6_loader 89 = .ok (.aload_n 0, 1) := by decide +kernel
theorem dX6_loader_90 : decode cX6_loader 90 = .ok (.getfield 93, 3) := by decide +kernel
theorem dX6_loader_93 : decode cX6_loader 93 = .ok (.imul, 1) := by decide +kernel
theorem dX6_loader_94 : decode cX6_loader 94 = .ok (.iload_n 3, 1) := by decide +kernel
theorem dX6_loader_95 : decode cX6_loader 95 = .ok (.iadd, 1) := by decide +kernel
theorem dX6_loader_96 : decode cX6_loader 96 = .ok (.iconst (-1), 1) := by decide +kernel
theorem dX6_loader_97 : decode cX6_loader 97 = .ok (.iastore, 1) := by decide +kernel
theorem dX6_loader_98 : decode cX6_loader 98 = .ok (.aload_n 0, 1) := by decide +kernel
theorem dX6_loader_99 : decode cX6_loader 99 = .ok (.getfield 38, 3) := by decide +kernel
theorem dX6_loader_102 : decode cX6_loader 102 = .ok (.bipush 31, 2) := by decide +kernel
theorem dX6_loader_104 : decode cX6_loader 104 = .ok (.aload_n 0, 1) := by decide +kernel
theorem dX6_loader_105 : decode cX6_loader 105 = .ok (.getfield 93, 3) := by decide +kernel
theorem dX6_loader_108 : decode cX6_loader 108 = .ok (.imul, 1) := by decide +kernel
theorem dX6_loader_109 : decode cX6_loader 109 = .ok (.iload_n 3, 1) := by decide +kernel
theorem dX6_loader_110 : decode cX6_loader 110 = .ok (.iadd, 1) := by decide +kernel
theorem dX6_loader_111 : decode cX6_loader 111 = .ok (.iconst (-1), 1) := by decide +kernel
theorem dX6_loader_112 : decode cX6_loader 112 = .ok (.iastore, 1) := by decide +kernel
theorem dX6_loader_113 : decode cX6_loader 113 = .ok (.aload_n 0, 1) := by decide +kernel
theorem dX6_loader_114 : decode cX6_loader 114 = .ok (.getfield 41, 3) := by decide +kernel
theorem dX6_loader_117 : decode cX6_loader 117 = .ok (.bipush 31, 2) := by decide +kernel
theorem dX6_loader_119 : decode cX6_loader 119 = .ok (.aload_n 0, 1) := by decide +kernel
theorem dX6_loader_120 : decode cX6_loader 120 = .ok (.getfield 93, 3) := by decide +kernel
theorem dX6_loader_123 : decode cX6_loader 123 = .ok (.imul, 1) := by decide +kernel
theorem dX6_loader_124 : decode cX6_loader 124 = .ok (.iload_n 3, 1) := by decide +kernel
theorem dX6_loader_125 : decode cX6_loader 125 = .ok (.iadd, 1) := by decide +kernel
theorem dX6_loader_126 : decode cX6_loader 126 = .ok (.iconst (-1), 1) := by decide +kernel
theorem dX6_loader_127 : decode cX6_loader 127 = .ok (.iastore, 1) := by decide +kernel
theorem dX6_loader_128 : decode cX6_loader 128 = .ok (.iinc 3 1, 3) := by decide +kernel
theorem dX6_loader_131 : decode cX6_loader 131 = .ok (.goto (-54), 3) := by decide +kernel
theorem dX6_loader_134 : decode cX6_loader 134 = .ok (.aload_n 0, 1) := by decide +kernel
theorem dX6_loader_135 : decode cX6_loader 135 = .ok (.dup, 1) := by decide +kernel
theorem dX6_loader_136 : decode cX6_loader 136 = .ok (.getfield 93, 3) := by decide +kernel
theorem dX6_loader_139 : decode cX6_loader 139 = .ok (.iconst 1, 1) := by decide +kernel
theorem dX6_loader_140 : decode cX6_loader 140 = .ok (.iadd, 1) := by decide +kernel
theorem dX6_loader_141 : decode cX6_loader 141 = .ok (.putfield 93, 3) := by decide +kernel
theorem dX6_loader_144 : decode cX6_loader 144 = .ok (.aload_n 0, 1) := by decide +kernel
theorem dX6_loader_145 : decode cX6_loader 145 = .ok (.getfield 93, 3) := by decide +kernel
theorem dX6_loader_148 : decode cX6_loader 148 = .ok (.iconst 1, 1) := by decide +kernel
theorem dX6_loader_149 : decode cX6_loader 149 = .ok (.isub, 1) := by decide +kernel
theorem dX6_loader_150 : decode cX6_loader 150 = .ok (.ireturn, 1) := by decide +kernel
theorem dX6_put_0 : decode cX6_put 0 = .ok (.aload_n 0, 1) := by decide +kernel
theorem dX6_put_1 : decode cX6_put 1 = .ok (.iload_n 1, 1) := by decide +kernel
theorem dX6_put_2 : decode cX6_put 2 = .ok (.invokevirtual 110, 3) := by decide +kernel
theorem dX6_put_5 : decode cX6_put 5 = .ok (.ifCond .eq 18, 3) := by decide +kernel
theorem dX6_put_8 : decode cX6_put 8 = .ok (.iload_n 2, 1) := by decide +kernel
theorem dX6_put_9 : decode cX6_put 9 = .ok (.invokestatic 106, 3) := by decide +kernel
theorem dX6_put_12 : decode cX6_put 12 = .ok (.ifCond .eq 11, 3) := by decide +kernel
theorem dX6_put_15 : decode cX6_put 15 = .ok (.aload_n 0, 1) := by decide +kernel
theorem dX6_put_16 : decode cX6_put 16 = .ok (.iload_n 3, 1) := by decide +kernel
theorem dX6_put_17 : decode cX6_put 17 = .ok (.invokevirtual 113, 3) := by decide +kernel
theorem dX6_put_20 : decode cX6_put 20 = .ok (.ifCond .ne 6, 3) := by decide +kernel
theorem dX6_put_23 : decode cX6_put 23 = .ok (.bipush (-2), 2) := by decide +kernel
theorem dX6_put_25 : decode cX6_put 25 = .ok (.ireturn, 1) := by decide +kernel
theorem dX6_put_26 : decode cX6_put 26 = .ok (.aload_n 0, 1) := by decide +kernel
theorem dX6_put_27 : decode cX6_put 27 = .ok (.getfield 32, 3) := by decide +kernel
theorem dX6_put_30 : decode cX6_put 30 = .ok (.iload_n 1, 1) := by decide +kernel
theorem dX6_put_31 : decode cX6_put 31 = .ok (.baload, 1) := by decide +kernel
theorem dX6_put_32 : decode cX6_put 32 = .ok (.ifCond .eq 6, 3) := by decide +kernel
theorem dX6_put_35 : decode cX6_put 35 = .ok (.bipush (-3), 2) := by decide +kernel
theorem dX6_put_37 : decode cX6_put 37 = .ok (.ireturn, 1) := by decide +kernel
theorem dX6_put_38 : decode cX6_put 38 = .ok (.aload_n 0, 1) := by decide +kernel
theorem dX6_put_39 : decode cX6_put 39 = .ok (.getfield 35, 3) := by decide +kernel
theorem dX6_put_42 : decode cX6_put 42 = .ok (.bipush 31, 2) := by decide +kernel
theorem dX6_put_44 : decode cX6_put 44 = .ok (.iload_n 1, 1) := by decide +kernel
theorem dX6_put_45 : decode cX6_put 45 = .ok (.imul, 1) := by decide +kernel
theorem dX6_put_46 : decode cX6_put 46 = .ok (.iload_n 2, 1) := by decide +kernel
theorem dX6_put_47 : decode cX6_put 47 = .ok (.iadd, 1) := by decide +kernel
theorem dX6_put_48 : decode cX6_put 48 = .ok (.iload_n 3, 1) := by decide +kernel
theorem dX6_put_49 : decode cX6_put 49 = .ok (.iastore, 1) := by decide +kernel
theorem dX6_put_50 : decode cX6_put 50 = .ok (.iconst 1, 1) := by decide +kernel
theorem dX6_put_51 : decode cX6_put 51 = .ok (.ireturn, 1) := by decide +kernel
theorem dX6_push_0 : decode cX6_push 0 = .ok (.aload_n 0, 1) := by decide +kernel
theorem dX6_push_1 : decode cX6_push 1 = .ok (.getfield 71, 3) := by decide +kernel
theorem dX6_push_4 : decode cX6_push 4 = .ok (.aload_n 0, 1) := by decide +kernel
theorem dX6_push_5 : decode cX6_push 5 = .ok (.getfield 116, 3) := by decide +kernel
theorem dX6_push_8 : decode cX6_push 8 = .ok (.iload_n 1, 1) := by decide +kernel
theorem dX6_push_9 : decode cX6_push 9 = .ok (.iastore, 1) := by decide +kernel
theorem dX6_push_10 : decode cX6_push 10 = .ok (.aload_n 0, 1) := by decide +kernel
theorem dX6_push_11 : decode cX6_push 11 = .ok (.getfield 74, 3) := by decide +kernel
theorem dX6_push_14 : decode cX6_push 14 = .ok (.aload_n 0, 1) := by decide +kernel
theorem dX6_push_15 : decode cX6_push 15 = .ok (.getfield 116, 3) := by decide +kernel
theorem dX6_push_18 : decode cX6_push 18 = .ok (.iconst 0, 1) := by decide +kernel
theorem dX6_push_19 : decode cX6_push 19 = .ok (.iastore, 1) := by decide +kernel
theorem dX6_push_20 : decode cX6_push 20 = .ok (.aload_n 0, 1) := by decide +kernel
theorem dX6_push_21 : decode cX6_push 21 = .ok (.getfield 77, 3) := by decide +kernel
theorem dX6_push_24 : decode cX6_push 24 = .ok (.aload_n 0, 1) := by decide +kernel
theorem dX6_push_25 : decode cX6_push 25 = .ok (.getfield 116, 3) := by decide +kernel
theorem dX6_push_28 : decode cX6_push 28 = .ok (.iload_n 2, 1) := by decide +kernel
theorem dX6_push_29 : decode cX6_push 29 = .ok (.iastore, 1) := by decide +kernel
theorem dX6_push_30 : decode cX6_push 30 = .ok (.aload_n 0, 1) := by decide +kernel
theorem dX6_push_31 : decode cX6_push 31 = .ok (.getfield 80, 3) := by decide +kernel
theorem dX6_push_34 : decode cX6_push 34 = .ok (.aload_n 0, 1) := by decide +kernel
theorem dX6_push_35 : decode cX6_push 35 = .ok (.getfield 116, 3) := by decide +kernel
theorem dX6_push_38 : decode cX6_push 38 = .ok (.iload_n 3, 1) := by decide +kernel
theorem dX6_push_39 : decode cX6_push 39 = .ok (.iastore, 1) := by decide +kernel
theorem dX6_push_40 : decode cX6_push 40 = .ok (.aload_n 0, 1) := by decide +kernel
theorem dX6_push_41 : decode cX6_push 41 = .ok (.getfield 83, 3) := by decide +kernel
theorem dX6_push_44 : decode cX6_push 44 = .ok (.aload_n 0, 1) := by decide +kernel
theorem dX6_push_45 : decode cX6_push 45 = .ok (.getfield 116, 3) := by decide +kernel
theorem dX6_push_48 : decode cX6_push 48 = .ok (.iload 4, 2) := by decide +kernel
theorem dX6_push_50 : decode cX6_push 50 = .ok (.bastore, 1) := by decide +kernel
theorem dX6_push_51 : decode cX6_push 51 = .ok (.aload_n 0, 1) := by decide +kernel
theorem dX6_push_52 : decode cX6_push 52 = .ok (.dup, 1) := by decide +kernel
theorem dX6_push_53 : decode cX6_push 53 = .ok (.getfield 116, 3) := by decide +kernel
theorem dX6_push_56 : decode cX6_push 56 = .ok (.iconst 1, 1) := by decide +kernel
theorem dX6_push_57 : decode cX6_push 57 = .ok (.iadd, 1) := by decide +kernel
theorem dX6_push_58 : decode cX6_push 58 = .ok (.putfield 116, 3) := by decide +kernel
theorem dX6_push_61 : decode cX6_push 61 = .ok (.return_, 1) := by decide +kernel
theorem dX6_gives_0 : decode cX6_gives 0 = .ok (.aload_n 0, 1) := by decide +kernel
theorem dX6_gives_1 : decode cX6_gives 1 = .ok (.iload_n 1, 1) := by decide +kernel
theorem dX6_gives_2 : decode cX6_gives 2 = .ok (.putfield 119, 3) := by decide +kernel
theorem dX6_gives_5 : decode cX6_gives 5 = .ok (.aload_n 0, 1) := by decide +kernel
theorem dX6_gives_6 : decode cX6_gives 6 = .ok (.dup, 1) := by decide +kernel
theorem dX6_gives_7 : decode cX6_gives 7 = .ok (.getfield 116, 3) := by decide +kernel
theorem dX6_gives_10 : decode cX6_gives 10 = .ok (.iconst 1, 1) := by decide +kernel
theorem dX6_gives_11 : decode cX6_gives 11 = .ok (.isub, 1) := by decide +kernel
theorem dX6_gives_12 : decode cX6_gives 12 = .ok (.putfield 116, 3) := by decide +kernel
theorem dX6_gives_15 : decode cX6_gives 15 = .ok (.return_, 1) := by decide +kernel
theorem dX6_runs_0 : decode cX6_runs 0 = .ok (.aload_n 0, 1) := by decide +kernel
theorem dX6_runs_1 : decode cX6_runs 1 = .ok (.getfield 116, 3) := by decide +kernel
theorem dX6_runs_4 : decode cX6_runs 4 = .ok (.ifCond .le 92, 3) := by decide +kernel
theorem dX6_runs_7 : decode cX6_runs 7 = .ok (.aload_n 0, 1) := by decide +kernel
theorem dX6_runs_8 : decode cX6_runs 8 = .ok (.getfield 116, 3) := by decide +kernel
theorem dX6_runs_11 : decode cX6_runs 11 = .ok (.iconst 1, 1) := by decide +kernel
theorem dX6_runs_12 : decode cX6_runs 12 = .ok (.isub, 1) := by decide +kernel
theorem dX6_runs_13 : decode cX6_runs 13 = .ok (.istore_n 1, 1) := by decide +kernel
theorem dX6_runs_14 : decode cX6_runs 14 = .ok (.aload_n 0, 1) := by decide +kernel
theorem dX6_runs_15 : decode cX6_runs 15 = .ok (.getfield 71, 3) := by decide +kernel
theorem dX6_runs_18 : decode cX6_runs 18 = .ok (.iload_n 1, 1) := by decide +kernel
theorem dX6_runs_19 : decode cX6_runs 19 = .ok (.iaload, 1) := by decide +kernel
theorem dX6_runs_20 : decode cX6_runs 20 = .ok (.lookupswitch 62 #[(0, 28), (1, 42)], 28) := by decide +kernel
theorem dX6_runs_48 : decode cX6_runs 48 = .ok (.aload_n 0, 1) := by decide +kernel
theorem dX6_runs_49 : decode cX6_runs 49 = .ok (.iload_n 1, 1) := by decide +kernel
theorem dX6_runs_50 : decode cX6_runs 50 = .ok (.aload_n 0, 1) := by decide +kernel
theorem dX6_runs_51 : decode cX6_runs 51 = .ok (.getfield 77, 3) := by decide +kernel
theorem dX6_runs_54 : decode cX6_runs 54 = .ok (.iload_n 1, 1) := by decide +kernel
theorem dX6_runs_55 : decode cX6_runs 55 = .ok (.iaload, 1) := by decide +kernel
theorem dX6_runs_56 : decode cX6_runs 56 = .ok (.invokevirtual 122, 3) := by decide +kernel
theorem dX6_runs_59 : decode cX6_runs 59 = .ok (.goto 34, 3) := by decide +kernel
theorem dX6_runs_62 : decode cX6_runs 62 = .ok (.aload_n 0, 1) := by decide +kernel
theorem dX6_runs_63 : decode cX6_runs 63 = .ok (.iload_n 1, 1) := by decide +kernel
theorem dX6_runs_64 : decode cX6_runs 64 = .ok (.aload_n 0, 1) := by decide +kernel
theorem dX6_runs_65 : decode cX6_runs 65 = .ok (.getfield 77, 3) := by decide +kernel
theorem dX6_runs_68 : decode cX6_runs 68 = .ok (.iload_n 1, 1) := by decide +kernel
theorem dX6_runs_69 : decode cX6_runs 69 = .ok (.iaload, 1) := by decide +kernel
theorem dX6_runs_70 : decode cX6_runs 70 = .ok (.aload_n 0, 1) := by decide +kernel
theorem dX6_runs_71 : decode cX6_runs 71 = .ok (.getfield 80, 3) := by decide +kernel
theorem dX6_runs_74 : decode cX6_runs 74 = .ok (.iload_n 1, 1) := by decide +kernel
theorem dX6_runs_75 : decode cX6_runs 75 = .ok (.iaload, 1) := by decide +kernel
theorem dX6_runs_76 : decode cX6_runs 76 = .ok (.invokevirtual 126, 3) := by decide +kernel
theorem dX6_runs_79 : decode cX6_runs 79 = .ok (.goto 14, 3) := by decide +kernel
theorem dX6_runs_82 : decode cX6_runs 82 = .ok (.aload_n 0, 1) := by decide +kernel
theorem dX6_runs_83 : decode cX6_runs 83 = .ok (.iload_n 1, 1) := by decide +kernel
theorem dX6_runs_84 : decode cX6_runs 84 = .ok (.aload_n 0, 1) := by decide +kernel
theorem dX6_runs_85 : decode cX6_runs 85 = .ok (.getfield 77, 3) := by decide +kernel
theorem dX6_runs_88 : decode cX6_runs 88 = .ok (.iload_n 1, 1) := by decide +kernel
theorem dX6_runs_89 : decode cX6_runs 89 = .ok (.iaload, 1) := by decide +kernel
theorem dX6_runs_90 : decode cX6_runs 90 = .ok (.invokevirtual 130, 3) := by decide +kernel
theorem dX6_runs_93 : decode cX6_runs 93 = .ok (.goto (-93), 3) := by decide +kernel
theorem dX6_runs_96 : decode cX6_runs 96 = .ok (.aload_n 0, 1) := by decide +kernel
theorem dX6_runs_97 : decode cX6_runs 97 = .ok (.getfield 119, 3) := by decide +kernel
theorem dX6_runs_100 : decode cX6_runs 100 = .ok (.ireturn, 1) := by decide +kernel
theorem dX6_asksAbove_0 : decode cX6_asksAbove 0 = .ok (.aload_n 0, 1) := by decide +kernel
theorem dX6_asksAbove_1 : decode cX6_asksAbove 1 = .ok (.getfield 74, 3) := by decide +kernel
theorem dX6_asksAbove_4 : decode cX6_asksAbove 4 = .ok (.iload_n 1, 1) := by decide +kernel
theorem dX6_asksAbove_5 : decode cX6_asksAbove 5 = .ok (.iload_n 3, 1) := by decide +kernel
theorem dX6_asksAbove_6 : decode cX6_asksAbove 6 = .ok (.iastore, 1) := by decide +kernel
theorem dX6_asksAbove_7 : decode cX6_asksAbove 7 = .ok (.aload_n 0, 1) := by decide +kernel
theorem dX6_asksAbove_8 : decode cX6_asksAbove 8 = .ok (.iconst 0, 1) := by decide +kernel
theorem dX6_asksAbove_9 : decode cX6_asksAbove 9 = .ok (.bipush 31, 2) := by decide +kernel
theorem dX6_asksAbove_11 : decode cX6_asksAbove 11 = .ok (.aload_n 0, 1) := by decide +kernel
theorem dX6_asksAbove_12 : decode cX6_asksAbove 12 = .ok (.getfield 25, 3) := by decide +kernel
theorem dX6_asksAbove_15 : decode cX6_asksAbove 15 = .ok (.iload_n 2, 1) := by decide +kernel
theorem dX6_asksAbove_16 : decode cX6_asksAbove 16 = .ok (.bipush 31, 2) := by decide +kernel
theorem dX6_asksAbove_18 : decode cX6_asksAbove 18 = .ok (.idiv, 1) := by decide +kernel
theorem dX6_asksAbove_19 : decode cX6_asksAbove 19 = .ok (.iaload, 1) := by decide +kernel
theorem dX6_asksAbove_20 : decode cX6_asksAbove 20 = .ok (.imul, 1) := by decide +kernel
theorem dX6_asksAbove_21 : decode cX6_asksAbove 21 = .ok (.iload_n 2, 1) := by decide +kernel
theorem dX6_asksAbove_22 : decode cX6_asksAbove 22 = .ok (.bipush 31, 2) := by decide +kernel
theorem dX6_asksAbove_24 : decode cX6_asksAbove 24 = .ok (.irem, 1) := by decide +kernel
theorem dX6_asksAbove_25 : decode cX6_asksAbove 25 = .ok (.iadd, 1) := by decide +kernel
theorem dX6_asksAbove_26 : decode cX6_asksAbove 26 = .ok (.iconst (-1), 1) := by decide +kernel
theorem dX6_asksAbove_27 : decode cX6_asksAbove 27 = .ok (.iconst 0, 1) := by decide +kernel
theorem dX6_asksAbove_28 : decode cX6_asksAbove 28 = .ok (.invokevirtual 133, 3) := by decide +kernel
theorem dX6_asksAbove_31 : decode cX6_asksAbove 31 = .ok (.return_, 1) := by decide +kernel
theorem dX6_asks_0 : decode cX6_asks 0 = .ok (.iload_n 2, 1) := by decide +kernel
theorem dX6_asks_1 : decode cX6_asks 1 = .ok (.bipush 31, 2) := by decide +kernel
theorem dX6_asks_3 : decode cX6_asks 3 = .ok (.idiv, 1) := by decide +kernel
theorem dX6_asks_4 : decode cX6_asks 4 = .ok (.istore_n 3, 1) := by decide +kernel
theorem dX6_asks_5 : decode cX6_asks 5 = .ok (.aload_n 0, 1) := by decide +kernel
theorem dX6_asks_6 : decode cX6_asks 6 = .ok (.getfield 25, 3) := by decide +kernel
theorem dX6_asks_9 : decode cX6_asks 9 = .ok (.iload_n 3, 1) := by decide +kernel
theorem dX6_asks_10 : decode cX6_asks 10 = .ok (.iaload, 1) := by decide +kernel
theorem dX6_asks_11 : decode cX6_asks 11 = .ok (.iconst (-1), 1) := by decide +kernel
theorem dX6_asks_12 : decode cX6_asks 12 = .ok (.if_icmp .eq 7, 3) := by decide +kernel
theorem dX6_asks_15 : decode cX6_asks 15 = .ok (.iconst 1, 1) := by decide +kernel
theorem dX6_asks_16 : decode cX6_asks 16 = .ok (.goto 4, 3) := by decide +kernel
theorem dX6_asks_19 : decode cX6_asks 19 = .ok (.iconst 0, 1) := by decide +kernel
theorem dX6_asks_20 : decode cX6_asks 20 = .ok (.istore 4, 2) := by decide +kernel
theorem dX6_asks_22 : decode cX6_asks 22 = .ok (.aload_n 0, 1) := by decide +kernel
theorem dX6_asks_23 : decode cX6_asks 23 = .ok (.getfield 74, 3) := by decide +kernel
theorem dX6_asks_26 : decode cX6_asks 26 = .ok (.iload_n 1, 1) := by decide +kernel
theorem dX6_asks_27 : decode cX6_asks 27 = .ok (.iaload, 1) := by decide +kernel
theorem dX6_asks_28 : decode cX6_asks 28 = .ok (.tableswitch 214 0 3 #[32, 112, 138, 203], 32) := by decide +kernel
theorem dX6_asks_60 : decode cX6_asks 60 = .ok (.aload_n 0, 1) := by decide +kernel
theorem dX6_asks_61 : decode cX6_asks 61 = .ok (.getfield 38, 3) := by decide +kernel
theorem dX6_asks_64 : decode cX6_asks 64 = .ok (.iload_n 2, 1) := by decide +kernel
theorem dX6_asks_65 : decode cX6_asks 65 = .ok (.iaload, 1) := by decide +kernel
theorem dX6_asks_66 : decode cX6_asks 66 = .ok (.iconst (-1), 1) := by decide +kernel
theorem dX6_asks_67 : decode cX6_asks 67 = .ok (.if_icmp .eq 16, 3) := by decide +kernel
theorem dX6_asks_70 : decode cX6_asks 70 = .ok (.aload_n 0, 1) := by decide +kernel
theorem dX6_asks_71 : decode cX6_asks 71 = .ok (.aload_n 0, 1) := by decide +kernel
theorem dX6_asks_72 : decode cX6_asks 72 = .ok (.getfield 38, 3) := by decide +kernel
theorem dX6_asks_75 : decode cX6_asks 75 = .ok (.iload_n 2, 1) := by decide +kernel
theorem dX6_asks_76 : decode cX6_asks 76 = .ok (.iaload, 1) := by decide +kernel
theorem dX6_asks_77 : decode cX6_asks 77 = .ok (.invokevirtual 137, 3) := by decide +kernel
theorem dX6_asks_80 : decode cX6_asks 80 = .ok (.goto 167, 3) := by decide +kernel
theorem dX6_asks_83 : decode cX6_asks 83 = .ok (.aload_n 0, 1) := by decide +kernel
theorem dX6_asks_84 : decode cX6_asks 84 = .ok (.getfield 41, 3) := by decide +kernel
theorem dX6_asks_87 : decode cX6_asks 87 = .ok (.iload_n 2, 1) := by decide +kernel
theorem dX6_asks_88 : decode cX6_asks 88 = .ok (.iaload, 1) := by decide +kernel
theorem dX6_asks_89 : decode cX6_asks 89 = .ok (.iconst (-1), 1) := by decide +kernel
theorem dX6_asks_90 : decode cX6_asks 90 = .ok (.if_icmp .eq 16, 3) := by decide +kernel
theorem dX6_asks_93 : decode cX6_asks 93 = .ok (.aload_n 0, 1) := by decide +kernel
theorem dX6_asks_94 : decode cX6_asks 94 = .ok (.aload_n 0, 1) := by decide +kernel
theorem dX6_asks_95 : decode cX6_asks 95 = .ok (.getfield 41, 3) := by decide +kernel
theorem dX6_asks_98 : decode cX6_asks 98 = .ok (.iload_n 2, 1) := by decide +kernel
theorem dX6_asks_99 : decode cX6_asks 99 = .ok (.iaload, 1) := by decide +kernel
theorem dX6_asks_100 : decode cX6_asks 100 = .ok (.invokevirtual 137, 3) := by decide +kernel
theorem dX6_asks_103 : decode cX6_asks 103 = .ok (.goto 144, 3) := by decide +kernel
theorem dX6_asks_106 : decode cX6_asks 106 = .ok (.iload 4, 2) := by decide +kernel
theorem dX6_asks_108 : decode cX6_asks 108 = .ok (.ifCond .eq 22, 3) := by decide +kernel
theorem dX6_asks_111 : decode cX6_asks 111 = .ok (.aload_n 0, 1) := by decide +kernel
theorem dX6_asks_112 : decode cX6_asks 112 = .ok (.getfield 28, 3) := by decide +kernel
theorem dX6_asks_115 : decode cX6_asks 115 = .ok (.iload_n 3, 1) := by decide +kernel
theorem dX6_asks_116 : decode cX6_asks 116 = .ok (.baload, 1) := by decide +kernel
theorem dX6_asks_117 : decode cX6_asks 117 = .ok (.ifCond .ne 13, 3) := by decide +kernel
theorem dX6_asks_120 : decode cX6_asks 120 = .ok (.aload_n 0, 1) := by decide +kernel
theorem dX6_asks_121 : decode cX6_asks 121 = .ok (.iload_n 1, 1) := by decide +kernel
theorem dX6_asks_122 : decode cX6_asks 122 = .ok (.iload_n 2, 1) := by decide +kernel
theorem dX6_asks_123 : decode cX6_asks 123 = .ok (.iconst 1, 1) := by decide +kernel
theorem dX6_asks_124 : decode cX6_asks 124 = .ok (.invokevirtual 141, 3) := by decide +kernel
theorem dX6_asks_127 : decode cX6_asks 127 = .ok (.goto 120, 3) := by decide +kernel
theorem dX6_asks_130 : decode cX6_asks 130 = .ok (.aload_n 0, 1) := by decide +kernel
theorem dX6_asks_131 : decode cX6_asks 131 = .ok (.getfield 74, 3) := by decide +kernel
theorem dX6_asks_134 : decode cX6_asks 134 = .ok (.iload_n 1, 1) := by decide +kernel
theorem dX6_asks_135 : decode cX6_asks 135 = .ok (.iconst 2, 1) := by decide +kernel
theorem dX6_asks_136 : decode cX6_asks 136 = .ok (.iastore, 1) := by decide +kernel
theorem dX6_asks_137 : decode cX6_asks 137 = .ok (.goto 110, 3) := by decide +kernel
theorem dX6_asks_140 : decode cX6_asks 140 = .ok (.aload_n 0, 1) := by decide +kernel
theorem dX6_asks_141 : decode cX6_asks 141 = .ok (.getfield 119, 3) := by decide +kernel
theorem dX6_asks_144 : decode cX6_asks 144 = .ok (.iconst (-1), 1) := by decide +kernel
theorem dX6_asks_145 : decode cX6_asks 145 = .ok (.if_icmp .ne 13, 3) := by decide +kernel
theorem dX6_asks_148 : decode cX6_asks 148 = .ok (.aload_n 0, 1) := by decide +kernel
theorem dX6_asks_149 : decode cX6_asks 149 = .ok (.getfield 74, 3) := by decide +kernel
theorem dX6_asks_152 : decode cX6_asks 152 = .ok (.iload_n 1, 1) := by decide +kernel
theorem dX6_asks_153 : decode cX6_asks 153 = .ok (.iconst 2, 1) := by decide +kernel
theorem dX6_asks_154 : decode cX6_asks 154 = .ok (.iastore, 1) := by decide +kernel
theorem dX6_asks_155 : decode cX6_asks 155 = .ok (.goto 92, 3) := by decide +kernel
theorem dX6_asks_158 : decode cX6_asks 158 = .ok (.aload_n 0, 1) := by decide +kernel
theorem dX6_asks_159 : decode cX6_asks 159 = .ok (.iload_n 2, 1) := by decide +kernel
theorem dX6_asks_160 : decode cX6_asks 160 = .ok (.invokevirtual 144, 3) := by decide +kernel
theorem dX6_asks_163 : decode cX6_asks 163 = .ok (.goto 84, 3) := by decide +kernel
theorem dX6_asks_166 : decode cX6_asks 166 = .ok (.aload_n 0, 1) := by decide +kernel
theorem dX6_asks_167 : decode cX6_asks 167 = .ok (.getfield 35, 3) := by decide +kernel
theorem dX6_asks_170 : decode cX6_asks 170 = .ok (.iload_n 2, 1) := by decide +kernel
theorem dX6_asks_171 : decode cX6_asks 171 = .ok (.iaload, 1) := by decide +kernel
theorem dX6_asks_172 : decode cX6_asks 172 = .ok (.iconst (-1), 1) := by decide +kernel
theorem dX6_asks_173 : decode cX6_asks 173 = .ok (.if_icmp .eq 26, 3) := by decide +kernel
theorem dX6_asks_176 : decode cX6_asks 176 = .ok (.aload_n 0, 1) := by decide +kernel
theorem dX6_asks_177 : decode cX6_asks 177 = .ok (.getfield 74, 3) := by decide +kernel
theorem dX6_asks_180 : decode cX6_asks 180 = .ok (.iload_n 1, 1) := by decide +kernel
theorem dX6_asks_181 : decode cX6_asks 181 = .ok (.iconst 3, 1) := by decide +kernel
theorem dX6_asks_182 : decode cX6_asks 182 = .ok (.iastore, 1) := by decide +kernel
theorem dX6_asks_183 : decode cX6_asks 183 = .ok (.aload_n 0, 1) := by decide +kernel
theorem dX6_asks_184 : decode cX6_asks 184 = .ok (.iconst 1, 1) := by decide +kernel
theorem dX6_asks_185 : decode cX6_asks 185 = .ok (.iload_n 2, 1) := by decide +kernel
theorem dX6_asks_186 : decode cX6_asks 186 = .ok (.aload_n 0, 1) := by decide +kernel
theorem dX6_asks_187 : decode cX6_asks 187 = .ok (.getfield 35, 3) := by decide +kernel
theorem dX6_asks_190 : decode cX6_asks 190 = .ok (.iload_n 2, 1) := by decide +kernel
theorem dX6_asks_191 : decode cX6_asks 191 = .ok (.iaload, 1) := by decide +kernel
theorem dX6_asks_192 : decode cX6_asks 192 = .ok (.iconst 0, 1) := by decide +kernel
theorem dX6_asks_193 : decode cX6_asks 193 = .ok (.invokevirtual 133, 3) := by decide +kernel
theorem dX6_asks_196 : decode cX6_asks 196 = .ok (.goto 51, 3) := by decide +kernel
theorem dX6_asks_199 : decode cX6_asks 199 = .ok (.iload 4, 2) := by decide +kernel
theorem dX6_asks_201 : decode cX6_asks 201 = .ok (.ifCond .eq 22, 3) := by decide +kernel
theorem dX6_asks_204 : decode cX6_asks 204 = .ok (.aload_n 0, 1) := by decide +kernel
theorem dX6_asks_205 : decode cX6_asks 205 = .ok (.getfield 28, 3) := by decide +kernel
theorem dX6_asks_208 : decode cX6_asks 208 = .ok (.iload_n 3, 1) := by decide +kernel
theorem dX6_asks_209 : decode cX6_asks 209 = .ok (.baload, 1) := by decide +kernel
theorem dX6_asks_210 : decode cX6_asks 210 = .ok (.ifCond .eq 13, 3) := by decide +kernel
theorem dX6_asks_213 : decode cX6_asks 213 = .ok (.aload_n 0, 1) := by decide +kernel
theorem dX6_asks_214 : decode cX6_asks 214 = .ok (.iload_n 1, 1) := by decide +kernel
theorem dX6_asks_215 : decode cX6_asks 215 = .ok (.iload_n 2, 1) := by decide +kernel
theorem dX6_asks_216 : decode cX6_asks 216 = .ok (.iconst 4, 1) := by decide +kernel
theorem dX6_asks_217 : decode cX6_asks 217 = .ok (.invokevirtual 141, 3) := by decide +kernel
theorem dX6_asks_220 : decode cX6_asks 220 = .ok (.goto 27, 3) := by decide +kernel
theorem dX6_asks_223 : decode cX6_asks 223 = .ok (.aload_n 0, 1) := by decide +kernel
theorem dX6_asks_224 : decode cX6_asks 224 = .ok (.iconst (-1), 1) := by decide +kernel
theorem dX6_asks_225 : decode cX6_asks 225 = .ok (.invokevirtual 137, 3) := by decide +kernel
theorem dX6_asks_228 : decode cX6_asks 228 = .ok (.goto 19, 3) := by decide +kernel
theorem dX6_asks_231 : decode cX6_asks 231 = .ok (.aload_n 0, 1) := by decide +kernel
theorem dX6_asks_232 : decode cX6_asks 232 = .ok (.aload_n 0, 1) := by decide +kernel
theorem dX6_asks_233 : decode cX6_asks 233 = .ok (.getfield 119, 3) := by decide +kernel
theorem dX6_asks_236 : decode cX6_asks 236 = .ok (.invokevirtual 137, 3) := by decide +kernel
theorem dX6_asks_239 : decode cX6_asks 239 = .ok (.goto 8, 3) := by decide +kernel
theorem dX6_asks_242 : decode cX6_asks 242 = .ok (.aload_n 0, 1) := by decide +kernel
theorem dX6_asks_243 : decode cX6_asks 243 = .ok (.iload_n 2, 1) := by decide +kernel
theorem dX6_asks_244 : decode cX6_asks 244 = .ok (.invokevirtual 144, 3) := by decide +kernel
theorem dX6_asks_247 : decode cX6_asks 247 = .ok (.return_, 1) := by decide +kernel
theorem dX6_keeps_0 : decode cX6_keeps 0 = .ok (.aload_n 0, 1) := by decide +kernel
theorem dX6_keeps_1 : decode cX6_keeps 1 = .ok (.getfield 41, 3) := by decide +kernel
theorem dX6_keeps_4 : decode cX6_keeps 4 = .ok (.iload_n 1, 1) := by decide +kernel
theorem dX6_keeps_5 : decode cX6_keeps 5 = .ok (.aload_n 0, 1) := by decide +kernel
theorem dX6_keeps_6 : decode cX6_keeps 6 = .ok (.getfield 119, 3) := by decide +kernel
theorem dX6_keeps_9 : decode cX6_keeps 9 = .ok (.ifCond .lt 10, 3) := by decide +kernel
theorem dX6_keeps_12 : decode cX6_keeps 12 = .ok (.aload_n 0, 1) := by decide +kernel
theorem dX6_keeps_13 : decode cX6_keeps 13 = .ok (.getfield 119, 3) := by decide +kernel
theorem dX6_keeps_16 : decode cX6_keeps 16 = .ok (.goto 9, 3) := by decide +kernel
theorem dX6_keeps_19 : decode cX6_keeps 19 = .ok (.aload_n 0, 1) := by decide +kernel
theorem dX6_keeps_20 : decode cX6_keeps 20 = .ok (.getfield 41, 3) := by decide +kernel
theorem dX6_keeps_23 : decode cX6_keeps 23 = .ok (.iload_n 1, 1) := by decide +kernel
theorem dX6_keeps_24 : decode cX6_keeps 24 = .ok (.iaload, 1) := by decide +kernel
theorem dX6_keeps_25 : decode cX6_keeps 25 = .ok (.iastore, 1) := by decide +kernel
theorem dX6_keeps_26 : decode cX6_keeps 26 = .ok (.aload_n 0, 1) := by decide +kernel
theorem dX6_keeps_27 : decode cX6_keeps 27 = .ok (.aload_n 0, 1) := by decide +kernel
theorem dX6_keeps_28 : decode cX6_keeps 28 = .ok (.getfield 119, 3) := by decide +kernel
theorem dX6_keeps_31 : decode cX6_keeps 31 = .ok (.invokevirtual 137, 3) := by decide +kernel
theorem dX6_keeps_34 : decode cX6_keeps 34 = .ok (.return_, 1) := by decide +kernel
theorem dX6_against_0 : decode cX6_against 0 = .ok (.iload_n 2, 1) := by decide +kernel
theorem dX6_against_1 : decode cX6_against 1 = .ok (.bipush 31, 2) := by decide +kernel
theorem dX6_against_3 : decode cX6_against 3 = .ok (.irem, 1) := by decide +kernel
theorem dX6_against_4 : decode cX6_against 4 = .ok (.istore 4, 2) := by decide +kernel
theorem dX6_against_6 : decode cX6_against 6 = .ok (.aload_n 0, 1) := by decide +kernel
theorem dX6_against_7 : decode cX6_against 7 = .ok (.getfield 83, 3) := by decide +kernel
theorem dX6_against_10 : decode cX6_against 10 = .ok (.iload_n 1, 1) := by decide +kernel
theorem dX6_against_11 : decode cX6_against 11 = .ok (.baload, 1) := by decide +kernel
theorem dX6_against_12 : decode cX6_against 12 = .ok (.ifCond .ne 15, 3) := by decide +kernel
theorem dX6_against_15 : decode cX6_against 15 = .ok (.aload_n 0, 1) := by decide +kernel
theorem dX6_against_16 : decode cX6_against 16 = .ok (.getfield 38, 3) := by decide +kernel
theorem dX6_against_19 : decode cX6_against 19 = .ok (.iload_n 2, 1) := by decide +kernel
theorem dX6_against_20 : decode cX6_against 20 = .ok (.iaload, 1) := by decide +kernel
theorem dX6_against_21 : decode cX6_against 21 = .ok (.iconst (-1), 1) := by decide +kernel
theorem dX6_against_22 : decode cX6_against 22 = .ok (.if_icmp .eq 5, 3) := by decide +kernel
theorem dX6_against_25 : decode cX6_against 25 = .ok (.iconst 2, 1) := by decide +kernel
theorem dX6_against_26 : decode cX6_against 26 = .ok (.ireturn, 1) := by decide +kernel
theorem dX6_against_27 : decode cX6_against 27 = .ok (.aload_n 0, 1) := by decide +kernel
theorem dX6_against_28 : decode cX6_against 28 = .ok (.getfield 7, 3) := by decide +kernel
theorem dX6_against_31 : decode cX6_against 31 = .ok (.iload_n 3, 1) := by decide +kernel
theorem dX6_against_32 : decode cX6_against 32 = .ok (.iaload, 1) := by decide +kernel
theorem dX6_against_33 : decode cX6_against 33 = .ok (.iload 4, 2) := by decide +kernel
theorem dX6_against_35 : decode cX6_against 35 = .ok (.if_icmp .eq 5, 3) := by decide +kernel
theorem dX6_against_38 : decode cX6_against 38 = .ok (.iconst 3, 1) := by decide +kernel
theorem dX6_against_39 : decode cX6_against 39 = .ok (.ireturn, 1) := by decide +kernel
theorem dX6_against_40 : decode cX6_against 40 = .ok (.iload 4, 2) := by decide +kernel
theorem dX6_against_42 : decode cX6_against 42 = .ok (.iconst 4, 1) := by decide +kernel
theorem dX6_against_43 : decode cX6_against 43 = .ok (.if_icmp .ge 18, 3) := by decide +kernel
theorem dX6_against_46 : decode cX6_against 46 = .ok (.aload_n 0, 1) := by decide +kernel
theorem dX6_against_47 : decode cX6_against 47 = .ok (.getfield 25, 3) := by decide +kernel
theorem dX6_against_50 : decode cX6_against 50 = .ok (.iload_n 2, 1) := by decide +kernel
theorem dX6_against_51 : decode cX6_against 51 = .ok (.bipush 31, 2) := by decide +kernel
theorem dX6_against_53 : decode cX6_against 53 = .ok (.idiv, 1) := by decide +kernel
theorem dX6_against_54 : decode cX6_against 54 = .ok (.iaload, 1) := by decide +kernel
theorem dX6_against_55 : decode cX6_against 55 = .ok (.iconst (-1), 1) := by decide +kernel
theorem dX6_against_56 : decode cX6_against 56 = .ok (.if_icmp .eq 5, 3) := by decide +kernel
theorem dX6_against_59 : decode cX6_against 59 = .ok (.iconst 4, 1) := by decide +kernel
theorem dX6_against_60 : decode cX6_against 60 = .ok (.ireturn, 1) := by decide +kernel
theorem dX6_against_61 : decode cX6_against 61 = .ok (.aload_n 0, 1) := by decide +kernel
theorem dX6_against_62 : decode cX6_against 62 = .ok (.getfield 22, 3) := by decide +kernel
theorem dX6_against_65 : decode cX6_against 65 = .ok (.iload_n 3, 1) := by decide +kernel
theorem dX6_against_66 : decode cX6_against 66 = .ok (.iaload, 1) := by decide +kernel
theorem dX6_against_67 : decode cX6_against 67 = .ok (.iconst 1, 1) := by decide +kernel
theorem dX6_against_68 : decode cX6_against 68 = .ok (.iand, 1) := by decide +kernel
theorem dX6_against_69 : decode cX6_against 69 = .ok (.iconst 1, 1) := by decide +kernel
theorem dX6_against_70 : decode cX6_against 70 = .ok (.if_icmp .ne 6, 3) := by decide +kernel
theorem dX6_against_73 : decode cX6_against 73 = .ok (.bipush 6, 2) := by decide +kernel
theorem dX6_against_75 : decode cX6_against 75 = .ok (.ireturn, 1) := by decide +kernel
theorem dX6_against_76 : decode cX6_against 76 = .ok (.aload_n 0, 1) := by decide +kernel
theorem dX6_against_77 : decode cX6_against 77 = .ok (.getfield 16, 3) := by decide +kernel
theorem dX6_against_80 : decode cX6_against 80 = .ok (.iload_n 3, 1) := by decide +kernel
theorem dX6_against_81 : decode cX6_against 81 = .ok (.iaload, 1) := by decide +kernel
theorem dX6_against_82 : decode cX6_against 82 = .ok (.istore 5, 2) := by decide +kernel
theorem dX6_against_84 : decode cX6_against 84 = .ok (.iload 5, 2) := by decide +kernel
theorem dX6_against_86 : decode cX6_against 86 = .ok (.iconst (-1), 1) := by decide +kernel
theorem dX6_against_87 : decode cX6_against 87 = .ok (.if_icmp .eq 29, 3) := by decide +kernel
theorem dX6_against_90 : decode cX6_against 90 = .ok (.iload 5, 2) := by decide +kernel
theorem dX6_against_92 : decode cX6_against 92 = .ok (.iload 4, 2) := by decide +kernel
theorem dX6_against_94 : decode cX6_against 94 = .ok (.if_icmp .eq 18, 3) := by decide +kernel
theorem dX6_against_97 : decode cX6_against 97 = .ok (.aload_n 0, 1) := by decide +kernel
theorem dX6_against_98 : decode cX6_against 98 = .ok (.getfield 44, 3) := by decide +kernel
theorem dX6_against_101 : decode cX6_against 101 = .ok (.iload_n 2, 1) := by decide +kernel
theorem dX6_against_102 : decode cX6_against 102 = .ok (.iload 4, 2) := by decide +kernel
theorem dX6_against_104 : decode cX6_against 104 = .ok (.isub, 1) := by decide +kernel
theorem dX6_against_105 : decode cX6_against 105 = .ok (.iload 5, 2) := by decide +kernel
theorem dX6_against_107 : decode cX6_against 107 = .ok (.iadd, 1) := by decide +kernel
theorem dX6_against_108 : decode cX6_against 108 = .ok (.baload, 1) := by decide +kernel
theorem dX6_against_109 : decode cX6_against 109 = .ok (.ifCond .eq 7, 3) := by decide +kernel
theorem dX6_against_112 : decode cX6_against 112 = .ok (.iconst 5, 1) := by decide +kernel
theorem dX6_against_113 : decode cX6_against 113 = .ok (.goto 4, 3) := by decide +kernel
theorem dX6_against_116 : decode cX6_against 116 = .ok (.iconst 0, 1) := by decide +kernel
theorem dX6_against_117 : decode cX6_against 117 = .ok (.ireturn, 1) := by decide +kernel
theorem dX6_makes_0 : decode cX6_makes 0 = .ok (.aload_n 0, 1) := by decide +kernel
theorem dX6_makes_1 : decode cX6_makes 1 = .ok (.getfield 74, 3) := by decide +kernel
theorem dX6_makes_4 : decode cX6_makes 4 = .ok (.iload_n 1, 1) := by decide +kernel
theorem dX6_makes_5 : decode cX6_makes 5 = .ok (.iaload, 1) := by decide +kernel
theorem dX6_makes_6 : decode cX6_makes 6 = .ok (.ifCond .ne 82, 3) := by decide +kernel
theorem dX6_makes_9 : decode cX6_makes 9 = .ok (.aload_n 0, 1) := by decide +kernel
theorem dX6_makes_10 : decode cX6_makes 10 = .ok (.iload_n 1, 1) := by decide +kernel
theorem dX6_makes_11 : decode cX6_makes 11 = .ok (.iload_n 2, 1) := by decide +kernel
theorem dX6_makes_12 : decode cX6_makes 12 = .ok (.iload_n 3, 1) := by decide +kernel
theorem dX6_makes_13 : decode cX6_makes 13 = .ok (.invokevirtual 147, 3) := by decide +kernel
theorem dX6_makes_16 : decode cX6_makes 16 = .ok (.istore 4, 2) := by decide +kernel
theorem dX6_makes_18 : decode cX6_makes 18 = .ok (.iload 4, 2) := by decide +kernel
theorem dX6_makes_20 : decode cX6_makes 20 = .ok (.ifCond .le 13, 3) := by decide +kernel
theorem dX6_makes_23 : decode cX6_makes 23 = .ok (.aload_n 0, 1) := by decide +kernel
theorem dX6_makes_24 : decode cX6_makes 24 = .ok (.iload 4, 2) := by decide +kernel
theorem dX6_makes_26 : decode cX6_makes 26 = .ok (.ineg, 1) := by decide +kernel
theorem dX6_makes_27 : decode cX6_makes 27 = .ok (.invokevirtual 137, 3) := by decide +kernel
theorem dX6_makes_30 : decode cX6_makes 30 = .ok (.goto 57, 3) := by decide +kernel
theorem dX6_makes_33 : decode cX6_makes 33 = .ok (.aload_n 0, 1) := by decide +kernel
theorem dX6_makes_34 : decode cX6_makes 34 = .ok (.getfield 16, 3) := by decide +kernel
theorem dX6_makes_37 : decode cX6_makes 37 = .ok (.iload_n 3, 1) := by decide +kernel
theorem dX6_makes_38 : decode cX6_makes 38 = .ok (.iaload, 1) := by decide +kernel
theorem dX6_makes_39 : decode cX6_makes 39 = .ok (.iconst (-1), 1) := by decide +kernel
theorem dX6_makes_40 : decode cX6_makes 40 = .ok (.if_icmp .ne 13, 3) := by decide +kernel
theorem dX6_makes_43 : decode cX6_makes 43 = .ok (.aload_n 0, 1) := by decide +kernel
theorem dX6_makes_44 : decode cX6_makes 44 = .ok (.iload_n 2, 1) := by decide +kernel
theorem dX6_makes_45 : decode cX6_makes 45 = .ok (.iload_n 3, 1) := by decide +kernel
theorem dX6_makes_46 : decode cX6_makes 46 = .ok (.iconst (-1), 1) := by decide +kernel
theorem dX6_makes_47 : decode cX6_makes 47 = .ok (.invokevirtual 151, 3) := by decide +kernel
theorem dX6_makes_50 : decode cX6_makes 50 = .ok (.goto 37, 3) := by decide +kernel
theorem dX6_makes_53 : decode cX6_makes 53 = .ok (.aload_n 0, 1) := by decide +kernel
theorem dX6_makes_54 : decode cX6_makes 54 = .ok (.getfield 44, 3) := by decide +kernel
theorem dX6_makes_57 : decode cX6_makes 57 = .ok (.iload_n 2, 1) := by decide +kernel
theorem dX6_makes_58 : decode cX6_makes 58 = .ok (.iconst 1, 1) := by decide +kernel
theorem dX6_makes_59 : decode cX6_makes 59 = .ok (.bastore, 1) := by decide +kernel
theorem dX6_makes_60 : decode cX6_makes 60 = .ok (.aload_n 0, 1) := by decide +kernel
theorem dX6_makes_61 : decode cX6_makes 61 = .ok (.getfield 74, 3) := by decide +kernel
theorem dX6_makes_64 : decode cX6_makes 64 = .ok (.iload_n 1, 1) := by decide +kernel
theorem dX6_makes_65 : decode cX6_makes 65 = .ok (.iconst 1, 1) := by decide +kernel
theorem dX6_makes_66 : decode cX6_makes 66 = .ok (.iastore, 1) := by decide +kernel
theorem dX6_makes_67 : decode cX6_makes 67 = .ok (.aload_n 0, 1) := by decide +kernel
theorem dX6_makes_68 : decode cX6_makes 68 = .ok (.iconst 0, 1) := by decide +kernel
theorem dX6_makes_69 : decode cX6_makes 69 = .ok (.iload_n 2, 1) := by decide +kernel
theorem dX6_makes_70 : decode cX6_makes 70 = .ok (.iload_n 2, 1) := by decide +kernel
theorem dX6_makes_71 : decode cX6_makes 71 = .ok (.bipush 31, 2) := by decide +kernel
theorem dX6_makes_73 : decode cX6_makes 73 = .ok (.irem, 1) := by decide +kernel
theorem dX6_makes_74 : decode cX6_makes 74 = .ok (.isub, 1) := by decide +kernel
theorem dX6_makes_75 : decode cX6_makes 75 = .ok (.aload_n 0, 1) := by decide +kernel
theorem dX6_makes_76 : decode cX6_makes 76 = .ok (.getfield 16, 3) := by decide +kernel
theorem dX6_makes_79 : decode cX6_makes 79 = .ok (.iload_n 3, 1) := by decide +kernel
theorem dX6_makes_80 : decode cX6_makes 80 = .ok (.iaload, 1) := by decide +kernel
theorem dX6_makes_81 : decode cX6_makes 81 = .ok (.iadd, 1) := by decide +kernel
theorem dX6_makes_82 : decode cX6_makes 82 = .ok (.iconst (-1), 1) := by decide +kernel
theorem dX6_makes_83 : decode cX6_makes 83 = .ok (.iconst 0, 1) := by decide +kernel
theorem dX6_makes_84 : decode cX6_makes 84 = .ok (.invokevirtual 133, 3) := by decide +kernel
theorem dX6_makes_87 : decode cX6_makes 87 = .ok (.return_, 1) := by decide +kernel
theorem dX6_makes_88 : decode cX6_makes 88 = .ok (.aload_n 0, 1) := by decide +kernel
theorem dX6_makes_89 : decode cX6_makes 89 = .ok (.getfield 44, 3) := by decide +kernel
theorem dX6_makes_92 : decode cX6_makes 92 = .ok (.iload_n 2, 1) := by decide +kernel
theorem dX6_makes_93 : decode cX6_makes 93 = .ok (.iconst 0, 1) := by decide +kernel
theorem dX6_makes_94 : decode cX6_makes 94 = .ok (.bastore, 1) := by decide +kernel
theorem dX6_makes_95 : decode cX6_makes 95 = .ok (.aload_n 0, 1) := by decide +kernel
theorem dX6_makes_96 : decode cX6_makes 96 = .ok (.getfield 119, 3) := by decide +kernel
theorem dX6_makes_99 : decode cX6_makes 99 = .ok (.ifCond .ge 14, 3) := by decide +kernel
theorem dX6_makes_102 : decode cX6_makes 102 = .ok (.aload_n 0, 1) := by decide +kernel
theorem dX6_makes_103 : decode cX6_makes 103 = .ok (.aload_n 0, 1) := by decide +kernel
theorem dX6_makes_104 : decode cX6_makes 104 = .ok (.getfield 119, 3) := by decide +kernel
theorem dX6_makes_107 : decode cX6_makes 107 = .ok (.invokevirtual 137, 3) := by decide +kernel
theorem dX6_makes_110 : decode cX6_makes 110 = .ok (.goto 13, 3) := by decide +kernel
theorem dX6_makes_113 : decode cX6_makes 113 = .ok (.aload_n 0, 1) := by decide +kernel
theorem dX6_makes_114 : decode cX6_makes 114 = .ok (.iload_n 2, 1) := by decide +kernel
theorem dX6_makes_115 : decode cX6_makes 115 = .ok (.iload_n 3, 1) := by decide +kernel
theorem dX6_makes_116 : decode cX6_makes 116 = .ok (.aload_n 0, 1) := by decide +kernel
theorem dX6_makes_117 : decode cX6_makes 117 = .ok (.getfield 119, 3) := by decide +kernel
theorem dX6_makes_120 : decode cX6_makes 120 = .ok (.invokevirtual 151, 3) := by decide +kernel
theorem dX6_makes_123 : decode cX6_makes 123 = .ok (.return_, 1) := by decide +kernel
theorem dX6_stands_0 : decode cX6_stands 0 = .ok (.aload_n 0, 1) := by decide +kernel
theorem dX6_stands_1 : decode cX6_stands 1 = .ok (.getfield 47, 3) := by decide +kernel
theorem dX6_stands_4 : decode cX6_stands 4 = .ok (.aload_n 0, 1) := by decide +kernel
theorem dX6_stands_5 : decode cX6_stands 5 = .ok (.getfield 100, 3) := by decide +kernel
theorem dX6_stands_8 : decode cX6_stands 8 = .ok (.iload_n 1, 1) := by decide +kernel
theorem dX6_stands_9 : decode cX6_stands 9 = .ok (.bipush 31, 2) := by decide +kernel
theorem dX6_stands_11 : decode cX6_stands 11 = .ok (.idiv, 1) := by decide +kernel
theorem dX6_stands_12 : decode cX6_stands 12 = .ok (.iastore, 1) := by decide +kernel
theorem dX6_stands_13 : decode cX6_stands 13 = .ok (.aload_n 0, 1) := by decide +kernel
theorem dX6_stands_14 : decode cX6_stands 14 = .ok (.getfield 50, 3) := by decide +kernel
theorem dX6_stands_17 : decode cX6_stands 17 = .ok (.aload_n 0, 1) := by decide +kernel
theorem dX6_stands_18 : decode cX6_stands 18 = .ok (.getfield 100, 3) := by decide +kernel
theorem dX6_stands_21 : decode cX6_stands 21 = .ok (.iload_n 1, 1) := by decide +kernel
theorem dX6_stands_22 : decode cX6_stands 22 = .ok (.bipush 31, 2) := by decide +kernel
theorem dX6_stands_24 : decode cX6_stands 24 = .ok (.irem, 1) := by decide +kernel
theorem dX6_stands_25 : decode cX6_stands 25 = .ok (.iastore, 1) := by decide +kernel
theorem dX6_stands_26 : decode cX6_stands 26 = .ok (.aload_n 0, 1) := by decide +kernel
theorem dX6_stands_27 : decode cX6_stands 27 = .ok (.getfield 53, 3) := by decide +kernel
theorem dX6_stands_30 : decode cX6_stands 30 = .ok (.aload_n 0, 1) := by decide +kernel
theorem dX6_stands_31 : decode cX6_stands 31 = .ok (.getfield 100, 3) := by decide +kernel
theorem dX6_stands_34 : decode cX6_stands 34 = .ok (.iload_n 3, 1) := by decide +kernel
theorem dX6_stands_35 : decode cX6_stands 35 = .ok (.iastore, 1) := by decide +kernel
theorem dX6_stands_36 : decode cX6_stands 36 = .ok (.aload_n 0, 1) := by decide +kernel
theorem dX6_stands_37 : decode cX6_stands 37 = .ok (.getfield 56, 3) := by decide +kernel
theorem dX6_stands_40 : decode cX6_stands 40 = .ok (.aload_n 0, 1) := by decide +kernel
theorem dX6_stands_41 : decode cX6_stands 41 = .ok (.getfield 100, 3) := by decide +kernel
theorem dX6_stands_44 : decode cX6_stands 44 = .ok (.iload_n 2, 1) := by decide +kernel
theorem dX6_stands_45 : decode cX6_stands 45 = .ok (.iastore, 1) := by decide +kernel
theorem dX6_stands_46 : decode cX6_stands 46 = .ok (.aload_n 0, 1) := by decide +kernel
theorem dX6_stands_47 : decode cX6_stands 47 = .ok (.getfield 59, 3) := by decide +kernel
theorem dX6_stands_50 : decode cX6_stands 50 = .ok (.aload_n 0, 1) := by decide +kernel
theorem dX6_stands_51 : decode cX6_stands 51 = .ok (.getfield 100, 3) := by decide +kernel
theorem dX6_stands_54 : decode cX6_stands 54 = .ok (.iconst 0, 1) := by decide +kernel
theorem dX6_stands_55 : decode cX6_stands 55 = .ok (.iastore, 1) := by decide +kernel
theorem dX6_stands_56 : decode cX6_stands 56 = .ok (.aload_n 0, 1) := by decide +kernel
theorem dX6_stands_57 : decode cX6_stands 57 = .ok (.getfield 38, 3) := by decide +kernel
theorem dX6_stands_60 : decode cX6_stands 60 = .ok (.iload_n 1, 1) := by decide +kernel
theorem dX6_stands_61 : decode cX6_stands 61 = .ok (.aload_n 0, 1) := by decide +kernel
theorem dX6_stands_62 : decode cX6_stands 62 = .ok (.getfield 100, 3) := by decide +kernel
theorem dX6_stands_65 : decode cX6_stands 65 = .ok (.iastore, 1) := by decide +kernel
theorem dX6_stands_66 : decode cX6_stands 66 = .ok (.aload_n 0, 1) := by decide +kernel
theorem dX6_stands_67 : decode cX6_stands 67 = .ok (.dup, 1) := by decide +kernel
theorem dX6_stands_68 : decode cX6_stands 68 = .ok (.getfield 100, 3) := by decide +kernel
theorem dX6_stands_71 : decode cX6_stands 71 = .ok (.iconst 1, 1) := by decide +kernel
theorem dX6_stands_72 : decode cX6_stands 72 = .ok (.iadd, 1) := by decide +kernel
theorem dX6_stands_73 : decode cX6_stands 73 = .ok (.putfield 100, 3) := by decide +kernel
theorem dX6_stands_76 : decode cX6_stands 76 = .ok (.aload_n 0, 1) := by decide +kernel
theorem dX6_stands_77 : decode cX6_stands 77 = .ok (.aload_n 0, 1) := by decide +kernel
theorem dX6_stands_78 : decode cX6_stands 78 = .ok (.getfield 100, 3) := by decide +kernel
theorem dX6_stands_81 : decode cX6_stands 81 = .ok (.iconst 1, 1) := by decide +kernel
theorem dX6_stands_82 : decode cX6_stands 82 = .ok (.isub, 1) := by decide +kernel
theorem dX6_stands_83 : decode cX6_stands 83 = .ok (.invokevirtual 137, 3) := by decide +kernel
theorem dX6_stands_86 : decode cX6_stands 86 = .ok (.return_, 1) := by decide +kernel
theorem dX6_begins_0 : decode cX6_begins 0 = .ok (.aload_n 0, 1) := by decide +kernel
theorem dX6_begins_1 : decode cX6_begins 1 = .ok (.getfield 74, 3) := by decide +kernel
theorem dX6_begins_4 : decode cX6_begins 4 = .ok (.iload_n 1, 1) := by decide +kernel
theorem dX6_begins_5 : decode cX6_begins 5 = .ok (.iaload, 1) := by decide +kernel
theorem dX6_begins_6 : decode cX6_begins 6 = .ok (.ifCond .ne 76, 3) := by decide +kernel
theorem dX6_begins_9 : decode cX6_begins 9 = .ok (.aload_n 0, 1) := by decide +kernel
theorem dX6_begins_10 : decode cX6_begins 10 = .ok (.getfield 59, 3) := by decide +kernel
theorem dX6_begins_13 : decode cX6_begins 13 = .ok (.iload_n 2, 1) := by decide +kernel
theorem dX6_begins_14 : decode cX6_begins 14 = .ok (.iaload, 1) := by decide +kernel
theorem dX6_begins_15 : decode cX6_begins 15 = .ok (.ifCond .le 24, 3) := by decide +kernel
theorem dX6_begins_18 : decode cX6_begins 18 = .ok (.aload_n 0, 1) := by decide +kernel
theorem dX6_begins_19 : decode cX6_begins 19 = .ok (.aload_n 0, 1) := by decide +kernel
theorem dX6_begins_20 : decode cX6_begins 20 = .ok (.getfield 59, 3) := by decide +kernel
theorem dX6_begins_23 : decode cX6_begins 23 = .ok (.iload_n 2, 1) := by decide +kernel
theorem dX6_begins_24 : decode cX6_begins 24 = .ok (.iaload, 1) := by decide +kernel
theorem dX6_begins_25 : decode cX6_begins 25 = .ok (.iconst 2, 1) := by decide +kernel
theorem dX6_begins_26 : decode cX6_begins 26 = .ok (.if_icmp .ne 8, 3) := by decide +kernel
theorem dX6_begins_29 : decode cX6_begins 29 = .ok (.bipush (-8), 2) := by decide +kernel
theorem dX6_begins_31 : decode cX6_begins 31 = .ok (.goto 4, 3) := by decide +kernel
theorem dX6_begins_34 : decode cX6_begins 34 = .ok (.iconst 0, 1) := by decide +kernel
theorem dX6_begins_35 : decode cX6_begins 35 = .ok (.invokevirtual 137, 3) := by decide +kernel
theorem dX6_begins_38 : decode cX6_begins 38 = .ok (.return_, 1) := by decide +kernel
theorem dX6_begins_39 : decode cX6_begins 39 = .ok (.aload_n 0, 1) := by decide +kernel
theorem dX6_begins_40 : decode cX6_begins 40 = .ok (.getfield 59, 3) := by decide +kernel
theorem dX6_begins_43 : decode cX6_begins 43 = .ok (.iload_n 2, 1) := by decide +kernel
theorem dX6_begins_44 : decode cX6_begins 44 = .ok (.iconst 3, 1) := by decide +kernel
theorem dX6_begins_45 : decode cX6_begins 45 = .ok (.iastore, 1) := by decide +kernel
theorem dX6_begins_46 : decode cX6_begins 46 = .ok (.aload_n 0, 1) := by decide +kernel
theorem dX6_begins_47 : decode cX6_begins 47 = .ok (.getfield 74, 3) := by decide +kernel
theorem dX6_begins_50 : decode cX6_begins 50 = .ok (.iload_n 1, 1) := by decide +kernel
theorem dX6_begins_51 : decode cX6_begins 51 = .ok (.iconst 1, 1) := by decide +kernel
theorem dX6_begins_52 : decode cX6_begins 52 = .ok (.iastore, 1) := by decide +kernel
theorem dX6_begins_53 : decode cX6_begins 53 = .ok (.aload_n 0, 1) := by decide +kernel
theorem dX6_begins_54 : decode cX6_begins 54 = .ok (.iconst 0, 1) := by decide +kernel
theorem dX6_begins_55 : decode cX6_begins 55 = .ok (.putfield 119, 3) := by decide +kernel
theorem dX6_begins_58 : decode cX6_begins 58 = .ok (.aload_n 0, 1) := by decide +kernel
theorem dX6_begins_59 : decode cX6_begins 59 = .ok (.getfield 53, 3) := by decide +kernel
theorem dX6_begins_62 : decode cX6_begins 62 = .ok (.iload_n 2, 1) := by decide +kernel
theorem dX6_begins_63 : decode cX6_begins 63 = .ok (.iaload, 1) := by decide +kernel
theorem dX6_begins_64 : decode cX6_begins 64 = .ok (.iconst (-1), 1) := by decide +kernel
theorem dX6_begins_65 : decode cX6_begins 65 = .ok (.if_icmp .eq 16, 3) := by decide +kernel
theorem dX6_begins_68 : decode cX6_begins 68 = .ok (.aload_n 0, 1) := by decide +kernel
theorem dX6_begins_69 : decode cX6_begins 69 = .ok (.iconst 2, 1) := by decide +kernel
theorem dX6_begins_70 : decode cX6_begins 70 = .ok (.aload_n 0, 1) := by decide +kernel
theorem dX6_begins_71 : decode cX6_begins 71 = .ok (.getfield 53, 3) := by decide +kernel
theorem dX6_begins_74 : decode cX6_begins 74 = .ok (.iload_n 2, 1) := by decide +kernel
theorem dX6_begins_75 : decode cX6_begins 75 = .ok (.iaload, 1) := by decide +kernel
theorem dX6_begins_76 : decode cX6_begins 76 = .ok (.iconst (-1), 1) := by decide +kernel
theorem dX6_begins_77 : decode cX6_begins 77 = .ok (.iconst 0, 1) := by decide +kernel
theorem dX6_begins_78 : decode cX6_begins 78 = .ok (.invokevirtual 133, 3) := by decide +kernel
theorem dX6_begins_81 : decode cX6_begins 81 = .ok (.return_, 1) := by decide +kernel
theorem dX6_begins_82 : decode cX6_begins 82 = .ok (.aload_n 0, 1) := by decide +kernel
theorem dX6_begins_83 : decode cX6_begins 83 = .ok (.getfield 119, 3) := by decide +kernel
theorem dX6_begins_86 : decode cX6_begins 86 = .ok (.ifCond .ge 19, 3) := by decide +kernel
theorem dX6_begins_89 : decode cX6_begins 89 = .ok (.aload_n 0, 1) := by decide +kernel
theorem dX6_begins_90 : decode cX6_begins 90 = .ok (.getfield 59, 3) := by decide +kernel
theorem dX6_begins_93 : decode cX6_begins 93 = .ok (.iload_n 2, 1) := by decide +kernel
theorem dX6_begins_94 : decode cX6_begins 94 = .ok (.iconst 2, 1) := by decide +kernel
theorem dX6_begins_95 : decode cX6_begins 95 = .ok (.iastore, 1) := by decide +kernel
theorem dX6_begins_96 : decode cX6_begins 96 = .ok (.aload_n 0, 1) := by decide +kernel
theorem dX6_begins_97 : decode cX6_begins 97 = .ok (.aload_n 0, 1) := by decide +kernel
theorem dX6_begins_98 : decode cX6_begins 98 = .ok (.getfield 119, 3) := by decide +kernel
theorem dX6_begins_101 : decode cX6_begins 101 = .ok (.invokevirtual 137, 3) := by decide +kernel
theorem dX6_begins_104 : decode cX6_begins 104 = .ok (.return_, 1) := by decide +kernel
theorem dX6_begins_105 : decode cX6_begins 105 = .ok (.aload_n 0, 1) := by decide +kernel
theorem dX6_begins_106 : decode cX6_begins 106 = .ok (.getfield 19, 3) := by decide +kernel
theorem dX6_begins_109 : decode cX6_begins 109 = .ok (.aload_n 0, 1) := by decide +kernel
theorem dX6_begins_110 : decode cX6_begins 110 = .ok (.getfield 56, 3) := by decide +kernel
theorem dX6_begins_113 : decode cX6_begins 113 = .ok (.iload_n 2, 1) := by decide +kernel
theorem dX6_begins_114 : decode cX6_begins 114 = .ok (.iaload, 1) := by decide +kernel
theorem dX6_begins_115 : decode cX6_begins 115 = .ok (.iaload, 1) := by decide +kernel
theorem dX6_begins_116 : decode cX6_begins 116 = .ok (.istore_n 3, 1) := by decide +kernel
theorem dX6_begins_117 : decode cX6_begins 117 = .ok (.aload_n 0, 1) := by decide +kernel
theorem dX6_begins_118 : decode cX6_begins 118 = .ok (.getfield 74, 3) := by decide +kernel
theorem dX6_begins_121 : decode cX6_begins 121 = .ok (.iload_n 1, 1) := by decide +kernel
theorem dX6_begins_122 : decode cX6_begins 122 = .ok (.iaload, 1) := by decide +kernel
theorem dX6_begins_123 : decode cX6_begins 123 = .ok (.iconst 1, 1) := by decide +kernel
theorem dX6_begins_124 : decode cX6_begins 124 = .ok (.if_icmp .ne 36, 3) := by decide +kernel
theorem dX6_begins_127 : decode cX6_begins 127 = .ok (.iload_n 3, 1) := by decide +kernel
theorem dX6_begins_128 : decode cX6_begins 128 = .ok (.iconst (-1), 1) := by decide +kernel
theorem dX6_begins_129 : decode cX6_begins 129 = .ok (.if_icmp .eq 31, 3) := by decide +kernel
theorem dX6_begins_132 : decode cX6_begins 132 = .ok (.aload_n 0, 1) := by decide +kernel
theorem dX6_begins_133 : decode cX6_begins 133 = .ok (.getfield 74, 3) := by decide +kernel
theorem dX6_begins_136 : decode cX6_begins 136 = .ok (.iload_n 1, 1) := by decide +kernel
theorem dX6_begins_137 : decode cX6_begins 137 = .ok (.iconst 2, 1) := by decide +kernel
theorem dX6_begins_138 : decode cX6_begins 138 = .ok (.iastore, 1) := by decide +kernel
theorem dX6_begins_139 : decode cX6_begins 139 = .ok (.aload_n 0, 1) := by decide +kernel
theorem dX6_begins_140 : decode cX6_begins 140 = .ok (.iconst 0, 1) := by decide +kernel
theorem dX6_begins_141 : decode cX6_begins 141 = .ok (.bipush 31, 2) := by decide +kernel
theorem dX6_begins_143 : decode cX6_begins 143 = .ok (.aload_n 0, 1) := by decide +kernel
theorem dX6_begins_144 : decode cX6_begins 144 = .ok (.getfield 47, 3) := by decide +kernel
theorem dX6_begins_147 : decode cX6_begins 147 = .ok (.iload_n 2, 1) := by decide +kernel
theorem dX6_begins_148 : decode cX6_begins 148 = .ok (.iaload, 1) := by decide +kernel
theorem dX6_begins_149 : decode cX6_begins 149 = .ok (.imul, 1) := by decide +kernel
theorem dX6_begins_150 : decode cX6_begins 150 = .ok (.iload_n 3, 1) := by decide +kernel
theorem dX6_begins_151 : decode cX6_begins 151 = .ok (.iadd, 1) := by decide +kernel
theorem dX6_begins_152 : decode cX6_begins 152 = .ok (.iconst (-1), 1) := by decide +kernel
theorem dX6_begins_153 : decode cX6_begins 153 = .ok (.iconst 0, 1) := by decide +kernel
theorem dX6_begins_154 : decode cX6_begins 154 = .ok (.invokevirtual 133, 3) := by decide +kernel
theorem dX6_begins_157 : decode cX6_begins 157 = .ok (.goto 109, 3) := by decide +kernel
theorem dX6_begins_160 : decode cX6_begins 160 = .ok (.aload_n 0, 1) := by decide +kernel
theorem dX6_begins_161 : decode cX6_begins 161 = .ok (.getfield 74, 3) := by decide +kernel
theorem dX6_begins_164 : decode cX6_begins 164 = .ok (.iload_n 1, 1) := by decide +kernel
theorem dX6_begins_165 : decode cX6_begins 165 = .ok (.iaload, 1) := by decide +kernel
theorem dX6_begins_166 : decode cX6_begins 166 = .ok (.iconst 2, 1) := by decide +kernel
theorem dX6_begins_167 : decode cX6_begins 167 = .ok (.if_icmp .ne 24, 3) := by decide +kernel
theorem dX6_begins_170 : decode cX6_begins 170 = .ok (.aload_n 0, 1) := by decide +kernel
theorem dX6_begins_171 : decode cX6_begins 171 = .ok (.getfield 74, 3) := by decide +kernel
theorem dX6_begins_174 : decode cX6_begins 174 = .ok (.iload_n 1, 1) := by decide +kernel
theorem dX6_begins_175 : decode cX6_begins 175 = .ok (.iconst 3, 1) := by decide +kernel
theorem dX6_begins_176 : decode cX6_begins 176 = .ok (.iastore, 1) := by decide +kernel
theorem dX6_begins_177 : decode cX6_begins 177 = .ok (.aload_n 0, 1) := by decide +kernel
theorem dX6_begins_178 : decode cX6_begins 178 = .ok (.iconst 2, 1) := by decide +kernel
theorem dX6_begins_179 : decode cX6_begins 179 = .ok (.aload_n 0, 1) := by decide +kernel
theorem dX6_begins_180 : decode cX6_begins 180 = .ok (.getfield 119, 3) := by decide +kernel
theorem dX6_begins_183 : decode cX6_begins 183 = .ok (.iconst (-1), 1) := by decide +kernel
theorem dX6_begins_184 : decode cX6_begins 184 = .ok (.iconst 0, 1) := by decide +kernel
theorem dX6_begins_185 : decode cX6_begins 185 = .ok (.invokevirtual 133, 3) := by decide +kernel
theorem dX6_begins_188 : decode cX6_begins 188 = .ok (.goto 78, 3) := by decide +kernel
theorem dX6_begins_191 : decode cX6_begins 191 = .ok (.aload_n 0, 1) := by decide +kernel
theorem dX6_begins_192 : decode cX6_begins 192 = .ok (.getfield 22, 3) := by decide +kernel
theorem dX6_begins_195 : decode cX6_begins 195 = .ok (.aload_n 0, 1) := by decide +kernel
theorem dX6_begins_196 : decode cX6_begins 196 = .ok (.getfield 56, 3) := by decide +kernel
theorem dX6_begins_199 : decode cX6_begins 199 = .ok (.iload_n 2, 1) := by decide +kernel
theorem dX6_begins_200 : decode cX6_begins 200 = .ok (.iaload, 1) := by decide +kernel
theorem dX6_begins_201 : decode cX6_begins 201 = .ok (.iaload, 1) := by decide +kernel
theorem dX6_begins_202 : decode cX6_begins 202 = .ok (.iconst 2, 1) := by decide +kernel
theorem dX6_begins_203 : decode cX6_begins 203 = .ok (.iand, 1) := by decide +kernel
theorem dX6_begins_204 : decode cX6_begins 204 = .ok (.iconst 2, 1) := by decide +kernel
theorem dX6_begins_205 : decode cX6_begins 205 = .ok (.if_icmp .ne 19, 3) := by decide +kernel
theorem dX6_begins_208 : decode cX6_begins 208 = .ok (.aload_n 0, 1) := by decide +kernel
theorem dX6_begins_209 : decode cX6_begins 209 = .ok (.getfield 59, 3) := by decide +kernel
theorem dX6_begins_212 : decode cX6_begins 212 = .ok (.iload_n 2, 1) := by decide +kernel
theorem dX6_begins_213 : decode cX6_begins 213 = .ok (.iconst 2, 1) := by decide +kernel
theorem dX6_begins_214 : decode cX6_begins 214 = .ok (.iastore, 1) := by decide +kernel
theorem dX6_begins_215 : decode cX6_begins 215 = .ok (.aload_n 0, 1) := by decide +kernel
theorem dX6_begins_216 : decode cX6_begins 216 = .ok (.bipush (-7), 2) := by decide +kernel
theorem dX6_begins_218 : decode cX6_begins 218 = .ok (.invokevirtual 137, 3) := by decide +kernel
theorem dX6_begins_221 : decode cX6_begins 221 = .ok (.goto 45, 3) := by decide +kernel
theorem dX6_begins_224 : decode cX6_begins 224 = .ok (.aload_n 0, 1) := by decide +kernel
theorem dX6_begins_225 : decode cX6_begins 225 = .ok (.getfield 59, 3) := by decide +kernel
theorem dX6_begins_228 : decode cX6_begins 228 = .ok (.iload_n 2, 1) := by decide +kernel
theorem dX6_begins_229 : decode cX6_begins 229 = .ok (.iconst 1, 1) := by decide +kernel
theorem dX6_begins_230 : decode cX6_begins 230 = .ok (.iastore, 1) := by decide +kernel
theorem dX6_begins_231 : decode cX6_begins 231 = .ok (.aload_n 0, 1) := by decide +kernel
theorem dX6_begins_232 : decode cX6_begins 232 = .ok (.getfield 68, 3) := by decide +kernel
theorem dX6_begins_235 : decode cX6_begins 235 = .ok (.aload_n 0, 1) := by decide +kernel
theorem dX6_begins_236 : decode cX6_begins 236 = .ok (.getfield 154, 3) := by decide +kernel
theorem dX6_begins_239 : decode cX6_begins 239 = .ok (.aload_n 0, 1) := by decide +kernel
theorem dX6_begins_240 : decode cX6_begins 240 = .ok (.getfield 13, 3) := by decide +kernel
theorem dX6_begins_243 : decode cX6_begins 243 = .ok (.aload_n 0, 1) := by decide +kernel
theorem dX6_begins_244 : decode cX6_begins 244 = .ok (.getfield 56, 3) := by decide +kernel
theorem dX6_begins_247 : decode cX6_begins 247 = .ok (.iload_n 2, 1) := by decide +kernel
theorem dX6_begins_248 : decode cX6_begins 248 = .ok (.iaload, 1) := by decide +kernel
theorem dX6_begins_249 : decode cX6_begins 249 = .ok (.iaload, 1) := by decide +kernel
theorem dX6_begins_250 : decode cX6_begins 250 = .ok (.iastore, 1) := by decide +kernel
theorem dX6_begins_251 : decode cX6_begins 251 = .ok (.aload_n 0, 1) := by decide +kernel
theorem dX6_begins_252 : decode cX6_begins 252 = .ok (.dup, 1) := by decide +kernel
theorem dX6_begins_253 : decode cX6_begins 253 = .ok (.getfield 154, 3) := by decide +kernel
theorem dX6_begins_256 : decode cX6_begins 256 = .ok (.iconst 1, 1) := by decide +kernel
theorem dX6_begins_257 : decode cX6_begins 257 = .ok (.iadd, 1) := by decide +kernel
theorem dX6_begins_258 : decode cX6_begins 258 = .ok (.putfield 154, 3) := by decide +kernel
theorem dX6_begins_261 : decode cX6_begins 261 = .ok (.aload_n 0, 1) := by decide +kernel
theorem dX6_begins_262 : decode cX6_begins 262 = .ok (.iconst 0, 1) := by decide +kernel
theorem dX6_begins_263 : decode cX6_begins 263 = .ok (.invokevirtual 137, 3) := by decide +kernel
theorem dX6_begins_266 : decode cX6_begins 266 = .ok (.return_, 1) := by decide +kernel
theorem dX6_does_0 : decode cX6_does 0 = .ok (.aload_n 0, 1) := by decide +kernel
theorem dX6_does_1 : decode cX6_does 1 = .ok (.iconst 0, 1) := by decide +kernel
theorem dX6_does_2 : decode cX6_does 2 = .ok (.putfield 116, 3) := by decide +kernel
theorem dX6_does_5 : decode cX6_does 5 = .ok (.aload_n 0, 1) := by decide +kernel
theorem dX6_does_6 : decode cX6_does 6 = .ok (.iload_n 1, 1) := by decide +kernel
theorem dX6_does_7 : decode cX6_does 7 = .ok (.iload_n 2, 1) := by decide +kernel
theorem dX6_does_8 : decode cX6_does 8 = .ok (.iload_n 3, 1) := by decide +kernel
theorem dX6_does_9 : decode cX6_does 9 = .ok (.iload 4, 2) := by decide +kernel
theorem dX6_does_11 : decode cX6_does 11 = .ok (.invokevirtual 133, 3) := by decide +kernel
theorem dX6_does_14 : decode cX6_does 14 = .ok (.aload_n 0, 1) := by decide +kernel
theorem dX6_does_15 : decode cX6_does 15 = .ok (.invokevirtual 157, 3) := by decide +kernel
theorem dX6_does_18 : decode cX6_does 18 = .ok (.istore 5, 2) := by decide +kernel
theorem dX6_does_20 : decode cX6_does 20 = .ok (.iload 5, 2) := by decide +kernel
theorem dX6_does_22 : decode cX6_does 22 = .ok (.ifCond .ge 11, 3) := by decide +kernel
theorem dX6_does_25 : decode cX6_does 25 = .ok (.bipush (-10), 2) := by decide +kernel
theorem dX6_does_27 : decode cX6_does 27 = .ok (.iload 5, 2) := by decide +kernel
theorem dX6_does_29 : decode cX6_does 29 = .ok (.iadd, 1) := by decide +kernel
theorem dX6_does_30 : decode cX6_does 30 = .ok (.goto 5, 3) := by decide +kernel
theorem dX6_does_33 : decode cX6_does 33 = .ok (.iload 5, 2) := by decide +kernel
theorem dX6_does_35 : decode cX6_does 35 = .ok (.ireturn, 1) := by decide +kernel
theorem dX6_load_0 : decode cX6_load 0 = .ok (.aload_n 0, 1) := by decide +kernel
theorem dX6_load_1 : decode cX6_load 1 = .ok (.iload_n 1, 1) := by decide +kernel
theorem dX6_load_2 : decode cX6_load 2 = .ok (.invokevirtual 110, 3) := by decide +kernel
theorem dX6_load_5 : decode cX6_load 5 = .ok (.ifCond .eq 10, 3) := by decide +kernel
theorem dX6_load_8 : decode cX6_load 8 = .ok (.iload_n 2, 1) := by decide +kernel
theorem dX6_load_9 : decode cX6_load 9 = .ok (.invokestatic 106, 3) := by decide +kernel
theorem dX6_load_12 : decode cX6_load 12 = .ok (.ifCond .ne 6, 3) := by decide +kernel
theorem dX6_load_15 : decode cX6_load 15 = .ok (.bipush (-2), 2) := by decide +kernel
theorem dX6_load_17 : decode cX6_load 17 = .ok (.ireturn, 1) := by decide +kernel
theorem dX6_load_18 : decode cX6_load 18 = .ok (.aload_n 0, 1) := by decide +kernel
theorem dX6_load_19 : decode cX6_load 19 = .ok (.getfield 32, 3) := by decide +kernel
theorem dX6_load_22 : decode cX6_load 22 = .ok (.iload_n 1, 1) := by decide +kernel
theorem dX6_load_23 : decode cX6_load 23 = .ok (.baload, 1) := by decide +kernel
theorem dX6_load_24 : decode cX6_load 24 = .ok (.ifCond .eq 8, 3) := by decide +kernel
theorem dX6_load_27 : decode cX6_load 27 = .ok (.bipush (-3), 2) := by decide +kernel
theorem dX6_load_29 : decode cX6_load 29 = .ok (.goto 16, 3) := by decide +kernel
theorem dX6_load_32 : decode cX6_load 32 = .ok (.aload_n 0, 1) := by decide +kernel
theorem dX6_load_33 : decode cX6_load 33 = .ok (.iconst 0, 1) := by decide +kernel
theorem dX6_load_34 : decode cX6_load 34 = .ok (.bipush 31, 2) := by decide +kernel
theorem dX6_load_36 : decode cX6_load 36 = .ok (.iload_n 1, 1) := by decide +kernel
theorem dX6_load_37 : decode cX6_load 37 = .ok (.imul, 1) := by decide +kernel
theorem dX6_load_38 : decode cX6_load 38 = .ok (.iload_n 2, 1) := by decide +kernel
theorem dX6_load_39 : decode cX6_load 39 = .ok (.iadd, 1) := by decide +kernel
theorem dX6_load_40 : decode cX6_load 40 = .ok (.iconst (-1), 1) := by decide +kernel
theorem dX6_load_41 : decode cX6_load 41 = .ok (.iconst 0, 1) := by decide +kernel
theorem dX6_load_42 : decode cX6_load 42 = .ok (.invokevirtual 161, 3) := by decide +kernel
theorem dX6_load_45 : decode cX6_load 45 = .ok (.ireturn, 1) := by decide +kernel
theorem dX6_define_0 : decode cX6_define 0 = .ok (.aload_n 0, 1) := by decide +kernel
theorem dX6_define_1 : decode cX6_define 1 = .ok (.iload_n 1, 1) := by decide +kernel
theorem dX6_define_2 : decode cX6_define 2 = .ok (.invokevirtual 110, 3) := by decide +kernel
theorem dX6_define_5 : decode cX6_define 5 = .ok (.ifCond .eq 18, 3) := by decide +kernel
theorem dX6_define_8 : decode cX6_define 8 = .ok (.iload_n 2, 1) := by decide +kernel
theorem dX6_define_9 : decode cX6_define 9 = .ok (.invokestatic 106, 3) := by decide +kernel
theorem dX6_define_12 : decode cX6_define 12 = .ok (.ifCond .eq 11, 3) := by decide +kernel
theorem dX6_define_15 : decode cX6_define 15 = .ok (.aload_n 0, 1) := by decide +kernel
theorem dX6_define_16 : decode cX6_define 16 = .ok (.iload_n 3, 1) := by decide +kernel
theorem dX6_define_17 : decode cX6_define 17 = .ok (.invokevirtual 113, 3) := by decide +kernel
theorem dX6_define_20 : decode cX6_define 20 = .ok (.ifCond .ne 6, 3) := by decide +kernel
theorem dX6_define_23 : decode cX6_define 23 = .ok (.bipush (-2), 2) := by decide +kernel
theorem dX6_define_25 : decode cX6_define 25 = .ok (.ireturn, 1) := by decide +kernel
theorem dX6_define_26 : decode cX6_define 26 = .ok (.aload_n 0, 1) := by decide +kernel
theorem dX6_define_27 : decode cX6_define 27 = .ok (.getfield 32, 3) := by decide +kernel
theorem dX6_define_30 : decode cX6_define 30 = .ok (.iload_n 1, 1) := by decide +kernel
theorem dX6_define_31 : decode cX6_define 31 = .ok (.baload, 1) := by decide +kernel
theorem dX6_define_32 : decode cX6_define 32 = .ok (.ifCond .eq 8, 3) := by decide +kernel
theorem dX6_define_35 : decode cX6_define 35 = .ok (.bipush (-3), 2) := by decide +kernel
theorem dX6_define_37 : decode cX6_define 37 = .ok (.goto 16, 3) := by decide +kernel
theorem dX6_define_40 : decode cX6_define 40 = .ok (.aload_n 0, 1) := by decide +kernel
theorem dX6_define_41 : decode cX6_define 41 = .ok (.iconst 1, 1) := by decide +kernel
theorem dX6_define_42 : decode cX6_define 42 = .ok (.bipush 31, 2) := by decide +kernel
theorem dX6_define_44 : decode cX6_define 44 = .ok (.iload_n 1, 1) := by decide +kernel
theorem dX6_define_45 : decode cX6_define 45 = .ok (.imul, 1) := by decide +kernel
theorem dX6_define_46 : decode cX6_define 46 = .ok (.iload_n 2, 1) := by decide +kernel
theorem dX6_define_47 : decode cX6_define 47 = .ok (.iadd, 1) := by decide +kernel
theorem dX6_define_48 : decode cX6_define 48 = .ok (.iload_n 3, 1) := by decide +kernel
theorem dX6_define_49 : decode cX6_define 49 = .ok (.iconst 0, 1) := by decide +kernel
theorem dX6_define_50 : decode cX6_define 50 = .ok (.invokevirtual 161, 3) := by decide +kernel
theorem dX6_define_53 : decode cX6_define 53 = .ok (.ireturn, 1) := by decide +kernel
theorem dX6_anew_0 : decode cX6_anew 0 = .ok (.aload_n 0, 1) := by decide +kernel
theorem dX6_anew_1 : decode cX6_anew 1 = .ok (.iload_n 1, 1) := by decide +kernel
theorem dX6_anew_2 : decode cX6_anew 2 = .ok (.invokevirtual 110, 3) := by decide +kernel
theorem dX6_anew_5 : decode cX6_anew 5 = .ok (.ifCond .eq 18, 3) := by decide +kernel
theorem dX6_anew_8 : decode cX6_anew 8 = .ok (.iload_n 2, 1) := by decide +kernel
theorem dX6_anew_9 : decode cX6_anew 9 = .ok (.invokestatic 106, 3) := by decide +kernel
theorem dX6_anew_12 : decode cX6_anew 12 = .ok (.ifCond .eq 11, 3) := by decide +kernel
theorem dX6_anew_15 : decode cX6_anew 15 = .ok (.aload_n 0, 1) := by decide +kernel
theorem dX6_anew_16 : decode cX6_anew 16 = .ok (.iload_n 3, 1) := by decide +kernel
theorem dX6_anew_17 : decode cX6_anew 17 = .ok (.invokevirtual 113, 3) := by decide +kernel
theorem dX6_anew_20 : decode cX6_anew 20 = .ok (.ifCond .ne 6, 3) := by decide +kernel
theorem dX6_anew_23 : decode cX6_anew 23 = .ok (.bipush (-2), 2) := by decide +kernel
theorem dX6_anew_25 : decode cX6_anew 25 = .ok (.ireturn, 1) := by decide +kernel
theorem dX6_anew_26 : decode cX6_anew 26 = .ok (.bipush 31, 2) := by decide +kernel
theorem dX6_anew_28 : decode cX6_anew 28 = .ok (.iload_n 1, 1) := by decide +kernel
theorem dX6_anew_29 : decode cX6_anew 29 = .ok (.imul, 1) := by decide +kernel
theorem dX6_anew_30 : decode cX6_anew 30 = .ok (.iload_n 2, 1) := by decide +kernel
theorem dX6_anew_31 : decode cX6_anew 31 = .ok (.iadd, 1) := by decide +kernel
theorem dX6_anew_32 : decode cX6_anew 32 = .ok (.istore 4, 2) := by decide +kernel
theorem dX6_anew_34 : decode cX6_anew 34 = .ok (.aload_n 0, 1) := by decide +kernel
theorem dX6_anew_35 : decode cX6_anew 35 = .ok (.getfield 32, 3) := by decide +kernel
theorem dX6_anew_38 : decode cX6_anew 38 = .ok (.iload_n 1, 1) := by decide +kernel
theorem dX6_anew_39 : decode cX6_anew 39 = .ok (.baload, 1) := by decide +kernel
theorem dX6_anew_40 : decode cX6_anew 40 = .ok (.ifCond .ne 14, 3) := by decide +kernel
theorem dX6_anew_43 : decode cX6_anew 43 = .ok (.aload_n 0, 1) := by decide +kernel
theorem dX6_anew_44 : decode cX6_anew 44 = .ok (.getfield 38, 3) := by decide +kernel
theorem dX6_anew_47 : decode cX6_anew 47 = .ok (.iload 4, 2) := by decide +kernel
theorem dX6_anew_49 : decode cX6_anew 49 = .ok (.iaload, 1) := by decide +kernel
theorem dX6_anew_50 : decode cX6_anew 50 = .ok (.iconst (-1), 1) := by decide +kernel
theorem dX6_anew_51 : decode cX6_anew 51 = .ok (.if_icmp .ne 8, 3) := by decide +kernel
theorem dX6_anew_54 : decode cX6_anew 54 = .ok (.bipush (-3), 2) := by decide +kernel
theorem dX6_anew_56 : decode cX6_anew 56 = .ok (.goto 12, 3) := by decide +kernel
theorem dX6_anew_59 : decode cX6_anew 59 = .ok (.aload_n 0, 1) := by decide +kernel
theorem dX6_anew_60 : decode cX6_anew 60 = .ok (.iconst 1, 1) := by decide +kernel
theorem dX6_anew_61 : decode cX6_anew 61 = .ok (.iload 4, 2) := by decide +kernel
theorem dX6_anew_63 : decode cX6_anew 63 = .ok (.iload_n 3, 1) := by decide +kernel
theorem dX6_anew_64 : decode cX6_anew 64 = .ok (.iconst 1, 1) := by decide +kernel
theorem dX6_anew_65 : decode cX6_anew 65 = .ok (.invokevirtual 161, 3) := by decide +kernel
theorem dX6_anew_68 : decode cX6_anew 68 = .ok (.ireturn, 1) := by decide +kernel
theorem dX6_known_0 : decode cX6_known 0 = .ok (.aload_n 0, 1) := by decide +kernel
theorem dX6_known_1 : decode cX6_known 1 = .ok (.iload_n 1, 1) := by decide +kernel
theorem dX6_known_2 : decode cX6_known 2 = .ok (.invokevirtual 110, 3) := by decide +kernel
theorem dX6_known_5 : decode cX6_known 5 = .ok (.ifCond .eq 10, 3) := by decide +kernel
theorem dX6_known_8 : decode cX6_known 8 = .ok (.iload_n 2, 1) := by decide +kernel
theorem dX6_known_9 : decode cX6_known 9 = .ok (.invokestatic 106, 3) := by decide +kernel
theorem dX6_known_12 : decode cX6_known 12 = .ok (.ifCond .ne 6, 3) := by decide +kernel
theorem dX6_known_15 : decode cX6_known 15 = .ok (.bipush (-2), 2) := by decide +kernel
theorem dX6_known_17 : decode cX6_known 17 = .ok (.ireturn, 1) := by decide +kernel
theorem dX6_known_18 : decode cX6_known 18 = .ok (.bipush 31, 2) := by decide +kernel
theorem dX6_known_20 : decode cX6_known 20 = .ok (.iload_n 1, 1) := by decide +kernel
theorem dX6_known_21 : decode cX6_known 21 = .ok (.imul, 1) := by decide +kernel
theorem dX6_known_22 : decode cX6_known 22 = .ok (.iload_n 2, 1) := by decide +kernel
theorem dX6_known_23 : decode cX6_known 23 = .ok (.iadd, 1) := by decide +kernel
theorem dX6_known_24 : decode cX6_known 24 = .ok (.istore_n 3, 1) := by decide +kernel
theorem dX6_known_25 : decode cX6_known 25 = .ok (.aload_n 0, 1) := by decide +kernel
theorem dX6_known_26 : decode cX6_known 26 = .ok (.getfield 38, 3) := by decide +kernel
theorem dX6_known_29 : decode cX6_known 29 = .ok (.iload_n 3, 1) := by decide +kernel
theorem dX6_known_30 : decode cX6_known 30 = .ok (.iaload, 1) := by decide +kernel
theorem dX6_known_31 : decode cX6_known 31 = .ok (.iconst (-1), 1) := by decide +kernel
theorem dX6_known_32 : decode cX6_known 32 = .ok (.if_icmp .eq 12, 3) := by decide +kernel
theorem dX6_known_35 : decode cX6_known 35 = .ok (.aload_n 0, 1) := by decide +kernel
theorem dX6_known_36 : decode cX6_known 36 = .ok (.getfield 38, 3) := by decide +kernel
theorem dX6_known_39 : decode cX6_known 39 = .ok (.iload_n 3, 1) := by decide +kernel
theorem dX6_known_40 : decode cX6_known 40 = .ok (.iaload, 1) := by decide +kernel
theorem dX6_known_41 : decode cX6_known 41 = .ok (.goto 9, 3) := by decide +kernel
theorem dX6_known_44 : decode cX6_known 44 = .ok (.aload_n 0, 1) := by decide +kernel
theorem dX6_known_45 : decode cX6_known 45 = .ok (.getfield 41, 3) := by decide +kernel
theorem dX6_known_48 : decode cX6_known 48 = .ok (.iload_n 3, 1) := by decide +kernel
theorem dX6_known_49 : decode cX6_known 49 = .ok (.iaload, 1) := by decide +kernel
theorem dX6_known_50 : decode cX6_known 50 = .ok (.ireturn, 1) := by decide +kernel
theorem dX6_begin_0 : decode cX6_begin 0 = .ok (.aload_n 0, 1) := by decide +kernel
theorem dX6_begin_1 : decode cX6_begin 1 = .ok (.iload_n 1, 1) := by decide +kernel
theorem dX6_begin_2 : decode cX6_begin 2 = .ok (.invokevirtual 165, 3) := by decide +kernel
theorem dX6_begin_5 : decode cX6_begin 5 = .ok (.ifCond .ne 6, 3) := by decide +kernel
theorem dX6_begin_8 : decode cX6_begin 8 = .ok (.bipush (-2), 2) := by decide +kernel
theorem dX6_begin_10 : decode cX6_begin 10 = .ok (.ireturn, 1) := by decide +kernel
theorem dX6_begin_11 : decode cX6_begin 11 = .ok (.aload_n 0, 1) := by decide +kernel
theorem dX6_begin_12 : decode cX6_begin 12 = .ok (.getfield 32, 3) := by decide +kernel
theorem dX6_begin_15 : decode cX6_begin 15 = .ok (.aload_n 0, 1) := by decide +kernel
theorem dX6_begin_16 : decode cX6_begin 16 = .ok (.getfield 47, 3) := by decide +kernel
theorem dX6_begin_19 : decode cX6_begin 19 = .ok (.iload_n 1, 1) := by decide +kernel
theorem dX6_begin_20 : decode cX6_begin 20 = .ok (.iaload, 1) := by decide +kernel
theorem dX6_begin_21 : decode cX6_begin 21 = .ok (.baload, 1) := by decide +kernel
theorem dX6_begin_22 : decode cX6_begin 22 = .ok (.ifCond .eq 6, 3) := by decide +kernel
theorem dX6_begin_25 : decode cX6_begin 25 = .ok (.bipush (-3), 2) := by decide +kernel
theorem dX6_begin_27 : decode cX6_begin 27 = .ok (.ireturn, 1) := by decide +kernel
theorem dX6_begin_28 : decode cX6_begin 28 = .ok (.aload_n 0, 1) := by decide +kernel
theorem dX6_begin_29 : decode cX6_begin 29 = .ok (.iconst 2, 1) := by decide +kernel
theorem dX6_begin_30 : decode cX6_begin 30 = .ok (.iload_n 1, 1) := by decide +kernel
theorem dX6_begin_31 : decode cX6_begin 31 = .ok (.iconst (-1), 1) := by decide +kernel
theorem dX6_begin_32 : decode cX6_begin 32 = .ok (.iconst 0, 1) := by decide +kernel
theorem dX6_begin_33 : decode cX6_begin 33 = .ok (.invokevirtual 161, 3) := by decide +kernel
theorem dX6_begin_36 : decode cX6_begin 36 = .ok (.istore_n 2, 1) := by decide +kernel
theorem dX6_begin_37 : decode cX6_begin 37 = .ok (.iload_n 2, 1) := by decide +kernel
theorem dX6_begin_38 : decode cX6_begin 38 = .ok (.ifCond .ge 7, 3) := by decide +kernel
theorem dX6_begin_41 : decode cX6_begin 41 = .ok (.iload_n 2, 1) := by decide +kernel
theorem dX6_begin_42 : decode cX6_begin 42 = .ok (.goto 4, 3) := by decide +kernel
theorem dX6_begin_45 : decode cX6_begin 45 = .ok (.iconst 1, 1) := by decide +kernel
theorem dX6_begin_46 : decode cX6_begin 46 = .ok (.ireturn, 1) := by decide +kernel
theorem dX6_thing_0 : decode cX6_thing 0 = .ok (.aload_n 0, 1) := by decide +kernel
theorem dX6_thing_1 : decode cX6_thing 1 = .ok (.iload_n 1, 1) := by decide +kernel
theorem dX6_thing_2 : decode cX6_thing 2 = .ok (.invokevirtual 165, 3) := by decide +kernel
theorem dX6_thing_5 : decode cX6_thing 5 = .ok (.ifCond .ne 6, 3) := by decide +kernel
theorem dX6_thing_8 : decode cX6_thing 8 = .ok (.bipush (-2), 2) := by decide +kernel
theorem dX6_thing_10 : decode cX6_thing 10 = .ok (.ireturn, 1) := by decide +kernel
theorem dX6_thing_11 : decode cX6_thing 11 = .ok (.aload_n 0, 1) := by decide +kernel
theorem dX6_thing_12 : decode cX6_thing 12 = .ok (.getfield 32, 3) := by decide +kernel
theorem dX6_thing_15 : decode cX6_thing 15 = .ok (.aload_n 0, 1) := by decide +kernel
theorem dX6_thing_16 : decode cX6_thing 16 = .ok (.getfield 47, 3) := by decide +kernel
theorem dX6_thing_19 : decode cX6_thing 19 = .ok (.iload_n 1, 1) := by decide +kernel
theorem dX6_thing_20 : decode cX6_thing 20 = .ok (.iaload, 1) := by decide +kernel
theorem dX6_thing_21 : decode cX6_thing 21 = .ok (.baload, 1) := by decide +kernel
theorem dX6_thing_22 : decode cX6_thing 22 = .ok (.ifCond .eq 6, 3) := by decide +kernel
theorem dX6_thing_25 : decode cX6_thing 25 = .ok (.bipush (-3), 2) := by decide +kernel
theorem dX6_thing_27 : decode cX6_thing 27 = .ok (.ireturn, 1) := by decide +kernel
theorem dX6_thing_28 : decode cX6_thing 28 = .ok (.aload_n 0, 1) := by decide +kernel
theorem dX6_thing_29 : decode cX6_thing 29 = .ok (.getfield 103, 3) := by decide +kernel
theorem dX6_thing_32 : decode cX6_thing 32 = .ok (.bipush 60, 2) := by decide +kernel
theorem dX6_thing_34 : decode cX6_thing 34 = .ok (.if_icmp .ne 6, 3) := by decide +kernel
theorem dX6_thing_37 : decode cX6_thing 37 = .ok (.bipush (-4), 2) := by decide +kernel
theorem dX6_thing_39 : decode cX6_thing 39 = .ok (.ireturn, 1) := by decide +kernel
theorem dX6_thing_40 : decode cX6_thing 40 = .ok (.aload_n 0, 1) := by decide +kernel
theorem dX6_thing_41 : decode cX6_thing 41 = .ok (.iconst 2, 1) := by decide +kernel
theorem dX6_thing_42 : decode cX6_thing 42 = .ok (.iload_n 1, 1) := by decide +kernel
theorem dX6_thing_43 : decode cX6_thing 43 = .ok (.iconst (-1), 1) := by decide +kernel
theorem dX6_thing_44 : decode cX6_thing 44 = .ok (.iconst 0, 1) := by decide +kernel
theorem dX6_thing_45 : decode cX6_thing 45 = .ok (.invokevirtual 161, 3) := by decide +kernel
theorem dX6_thing_48 : decode cX6_thing 48 = .ok (.istore_n 2, 1) := by decide +kernel
theorem dX6_thing_49 : decode cX6_thing 49 = .ok (.iload_n 2, 1) := by decide +kernel
theorem dX6_thing_50 : decode cX6_thing 50 = .ok (.ifCond .ge 5, 3) := by decide +kernel
theorem dX6_thing_53 : decode cX6_thing 53 = .ok (.iload_n 2, 1) := by decide +kernel
theorem dX6_thing_54 : decode cX6_thing 54 = .ok (.ireturn, 1) := by decide +kernel
theorem dX6_thing_55 : decode cX6_thing 55 = .ok (.aload_n 0, 1) := by decide +kernel
theorem dX6_thing_56 : decode cX6_thing 56 = .ok (.getfield 62, 3) := by decide +kernel
theorem dX6_thing_59 : decode cX6_thing 59 = .ok (.aload_n 0, 1) := by decide +kernel
theorem dX6_thing_60 : decode cX6_thing 60 = .ok (.getfield 103, 3) := by decide +kernel
theorem dX6_thing_63 : decode cX6_thing 63 = .ok (.iload_n 1, 1) := by decide +kernel
theorem dX6_thing_64 : decode cX6_thing 64 = .ok (.iastore, 1) := by decide +kernel
theorem dX6_thing_65 : decode cX6_thing 65 = .ok (.aload_n 0, 1) := by decide +kernel
theorem dX6_thing_66 : decode cX6_thing 66 = .ok (.getfield 65, 3) := by decide +kernel
theorem dX6_thing_69 : decode cX6_thing 69 = .ok (.aload_n 0, 1) := by decide +kernel
theorem dX6_thing_70 : decode cX6_thing 70 = .ok (.getfield 103, 3) := by decide +kernel
theorem dX6_thing_73 : decode cX6_thing 73 = .ok (.iconst 0, 1) := by decide +kernel
theorem dX6_thing_74 : decode cX6_thing 74 = .ok (.bastore, 1) := by decide +kernel
theorem dX6_thing_75 : decode cX6_thing 75 = .ok (.aload_n 0, 1) := by decide +kernel
theorem dX6_thing_76 : decode cX6_thing 76 = .ok (.dup, 1) := by decide +kernel
theorem dX6_thing_77 : decode cX6_thing 77 = .ok (.getfield 103, 3) := by decide +kernel
theorem dX6_thing_80 : decode cX6_thing 80 = .ok (.iconst 1, 1) := by decide +kernel
theorem dX6_thing_81 : decode cX6_thing 81 = .ok (.iadd, 1) := by decide +kernel
theorem dX6_thing_82 : decode cX6_thing 82 = .ok (.putfield 103, 3) := by decide +kernel
theorem dX6_thing_85 : decode cX6_thing 85 = .ok (.aload_n 0, 1) := by decide +kernel
theorem dX6_thing_86 : decode cX6_thing 86 = .ok (.getfield 103, 3) := by decide +kernel
theorem dX6_thing_89 : decode cX6_thing 89 = .ok (.iconst 1, 1) := by decide +kernel
theorem dX6_thing_90 : decode cX6_thing 90 = .ok (.isub, 1) := by decide +kernel
theorem dX6_thing_91 : decode cX6_thing 91 = .ok (.ireturn, 1) := by decide +kernel
theorem dX6_cast_0 : decode cX6_cast 0 = .ok (.aload_n 0, 1) := by decide +kernel
theorem dX6_cast_1 : decode cX6_cast 1 = .ok (.iload_n 1, 1) := by decide +kernel
theorem dX6_cast_2 : decode cX6_cast 2 = .ok (.invokevirtual 168, 3) := by decide +kernel
theorem dX6_cast_5 : decode cX6_cast 5 = .ok (.ifCond .eq 11, 3) := by decide +kernel
theorem dX6_cast_8 : decode cX6_cast 8 = .ok (.aload_n 0, 1) := by decide +kernel
theorem dX6_cast_9 : decode cX6_cast 9 = .ok (.iload_n 2, 1) := by decide +kernel
theorem dX6_cast_10 : decode cX6_cast 10 = .ok (.invokevirtual 165, 3) := by decide +kernel
theorem dX6_cast_13 : decode cX6_cast 13 = .ok (.ifCond .ne 6, 3) := by decide +kernel
theorem dX6_cast_16 : decode cX6_cast 16 = .ok (.bipush (-2), 2) := by decide +kernel
theorem dX6_cast_18 : decode cX6_cast 18 = .ok (.ireturn, 1) := by decide +kernel
theorem dX6_cast_19 : decode cX6_cast 19 = .ok (.aload_n 0, 1) := by decide +kernel
theorem dX6_cast_20 : decode cX6_cast 20 = .ok (.getfield 65, 3) := by decide +kernel
theorem dX6_cast_23 : decode cX6_cast 23 = .ok (.iload_n 1, 1) := by decide +kernel
theorem dX6_cast_24 : decode cX6_cast 24 = .ok (.baload, 1) := by decide +kernel
theorem dX6_cast_25 : decode cX6_cast 25 = .ok (.ifCond .eq 6, 3) := by decide +kernel
theorem dX6_cast_28 : decode cX6_cast 28 = .ok (.bipush (-3), 2) := by decide +kernel
theorem dX6_cast_30 : decode cX6_cast 30 = .ok (.ireturn, 1) := by decide +kernel
theorem dX6_cast_31 : decode cX6_cast 31 = .ok (.aload_n 0, 1) := by decide +kernel
theorem dX6_cast_32 : decode cX6_cast 32 = .ok (.getfield 62, 3) := by decide +kernel
theorem dX6_cast_35 : decode cX6_cast 35 = .ok (.iload_n 1, 1) := by decide +kernel
theorem dX6_cast_36 : decode cX6_cast 36 = .ok (.iaload, 1) := by decide +kernel
theorem dX6_cast_37 : decode cX6_cast 37 = .ok (.istore_n 3, 1) := by decide +kernel
theorem dX6_cast_38 : decode cX6_cast 38 = .ok (.iload_n 3, 1) := by decide +kernel
theorem dX6_cast_39 : decode cX6_cast 39 = .ok (.iconst (-1), 1) := by decide +kernel
theorem dX6_cast_40 : decode cX6_cast 40 = .ok (.if_icmp .eq 18, 3) := by decide +kernel
theorem dX6_cast_43 : decode cX6_cast 43 = .ok (.iload_n 3, 1) := by decide +kernel
theorem dX6_cast_44 : decode cX6_cast 44 = .ok (.iload_n 2, 1) := by decide +kernel
theorem dX6_cast_45 : decode cX6_cast 45 = .ok (.if_icmp .eq 13, 3) := by decide +kernel
theorem dX6_cast_48 : decode cX6_cast 48 = .ok (.aload_n 0, 1) := by decide +kernel
theorem dX6_cast_49 : decode cX6_cast 49 = .ok (.getfield 53, 3) := by decide +kernel
theorem dX6_cast_52 : decode cX6_cast 52 = .ok (.iload_n 3, 1) := by decide +kernel
theorem dX6_cast_53 : decode cX6_cast 53 = .ok (.iaload, 1) := by decide +kernel
theorem dX6_cast_54 : decode cX6_cast 54 = .ok (.istore_n 3, 1) := by decide +kernel
theorem dX6_cast_55 : decode cX6_cast 55 = .ok (.goto (-17), 3) := by decide +kernel
theorem dX6_cast_58 : decode cX6_cast 58 = .ok (.iload_n 3, 1) := by decide +kernel
theorem dX6_cast_59 : decode cX6_cast 59 = .ok (.iload_n 2, 1) := by decide +kernel
theorem dX6_cast_60 : decode cX6_cast 60 = .ok (.if_icmp .ne 7, 3) := by decide +kernel
theorem dX6_cast_63 : decode cX6_cast 63 = .ok (.iconst 1, 1) := by decide +kernel
theorem dX6_cast_64 : decode cX6_cast 64 = .ok (.goto 5, 3) := by decide +kernel
theorem dX6_cast_67 : decode cX6_cast 67 = .ok (.bipush (-19), 2) := by decide +kernel
theorem dX6_cast_69 : decode cX6_cast 69 = .ok (.ireturn, 1) := by decide +kernel
theorem dX6_drop_0 : decode cX6_drop 0 = .ok (.aload_n 0, 1) := by decide +kernel
theorem dX6_drop_1 : decode cX6_drop 1 = .ok (.iload_n 1, 1) := by decide +kernel
theorem dX6_drop_2 : decode cX6_drop 2 = .ok (.invokevirtual 168, 3) := by decide +kernel
theorem dX6_drop_5 : decode cX6_drop 5 = .ok (.ifCond .ne 6, 3) := by decide +kernel
theorem dX6_drop_8 : decode cX6_drop 8 = .ok (.bipush (-2), 2) := by decide +kernel
theorem dX6_drop_10 : decode cX6_drop 10 = .ok (.ireturn, 1) := by decide +kernel
theorem dX6_drop_11 : decode cX6_drop 11 = .ok (.aload_n 0, 1) := by decide +kernel
theorem dX6_drop_12 : decode cX6_drop 12 = .ok (.getfield 65, 3) := by decide +kernel
theorem dX6_drop_15 : decode cX6_drop 15 = .ok (.iload_n 1, 1) := by decide +kernel
theorem dX6_drop_16 : decode cX6_drop 16 = .ok (.baload, 1) := by decide +kernel
theorem dX6_drop_17 : decode cX6_drop 17 = .ok (.ifCond .eq 6, 3) := by decide +kernel
theorem dX6_drop_20 : decode cX6_drop 20 = .ok (.bipush (-3), 2) := by decide +kernel
theorem dX6_drop_22 : decode cX6_drop 22 = .ok (.ireturn, 1) := by decide +kernel
theorem dX6_drop_23 : decode cX6_drop 23 = .ok (.aload_n 0, 1) := by decide +kernel
theorem dX6_drop_24 : decode cX6_drop 24 = .ok (.getfield 65, 3) := by decide +kernel
theorem dX6_drop_27 : decode cX6_drop 27 = .ok (.iload_n 1, 1) := by decide +kernel
theorem dX6_drop_28 : decode cX6_drop 28 = .ok (.iconst 1, 1) := by decide +kernel
theorem dX6_drop_29 : decode cX6_drop 29 = .ok (.bastore, 1) := by decide +kernel
theorem dX6_drop_30 : decode cX6_drop 30 = .ok (.iconst 1, 1) := by decide +kernel
theorem dX6_drop_31 : decode cX6_drop 31 = .ok (.ireturn, 1) := by decide +kernel
theorem dX6_letGo_0 : decode cX6_letGo 0 = .ok (.aload_n 0, 1) := by decide +kernel
theorem dX6_letGo_1 : decode cX6_letGo 1 = .ok (.iload_n 1, 1) := by decide +kernel
theorem dX6_letGo_2 : decode cX6_letGo 2 = .ok (.invokevirtual 110, 3) := by decide +kernel
theorem dX6_letGo_5 : decode cX6_letGo 5 = .ok (.ifCond .ne 6, 3) := by decide +kernel
theorem dX6_letGo_8 : decode cX6_letGo 8 = .ok (.bipush (-2), 2) := by decide +kernel
theorem dX6_letGo_10 : decode cX6_letGo 10 = .ok (.ireturn, 1) := by decide +kernel
theorem dX6_letGo_11 : decode cX6_letGo 11 = .ok (.aload_n 0, 1) := by decide +kernel
theorem dX6_letGo_12 : decode cX6_letGo 12 = .ok (.getfield 32, 3) := by decide +kernel
theorem dX6_letGo_15 : decode cX6_letGo 15 = .ok (.iload_n 1, 1) := by decide +kernel
theorem dX6_letGo_16 : decode cX6_letGo 16 = .ok (.baload, 1) := by decide +kernel
theorem dX6_letGo_17 : decode cX6_letGo 17 = .ok (.ifCond .ne 7, 3) := by decide +kernel
theorem dX6_letGo_20 : decode cX6_letGo 20 = .ok (.iconst 1, 1) := by decide +kernel
theorem dX6_letGo_21 : decode cX6_letGo 21 = .ok (.goto 4, 3) := by decide +kernel
theorem dX6_letGo_24 : decode cX6_letGo 24 = .ok (.iconst 0, 1) := by decide +kernel
theorem dX6_letGo_25 : decode cX6_letGo 25 = .ok (.istore_n 2, 1) := by decide +kernel
theorem dX6_letGo_26 : decode cX6_letGo 26 = .ok (.iconst 0, 1) := by decide +kernel
theorem dX6_letGo_27 : decode cX6_letGo 27 = .ok (.istore_n 3, 1) := by decide +kernel
theorem dX6_letGo_28 : decode cX6_letGo 28 = .ok (.iload_n 3, 1) := by decide +kernel
theorem dX6_letGo_29 : decode cX6_letGo 29 = .ok (.aload_n 0, 1) := by decide +kernel
theorem dX6_letGo_30 : decode cX6_letGo 30 = .ok (.getfield 93, 3) := by decide +kernel
theorem dX6_letGo_33 : decode cX6_letGo 33 = .ok (.if_icmp .ge 38, 3) := by decide +kernel
theorem dX6_letGo_36 : decode cX6_letGo 36 = .ok (.iload_n 2, 1) := by decide +kernel
theorem dX6_letGo_37 : decode cX6_letGo 37 = .ok (.ifCond .eq 26, 3) := by decide +kernel
theorem dX6_letGo_40 : decode cX6_letGo 40 = .ok (.aload_n 0, 1) := by decide +kernel
theorem dX6_letGo_41 : decode cX6_letGo 41 = .ok (.getfield 25, 3) := by decide +kernel
theorem dX6_letGo_44 : decode cX6_letGo 44 = .ok (.iload_n 3, 1) := by decide +kernel
theorem dX6_letGo_45 : decode cX6_letGo 45 = .ok (.iaload, 1) := by decide +kernel
theorem dX6_letGo_46 : decode cX6_letGo 46 = .ok (.iload_n 1, 1) := by decide +kernel
theorem dX6_letGo_47 : decode cX6_letGo 47 = .ok (.if_icmp .ne 12, 3) := by decide +kernel
theorem dX6_letGo_50 : decode cX6_letGo 50 = .ok (.aload_n 0, 1) := by decide +kernel
theorem dX6_letGo_51 : decode cX6_letGo 51 = .ok (.getfield 32, 3) := by decide +kernel
theorem dX6_letGo_54 : decode cX6_letGo 54 = .ok (.iload_n 3, 1) := by decide +kernel
theorem dX6_letGo_55 : decode cX6_letGo 55 = .ok (.baload, 1) := by decide +kernel
theorem dX6_letGo_56 : decode cX6_letGo 56 = .ok (.ifCond .eq 7, 3) := by decide +kernel
theorem dX6_letGo_59 : decode cX6_letGo 59 = .ok (.iconst 1, 1) := by decide +kernel
theorem dX6_letGo_60 : decode cX6_letGo 60 = .ok (.goto 4, 3) := by decide +kernel
theorem dX6_letGo_63 : decode cX6_letGo 63 = .ok (.iconst 0, 1) := by decide +kernel
theorem dX6_letGo_64 : decode cX6_letGo 64 = .ok (.istore_n 2, 1) := by decide +kernel
theorem dX6_letGo_65 : decode cX6_letGo 65 = .ok (.iinc 3 1, 3) := by decide +kernel
theorem dX6_letGo_68 : decode cX6_letGo 68 = .ok (.goto (-40), 3) := by decide +kernel
theorem dX6_letGo_71 : decode cX6_letGo 71 = .ok (.iload_n 2, 1) := by decide +kernel
theorem dX6_letGo_72 : decode cX6_letGo 72 = .ok (.ifCond .ne 6, 3) := by decide +kernel
theorem dX6_letGo_75 : decode cX6_letGo 75 = .ok (.bipush (-3), 2) := by decide +kernel
theorem dX6_letGo_77 : decode cX6_letGo 77 = .ok (.ireturn, 1) := by decide +kernel
theorem dX6_letGo_78 : decode cX6_letGo 78 = .ok (.aload_n 0, 1) := by decide +kernel
theorem dX6_letGo_79 : decode cX6_letGo 79 = .ok (.getfield 32, 3) := by decide +kernel
theorem dX6_letGo_82 : decode cX6_letGo 82 = .ok (.iload_n 1, 1) := by decide +kernel
theorem dX6_letGo_83 : decode cX6_letGo 83 = .ok (.iconst 1, 1) := by decide +kernel
theorem dX6_letGo_84 : decode cX6_letGo 84 = .ok (.bastore, 1) := by decide +kernel
theorem dX6_letGo_85 : decode cX6_letGo 85 = .ok (.iconst 1, 1) := by decide +kernel
theorem dX6_letGo_86 : decode cX6_letGo 86 = .ok (.ireturn, 1) := by decide +kernel
theorem dX6_holds_0 : decode cX6_holds 0 = .ok (.iconst 0, 1) := by decide +kernel
theorem dX6_holds_1 : decode cX6_holds 1 = .ok (.istore_n 1, 1) := by decide +kernel
theorem dX6_holds_2 : decode cX6_holds 2 = .ok (.iload_n 1, 1) := by decide +kernel
theorem dX6_holds_3 : decode cX6_holds 3 = .ok (.aload_n 0, 1) := by decide +kernel
theorem dX6_holds_4 : decode cX6_holds 4 = .ok (.getfield 100, 3) := by decide +kernel
theorem dX6_holds_7 : decode cX6_holds 7 = .ok (.if_icmp .ge 16, 3) := by decide +kernel
theorem dX6_holds_10 : decode cX6_holds 10 = .ok (.aload_n 0, 1) := by decide +kernel
theorem dX6_holds_11 : decode cX6_holds 11 = .ok (.getfield 86, 3) := by decide +kernel
theorem dX6_holds_14 : decode cX6_holds 14 = .ok (.iload_n 1, 1) := by decide +kernel
theorem dX6_holds_15 : decode cX6_holds 15 = .ok (.iconst 0, 1) := by decide +kernel
theorem dX6_holds_16 : decode cX6_holds 16 = .ok (.bastore, 1) := by decide +kernel
theorem dX6_holds_17 : decode cX6_holds 17 = .ok (.iinc 1 1, 3) := by decide +kernel
theorem dX6_holds_20 : decode cX6_holds 20 = .ok (.goto (-18), 3) := by decide +kernel
theorem dX6_holds_23 : decode cX6_holds 23 = .ok (.iconst 0, 1) := by decide +kernel
theorem dX6_holds_24 : decode cX6_holds 24 = .ok (.istore_n 1, 1) := by decide +kernel
theorem dX6_holds_25 : decode cX6_holds 25 = .ok (.iload_n 1, 1) := by decide +kernel
theorem dX6_holds_26 : decode cX6_holds 26 = .ok (.aload_n 0, 1) := by decide +kernel
theorem dX6_holds_27 : decode cX6_holds 27 = .ok (.getfield 103, 3) := by decide +kernel
theorem dX6_holds_30 : decode cX6_holds 30 = .ok (.if_icmp .ge 48, 3) := by decide +kernel
theorem dX6_holds_33 : decode cX6_holds 33 = .ok (.aload_n 0, 1) := by decide +kernel
theorem dX6_holds_34 : decode cX6_holds 34 = .ok (.getfield 86, 3) := by decide +kernel
theorem dX6_holds_37 : decode cX6_holds 37 = .ok (.aload_n 0, 1) := by decide +kernel
theorem dX6_holds_38 : decode cX6_holds 38 = .ok (.getfield 62, 3) := by decide +kernel
theorem dX6_holds_41 : decode cX6_holds 41 = .ok (.iload_n 1, 1) := by decide +kernel
theorem dX6_holds_42 : decode cX6_holds 42 = .ok (.iaload, 1) := by decide +kernel
theorem dX6_holds_43 : decode cX6_holds 43 = .ok (.aload_n 0, 1) := by decide +kernel
theorem dX6_holds_44 : decode cX6_holds 44 = .ok (.getfield 86, 3) := by decide +kernel
theorem dX6_holds_47 : decode cX6_holds 47 = .ok (.aload_n 0, 1) := by decide +kernel
theorem dX6_holds_48 : decode cX6_holds 48 = .ok (.getfield 62, 3) := by decide +kernel
theorem dX6_holds_51 : decode cX6_holds 51 = .ok (.iload_n 1, 1) := by decide +kernel
theorem dX6_holds_52 : decode cX6_holds 52 = .ok (.iaload, 1) := by decide +kernel
theorem dX6_holds_53 : decode cX6_holds 53 = .ok (.baload, 1) := by decide +kernel
theorem dX6_holds_54 : decode cX6_holds 54 = .ok (.ifCond .ne 12, 3) := by decide +kernel
theorem dX6_holds_57 : decode cX6_holds 57 = .ok (.aload_n 0, 1) := by decide +kernel
theorem dX6_holds_58 : decode cX6_holds 58 = .ok (.getfield 65, 3) := by decide +kernel
theorem dX6_holds_61 : decode cX6_holds 61 = .ok (.iload_n 1, 1) := by decide +kernel
theorem dX6_holds_62 : decode cX6_holds 62 = .ok (.baload, 1) := by decide +kernel
theorem dX6_holds_63 : decode cX6_holds 63 = .ok (.ifCond .ne 7, 3) := by decide +kernel
theorem dX6_holds_66 : decode cX6_holds 66 = .ok (.iconst 1, 1) := by decide +kernel
theorem dX6_holds_67 : decode cX6_holds 67 = .ok (.goto 4, 3) := by decide +kernel
theorem dX6_holds_70 : decode cX6_holds 70 = .ok (.iconst 0, 1) := by decide +kernel
theorem dX6_holds_71 : decode cX6_holds 71 = .ok (.bastore, 1) := by decide +kernel
theorem dX6_holds_72 : decode cX6_holds 72 = .ok (.iinc 1 1, 3) := by decide +kernel
theorem dX6_holds_75 : decode cX6_holds 75 = .ok (.goto (-50), 3) := by decide +kernel
theorem dX6_holds_78 : decode cX6_holds 78 = .ok (.iconst 0, 1) := by decide +kernel
theorem dX6_holds_79 : decode cX6_holds 79 = .ok (.istore_n 1, 1) := by decide +kernel
theorem dX6_holds_80 : decode cX6_holds 80 = .ok (.iload_n 1, 1) := by decide +kernel
theorem dX6_holds_81 : decode cX6_holds 81 = .ok (.bipush 31, 2) := by decide +kernel
theorem dX6_holds_83 : decode cX6_holds 83 = .ok (.aload_n 0, 1) := by decide +kernel
theorem dX6_holds_84 : decode cX6_holds 84 = .ok (.getfield 93, 3) := by decide +kernel
theorem dX6_holds_87 : decode cX6_holds 87 = .ok (.imul, 1) := by decide +kernel
theorem dX6_holds_88 : decode cX6_holds 88 = .ok (.if_icmp .ge 65, 3) := by decide +kernel
theorem dX6_holds_91 : decode cX6_holds 91 = .ok (.aload_n 0, 1) := by decide +kernel
theorem dX6_holds_92 : decode cX6_holds 92 = .ok (.getfield 32, 3) := by decide +kernel
theorem dX6_holds_95 : decode cX6_holds 95 = .ok (.iload_n 1, 1) := by decide +kernel
theorem dX6_holds_96 : decode cX6_holds 96 = .ok (.bipush 31, 2) := by decide +kernel
theorem dX6_holds_98 : decode cX6_holds 98 = .ok (.idiv, 1) := by decide +kernel
theorem dX6_holds_99 : decode cX6_holds 99 = .ok (.baload, 1) := by decide +kernel
theorem dX6_holds_100 : decode cX6_holds 100 = .ok (.ifCond .ne 47, 3) := by decide +kernel
theorem dX6_holds_103 : decode cX6_holds 103 = .ok (.aload_n 0, 1) := by decide +kernel
theorem dX6_holds_104 : decode cX6_holds 104 = .ok (.getfield 38, 3) := by decide +kernel
theorem dX6_holds_107 : decode cX6_holds 107 = .ok (.iload_n 1, 1) := by decide +kernel
theorem dX6_holds_108 : decode cX6_holds 108 = .ok (.iaload, 1) := by decide +kernel
theorem dX6_holds_109 : decode cX6_holds 109 = .ok (.iconst (-1), 1) := by decide +kernel
theorem dX6_holds_110 : decode cX6_holds 110 = .ok (.if_icmp .eq 15, 3) := by decide +kernel
theorem dX6_holds_113 : decode cX6_holds 113 = .ok (.aload_n 0, 1) := by decide +kernel
theorem dX6_holds_114 : decode cX6_holds 114 = .ok (.getfield 86, 3) := by decide +kernel
theorem dX6_holds_117 : decode cX6_holds 117 = .ok (.aload_n 0, 1) := by decide +kernel
theorem dX6_holds_118 : decode cX6_holds 118 = .ok (.getfield 38, 3) := by decide +kernel
theorem dX6_holds_121 : decode cX6_holds 121 = .ok (.iload_n 1, 1) := by decide +kernel
theorem dX6_holds_122 : decode cX6_holds 122 = .ok (.iaload, 1) := by decide +kernel
theorem dX6_holds_123 : decode cX6_holds 123 = .ok (.iconst 1, 1) := by decide +kernel
theorem dX6_holds_124 : decode cX6_holds 124 = .ok (.bastore, 1) := by decide +kernel
theorem dX6_holds_125 : decode cX6_holds 125 = .ok (.aload_n 0, 1) := by decide +kernel
theorem dX6_holds_126 : decode cX6_holds 126 = .ok (.getfield 41, 3) := by decide +kernel
theorem dX6_holds_129 : decode cX6_holds 129 = .ok (.iload_n 1, 1) := by decide +kernel
theorem dX6_holds_130 : decode cX6_holds 130 = .ok (.iaload, 1) := by decide +kernel
theorem dX6_holds_131 : decode cX6_holds 131 = .ok (.iconst (-1), 1) := by decide +kernel
theorem dX6_holds_132 : decode cX6_holds 132 = .ok (.if_icmp .eq 15, 3) := by decide +kernel
theorem dX6_holds_135 : decode cX6_holds 135 = .ok (.aload_n 0, 1) := by decide +kernel
theorem dX6_holds_136 : decode cX6_holds 136 = .ok (.getfield 86, 3) := by decide +kernel
theorem dX6_holds_139 : decode cX6_holds 139 = .ok (.aload_n 0, 1) := by decide +kernel
theorem dX6_holds_140 : decode cX6_holds 140 = .ok (.getfield 41, 3) := by decide +kernel
theorem dX6_holds_143 : decode cX6_holds 143 = .ok (.iload_n 1, 1) := by decide +kernel
theorem dX6_holds_144 : decode cX6_holds 144 = .ok (.iaload, 1) := by decide +kernel
theorem dX6_holds_145 : decode cX6_holds 145 = .ok (.iconst 1, 1) := by decide +kernel
theorem dX6_holds_146 : decode cX6_holds 146 = .ok (.bastore, 1) := by decide +kernel
theorem dX6_holds_147 : decode cX6_holds 147 = .ok (.iinc 1 1, 3) := by decide +kernel
theorem dX6_holds_150 : decode cX6_holds 150 = .ok (.goto (-70), 3) := by decide +kernel
theorem dX6_holds_153 : decode cX6_holds 153 = .ok (.aload_n 0, 1) := by decide +kernel
theorem dX6_holds_154 : decode cX6_holds 154 = .ok (.getfield 100, 3) := by decide +kernel
theorem dX6_holds_157 : decode cX6_holds 157 = .ok (.iconst 1, 1) := by decide +kernel
theorem dX6_holds_158 : decode cX6_holds 158 = .ok (.isub, 1) := by decide +kernel
theorem dX6_holds_159 : decode cX6_holds 159 = .ok (.istore_n 1, 1) := by decide +kernel
theorem dX6_holds_160 : decode cX6_holds 160 = .ok (.iload_n 1, 1) := by decide +kernel
theorem dX6_holds_161 : decode cX6_holds 161 = .ok (.ifCond .lt 40, 3) := by decide +kernel
theorem dX6_holds_164 : decode cX6_holds 164 = .ok (.aload_n 0, 1) := by decide +kernel
theorem dX6_holds_165 : decode cX6_holds 165 = .ok (.getfield 86, 3) := by decide +kernel
theorem dX6_holds_168 : decode cX6_holds 168 = .ok (.iload_n 1, 1) := by decide +kernel
theorem dX6_holds_169 : decode cX6_holds 169 = .ok (.baload, 1) := by decide +kernel
theorem dX6_holds_170 : decode cX6_holds 170 = .ok (.ifCond .eq 25, 3) := by decide +kernel
theorem dX6_holds_173 : decode cX6_holds 173 = .ok (.aload_n 0, 1) := by decide +kernel
theorem dX6_holds_174 : decode cX6_holds 174 = .ok (.getfield 53, 3) := by decide +kernel
theorem dX6_holds_177 : decode cX6_holds 177 = .ok (.iload_n 1, 1) := by decide +kernel
theorem dX6_holds_178 : decode cX6_holds 178 = .ok (.iaload, 1) := by decide +kernel
theorem dX6_holds_179 : decode cX6_holds 179 = .ok (.iconst (-1), 1) := by decide +kernel
theorem dX6_holds_180 : decode cX6_holds 180 = .ok (.if_icmp .eq 15, 3) := by decide +kernel
theorem dX6_holds_183 : decode cX6_holds 183 = .ok (.aload_n 0, 1) := by decide +kernel
theorem dX6_holds_184 : decode cX6_holds 184 = .ok (.getfield 86, 3) := by decide +kernel
theorem dX6_holds_187 : decode cX6_holds 187 = .ok (.aload_n 0, 1) := by decide +kernel
theorem dX6_holds_188 : decode cX6_holds 188 = .ok (.getfield 53, 3) := by decide +kernel
theorem dX6_holds_191 : decode cX6_holds 191 = .ok (.iload_n 1, 1) := by decide +kernel
theorem dX6_holds_192 : decode cX6_holds 192 = .ok (.iaload, 1) := by decide +kernel
theorem dX6_holds_193 : decode cX6_holds 193 = .ok (.iconst 1, 1) := by decide +kernel
theorem dX6_holds_194 : decode cX6_holds 194 = .ok (.bastore, 1) := by decide +kernel
theorem dX6_holds_195 : decode cX6_holds 195 = .ok (.iinc 1 (-1), 3) := by decide +kernel
theorem dX6_holds_198 : decode cX6_holds 198 = .ok (.goto (-38), 3) := by decide +kernel
theorem dX6_holds_201 : decode cX6_holds 201 = .ok (.return_, 1) := by decide +kernel
theorem dX6_held_0 : decode cX6_held 0 = .ok (.aload_n 0, 1) := by decide +kernel
theorem dX6_held_1 : decode cX6_held 1 = .ok (.iload_n 1, 1) := by decide +kernel
theorem dX6_held_2 : decode cX6_held 2 = .ok (.invokevirtual 110, 3) := by decide +kernel
theorem dX6_held_5 : decode cX6_held 5 = .ok (.ifCond .ne 6, 3) := by decide +kernel
theorem dX6_held_8 : decode cX6_held 8 = .ok (.bipush (-2), 2) := by decide +kernel
theorem dX6_held_10 : decode cX6_held 10 = .ok (.ireturn, 1) := by decide +kernel
theorem dX6_held_11 : decode cX6_held 11 = .ok (.aload_n 0, 1) := by decide +kernel
theorem dX6_held_12 : decode cX6_held 12 = .ok (.invokevirtual 171, 3) := by decide +kernel
theorem dX6_held_15 : decode cX6_held 15 = .ok (.iconst 0, 1) := by decide +kernel
theorem dX6_held_16 : decode cX6_held 16 = .ok (.istore_n 2, 1) := by decide +kernel
theorem dX6_held_17 : decode cX6_held 17 = .ok (.iconst 0, 1) := by decide +kernel
theorem dX6_held_18 : decode cX6_held 18 = .ok (.istore_n 3, 1) := by decide +kernel
theorem dX6_held_19 : decode cX6_held 19 = .ok (.iload_n 3, 1) := by decide +kernel
theorem dX6_held_20 : decode cX6_held 20 = .ok (.aload_n 0, 1) := by decide +kernel
theorem dX6_held_21 : decode cX6_held 21 = .ok (.getfield 100, 3) := by decide +kernel
theorem dX6_held_24 : decode cX6_held 24 = .ok (.if_icmp .ge 36, 3) := by decide +kernel
theorem dX6_held_27 : decode cX6_held 27 = .ok (.aload_n 0, 1) := by decide +kernel
theorem dX6_held_28 : decode cX6_held 28 = .ok (.getfield 47, 3) := by decide +kernel
theorem dX6_held_31 : decode cX6_held 31 = .ok (.iload_n 3, 1) := by decide +kernel
theorem dX6_held_32 : decode cX6_held 32 = .ok (.iaload, 1) := by decide +kernel
theorem dX6_held_33 : decode cX6_held 33 = .ok (.iload_n 1, 1) := by decide +kernel
theorem dX6_held_34 : decode cX6_held 34 = .ok (.if_icmp .ne 18, 3) := by decide +kernel
theorem dX6_held_37 : decode cX6_held 37 = .ok (.aload_n 0, 1) := by decide +kernel
theorem dX6_held_38 : decode cX6_held 38 = .ok (.getfield 86, 3) := by decide +kernel
theorem dX6_held_41 : decode cX6_held 41 = .ok (.iload_n 3, 1) := by decide +kernel
theorem dX6_held_42 : decode cX6_held 42 = .ok (.baload, 1) := by decide +kernel
theorem dX6_held_43 : decode cX6_held 43 = .ok (.ifCond .eq 9, 3) := by decide +kernel
theorem dX6_held_46 : decode cX6_held 46 = .ok (.iload_n 2, 1) := by decide +kernel
theorem dX6_held_47 : decode cX6_held 47 = .ok (.iconst 1, 1) := by decide +kernel
theorem dX6_held_48 : decode cX6_held 48 = .ok (.iadd, 1) := by decide +kernel
theorem dX6_held_49 : decode cX6_held 49 = .ok (.goto 4, 3) := by decide +kernel
theorem dX6_held_52 : decode cX6_held 52 = .ok (.iload_n 2, 1) := by decide +kernel
theorem dX6_held_53 : decode cX6_held 53 = .ok (.istore_n 2, 1) := by decide +kernel
theorem dX6_held_54 : decode cX6_held 54 = .ok (.iinc 3 1, 3) := by decide +kernel
theorem dX6_held_57 : decode cX6_held 57 = .ok (.goto (-38), 3) := by decide +kernel
theorem dX6_held_60 : decode cX6_held 60 = .ok (.iload_n 2, 1) := by decide +kernel
theorem dX6_held_61 : decode cX6_held 61 = .ok (.ireturn, 1) := by decide +kernel
theorem dX6_isHeld_0 : decode cX6_isHeld 0 = .ok (.aload_n 0, 1) := by decide +kernel
theorem dX6_isHeld_1 : decode cX6_isHeld 1 = .ok (.iload_n 1, 1) := by decide +kernel
theorem dX6_isHeld_2 : decode cX6_isHeld 2 = .ok (.invokevirtual 165, 3) := by decide +kernel
theorem dX6_isHeld_5 : decode cX6_isHeld 5 = .ok (.ifCond .ne 6, 3) := by decide +kernel
theorem dX6_isHeld_8 : decode cX6_isHeld 8 = .ok (.bipush (-2), 2) := by decide +kernel
theorem dX6_isHeld_10 : decode cX6_isHeld 10 = .ok (.ireturn, 1) := by decide +kernel
theorem dX6_isHeld_11 : decode cX6_isHeld 11 = .ok (.aload_n 0, 1) := by decide +kernel
theorem dX6_isHeld_12 : decode cX6_isHeld 12 = .ok (.invokevirtual 171, 3) := by decide +kernel
theorem dX6_isHeld_15 : decode cX6_isHeld 15 = .ok (.aload_n 0, 1) := by decide +kernel
theorem dX6_isHeld_16 : decode cX6_isHeld 16 = .ok (.getfield 86, 3) := by decide +kernel
theorem dX6_isHeld_19 : decode cX6_isHeld 19 = .ok (.iload_n 1, 1) := by decide +kernel
theorem dX6_isHeld_20 : decode cX6_isHeld 20 = .ok (.baload, 1) := by decide +kernel
theorem dX6_isHeld_21 : decode cX6_isHeld 21 = .ok (.ifCond .eq 7, 3) := by decide +kernel
theorem dX6_isHeld_24 : decode cX6_isHeld 24 = .ok (.iconst 1, 1) := by decide +kernel
theorem dX6_isHeld_25 : decode cX6_isHeld 25 = .ok (.goto 4, 3) := by decide +kernel
theorem dX6_isHeld_28 : decode cX6_isHeld 28 = .ok (.iconst 0, 1) := by decide +kernel
theorem dX6_isHeld_29 : decode cX6_isHeld 29 = .ok (.ireturn, 1) := by decide +kernel
theorem dX6_about_0 : decode cX6_about 0 = .ok (.aload_n 0, 1) := by decide +kernel
theorem dX6_about_1 : decode cX6_about 1 = .ok (.iload_n 1, 1) := by decide +kernel
theorem dX6_about_2 : decode cX6_about 2 = .ok (.invokevirtual 165, 3) := by decide +kernel
theorem dX6_about_5 : decode cX6_about 5 = .ok (.ifCond .ne 5, 3) := by decide +kernel
theorem dX6_about_8 : decode cX6_about 8 = .ok (.iconst 0, 1) := by decide +kernel
theorem dX6_about_9 : decode cX6_about 9 = .ok (.ireturn, 1) := by decide +kernel
theorem dX6_about_10 : decode cX6_about 10 = .ok (.iload_n 2, 1) := by decide +kernel
theorem dX6_about_11 : decode cX6_about 11 = .ok (.tableswitch 84 0 5 #[37, 44, 51, 58, 65, 77], 37) := by decide +kernel
theorem dX6_about_48 : decode cX6_about 48 = .ok (.aload_n 0, 1) := by decide +kernel
theorem dX6_about_49 : decode cX6_about 49 = .ok (.getfield 47, 3) := by decide +kernel
theorem dX6_about_52 : decode cX6_about 52 = .ok (.iload_n 1, 1) := by decide +kernel
theorem dX6_about_53 : decode cX6_about 53 = .ok (.iaload, 1) := by decide +kernel
theorem dX6_about_54 : decode cX6_about 54 = .ok (.ireturn, 1) := by decide +kernel
theorem dX6_about_55 : decode cX6_about 55 = .ok (.aload_n 0, 1) := by decide +kernel
theorem dX6_about_56 : decode cX6_about 56 = .ok (.getfield 50, 3) := by decide +kernel
theorem dX6_about_59 : decode cX6_about 59 = .ok (.iload_n 1, 1) := by decide +kernel
theorem dX6_about_60 : decode cX6_about 60 = .ok (.iaload, 1) := by decide +kernel
theorem dX6_about_61 : decode cX6_about 61 = .ok (.ireturn, 1) := by decide +kernel
theorem dX6_about_62 : decode cX6_about 62 = .ok (.aload_n 0, 1) := by decide +kernel
theorem dX6_about_63 : decode cX6_about 63 = .ok (.getfield 53, 3) := by decide +kernel
theorem dX6_about_66 : decode cX6_about 66 = .ok (.iload_n 1, 1) := by decide +kernel
theorem dX6_about_67 : decode cX6_about 67 = .ok (.iaload, 1) := by decide +kernel
theorem dX6_about_68 : decode cX6_about 68 = .ok (.ireturn, 1) := by decide +kernel
theorem dX6_about_69 : decode cX6_about 69 = .ok (.aload_n 0, 1) := by decide +kernel
theorem dX6_about_70 : decode cX6_about 70 = .ok (.getfield 59, 3) := by decide +kernel
theorem dX6_about_73 : decode cX6_about 73 = .ok (.iload_n 1, 1) := by decide +kernel
theorem dX6_about_74 : decode cX6_about 74 = .ok (.iaload, 1) := by decide +kernel
theorem dX6_about_75 : decode cX6_about 75 = .ok (.ireturn, 1) := by decide +kernel
theorem dX6_about_76 : decode cX6_about 76 = .ok (.aload_n 0, 1) := by decide +kernel
theorem dX6_about_77 : decode cX6_about 77 = .ok (.getfield 13, 3) := by decide +kernel
theorem dX6_about_80 : decode cX6_about 80 = .ok (.aload_n 0, 1) := by decide +kernel
theorem dX6_about_81 : decode cX6_about 81 = .ok (.getfield 56, 3) := by decide +kernel
theorem dX6_about_84 : decode cX6_about 84 = .ok (.iload_n 1, 1) := by decide +kernel
theorem dX6_about_85 : decode cX6_about 85 = .ok (.iaload, 1) := by decide +kernel
theorem dX6_about_86 : decode cX6_about 86 = .ok (.iaload, 1) := by decide +kernel
theorem dX6_about_87 : decode cX6_about 87 = .ok (.ireturn, 1) := by decide +kernel
theorem dX6_about_88 : decode cX6_about 88 = .ok (.aload_n 0, 1) := by decide +kernel
theorem dX6_about_89 : decode cX6_about 89 = .ok (.getfield 56, 3) := by decide +kernel
theorem dX6_about_92 : decode cX6_about 92 = .ok (.iload_n 1, 1) := by decide +kernel
theorem dX6_about_93 : decode cX6_about 93 = .ok (.iaload, 1) := by decide +kernel
theorem dX6_about_94 : decode cX6_about 94 = .ok (.ireturn, 1) := by decide +kernel
theorem dX6_about_95 : decode cX6_about 95 = .ok (.iconst 0, 1) := by decide +kernel
theorem dX6_about_96 : decode cX6_about 96 = .ok (.ireturn, 1) := by decide +kernel
theorem dX6_aboutThing_0 : decode cX6_aboutThing 0 = .ok (.aload_n 0, 1) := by decide +kernel
theorem dX6_aboutThing_1 : decode cX6_aboutThing 1 = .ok (.iload_n 1, 1) := by decide +kernel
theorem dX6_aboutThing_2 : decode cX6_aboutThing 2 = .ok (.invokevirtual 168, 3) := by decide +kernel
theorem dX6_aboutThing_5 : decode cX6_aboutThing 5 = .ok (.ifCond .eq 12, 3) := by decide +kernel
theorem dX6_aboutThing_8 : decode cX6_aboutThing 8 = .ok (.iload_n 2, 1) := by decide +kernel
theorem dX6_aboutThing_9 : decode cX6_aboutThing 9 = .ok (.iconst 0, 1) := by decide +kernel
theorem dX6_aboutThing_10 : decode cX6_aboutThing 10 = .ok (.iconst 1, 1) := by decide +kernel
theorem dX6_aboutThing_11 : decode cX6_aboutThing 11 = .ok (.invokestatic 89, 3) := by decide +kernel
theorem dX6_aboutThing_14 : decode cX6_aboutThing 14 = .ok (.ifCond .ne 6, 3) := by decide +kernel
theorem dX6_aboutThing_17 : decode cX6_aboutThing 17 = .ok (.bipush (-2), 2) := by decide +kernel
theorem dX6_aboutThing_19 : decode cX6_aboutThing 19 = .ok (.ireturn, 1) := by decide +kernel
theorem dX6_aboutThing_20 : decode cX6_aboutThing 20 = .ok (.iload_n 2, 1) := by decide +kernel
theorem dX6_aboutThing_21 : decode cX6_aboutThing 21 = .ok (.ifCond .ne 12, 3) := by decide +kernel
theorem dX6_aboutThing_24 : decode cX6_aboutThing 24 = .ok (.aload_n 0, 1) := by decide +kernel
theorem dX6_aboutThing_25 : decode cX6_aboutThing 25 = .ok (.getfield 62, 3) := by decide +kernel
theorem dX6_aboutThing_28 : decode cX6_aboutThing 28 = .ok (.iload_n 1, 1) := by decide +kernel
theorem dX6_aboutThing_29 : decode cX6_aboutThing 29 = .ok (.iaload, 1) := by decide +kernel
theorem dX6_aboutThing_30 : decode cX6_aboutThing 30 = .ok (.goto 17, 3) := by decide +kernel
theorem dX6_aboutThing_33 : decode cX6_aboutThing 33 = .ok (.aload_n 0, 1) := by decide +kernel
theorem dX6_aboutThing_34 : decode cX6_aboutThing 34 = .ok (.getfield 65, 3) := by decide +kernel
theorem dX6_aboutThing_37 : decode cX6_aboutThing 37 = .ok (.iload_n 1, 1) := by decide +kernel
theorem dX6_aboutThing_38 : decode cX6_aboutThing 38 = .ok (.baload, 1) := by decide +kernel
theorem dX6_aboutThing_39 : decode cX6_aboutThing 39 = .ok (.ifCond .eq 7, 3) := by decide +kernel
theorem dX6_aboutThing_42 : decode cX6_aboutThing 42 = .ok (.iconst 1, 1) := by decide +kernel
theorem dX6_aboutThing_43 : decode cX6_aboutThing 43 = .ok (.goto 4, 3) := by decide +kernel
theorem dX6_aboutThing_46 : decode cX6_aboutThing 46 = .ok (.iconst 0, 1) := by decide +kernel
theorem dX6_aboutThing_47 : decode cX6_aboutThing 47 = .ok (.ireturn, 1) := by decide +kernel
theorem dX6_order_0 : decode cX6_order 0 = .ok (.iload_n 1, 1) := by decide +kernel
theorem dX6_order_1 : decode cX6_order 1 = .ok (.iconst 0, 1) := by decide +kernel
theorem dX6_order_2 : decode cX6_order 2 = .ok (.aload_n 0, 1) := by decide +kernel
theorem dX6_order_3 : decode cX6_order 3 = .ok (.getfield 154, 3) := by decide +kernel
theorem dX6_order_6 : decode cX6_order 6 = .ok (.iconst 1, 1) := by decide +kernel
theorem dX6_order_7 : decode cX6_order 7 = .ok (.isub, 1) := by decide +kernel
theorem dX6_order_8 : decode cX6_order 8 = .ok (.invokestatic 89, 3) := by decide +kernel
theorem dX6_order_11 : decode cX6_order 11 = .ok (.ifCond .eq 12, 3) := by decide +kernel
theorem dX6_order_14 : decode cX6_order 14 = .ok (.aload_n 0, 1) := by decide +kernel
theorem dX6_order_15 : decode cX6_order 15 = .ok (.getfield 68, 3) := by decide +kernel
theorem dX6_order_18 : decode cX6_order 18 = .ok (.iload_n 1, 1) := by decide +kernel
theorem dX6_order_19 : decode cX6_order 19 = .ok (.iaload, 1) := by decide +kernel
theorem dX6_order_20 : decode cX6_order 20 = .ok (.goto 4, 3) := by decide +kernel
theorem dX6_order_23 : decode cX6_order 23 = .ok (.iconst 0, 1) := by decide +kernel
theorem dX6_order_24 : decode cX6_order 24 = .ok (.ireturn, 1) := by decide +kernel
theorem dX6_count_0 : decode cX6_count 0 = .ok (.iload_n 1, 1) := by decide +kernel
theorem dX6_count_1 : decode cX6_count 1 = .ok (.tableswitch 60 0 4 #[35, 40, 45, 50, 55], 35) := by decide +kernel
theorem dX6_count_36 : decode cX6_count 36 = .ok (.aload_n 0, 1) := by decide +kernel
theorem dX6_count_37 : decode cX6_count 37 = .ok (.getfield 97, 3) := by decide +kernel
theorem dX6_count_40 : decode cX6_count 40 = .ok (.ireturn, 1) := by decide +kernel
theorem dX6_count_41 : decode cX6_count 41 = .ok (.aload_n 0, 1) := by decide +kernel
theorem dX6_count_42 : decode cX6_count 42 = .ok (.getfield 93, 3) := by decide +kernel
theorem dX6_count_45 : decode cX6_count 45 = .ok (.ireturn, 1) := by decide +kernel
theorem dX6_count_46 : decode cX6_count 46 = .ok (.aload_n 0, 1) := by decide +kernel
theorem dX6_count_47 : decode cX6_count 47 = .ok (.getfield 100, 3) := by decide +kernel
theorem dX6_count_50 : decode cX6_count 50 = .ok (.ireturn, 1) := by decide +kernel
theorem dX6_count_51 : decode cX6_count 51 = .ok (.aload_n 0, 1) := by decide +kernel
theorem dX6_count_52 : decode cX6_count 52 = .ok (.getfield 103, 3) := by decide +kernel
theorem dX6_count_55 : decode cX6_count 55 = .ok (.ireturn, 1) := by decide +kernel
theorem dX6_count_56 : decode cX6_count 56 = .ok (.aload_n 0, 1) := by decide +kernel
theorem dX6_count_57 : decode cX6_count 57 = .ok (.getfield 154, 3) := by decide +kernel
theorem dX6_count_60 : decode cX6_count 60 = .ok (.ireturn, 1) := by decide +kernel
theorem dX6_count_61 : decode cX6_count 61 = .ok (.bipush (-2), 2) := by decide +kernel
theorem dX6_count_63 : decode cX6_count 63 = .ok (.ireturn, 1) := by decide +kernel
