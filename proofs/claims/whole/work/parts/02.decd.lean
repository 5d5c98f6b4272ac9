theorem dX0_init_0 : decode cX0_init 0 = .ok (.aload_n 0, 1) := by decide +kernel
theorem dX0_init_1 : decode cX0_init 1 = .ok (.invokespecial 3, 3) := by decide +kernel
theorem dX0_init_4 : decode cX0_init 4 = .ok (.aload_n 0, 1) := by decide +kernel
theorem dX0_init_5 : decode cX0_init 5 = .ok (.bipush 40, 2) := by decide +kernel
theorem dX0_init_7 : decode cX0_init 7 = .ok (.newarray .int, 2) := by decide +kernel
theorem dX0_init_9 : decode cX0_init 9 = .ok (.putfield 9, 3) := by decide +kernel
theorem dX0_init_12 : decode cX0_init 12 = .ok (.aload_n 0, 1) := by decide +kernel
theorem dX0_init_13 : decode cX0_init 13 = .ok (.bipush 40, 2) := by decide +kernel
theorem dX0_init_15 : decode cX0_init 15 = .ok (.newarray .int, 2) := by decide +kernel
theorem dX0_init_17 : decode cX0_init 17 = .ok (.putfield 15, 3) := by decide +kernel
theorem dX0_init_20 : decode cX0_init 20 = .ok (.aload_n 0, 1) := by decide +kernel
theorem dX0_init_21 : decode cX0_init 21 = .ok (.bipush 40, 2) := by decide +kernel
theorem dX0_init_23 : decode cX0_init 23 = .ok (.newarray .int, 2) := by decide +kernel
theorem dX0_init_25 : decode cX0_init 25 = .ok (.putfield 18, 3) := by decide +kernel
theorem dX0_init_28 : decode cX0_init 28 = .ok (.aload_n 0, 1) := by decide +kernel
theorem dX0_init_29 : decode cX0_init 29 = .ok (.bipush 40, 2) := by decide +kernel
theorem dX0_init_31 : decode cX0_init 31 = .ok (.newarray .int, 2) := by decide +kernel
theorem dX0_init_33 : decode cX0_init 33 = .ok (.putfield 21, 3) := by decide +kernel
theorem dX0_init_36 : decode cX0_init 36 = .ok (.aload_n 0, 1) := by decide +kernel
theorem dX0_init_37 : decode cX0_init 37 = .ok (.bipush 40, 2) := by decide +kernel
theorem dX0_init_39 : decode cX0_init 39 = .ok (.newarray .int, 2) := by decide +kernel
theorem dX0_init_41 : decode cX0_init 41 = .ok (.putfield 24, 3) := by decide +kernel
theorem dX0_init_44 : decode cX0_init 44 = .ok (.aload_n 0, 1) := by decide +kernel
theorem dX0_init_45 : decode cX0_init 45 = .ok (.iconst 0, 1) := by decide +kernel
theorem dX0_init_46 : decode cX0_init 46 = .ok (.putfield 27, 3) := by decide +kernel
theorem dX0_init_49 : decode cX0_init 49 = .ok (.return_, 1) := by decide +kernel
theorem dX0_has_0 : decode cX0_has 0 = .ok (.iload_n 1, 1) := by decide +kernel
theorem dX0_has_1 : decode cX0_has 1 = .ok (.ifCond .lt 15, 3) := by decide +kernel
theorem dX0_has_4 : decode cX0_has 4 = .ok (.iload_n 1, 1) := by decide +kernel
theorem dX0_has_5 : decode cX0_has 5 = .ok (.aload_n 0, 1) := by decide +kernel
theorem dX0_has_6 : decode cX0_has 6 = .ok (.getfield 27, 3) := by decide +kernel
theorem dX0_has_9 : decode cX0_has 9 = .ok (.if_icmp .ge 7, 3) := by decide +kernel
theorem dX0_has_12 : decode cX0_has 12 = .ok (.iconst 1, 1) := by decide +kernel
theorem dX0_has_13 : decode cX0_has 13 = .ok (.goto 4, 3) := by decide +kernel
theorem dX0_has_16 : decode cX0_has 16 = .ok (.iconst 0, 1) := by decide +kernel
theorem dX0_has_17 : decode cX0_has 17 = .ok (.ireturn, 1) := by decide +kernel
theorem dX0_hasFlag_0 : decode cX0_hasFlag 0 = .ok (.aload_n 0, 1) := by decide +kernel
theorem dX0_hasFlag_1 : decode cX0_hasFlag 1 = .ok (.getfield 24, 3) := by decide +kernel
theorem dX0_hasFlag_4 : decode cX0_hasFlag 4 = .ok (.iload_n 1, 1) := by decide +kernel
theorem dX0_hasFlag_5 : decode cX0_hasFlag 5 = .ok (.iaload, 1) := by decide +kernel
theorem dX0_hasFlag_6 : decode cX0_hasFlag 6 = .ok (.iload_n 2, 1) := by decide +kernel
theorem dX0_hasFlag_7 : decode cX0_hasFlag 7 = .ok (.iand, 1) := by decide +kernel
theorem dX0_hasFlag_8 : decode cX0_hasFlag 8 = .ok (.ifCond .eq 7, 3) := by decide +kernel
theorem dX0_hasFlag_11 : decode cX0_hasFlag 11 = .ok (.iconst 1, 1) := by decide +kernel
theorem dX0_hasFlag_12 : decode cX0_hasFlag 12 = .ok (.goto 4, 3) := by decide +kernel
theorem dX0_hasFlag_15 : decode cX0_hasFlag 15 = .ok (.iconst 0, 1) := by decide +kernel
theorem dX0_hasFlag_16 : decode cX0_hasFlag 16 = .ok (.ireturn, 1) := by decide +kernel
theorem dX0_add_0 : decode cX0_add 0 = .ok (.aload_n 0, 1) := by decide +kernel
theorem dX0_add_1 : decode cX0_add 1 = .ok (.getfield 27, 3) := by decide +kernel
theorem dX0_add_4 : decode cX0_add 4 = .ok (.bipush 40, 2) := by decide +kernel
theorem dX0_add_6 : decode cX0_add 6 = .ok (.if_icmp .lt 6, 3) := by decide +kernel
theorem dX0_add_9 : decode cX0_add 9 = .ok (.bipush (-4), 2) := by decide +kernel
theorem dX0_add_11 : decode cX0_add 11 = .ok (.ireturn, 1) := by decide +kernel
theorem dX0_add_12 : decode cX0_add 12 = .ok (.aload_n 0, 1) := by decide +kernel
theorem dX0_add_13 : decode cX0_add 13 = .ok (.getfield 9, 3) := by decide +kernel
theorem dX0_add_16 : decode cX0_add 16 = .ok (.aload_n 0, 1) := by decide +kernel
theorem dX0_add_17 : decode cX0_add 17 = .ok (.getfield 27, 3) := by decide +kernel
theorem dX0_add_20 : decode cX0_add 20 = .ok (.iload_n 1, 1) := by decide +kernel
theorem dX0_add_21 : decode cX0_add 21 = .ok (.iastore, 1) := by decide +kernel
theorem dX0_add_22 : decode cX0_add 22 = .ok (.aload_n 0, 1) := by decide +kernel
theorem dX0_add_23 : decode cX0_add 23 = .ok (.getfield 15, 3) := by decide +kernel
theorem dX0_add_26 : decode cX0_add 26 = .ok (.aload_n 0, 1) := by decide +kernel
theorem dX0_add_27 : decode cX0_add 27 = .ok (.getfield 27, 3) := by decide +kernel
theorem dX0_add_30 : decode cX0_add 30 = .ok (.iload_n 2, 1) := by decide +kernel
theorem dX0_add_31 : decode cX0_add 31 = .ok (.iastore, 1) := by decide +kernel
theorem dX0_add_32 : decode cX0_add 32 = .ok (.aload_n 0, 1) := by decide +kernel
theorem dX0_add_33 : decode cX0_add 33 = .ok (.getfield 18, 3) := by decide +kernel
theorem dX0_add_36 : decode cX0_add 36 = .ok (.aload_n 0, 1) := by decide +kernel
theorem dX0_add_37 : decode cX0_add 37 = .ok (.getfield 27, 3) := by decide +kernel
theorem dX0_add_40 : decode cX0_add 40 = .ok (.iload_n 3, 1) := by decide +kernel
theorem dX0_add_41 : decode cX0_add 41 = .ok (.iastore, 1) := by decide +kernel
theorem dX0_add_42 : decode cX0_add 42 = .ok (.aload_n 0, 1) := by decide +kernel
theorem dX0_add_43 : decode cX0_add 43 = .ok (.getfield 21, 3) := by decide +kernel
theorem dX0_add_46 : decode cX0_add 46 = .ok (.aload_n 0, 1) := by decide +kernel
theorem dX0_add_47 : decode cX0_add 47 = .ok (.getfield 27, 3) := by decide +kernel
theorem dX0_add_50 : decode cX0_add 50 = .ok (.iload 4, 2) := by decide +kernel
theorem dX0_add_52 : decode cX0_add 52 = .ok (.iastore, 1) := by decide +kernel
theorem dX0_add_53 : decode cX0_add 53 = .ok (.aload_n 0, 1) := by decide +kernel
theorem dX0_add_54 : decode cX0_add 54 = .ok (.getfield 24, 3) := by decide +kernel
theorem dX0_add_57 : decode cX0_add 57 = .ok (.aload_n 0, 1) := by decide +kernel
theorem dX0_add_58 : decode cX0_add 58 = .ok (.getfield 27, 3) := by decide +kernel
theorem dX0_add_61 : decode cX0_add 61 = .ok (.iload 5, 2) := by decide +kernel
theorem dX0_add_63 : decode cX0_add 63 = .ok (.iastore, 1) := by decide +kernel
theorem dX0_add_64 : decode cX0_add 64 = .ok (.aload_n 0, 1) := by decide +kernel
theorem dX0_add_65 : decode cX0_add 65 = .ok (.dup, 1) := by decide +kernel
theorem dX0_add_66 : decode cX0_add 66 = .ok (.getfield 27, 3) := by decide +kernel
theorem dX0_add_69 : decode cX0_add 69 = .ok (.dup_x1, 1) := by decide +kernel
theorem dX0_add_70 : decode cX0_add 70 = .ok (.iconst 1, 1) := by decide +kernel
theorem dX0_add_71 : decode cX0_add 71 = .ok (.iadd, 1) := by decide +kernel
theorem dX0_add_72 : decode cX0_add 72 = .ok (.putfield 27, 3) := by decide +kernel
theorem dX0_add_75 : decode cX0_add 75 = .ok (.ireturn, 1) := by decide +kernel
theorem dX1_init_0 : decode cX1_init 0 = .ok (.aload_n 0, 1) := by decide +kernel
theorem dX1_init_1 : decode cX1_init 1 = .ok (.invokespecial 3, 3) := by decide +kernel
theorem dX1_init_4 : decode cX1_init 4 = .ok (.aload_n 0, 1) := by decide +kernel
theorem dX1_init_5 : decode cX1_init 5 = .ok (.bipush 10, 2) := by decide +kernel
theorem dX1_init_7 : decode cX1_init 7 = .ok (.newarray .int, 2) := by decide +kernel
theorem dX1_init_9 : decode cX1_init 9 = .ok (.putfield 9, 3) := by decide +kernel
theorem dX1_init_12 : decode cX1_init 12 = .ok (.aload_n 0, 1) := by decide +kernel
theorem dX1_init_13 : decode cX1_init 13 = .ok (.bipush 10, 2) := by decide +kernel
theorem dX1_init_15 : decode cX1_init 15 = .ok (.newarray .boolean, 2) := by decide +kernel
theorem dX1_init_17 : decode cX1_init 17 = .ok (.putfield 15, 3) := by decide +kernel
theorem dX1_init_20 : decode cX1_init 20 = .ok (.aload_n 0, 1) := by decide +kernel
theorem dX1_init_21 : decode cX1_init 21 = .ok (.bipush 10, 2) := by decide +kernel
theorem dX1_init_23 : decode cX1_init 23 = .ok (.newarray .boolean, 2) := by decide +kernel
theorem dX1_init_25 : decode cX1_init 25 = .ok (.putfield 19, 3) := by decide +kernel
theorem dX1_init_28 : decode cX1_init 28 = .ok (.aload_n 0, 1) := by decide +kernel
theorem dX1_init_29 : decode cX1_init 29 = .ok (.sipush 310, 3) := by decide +kernel
theorem dX1_init_32 : decode cX1_init 32 = .ok (.newarray .int, 2) := by decide +kernel
theorem dX1_init_34 : decode cX1_init 34 = .ok (.putfield 22, 3) := by decide +kernel
theorem dX1_init_37 : decode cX1_init 37 = .ok (.aload_n 0, 1) := by decide +kernel
theorem dX1_init_38 : decode cX1_init 38 = .ok (.sipush 310, 3) := by decide +kernel
theorem dX1_init_41 : decode cX1_init 41 = .ok (.newarray .int, 2) := by decide +kernel
theorem dX1_init_43 : decode cX1_init 43 = .ok (.putfield 25, 3) := by decide +kernel
theorem dX1_init_46 : decode cX1_init 46 = .ok (.aload_n 0, 1) := by decide +kernel
theorem dX1_init_47 : decode cX1_init 47 = .ok (.sipush 310, 3) := by decide +kernel
theorem dX1_init_50 : decode cX1_init 50 = .ok (.newarray .int, 2) := by decide +kernel
theorem dX1_init_52 : decode cX1_init 52 = .ok (.putfield 28, 3) := by decide +kernel
theorem dX1_init_55 : decode cX1_init 55 = .ok (.aload_n 0, 1) := by decide +kernel
theorem dX1_init_56 : decode cX1_init 56 = .ok (.sipush 310, 3) := by decide +kernel
theorem dX1_init_59 : decode cX1_init 59 = .ok (.newarray .boolean, 2) := by decide +kernel
theorem dX1_init_61 : decode cX1_init 61 = .ok (.putfield 31, 3) := by decide +kernel
theorem dX1_init_64 : decode cX1_init 64 = .ok (.aload_n 0, 1) := by decide +kernel
theorem dX1_init_65 : decode cX1_init 65 = .ok (.iconst 0, 1) := by decide +kernel
theorem dX1_init_66 : decode cX1_init 66 = .ok (.putfield 34, 3) := by decide +kernel
theorem dX1_init_69 : decode cX1_init 69 = .ok (.aload_n 0, 1) := by decide +kernel
theorem dX1_init_70 : decode cX1_init 70 = .ok (.getfield 22, 3) := by decide +kernel
theorem dX1_init_73 : decode cX1_init 73 = .ok (.iconst (-1), 1) := by decide +kernel
theorem dX1_init_74 : decode cX1_init 74 = .ok (.invokestatic 38, 3) := by decide +kernel
theorem dX1_init_77 : decode cX1_init 77 = .ok (.aload_n 0, 1) := by decide +kernel
theorem dX1_init_78 : decode cX1_init 78 = .ok (.getfield 25, 3) := by decide +kernel
theorem dX1_init_81 : decode cX1_init 81 = .ok (.iconst (-1), 1) := by decide +kernel
theorem dX1_init_82 : decode cX1_init 82 = .ok (.invokestatic 38, 3) := by decide +kernel
theorem dX1_init_85 : decode cX1_init 85 = .ok (.aload_n 0, 1) := by decide +kernel
theorem dX1_init_86 : decode cX1_init 86 = .ok (.getfield 28, 3) := by decide +kernel
theorem dX1_init_89 : decode cX1_init 89 = .ok (.iconst (-1), 1) := by decide +kernel
theorem dX1_init_90 : decode cX1_init 90 = .ok (.invokestatic 38, 3) := by decide +kernel
theorem dX1_init_93 : decode cX1_init 93 = .ok (.return_, 1) := by decide +kernel
theorem dX1_has_0 : decode cX1_has 0 = .ok (.iload_n 1, 1) := by decide +kernel
theorem dX1_has_1 : decode cX1_has 1 = .ok (.ifCond .lt 15, 3) := by decide +kernel
theorem dX1_has_4 : decode cX1_has 4 = .ok (.iload_n 1, 1) := by decide +kernel
theorem dX1_has_5 : decode cX1_has 5 = .ok (.aload_n 0, 1) := by decide +kernel
theorem dX1_has_6 : decode cX1_has 6 = .ok (.getfield 34, 3) := by decide +kernel
theorem dX1_has_9 : decode cX1_has 9 = .ok (.if_icmp .ge 7, 3) := by decide +kernel
theorem dX1_has_12 : decode cX1_has 12 = .ok (.iconst 1, 1) := by decide +kernel
theorem dX1_has_13 : decode cX1_has 13 = .ok (.goto 4, 3) := by decide +kernel
theorem dX1_has_16 : decode cX1_has 16 = .ok (.iconst 0, 1) := by decide +kernel
theorem dX1_has_17 : decode cX1_has 17 = .ok (.ireturn, 1) := by decide +kernel
theorem dX1_isProgram_0 : decode cX1_isProgram 0 = .ok (.aload_n 0, 1) := by decide +kernel
theorem dX1_isProgram_1 : decode cX1_isProgram 1 = .ok (.getfield 9, 3) := by decide +kernel
theorem dX1_isProgram_4 : decode cX1_isProgram 4 = .ok (.iload_n 1, 1) := by decide +kernel
theorem dX1_isProgram_5 : decode cX1_isProgram 5 = .ok (.iaload, 1) := by decide +kernel
theorem dX1_isProgram_6 : decode cX1_isProgram 6 = .ok (.iconst (-1), 1) := by decide +kernel
theorem dX1_isProgram_7 : decode cX1_isProgram 7 = .ok (.if_icmp .eq 7, 3) := by decide +kernel
theorem dX1_isProgram_10 : decode cX1_isProgram 10 = .ok (.iconst 1, 1) := by decide +kernel
theorem dX1_isProgram_11 : decode cX1_isProgram 11 = .ok (.goto 4, 3) := by decide +kernel
theorem dX1_isProgram_14 : decode cX1_isProgram 14 = .ok (.iconst 0, 1) := by decide +kernel
theorem dX1_isProgram_15 : decode cX1_isProgram 15 = .ok (.ireturn, 1) := by decide +kernel
theorem dX1_add_0 : decode cX1_add 0 = .ok (.aload_n 0, 1) := by decide +kernel
theorem dX1_add_1 : decode cX1_add 1 = .ok (.getfield 34, 3) := by decide +kernel
theorem dX1_add_4 : decode cX1_add 4 = .ok (.bipush 10, 2) := by decide +kernel
theorem dX1_add_6 : decode cX1_add 6 = .ok (.if_icmp .lt 6, 3) := by decide +kernel
theorem dX1_add_9 : decode cX1_add 9 = .ok (.bipush (-4), 2) := by decide +kernel
theorem dX1_add_11 : decode cX1_add 11 = .ok (.ireturn, 1) := by decide +kernel
theorem dX1_add_12 : decode cX1_add 12 = .ok (.aload_n 0, 1) := by decide +kernel
theorem dX1_add_13 : decode cX1_add 13 = .ok (.getfield 9, 3) := by decide +kernel
theorem dX1_add_16 : decode cX1_add 16 = .ok (.aload_n 0, 1) := by decide +kernel
theorem dX1_add_17 : decode cX1_add 17 = .ok (.getfield 34, 3) := by decide +kernel
theorem dX1_add_20 : decode cX1_add 20 = .ok (.iload_n 1, 1) := by decide +kernel
theorem dX1_add_21 : decode cX1_add 21 = .ok (.iastore, 1) := by decide +kernel
theorem dX1_add_22 : decode cX1_add 22 = .ok (.aload_n 0, 1) := by decide +kernel
theorem dX1_add_23 : decode cX1_add 23 = .ok (.getfield 15, 3) := by decide +kernel
theorem dX1_add_26 : decode cX1_add 26 = .ok (.aload_n 0, 1) := by decide +kernel
theorem dX1_add_27 : decode cX1_add 27 = .ok (.getfield 34, 3) := by decide +kernel
theorem dX1_add_30 : decode cX1_add 30 = .ok (.iload_n 2, 1) := by decide +kernel
theorem dX1_add_31 : decode cX1_add 31 = .ok (.bastore, 1) := by decide +kernel
theorem dX1_add_32 : decode cX1_add 32 = .ok (.aload_n 0, 1) := by decide +kernel
theorem dX1_add_33 : decode cX1_add 33 = .ok (.dup, 1) := by decide +kernel
theorem dX1_add_34 : decode cX1_add 34 = .ok (.getfield 34, 3) := by decide +kernel
theorem dX1_add_37 : decode cX1_add 37 = .ok (.dup_x1, 1) := by decide +kernel
theorem dX1_add_38 : decode cX1_add 38 = .ok (.iconst 1, 1) := by decide +kernel
theorem dX1_add_39 : decode cX1_add 39 = .ok (.iadd, 1) := by decide +kernel
theorem dX1_add_40 : decode cX1_add 40 = .ok (.putfield 34, 3) := by decide +kernel
theorem dX1_add_43 : decode cX1_add 43 = .ok (.ireturn, 1) := by decide +kernel
theorem dX1_madeOrGiven_0 : decode cX1_madeOrGiven 0 = .ok (.aload_n 0, 1) := by decide +kernel
theorem dX1_madeOrGiven_1 : decode cX1_madeOrGiven 1 = .ok (.getfield 25, 3) := by decide +kernel
theorem dX1_madeOrGiven_4 : decode cX1_madeOrGiven 4 = .ok (.iload_n 1, 1) := by decide +kernel
theorem dX1_madeOrGiven_5 : decode cX1_madeOrGiven 5 = .ok (.iload_n 2, 1) := by decide +kernel
theorem dX1_madeOrGiven_6 : decode cX1_madeOrGiven 6 = .ok (.invokestatic 44, 3) := by decide +kernel
theorem dX1_madeOrGiven_9 : decode cX1_madeOrGiven 9 = .ok (.iaload, 1) := by decide +kernel
theorem dX1_madeOrGiven_10 : decode cX1_madeOrGiven 10 = .ok (.istore_n 3, 1) := by decide +kernel
theorem dX1_madeOrGiven_11 : decode cX1_madeOrGiven 11 = .ok (.iload_n 3, 1) := by decide +kernel
theorem dX1_madeOrGiven_12 : decode cX1_madeOrGiven 12 = .ok (.iconst (-1), 1) := by decide +kernel
theorem dX1_madeOrGiven_13 : decode cX1_madeOrGiven 13 = .ok (.if_icmp .eq 7, 3) := by decide +kernel
theorem dX1_madeOrGiven_16 : decode cX1_madeOrGiven 16 = .ok (.iload_n 3, 1) := by decide +kernel
theorem dX1_madeOrGiven_17 : decode cX1_madeOrGiven 17 = .ok (.goto 13, 3) := by decide +kernel
theorem dX1_madeOrGiven_20 : decode cX1_madeOrGiven 20 = .ok (.aload_n 0, 1) := by decide +kernel
theorem dX1_madeOrGiven_21 : decode cX1_madeOrGiven 21 = .ok (.getfield 28, 3) := by decide +kernel
theorem dX1_madeOrGiven_24 : decode cX1_madeOrGiven 24 = .ok (.iload_n 1, 1) := by decide +kernel
theorem dX1_madeOrGiven_25 : decode cX1_madeOrGiven 25 = .ok (.iload_n 2, 1) := by decide +kernel
theorem dX1_madeOrGiven_26 : decode cX1_madeOrGiven 26 = .ok (.invokestatic 44, 3) := by decide +kernel
theorem dX1_madeOrGiven_29 : decode cX1_madeOrGiven 29 = .ok (.iaload, 1) := by decide +kernel
theorem dX1_madeOrGiven_30 : decode cX1_madeOrGiven 30 = .ok (.ireturn, 1) := by decide +kernel
theorem dX1_hasLiveProgram_0 : decode cX1_hasLiveProgram 0 = .ok (.iconst 0, 1) := by decide +kernel
theorem dX1_hasLiveProgram_1 : decode cX1_hasLiveProgram 1 = .ok (.istore_n 2, 1) := by decide +kernel
theorem dX1_hasLiveProgram_2 : decode cX1_hasLiveProgram 2 = .ok (.iload_n 2, 1) := by decide +kernel
theorem dX1_hasLiveProgram_3 : decode cX1_hasLiveProgram 3 = .ok (.aload_n 0, 1) := by decide +kernel
theorem dX1_hasLiveProgram_4 : decode cX1_hasLiveProgram 4 = .ok (.getfield 34, 3) := by decide +kernel
theorem dX1_hasLiveProgram_7 : decode cX1_hasLiveProgram 7 = .ok (.if_icmp .ge 30, 3) := by decide +kernel
theorem dX1_hasLiveProgram_10 : decode cX1_hasLiveProgram 10 = .ok (.aload_n 0, 1) := by decide +kernel
theorem dX1_hasLiveProgram_11 : decode cX1_hasLiveProgram 11 = .ok (.getfield 9, 3) := by decide +kernel
theorem dX1_hasLiveProgram_14 : decode cX1_hasLiveProgram 14 = .ok (.iload_n 2, 1) := by decide +kernel
theorem dX1_hasLiveProgram_15 : decode cX1_hasLiveProgram 15 = .ok (.iaload, 1) := by decide +kernel
theorem dX1_hasLiveProgram_16 : decode cX1_hasLiveProgram 16 = .ok (.iload_n 1, 1) := by decide +kernel
theorem dX1_hasLiveProgram_17 : decode cX1_hasLiveProgram 17 = .ok (.if_icmp .ne 14, 3) := by decide +kernel
theorem dX1_hasLiveProgram_20 : decode cX1_hasLiveProgram 20 = .ok (.aload_n 0, 1) := by decide +kernel
theorem dX1_hasLiveProgram_21 : decode cX1_hasLiveProgram 21 = .ok (.getfield 19, 3) := by decide +kernel
theorem dX1_hasLiveProgram_24 : decode cX1_hasLiveProgram 24 = .ok (.iload_n 2, 1) := by decide +kernel
theorem dX1_hasLiveProgram_25 : decode cX1_hasLiveProgram 25 = .ok (.baload, 1) := by decide +kernel
theorem dX1_hasLiveProgram_26 : decode cX1_hasLiveProgram 26 = .ok (.ifCond .ne 5, 3) := by decide +kernel
theorem dX1_hasLiveProgram_29 : decode cX1_hasLiveProgram 29 = .ok (.iconst 1, 1) := by decide +kernel
theorem dX1_hasLiveProgram_30 : decode cX1_hasLiveProgram 30 = .ok (.ireturn, 1) := by decide +kernel
theorem dX1_hasLiveProgram_31 : decode cX1_hasLiveProgram 31 = .ok (.iinc 2 1, 3) := by decide +kernel
theorem dX1_hasLiveProgram_34 : decode cX1_hasLiveProgram 34 = .ok (.goto (-32), 3) := by decide +kernel
theorem dX1_hasLiveProgram_37 : decode cX1_hasLiveProgram 37 = .ok (.iconst 0, 1) := by decide +kernel
theorem dX1_hasLiveProgram_38 : decode cX1_hasLiveProgram 38 = .ok (.ireturn, 1) := by decide +kernel
theorem dX2_init_0 : decode cX2_init 0 = .ok (.aload_n 0, 1) := by decide +kernel
theorem dX2_init_1 : decode cX2_init 1 = .ok (.invokespecial 3, 3) := by decide +kernel
theorem dX2_init_4 : decode cX2_init 4 = .ok (.aload_n 0, 1) := by decide +kernel
theorem dX2_init_5 : decode cX2_init 5 = .ok (.sipush 512, 3) := by decide +kernel
theorem dX2_init_8 : decode cX2_init 8 = .ok (.newarray .int, 2) := by decide +kernel
theorem dX2_init_10 : decode cX2_init 10 = .ok (.putfield 9, 3) := by decide +kernel
theorem dX2_init_13 : decode cX2_init 13 = .ok (.aload_n 0, 1) := by decide +kernel
theorem dX2_init_14 : decode cX2_init 14 = .ok (.sipush 512, 3) := by decide +kernel
theorem dX2_init_17 : decode cX2_init 17 = .ok (.newarray .int, 2) := by decide +kernel
theorem dX2_init_19 : decode cX2_init 19 = .ok (.putfield 15, 3) := by decide +kernel
theorem dX2_init_22 : decode cX2_init 22 = .ok (.aload_n 0, 1) := by decide +kernel
theorem dX2_init_23 : decode cX2_init 23 = .ok (.sipush 512, 3) := by decide +kernel
theorem dX2_init_26 : decode cX2_init 26 = .ok (.newarray .int, 2) := by decide +kernel
theorem dX2_init_28 : decode cX2_init 28 = .ok (.putfield 18, 3) := by decide +kernel
theorem dX2_init_31 : decode cX2_init 31 = .ok (.aload_n 0, 1) := by decide +kernel
theorem dX2_init_32 : decode cX2_init 32 = .ok (.sipush 512, 3) := by decide +kernel
theorem dX2_init_35 : decode cX2_init 35 = .ok (.newarray .int, 2) := by decide +kernel
theorem dX2_init_37 : decode cX2_init 37 = .ok (.putfield 21, 3) := by decide +kernel
theorem dX2_init_40 : decode cX2_init 40 = .ok (.aload_n 0, 1) := by decide +kernel
theorem dX2_init_41 : decode cX2_init 41 = .ok (.sipush 512, 3) := by decide +kernel
theorem dX2_init_44 : decode cX2_init 44 = .ok (.newarray .int, 2) := by decide +kernel
theorem dX2_init_46 : decode cX2_init 46 = .ok (.putfield 24, 3) := by decide +kernel
theorem dX2_init_49 : decode cX2_init 49 = .ok (.aload_n 0, 1) := by decide +kernel
theorem dX2_init_50 : decode cX2_init 50 = .ok (.iconst 0, 1) := by decide +kernel
theorem dX2_init_51 : decode cX2_init 51 = .ok (.putfield 27, 3) := by decide +kernel
theorem dX2_init_54 : decode cX2_init 54 = .ok (.return_, 1) := by decide +kernel
theorem dX2_has_0 : decode cX2_has 0 = .ok (.iload_n 1, 1) := by decide +kernel
theorem dX2_has_1 : decode cX2_has 1 = .ok (.ifCond .lt 15, 3) := by decide +kernel
theorem dX2_has_4 : decode cX2_has 4 = .ok (.iload_n 1, 1) := by decide +kernel
theorem dX2_has_5 : decode cX2_has 5 = .ok (.aload_n 0, 1) := by decide +kernel
theorem dX2_has_6 : decode cX2_has 6 = .ok (.getfield 27, 3) := by decide +kernel
theorem dX2_has_9 : decode cX2_has 9 = .ok (.if_icmp .ge 7, 3) := by decide +kernel
theorem dX2_has_12 : decode cX2_has 12 = .ok (.iconst 1, 1) := by decide +kernel
theorem dX2_has_13 : decode cX2_has 13 = .ok (.goto 4, 3) := by decide +kernel
theorem dX2_has_16 : decode cX2_has 16 = .ok (.iconst 0, 1) := by decide +kernel
theorem dX2_has_17 : decode cX2_has 17 = .ok (.ireturn, 1) := by decide +kernel
theorem dX2_add_0 : decode cX2_add 0 = .ok (.aload_n 0, 1) := by decide +kernel
theorem dX2_add_1 : decode cX2_add 1 = .ok (.getfield 27, 3) := by decide +kernel
theorem dX2_add_4 : decode cX2_add 4 = .ok (.sipush 512, 3) := by decide +kernel
theorem dX2_add_7 : decode cX2_add 7 = .ok (.if_icmp .lt 6, 3) := by decide +kernel
theorem dX2_add_10 : decode cX2_add 10 = .ok (.bipush (-4), 2) := by decide +kernel
theorem dX2_add_12 : decode cX2_add 12 = .ok (.ireturn, 1) := by decide +kernel
theorem dX2_add_13 : decode cX2_add 13 = .ok (.aload_n 0, 1) := by decide +kernel
theorem dX2_add_14 : decode cX2_add 14 = .ok (.getfield 9, 3) := by decide +kernel
theorem dX2_add_17 : decode cX2_add 17 = .ok (.aload_n 0, 1) := by decide +kernel
theorem dX2_add_18 : decode cX2_add 18 = .ok (.getfield 27, 3) := by decide +kernel
theorem dX2_add_21 : decode cX2_add 21 = .ok (.iload_n 1, 1) := by decide +kernel
theorem dX2_add_22 : decode cX2_add 22 = .ok (.iastore, 1) := by decide +kernel
theorem dX2_add_23 : decode cX2_add 23 = .ok (.aload_n 0, 1) := by decide +kernel
theorem dX2_add_24 : decode cX2_add 24 = .ok (.getfield 15, 3) := by decide +kernel
theorem dX2_add_27 : decode cX2_add 27 = .ok (.aload_n 0, 1) := by decide +kernel
theorem dX2_add_28 : decode cX2_add 28 = .ok (.getfield 27, 3) := by decide +kernel
theorem dX2_add_31 : decode cX2_add 31 = .ok (.iload_n 2, 1) := by decide +kernel
theorem dX2_add_32 : decode cX2_add 32 = .ok (.iastore, 1) := by decide +kernel
theorem dX2_add_33 : decode cX2_add 33 = .ok (.aload_n 0, 1) := by decide +kernel
theorem dX2_add_34 : decode cX2_add 34 = .ok (.getfield 18, 3) := by decide +kernel
theorem dX2_add_37 : decode cX2_add 37 = .ok (.aload_n 0, 1) := by decide +kernel
theorem dX2_add_38 : decode cX2_add 38 = .ok (.getfield 27, 3) := by decide +kernel
theorem dX2_add_41 : decode cX2_add 41 = .ok (.iload_n 3, 1) := by decide +kernel
theorem dX2_add_42 : decode cX2_add 42 = .ok (.iastore, 1) := by decide +kernel
theorem dX2_add_43 : decode cX2_add 43 = .ok (.aload_n 0, 1) := by decide +kernel
theorem dX2_add_44 : decode cX2_add 44 = .ok (.getfield 21, 3) := by decide +kernel
theorem dX2_add_47 : decode cX2_add 47 = .ok (.aload_n 0, 1) := by decide +kernel
theorem dX2_add_48 : decode cX2_add 48 = .ok (.getfield 27, 3) := by decide +kernel
theorem dX2_add_51 : decode cX2_add 51 = .ok (.iload 4, 2) := by decide +kernel
theorem dX2_add_53 : decode cX2_add 53 = .ok (.iastore, 1) := by decide +kernel
theorem dX2_add_54 : decode cX2_add 54 = .ok (.aload_n 0, 1) := by decide +kernel
theorem dX2_add_55 : decode cX2_add 55 = .ok (.getfield 24, 3) := by decide +kernel
theorem dX2_add_58 : decode cX2_add 58 = .ok (.aload_n 0, 1) := by decide +kernel
theorem dX2_add_59 : decode cX2_add 59 = .ok (.getfield 27, 3) := by decide +kernel
theorem dX2_add_62 : decode cX2_add 62 = .ok (.iconst 0, 1) := by decide +kernel
theorem dX2_add_63 : decode cX2_add 63 = .ok (.iastore, 1) := by decide +kernel
theorem dX2_add_64 : decode cX2_add 64 = .ok (.aload_n 0, 1) := by decide +kernel
theorem dX2_add_65 : decode cX2_add 65 = .ok (.dup, 1) := by decide +kernel
theorem dX2_add_66 : decode cX2_add 66 = .ok (.getfield 27, 3) := by decide +kernel
theorem dX2_add_69 : decode cX2_add 69 = .ok (.dup_x1, 1) := by decide +kernel
theorem dX2_add_70 : decode cX2_add 70 = .ok (.iconst 1, 1) := by decide +kernel
theorem dX2_add_71 : decode cX2_add 71 = .ok (.iadd, 1) := by decide +kernel
theorem dX2_add_72 : decode cX2_add 72 = .ok (.putfield 27, 3) := by decide +kernel
theorem dX2_add_75 : decode cX2_add 75 = .ok (.ireturn, 1) := by decide +kernel
theorem dX2_isOrDescends_0 : decode cX2_isOrDescends 0 = .ok (.iload_n 1, 1) := by decide +kernel
theorem dX2_isOrDescends_1 : decode cX2_isOrDescends 1 = .ok (.istore_n 3, 1) := by decide +kernel
theorem dX2_isOrDescends_2 : decode cX2_isOrDescends 2 = .ok (.iconst 0, 1) := by decide +kernel
theorem dX2_isOrDescends_3 : decode cX2_isOrDescends 3 = .ok (.istore 4, 2) := by decide +kernel
theorem dX2_isOrDescends_5 : decode cX2_isOrDescends 5 = .ok (.iload 4, 2) := by decide +kernel
theorem dX2_isOrDescends_7 : decode cX2_isOrDescends 7 = .ok (.aload_n 0, 1) := by decide +kernel
theorem dX2_isOrDescends_8 : decode cX2_isOrDescends 8 = .ok (.getfield 27, 3) := by decide +kernel
theorem dX2_isOrDescends_11 : decode cX2_isOrDescends 11 = .ok (.if_icmp .ge 28, 3) := by decide +kernel
theorem dX2_isOrDescends_14 : decode cX2_isOrDescends 14 = .ok (.iload_n 3, 1) := by decide +kernel
theorem dX2_isOrDescends_15 : decode cX2_isOrDescends 15 = .ok (.iconst (-1), 1) := by decide +kernel
theorem dX2_isOrDescends_16 : decode cX2_isOrDescends 16 = .ok (.if_icmp .eq 23, 3) := by decide +kernel
theorem dX2_isOrDescends_19 : decode cX2_isOrDescends 19 = .ok (.iload_n 3, 1) := by decide +kernel
theorem dX2_isOrDescends_20 : decode cX2_isOrDescends 20 = .ok (.iload_n 2, 1) := by decide +kernel
theorem dX2_isOrDescends_21 : decode cX2_isOrDescends 21 = .ok (.if_icmp .ne 5, 3) := by decide +kernel
theorem dX2_isOrDescends_24 : decode cX2_isOrDescends 24 = .ok (.iconst 1, 1) := by decide +kernel
theorem dX2_isOrDescends_25 : decode cX2_isOrDescends 25 = .ok (.ireturn, 1) := by decide +kernel
theorem dX2_isOrDescends_26 : decode cX2_isOrDescends 26 = .ok (.aload_n 0, 1) := by decide +kernel
theorem dX2_isOrDescends_27 : decode cX2_isOrDescends 27 = .ok (.getfield 21, 3) := by decide +kernel
theorem dX2_isOrDescends_30 : decode cX2_isOrDescends 30 = .ok (.iload_n 3, 1) := by decide +kernel
theorem dX2_isOrDescends_31 : decode cX2_isOrDescends 31 = .ok (.iaload, 1) := by decide +kernel
theorem dX2_isOrDescends_32 : decode cX2_isOrDescends 32 = .ok (.istore_n 3, 1) := by decide +kernel
theorem dX2_isOrDescends_33 : decode cX2_isOrDescends 33 = .ok (.iinc 4 1, 3) := by decide +kernel
theorem dX2_isOrDescends_36 : decode cX2_isOrDescends 36 = .ok (.goto (-31), 3) := by decide +kernel
theorem dX2_isOrDescends_39 : decode cX2_isOrDescends 39 = .ok (.iconst 0, 1) := by decide +kernel
theorem dX2_isOrDescends_40 : decode cX2_isOrDescends 40 = .ok (.ireturn, 1) := by decide +kernel
theorem dX3_init_0 : decode cX3_init 0 = .ok (.aload_n 0, 1) := by decide +kernel
theorem dX3_init_1 : decode cX3_init 1 = .ok (.invokespecial 3, 3) := by decide +kernel
theorem dX3_init_4 : decode cX3_init 4 = .ok (.aload_n 0, 1) := by decide +kernel
theorem dX3_init_5 : decode cX3_init 5 = .ok (.sipush 512, 3) := by decide +kernel
theorem dX3_init_8 : decode cX3_init 8 = .ok (.newarray .int, 2) := by decide +kernel
theorem dX3_init_10 : decode cX3_init 10 = .ok (.putfield 9, 3) := by decide +kernel
theorem dX3_init_13 : decode cX3_init 13 = .ok (.aload_n 0, 1) := by decide +kernel
theorem dX3_init_14 : decode cX3_init 14 = .ok (.iconst 0, 1) := by decide +kernel
theorem dX3_init_15 : decode cX3_init 15 = .ok (.putfield 15, 3) := by decide +kernel
theorem dX3_init_18 : decode cX3_init 18 = .ok (.return_, 1) := by decide +kernel
theorem dX3_add_0 : decode cX3_add 0 = .ok (.aload_n 0, 1) := by decide +kernel
theorem dX3_add_1 : decode cX3_add 1 = .ok (.getfield 15, 3) := by decide +kernel
theorem dX3_add_4 : decode cX3_add 4 = .ok (.sipush 512, 3) := by decide +kernel
theorem dX3_add_7 : decode cX3_add 7 = .ok (.if_icmp .ge 20, 3) := by decide +kernel
theorem dX3_add_10 : decode cX3_add 10 = .ok (.aload_n 0, 1) := by decide +kernel
theorem dX3_add_11 : decode cX3_add 11 = .ok (.getfield 9, 3) := by decide +kernel
theorem dX3_add_14 : decode cX3_add 14 = .ok (.aload_n 0, 1) := by decide +kernel
theorem dX3_add_15 : decode cX3_add 15 = .ok (.dup, 1) := by decide +kernel
theorem dX3_add_16 : decode cX3_add 16 = .ok (.getfield 15, 3) := by decide +kernel
theorem dX3_add_19 : decode cX3_add 19 = .ok (.dup_x1, 1) := by decide +kernel
theorem dX3_add_20 : decode cX3_add 20 = .ok (.iconst 1, 1) := by decide +kernel
theorem dX3_add_21 : decode cX3_add 21 = .ok (.iadd, 1) := by decide +kernel
theorem dX3_add_22 : decode cX3_add 22 = .ok (.putfield 15, 3) := by decide +kernel
theorem dX3_add_25 : decode cX3_add 25 = .ok (.iload_n 1, 1) := by decide +kernel
theorem dX3_add_26 : decode cX3_add 26 = .ok (.iastore, 1) := by decide +kernel
theorem dX3_add_27 : decode cX3_add 27 = .ok (.return_, 1) := by decide +kernel
theorem dX4_init_0 : decode cX4_init 0 = .ok (.aload_n 0, 1) := by decide +kernel
theorem dX4_init_1 : decode cX4_init 1 = .ok (.invokespecial 3, 3) := by decide +kernel
theorem dX4_init_4 : decode cX4_init 4 = .ok (.aload_n 0, 1) := by decide +kernel
theorem dX4_init_5 : decode cX4_init 5 = .ok (.bipush 60, 2) := by decide +kernel
theorem dX4_init_7 : decode cX4_init 7 = .ok (.newarray .int, 2) := by decide +kernel
theorem dX4_init_9 : decode cX4_init 9 = .ok (.putfield 9, 3) := by decide +kernel
theorem dX4_init_12 : decode cX4_init 12 = .ok (.aload_n 0, 1) := by decide +kernel
theorem dX4_init_13 : decode cX4_init 13 = .ok (.bipush 60, 2) := by decide +kernel
theorem dX4_init_15 : decode cX4_init 15 = .ok (.newarray .boolean, 2) := by decide +kernel
theorem dX4_init_17 : decode cX4_init 17 = .ok (.putfield 15, 3) := by decide +kernel
theorem dX4_init_20 : decode cX4_init 20 = .ok (.aload_n 0, 1) := by decide +kernel
theorem dX4_init_21 : decode cX4_init 21 = .ok (.iconst 0, 1) := by decide +kernel
theorem dX4_init_22 : decode cX4_init 22 = .ok (.putfield 19, 3) := by decide +kernel
theorem dX4_init_25 : decode cX4_init 25 = .ok (.return_, 1) := by decide +kernel
theorem dX4_has_0 : decode cX4_has 0 = .ok (.iload_n 1, 1) := by decide +kernel
theorem dX4_has_1 : decode cX4_has 1 = .ok (.ifCond .lt 15, 3) := by decide +kernel
theorem dX4_has_4 : decode cX4_has 4 = .ok (.iload_n 1, 1) := by decide +kernel
theorem dX4_has_5 : decode cX4_has 5 = .ok (.aload_n 0, 1) := by decide +kernel
theorem dX4_has_6 : decode cX4_has 6 = .ok (.getfield 19, 3) := by decide +kernel
theorem dX4_has_9 : decode cX4_has 9 = .ok (.if_icmp .ge 7, 3) := by decide +kernel
theorem dX4_has_12 : decode cX4_has 12 = .ok (.iconst 1, 1) := by decide +kernel
theorem dX4_has_13 : decode cX4_has 13 = .ok (.goto 4, 3) := by decide +kernel
theorem dX4_has_16 : decode cX4_has 16 = .ok (.iconst 0, 1) := by decide +kernel
theorem dX4_has_17 : decode cX4_has 17 = .ok (.ireturn, 1) := by decide +kernel
theorem dX4_areFull_0 : decode cX4_areFull 0 = .ok (.aload_n 0, 1) := by decide +kernel
theorem dX4_areFull_1 : decode cX4_areFull 1 = .ok (.getfield 19, 3) := by decide +kernel
theorem dX4_areFull_4 : decode cX4_areFull 4 = .ok (.bipush 60, 2) := by decide +kernel
theorem dX4_areFull_6 : decode cX4_areFull 6 = .ok (.if_icmp .lt 7, 3) := by decide +kernel
theorem dX4_areFull_9 : decode cX4_areFull 9 = .ok (.iconst 1, 1) := by decide +kernel
theorem dX4_areFull_10 : decode cX4_areFull 10 = .ok (.goto 4, 3) := by decide +kernel
theorem dX4_areFull_13 : decode cX4_areFull 13 = .ok (.iconst 0, 1) := by decide +kernel
theorem dX4_areFull_14 : decode cX4_areFull 14 = .ok (.ireturn, 1) := by decide +kernel
theorem dX4_add_0 : decode cX4_add 0 = .ok (.aload_n 0, 1) := by decide +kernel
theorem dX4_add_1 : decode cX4_add 1 = .ok (.invokevirtual 23, 3) := by decide +kernel
theorem dX4_add_4 : decode cX4_add 4 = .ok (.ifCond .eq 6, 3) := by decide +kernel
theorem dX4_add_7 : decode cX4_add 7 = .ok (.bipush (-4), 2) := by decide +kernel
theorem dX4_add_9 : decode cX4_add 9 = .ok (.ireturn, 1) := by decide +kernel
theorem dX4_add_10 : decode cX4_add 10 = .ok (.aload_n 0, 1) := by decide +kernel
theorem dX4_add_11 : decode cX4_add 11 = .ok (.getfield 9, 3) := by decide +kernel
theorem dX4_add_14 : decode cX4_add 14 = .ok (.aload_n 0, 1) := by decide +kernel
theorem dX4_add_15 : decode cX4_add 15 = .ok (.getfield 19, 3) := by decide +kernel
theorem dX4_add_18 : decode cX4_add 18 = .ok (.iload_n 1, 1) := by decide +kernel
theorem dX4_add_19 : decode cX4_add 19 = .ok (.iastore, 1) := by decide +kernel
theorem dX4_add_20 : decode cX4_add 20 = .ok (.aload_n 0, 1) := by decide +kernel
theorem dX4_add_21 : decode cX4_add 21 = .ok (.dup, 1) := by decide +kernel
theorem dX4_add_22 : decode cX4_add 22 = .ok (.getfield 19, 3) := by decide +kernel
theorem dX4_add_25 : decode cX4_add 25 = .ok (.dup_x1, 1) := by decide +kernel
theorem dX4_add_26 : decode cX4_add 26 = .ok (.iconst 1, 1) := by decide +kernel
theorem dX4_add_27 : decode cX4_add 27 = .ok (.iadd, 1) := by decide +kernel
theorem dX4_add_28 : decode cX4_add 28 = .ok (.putfield 19, 3) := by decide +kernel
theorem dX4_add_31 : decode cX4_add 31 = .ok (.ireturn, 1) := by decide +kernel
theorem dX5_init_0 : decode cX5_init 0 = .ok (.aload_n 0, 1) := by decide +kernel
theorem dX5_init_1 : decode cX5_init 1 = .ok (.invokespecial 3, 3) := by decide +kernel
theorem dX5_init_4 : decode cX5_init 4 = .ok (.aload_n 0, 1) := by decide +kernel
theorem dX5_init_5 : decode cX5_init 5 = .ok (.new 9, 3) := by decide +kernel
theorem dX5_init_8 : decode cX5_init 8 = .ok (.dup, 1) := by decide +kernel
theorem dX5_init_9 : decode cX5_init 9 = .ok (.invokespecial 11, 3) := by decide +kernel
theorem dX5_init_12 : decode cX5_init 12 = .ok (.putfield 12, 3) := by decide +kernel
theorem dX5_init_15 : decode cX5_init 15 = .ok (.aload_n 0, 1) := by decide +kernel
theorem dX5_init_16 : decode cX5_init 16 = .ok (.new 16, 3) := by decide +kernel
theorem dX5_init_19 : decode cX5_init 19 = .ok (.dup, 1) := by decide +kernel
theorem dX5_init_20 : decode cX5_init 20 = .ok (.invokespecial 18, 3) := by decide +kernel
theorem dX5_init_23 : decode cX5_init 23 = .ok (.putfield 19, 3) := by decide +kernel
theorem dX5_init_26 : decode cX5_init 26 = .ok (.aload_n 0, 1) := by decide +kernel
theorem dX5_init_27 : decode cX5_init 27 = .ok (.new 23, 3) := by decide +kernel
theorem dX5_init_30 : decode cX5_init 30 = .ok (.dup, 1) := by decide +kernel
theorem dX5_init_31 : decode cX5_init 31 = .ok (.invokespecial 25, 3) := by decide +kernel
theorem dX5_init_34 : decode cX5_init 34 = .ok (.putfield 26, 3) := by decide +kernel
theorem dX5_init_37 : decode cX5_init 37 = .ok (.aload_n 0, 1) := by decide +kernel
theorem dX5_init_38 : decode cX5_init 38 = .ok (.new 30, 3) := by decide +kernel
theorem dX5_init_41 : decode cX5_init 41 = .ok (.dup, 1) := by decide +kernel
theorem dX5_init_42 : decode cX5_init 42 = .ok (.invokespecial 32, 3) := by decide +kernel
theorem dX5_init_45 : decode cX5_init 45 = .ok (.putfield 33, 3) := by decide +kernel
theorem dX5_init_48 : decode cX5_init 48 = .ok (.aload_n 0, 1) := by decide +kernel
theorem dX5_init_49 : decode cX5_init 49 = .ok (.new 37, 3) := by decide +kernel
theorem dX5_init_52 : decode cX5_init 52 = .ok (.dup, 1) := by decide +kernel
theorem dX5_init_53 : decode cX5_init 53 = .ok (.invokespecial 39, 3) := by decide +kernel
theorem dX5_init_56 : decode cX5_init 56 = .ok (.putfield 40, 3) := by decide +kernel
theorem dX5_init_59 : decode cX5_init 59 = .ok (.aload_n 0, 1) := by decide +kernel
theorem dX5_init_60 : decode cX5_init 60 = .ok (.new 37, 3) := by decide +kernel
theorem dX5_init_63 : decode cX5_init 63 = .ok (.dup, 1) := by decide +kernel
theorem dX5_init_64 : decode cX5_init 64 = .ok (.invokespecial 39, 3) := by decide +kernel
theorem dX5_init_67 : decode cX5_init 67 = .ok (.putfield 44, 3) := by decide +kernel
theorem dX5_init_70 : decode cX5_init 70 = .ok (.aload_n 0, 1) := by decide +kernel
theorem dX5_init_71 : decode cX5_init 71 = .ok (.sipush 512, 3) := by decide +kernel
theorem dX5_init_74 : decode cX5_init 74 = .ok (.newarray .boolean, 2) := by decide +kernel
theorem dX5_init_76 : decode cX5_init 76 = .ok (.putfield 47, 3) := by decide +kernel
theorem dX5_init_79 : decode cX5_init 79 = .ok (.return_, 1) := by decide +kernel
theorem dX5_file_0 : decode cX5_file 0 = .ok (.iload_n 1, 1) := by decide +kernel
theorem dX5_file_1 : decode cX5_file 1 = .ok (.invokestatic 51, 3) := by decide +kernel
theorem dX5_file_4 : decode cX5_file 4 = .ok (.ifCond .eq 18, 3) := by decide +kernel
theorem dX5_file_7 : decode cX5_file 7 = .ok (.iload_n 3, 1) := by decide +kernel
theorem dX5_file_8 : decode cX5_file 8 = .ok (.invokestatic 55, 3) := by decide +kernel
theorem dX5_file_11 : decode cX5_file 11 = .ok (.ifCond .eq 11, 3) := by decide +kernel
theorem dX5_file_14 : decode cX5_file 14 = .ok (.iload 4, 2) := by decide +kernel
theorem dX5_file_16 : decode cX5_file 16 = .ok (.invokestatic 55, 3) := by decide +kernel
theorem dX5_file_19 : decode cX5_file 19 = .ok (.ifCond .ne 6, 3) := by decide +kernel
theorem dX5_file_22 : decode cX5_file 22 = .ok (.bipush (-2), 2) := by decide +kernel
theorem dX5_file_24 : decode cX5_file 24 = .ok (.ireturn, 1) := by decide +kernel
theorem dX5_file_25 : decode cX5_file 25 = .ok (.iload 5, 2) := by decide +kernel
theorem dX5_file_27 : decode cX5_file 27 = .ok (.ifCond .lt 9, 3) := by decide +kernel
theorem dX5_file_30 : decode cX5_file 30 = .ok (.iload 5, 2) := by decide +kernel
theorem dX5_file_32 : decode cX5_file 32 = .ok (.iconst 3, 1) := by decide +kernel
theorem dX5_file_33 : decode cX5_file 33 = .ok (.if_icmp .le 6, 3) := by decide +kernel
theorem dX5_file_36 : decode cX5_file 36 = .ok (.bipush (-2), 2) := by decide +kernel
theorem dX5_file_38 : decode cX5_file 38 = .ok (.ireturn, 1) := by decide +kernel
theorem dX5_file_39 : decode cX5_file 39 = .ok (.aload_n 0, 1) := by decide +kernel
theorem dX5_file_40 : decode cX5_file 40 = .ok (.getfield 12, 3) := by decide +kernel
theorem dX5_file_43 : decode cX5_file 43 = .ok (.iload_n 1, 1) := by decide +kernel
theorem dX5_file_44 : decode cX5_file 44 = .ok (.iload_n 2, 1) := by decide +kernel
theorem dX5_file_45 : decode cX5_file 45 = .ok (.iload_n 3, 1) := by decide +kernel
theorem dX5_file_46 : decode cX5_file 46 = .ok (.iload 4, 2) := by decide +kernel
theorem dX5_file_48 : decode cX5_file 48 = .ok (.iload 5, 2) := by decide +kernel
theorem dX5_file_50 : decode cX5_file 50 = .ok (.invokevirtual 58, 3) := by decide +kernel
theorem dX5_file_53 : decode cX5_file 53 = .ok (.ireturn, 1) := by decide +kernel
theorem dX5_loader_0 : decode cX5_loader 0 = .ok (.iload_n 1, 1) := by decide +kernel
theorem dX5_loader_1 : decode cX5_loader 1 = .ok (.iconst (-1), 1) := by decide +kernel
theorem dX5_loader_2 : decode cX5_loader 2 = .ok (.if_icmp .eq 43, 3) := by decide +kernel
theorem dX5_loader_5 : decode cX5_loader 5 = .ok (.aload_n 0, 1) := by decide +kernel
theorem dX5_loader_6 : decode cX5_loader 6 = .ok (.getfield 19, 3) := by decide +kernel
theorem dX5_loader_9 : decode cX5_loader 9 = .ok (.iload_n 1, 1) := by decide +kernel
theorem dX5_loader_10 : decode cX5_loader 10 = .ok (.invokevirtual 62, 3) := by decide +kernel
theorem dX5_loader_13 : decode cX5_loader 13 = .ok (.ifCond .eq 14, 3) := by decide +kernel
theorem dX5_loader_16 : decode cX5_loader 16 = .ok (.aload_n 0, 1) := by decide +kernel
theorem dX5_loader_17 : decode cX5_loader 17 = .ok (.getfield 19, 3) := by decide +kernel
theorem dX5_loader_20 : decode cX5_loader 20 = .ok (.iload_n 1, 1) := by decide +kernel
theorem dX5_loader_21 : decode cX5_loader 21 = .ok (.invokevirtual 65, 3) := by decide +kernel
theorem dX5_loader_24 : decode cX5_loader 24 = .ok (.ifCond .eq 6, 3) := by decide +kernel
theorem dX5_loader_27 : decode cX5_loader 27 = .ok (.bipush (-2), 2) := by decide +kernel
theorem dX5_loader_29 : decode cX5_loader 29 = .ok (.ireturn, 1) := by decide +kernel
theorem dX5_loader_30 : decode cX5_loader 30 = .ok (.aload_n 0, 1) := by decide +kernel
theorem dX5_loader_31 : decode cX5_loader 31 = .ok (.getfield 19, 3) := by decide +kernel
theorem dX5_loader_34 : decode cX5_loader 34 = .ok (.getfield 68, 3) := by decide +kernel
theorem dX5_loader_37 : decode cX5_loader 37 = .ok (.iload_n 1, 1) := by decide +kernel
theorem dX5_loader_38 : decode cX5_loader 38 = .ok (.baload, 1) := by decide +kernel
theorem dX5_loader_39 : decode cX5_loader 39 = .ok (.ifCond .eq 6, 3) := by decide +kernel
theorem dX5_loader_42 : decode cX5_loader 42 = .ok (.bipush (-3), 2) := by decide +kernel
theorem dX5_loader_44 : decode cX5_loader 44 = .ok (.ireturn, 1) := by decide +kernel
theorem dX5_loader_45 : decode cX5_loader 45 = .ok (.aload_n 0, 1) := by decide +kernel
theorem dX5_loader_46 : decode cX5_loader 46 = .ok (.getfield 19, 3) := by decide +kernel
theorem dX5_loader_49 : decode cX5_loader 49 = .ok (.iload_n 1, 1) := by decide +kernel
theorem dX5_loader_50 : decode cX5_loader 50 = .ok (.iload_n 2, 1) := by decide +kernel
theorem dX5_loader_51 : decode cX5_loader 51 = .ok (.invokevirtual 71, 3) := by decide +kernel
theorem dX5_loader_54 : decode cX5_loader 54 = .ok (.ireturn, 1) := by decide +kernel
theorem dX5_put_0 : decode cX5_put 0 = .ok (.aload_n 0, 1) := by decide +kernel
theorem dX5_put_1 : decode cX5_put 1 = .ok (.getfield 19, 3) := by decide +kernel
theorem dX5_put_4 : decode cX5_put 4 = .ok (.iload_n 1, 1) := by decide +kernel
theorem dX5_put_5 : decode cX5_put 5 = .ok (.invokevirtual 62, 3) := by decide +kernel
theorem dX5_put_8 : decode cX5_put 8 = .ok (.ifCond .eq 21, 3) := by decide +kernel
theorem dX5_put_11 : decode cX5_put 11 = .ok (.iload_n 2, 1) := by decide +kernel
theorem dX5_put_12 : decode cX5_put 12 = .ok (.invokestatic 51, 3) := by decide +kernel
theorem dX5_put_15 : decode cX5_put 15 = .ok (.ifCond .eq 14, 3) := by decide +kernel
theorem dX5_put_18 : decode cX5_put 18 = .ok (.aload_n 0, 1) := by decide +kernel
theorem dX5_put_19 : decode cX5_put 19 = .ok (.getfield 12, 3) := by decide +kernel
theorem dX5_put_22 : decode cX5_put 22 = .ok (.iload_n 3, 1) := by decide +kernel
theorem dX5_put_23 : decode cX5_put 23 = .ok (.invokevirtual 74, 3) := by decide +kernel
theorem dX5_put_26 : decode cX5_put 26 = .ok (.ifCond .ne 6, 3) := by decide +kernel
theorem dX5_put_29 : decode cX5_put 29 = .ok (.bipush (-2), 2) := by decide +kernel
theorem dX5_put_31 : decode cX5_put 31 = .ok (.ireturn, 1) := by decide +kernel
theorem dX5_put_32 : decode cX5_put 32 = .ok (.aload_n 0, 1) := by decide +kernel
theorem dX5_put_33 : decode cX5_put 33 = .ok (.getfield 19, 3) := by decide +kernel
theorem dX5_put_36 : decode cX5_put 36 = .ok (.getfield 68, 3) := by decide +kernel
theorem dX5_put_39 : decode cX5_put 39 = .ok (.iload_n 1, 1) := by decide +kernel
theorem dX5_put_40 : decode cX5_put 40 = .ok (.baload, 1) := by decide +kernel
theorem dX5_put_41 : decode cX5_put 41 = .ok (.ifCond .eq 6, 3) := by decide +kernel
theorem dX5_put_44 : decode cX5_put 44 = .ok (.bipush (-3), 2) := by decide +kernel
theorem dX5_put_46 : decode cX5_put 46 = .ok (.ireturn, 1) := by decide +kernel
theorem dX5_put_47 : decode cX5_put 47 = .ok (.aload_n 0, 1) := by decide +kernel
theorem dX5_put_48 : decode cX5_put 48 = .ok (.getfield 19, 3) := by decide +kernel
theorem dX5_put_51 : decode cX5_put 51 = .ok (.getfield 75, 3) := by decide +kernel
theorem dX5_put_54 : decode cX5_put 54 = .ok (.iload_n 1, 1) := by decide +kernel
theorem dX5_put_55 : decode cX5_put 55 = .ok (.iload_n 2, 1) := by decide +kernel
theorem dX5_put_56 : decode cX5_put 56 = .ok (.invokestatic 79, 3) := by decide +kernel
theorem dX5_put_59 : decode cX5_put 59 = .ok (.iload_n 3, 1) := by decide +kernel
theorem dX5_put_60 : decode cX5_put 60 = .ok (.iastore, 1) := by decide +kernel
theorem dX5_put_61 : decode cX5_put 61 = .ok (.iconst 1, 1) := by decide +kernel
theorem dX5_put_62 : decode cX5_put 62 = .ok (.ireturn, 1) := by decide +kernel
theorem dX5_load_0 : decode cX5_load 0 = .ok (.aload_n 0, 1) := by decide +kernel
theorem dX5_load_1 : decode cX5_load 1 = .ok (.getfield 19, 3) := by decide +kernel
theorem dX5_load_4 : decode cX5_load 4 = .ok (.iload_n 1, 1) := by decide +kernel
theorem dX5_load_5 : decode cX5_load 5 = .ok (.invokevirtual 62, 3) := by decide +kernel
theorem dX5_load_8 : decode cX5_load 8 = .ok (.ifCond .eq 10, 3) := by decide +kernel
theorem dX5_load_11 : decode cX5_load 11 = .ok (.iload_n 2, 1) := by decide +kernel
theorem dX5_load_12 : decode cX5_load 12 = .ok (.invokestatic 51, 3) := by decide +kernel
theorem dX5_load_15 : decode cX5_load 15 = .ok (.ifCond .ne 6, 3) := by decide +kernel
theorem dX5_load_18 : decode cX5_load 18 = .ok (.bipush (-2), 2) := by decide +kernel
theorem dX5_load_20 : decode cX5_load 20 = .ok (.ireturn, 1) := by decide +kernel
theorem dX5_load_21 : decode cX5_load 21 = .ok (.aload_n 0, 1) := by decide +kernel
theorem dX5_load_22 : decode cX5_load 22 = .ok (.getfield 19, 3) := by decide +kernel
theorem dX5_load_25 : decode cX5_load 25 = .ok (.getfield 68, 3) := by decide +kernel
theorem dX5_load_28 : decode cX5_load 28 = .ok (.iload_n 1, 1) := by decide +kernel
theorem dX5_load_29 : decode cX5_load 29 = .ok (.baload, 1) := by decide +kernel
theorem dX5_load_30 : decode cX5_load 30 = .ok (.ifCond .eq 6, 3) := by decide +kernel
theorem dX5_load_33 : decode cX5_load 33 = .ok (.bipush (-3), 2) := by decide +kernel
theorem dX5_load_35 : decode cX5_load 35 = .ok (.ireturn, 1) := by decide +kernel
theorem dX5_load_36 : decode cX5_load 36 = .ok (.aload_n 0, 1) := by decide +kernel
theorem dX5_load_37 : decode cX5_load 37 = .ok (.iload_n 1, 1) := by decide +kernel
theorem dX5_load_38 : decode cX5_load 38 = .ok (.iload_n 2, 1) := by decide +kernel
theorem dX5_load_39 : decode cX5_load 39 = .ok (.iconst 0, 1) := by decide +kernel
theorem dX5_load_40 : decode cX5_load 40 = .ok (.invokevirtual 83, 3) := by decide +kernel
theorem dX5_load_43 : decode cX5_load 43 = .ok (.ireturn, 1) := by decide +kernel
theorem dX5_define_0 : decode cX5_define 0 = .ok (.aload_n 0, 1) := by decide +kernel
theorem dX5_define_1 : decode cX5_define 1 = .ok (.getfield 19, 3) := by decide +kernel
theorem dX5_define_4 : decode cX5_define 4 = .ok (.iload_n 1, 1) := by decide +kernel
theorem dX5_define_5 : decode cX5_define 5 = .ok (.invokevirtual 62, 3) := by decide +kernel
theorem dX5_define_8 : decode cX5_define 8 = .ok (.ifCond .eq 21, 3) := by decide +kernel
theorem dX5_define_11 : decode cX5_define 11 = .ok (.iload_n 2, 1) := by decide +kernel
theorem dX5_define_12 : decode cX5_define 12 = .ok (.invokestatic 51, 3) := by decide +kernel
theorem dX5_define_15 : decode cX5_define 15 = .ok (.ifCond .eq 14, 3) := by decide +kernel
theorem dX5_define_18 : decode cX5_define 18 = .ok (.aload_n 0, 1) := by decide +kernel
theorem dX5_define_19 : decode cX5_define 19 = .ok (.getfield 12, 3) := by decide +kernel
theorem dX5_define_22 : decode cX5_define 22 = .ok (.iload_n 3, 1) := by decide +kernel
theorem dX5_define_23 : decode cX5_define 23 = .ok (.invokevirtual 74, 3) := by decide +kernel
theorem dX5_define_26 : decode cX5_define 26 = .ok (.ifCond .ne 6, 3) := by decide +kernel
theorem dX5_define_29 : decode cX5_define 29 = .ok (.bipush (-2), 2) := by decide +kernel
theorem dX5_define_31 : decode cX5_define 31 = .ok (.ireturn, 1) := by decide +kernel
theorem dX5_define_32 : decode cX5_define 32 = .ok (.aload_n 0, 1) := by decide +kernel
theorem dX5_define_33 : decode cX5_define 33 = .ok (.getfield 19, 3) := by decide +kernel
theorem dX5_define_36 : decode cX5_define 36 = .ok (.getfield 68, 3) := by decide +kernel
theorem dX5_define_39 : decode cX5_define 39 = .ok (.iload_n 1, 1) := by decide +kernel
theorem dX5_define_40 : decode cX5_define 40 = .ok (.baload, 1) := by decide +kernel
theorem dX5_define_41 : decode cX5_define 41 = .ok (.ifCond .eq 6, 3) := by decide +kernel
theorem dX5_define_44 : decode cX5_define 44 = .ok (.bipush (-3), 2) := by decide +kernel
theorem dX5_define_46 : decode cX5_define 46 = .ok (.ireturn, 1) := by decide +kernel
theorem dX5_define_47 : decode cX5_define 47 = .ok (.aload_n 0, 1) := by decide +kernel
theorem dX5_define_48 : decode cX5_define 48 = .ok (.getfield 19, 3) := by decide +kernel
theorem dX5_define_51 : decode cX5_define 51 = .ok (.getfield 87, 3) := by decide +kernel
theorem dX5_define_54 : decode cX5_define 54 = .ok (.iload_n 1, 1) := by decide +kernel
theorem dX5_define_55 : decode cX5_define 55 = .ok (.iload_n 2, 1) := by decide +kernel
theorem dX5_define_56 : decode cX5_define 56 = .ok (.invokestatic 79, 3) := by decide +kernel
theorem dX5_define_59 : decode cX5_define 59 = .ok (.iaload, 1) := by decide +kernel
theorem dX5_define_60 : decode cX5_define 60 = .ok (.iconst (-1), 1) := by decide +kernel
theorem dX5_define_61 : decode cX5_define 61 = .ok (.if_icmp .eq 6, 3) := by decide +kernel
theorem dX5_define_64 : decode cX5_define 64 = .ok (.bipush (-12), 2) := by decide +kernel
theorem dX5_define_66 : decode cX5_define 66 = .ok (.ireturn, 1) := by decide +kernel
theorem dX5_define_67 : decode cX5_define 67 = .ok (.aload_n 0, 1) := by decide +kernel
theorem dX5_define_68 : decode cX5_define 68 = .ok (.iload_n 1, 1) := by decide +kernel
theorem dX5_define_69 : decode cX5_define 69 = .ok (.iload_n 2, 1) := by decide +kernel
theorem dX5_define_70 : decode cX5_define 70 = .ok (.iload_n 3, 1) := by decide +kernel
theorem dX5_define_71 : decode cX5_define 71 = .ok (.iconst 0, 1) := by decide +kernel
theorem dX5_define_72 : decode cX5_define 72 = .ok (.invokevirtual 90, 3) := by decide +kernel
theorem dX5_define_75 : decode cX5_define 75 = .ok (.ireturn, 1) := by decide +kernel
theorem dX5_anew_0 : decode cX5_anew 0 = .ok (.aload_n 0, 1) := by decide +kernel
theorem dX5_anew_1 : decode cX5_anew 1 = .ok (.getfield 19, 3) := by decide +kernel
theorem dX5_anew_4 : decode cX5_anew 4 = .ok (.iload_n 1, 1) := by decide +kernel
theorem dX5_anew_5 : decode cX5_anew 5 = .ok (.invokevirtual 62, 3) := by decide +kernel
theorem dX5_anew_8 : decode cX5_anew 8 = .ok (.ifCond .eq 21, 3) := by decide +kernel
theorem dX5_anew_11 : decode cX5_anew 11 = .ok (.iload_n 2, 1) := by decide +kernel
theorem dX5_anew_12 : decode cX5_anew 12 = .ok (.invokestatic 51, 3) := by decide +kernel
theorem dX5_anew_15 : decode cX5_anew 15 = .ok (.ifCond .eq 14, 3) := by decide +kernel
theorem dX5_anew_18 : decode cX5_anew 18 = .ok (.aload_n 0, 1) := by decide +kernel
theorem dX5_anew_19 : decode cX5_anew 19 = .ok (.getfield 12, 3) := by decide +kernel
theorem dX5_anew_22 : decode cX5_anew 22 = .ok (.iload_n 3, 1) := by decide +kernel
theorem dX5_anew_23 : decode cX5_anew 23 = .ok (.invokevirtual 74, 3) := by decide +kernel
theorem dX5_anew_26 : decode cX5_anew 26 = .ok (.ifCond .ne 6, 3) := by decide +kernel
theorem dX5_anew_29 : decode cX5_anew 29 = .ok (.bipush (-2), 2) := by decide +kernel
theorem dX5_anew_31 : decode cX5_anew 31 = .ok (.ireturn, 1) := by decide +kernel
theorem dX5_anew_32 : decode cX5_anew 32 = .ok (.aload_n 0, 1) := by decide +kernel
theorem dX5_anew_33 : decode cX5_anew 33 = .ok (.getfield 19, 3) := by decide +kernel
theorem dX5_anew_36 : decode cX5_anew 36 = .ok (.getfield 68, 3) := by decide +kernel
theorem dX5_anew_39 : decode cX5_anew 39 = .ok (.iload_n 1, 1) := by decide +kernel
theorem dX5_anew_40 : decode cX5_anew 40 = .ok (.baload, 1) := by decide +kernel
theorem dX5_anew_41 : decode cX5_anew 41 = .ok (.ifCond .ne 20, 3) := by decide +kernel
theorem dX5_anew_44 : decode cX5_anew 44 = .ok (.aload_n 0, 1) := by decide +kernel
theorem dX5_anew_45 : decode cX5_anew 45 = .ok (.getfield 19, 3) := by decide +kernel
theorem dX5_anew_48 : decode cX5_anew 48 = .ok (.getfield 87, 3) := by decide +kernel
theorem dX5_anew_51 : decode cX5_anew 51 = .ok (.iload_n 1, 1) := by decide +kernel
theorem dX5_anew_52 : decode cX5_anew 52 = .ok (.iload_n 2, 1) := by decide +kernel
theorem dX5_anew_53 : decode cX5_anew 53 = .ok (.invokestatic 79, 3) := by decide +kernel
theorem dX5_anew_56 : decode cX5_anew 56 = .ok (.iaload, 1) := by decide +kernel
theorem dX5_anew_57 : decode cX5_anew 57 = .ok (.iconst (-1), 1) := by decide +kernel
theorem dX5_anew_58 : decode cX5_anew 58 = .ok (.if_icmp .ne 6, 3) := by decide +kernel
theorem dX5_anew_61 : decode cX5_anew 61 = .ok (.bipush (-3), 2) := by decide +kernel
theorem dX5_anew_63 : decode cX5_anew 63 = .ok (.ireturn, 1) := by decide +kernel
theorem dX5_anew_64 : decode cX5_anew 64 = .ok (.aload_n 0, 1) := by decide +kernel
theorem dX5_anew_65 : decode cX5_anew 65 = .ok (.iload_n 1, 1) := by decide +kernel
theorem dX5_anew_66 : decode cX5_anew 66 = .ok (.iload_n 2, 1) := by decide +kernel
theorem dX5_anew_67 : decode cX5_anew 67 = .ok (.iload_n 3, 1) := by decide +kernel
theorem dX5_anew_68 : decode cX5_anew 68 = .ok (.iconst 0, 1) := by decide +kernel
theorem dX5_anew_69 : decode cX5_anew 69 = .ok (.invokevirtual 90, 3) := by decide +kernel
theorem dX5_anew_72 : decode cX5_anew 72 = .ok (.ireturn, 1) := by decide +kernel
theorem dX5_known_0 : decode cX5_known 0 = .ok (.aload_n 0, 1) := by decide +kernel
theorem dX5_known_1 : decode cX5_known 1 = .ok (.getfield 19, 3) := by decide +kernel
theorem dX5_known_4 : decode cX5_known 4 = .ok (.iload_n 1, 1) := by decide +kernel
theorem dX5_known_5 : decode cX5_known 5 = .ok (.invokevirtual 62, 3) := by decide +kernel
theorem dX5_known_8 : decode cX5_known 8 = .ok (.ifCond .eq 10, 3) := by decide +kernel
theorem dX5_known_11 : decode cX5_known 11 = .ok (.iload_n 2, 1) := by decide +kernel
theorem dX5_known_12 : decode cX5_known 12 = .ok (.invokestatic 51, 3) := by decide +kernel
theorem dX5_known_15 : decode cX5_known 15 = .ok (.ifCond .ne 6, 3) := by decide +kernel
theorem dX5_known_18 : decode cX5_known 18 = .ok (.bipush (-2), 2) := by decide +kernel
theorem dX5_known_20 : decode cX5_known 20 = .ok (.ireturn, 1) := by decide +kernel
theorem dX5_known_21 : decode cX5_known 21 = .ok (.aload_n 0, 1) := by decide +kernel
theorem dX5_known_22 : decode cX5_known 22 = .ok (.getfield 19, 3) := by decide +kernel
theorem dX5_known_25 : decode cX5_known 25 = .ok (.iload_n 1, 1) := by decide +kernel
theorem dX5_known_26 : decode cX5_known 26 = .ok (.iload_n 2, 1) := by decide +kernel
theorem dX5_known_27 : decode cX5_known 27 = .ok (.invokevirtual 94, 3) := by decide +kernel
theorem dX5_known_30 : decode cX5_known 30 = .ok (.ireturn, 1) := by decide +kernel
theorem dX5_begin_0 : decode cX5_begin 0 = .ok (.aload_n 0, 1) := by decide +kernel
theorem dX5_begin_1 : decode cX5_begin 1 = .ok (.getfield 26, 3) := by decide +kernel
theorem dX5_begin_4 : decode cX5_begin 4 = .ok (.iload_n 1, 1) := by decide +kernel
theorem dX5_begin_5 : decode cX5_begin 5 = .ok (.invokevirtual 97, 3) := by decide +kernel
theorem dX5_begin_8 : decode cX5_begin 8 = .ok (.ifCond .ne 6, 3) := by decide +kernel
theorem dX5_begin_11 : decode cX5_begin 11 = .ok (.bipush (-2), 2) := by decide +kernel
theorem dX5_begin_13 : decode cX5_begin 13 = .ok (.ireturn, 1) := by decide +kernel
theorem dX5_begin_14 : decode cX5_begin 14 = .ok (.aload_n 0, 1) := by decide +kernel
theorem dX5_begin_15 : decode cX5_begin 15 = .ok (.getfield 19, 3) := by decide +kernel
theorem dX5_begin_18 : decode cX5_begin 18 = .ok (.getfield 68, 3) := by decide +kernel
theorem dX5_begin_21 : decode cX5_begin 21 = .ok (.aload_n 0, 1) := by decide +kernel
theorem dX5_begin_22 : decode cX5_begin 22 = .ok (.getfield 26, 3) := by decide +kernel
theorem dX5_begin_25 : decode cX5_begin 25 = .ok (.getfield 98, 3) := by decide +kernel
theorem dX5_begin_28 : decode cX5_begin 28 = .ok (.iload_n 1, 1) := by decide +kernel
theorem dX5_begin_29 : decode cX5_begin 29 = .ok (.iaload, 1) := by decide +kernel
theorem dX5_begin_30 : decode cX5_begin 30 = .ok (.baload, 1) := by decide +kernel
theorem dX5_begin_31 : decode cX5_begin 31 = .ok (.ifCond .eq 6, 3) := by decide +kernel
theorem dX5_begin_34 : decode cX5_begin 34 = .ok (.bipush (-3), 2) := by decide +kernel
theorem dX5_begin_36 : decode cX5_begin 36 = .ok (.ireturn, 1) := by decide +kernel
theorem dX5_begin_37 : decode cX5_begin 37 = .ok (.aload_n 0, 1) := by decide +kernel
theorem dX5_begin_38 : decode cX5_begin 38 = .ok (.iload_n 1, 1) := by decide +kernel
theorem dX5_begin_39 : decode cX5_begin 39 = .ok (.invokevirtual 101, 3) := by decide +kernel
theorem dX5_begin_42 : decode cX5_begin 42 = .ok (.ireturn, 1) := by decide +kernel
theorem dX5_thing_0 : decode cX5_thing 0 = .ok (.aload_n 0, 1) := by decide +kernel
theorem dX5_thing_1 : decode cX5_thing 1 = .ok (.getfield 26, 3) := by decide +kernel
theorem dX5_thing_4 : decode cX5_thing 4 = .ok (.iload_n 1, 1) := by decide +kernel
theorem dX5_thing_5 : decode cX5_thing 5 = .ok (.invokevirtual 97, 3) := by decide +kernel
theorem dX5_thing_8 : decode cX5_thing 8 = .ok (.ifCond .ne 6, 3) := by decide +kernel
theorem dX5_thing_11 : decode cX5_thing 11 = .ok (.bipush (-2), 2) := by decide +kernel
theorem dX5_thing_13 : decode cX5_thing 13 = .ok (.ireturn, 1) := by decide +kernel
theorem dX5_thing_14 : decode cX5_thing 14 = .ok (.aload_n 0, 1) := by decide +kernel
theorem dX5_thing_15 : decode cX5_thing 15 = .ok (.getfield 19, 3) := by decide +kernel
theorem dX5_thing_18 : decode cX5_thing 18 = .ok (.getfield 68, 3) := by decide +kernel
theorem dX5_thing_21 : decode cX5_thing 21 = .ok (.aload_n 0, 1) := by decide +kernel
theorem dX5_thing_22 : decode cX5_thing 22 = .ok (.getfield 26, 3) := by decide +kernel
theorem dX5_thing_25 : decode cX5_thing 25 = .ok (.getfield 98, 3) := by decide +kernel
theorem dX5_thing_28 : decode cX5_thing 28 = .ok (.iload_n 1, 1) := by decide +kernel
theorem dX5_thing_29 : decode cX5_thing 29 = .ok (.iaload, 1) := by decide +kernel
theorem dX5_thing_30 : decode cX5_thing 30 = .ok (.baload, 1) := by decide +kernel
theorem dX5_thing_31 : decode cX5_thing 31 = .ok (.ifCond .eq 6, 3) := by decide +kernel
theorem dX5_thing_34 : decode cX5_thing 34 = .ok (.bipush (-3), 2) := by decide +kernel
theorem dX5_thing_36 : decode cX5_thing 36 = .ok (.ireturn, 1) := by decide +kernel
theorem dX5_thing_37 : decode cX5_thing 37 = .ok (.aload_n 0, 1) := by decide +kernel
theorem dX5_thing_38 : decode cX5_thing 38 = .ok (.getfield 33, 3) := by decide +kernel
theorem dX5_thing_41 : decode cX5_thing 41 = .ok (.invokevirtual 105, 3) := by decide +kernel
theorem dX5_thing_44 : decode cX5_thing 44 = .ok (.ifCond .eq 6, 3) := by decide +kernel
theorem dX5_thing_47 : decode cX5_thing 47 = .ok (.bipush (-4), 2) := by decide +kernel
theorem dX5_thing_49 : decode cX5_thing 49 = .ok (.ireturn, 1) := by decide +kernel
theorem dX5_thing_50 : decode cX5_thing 50 = .ok (.aload_n 0, 1) := by decide +kernel
theorem dX5_thing_51 : decode cX5_thing 51 = .ok (.iload_n 1, 1) := by decide +kernel
theorem dX5_thing_52 : decode cX5_thing 52 = .ok (.invokevirtual 101, 3) := by decide +kernel
theorem dX5_thing_55 : decode cX5_thing 55 = .ok (.istore_n 2, 1) := by decide +kernel
theorem dX5_thing_56 : decode cX5_thing 56 = .ok (.iload_n 2, 1) := by decide +kernel
theorem dX5_thing_57 : decode cX5_thing 57 = .ok (.iconst 1, 1) := by decide +kernel
theorem dX5_thing_58 : decode cX5_thing 58 = .ok (.if_icmp .ne 14, 3) := by decide +kernel
theorem dX5_thing_61 : decode cX5_thing 61 = .ok (.aload_n 0, 1) := by decide +kernel
theorem dX5_thing_62 : decode cX5_thing 62 = .ok (.getfield 33, 3) := by decide +kernel
theorem dX5_thing_65 : decode cX5_thing 65 = .ok (.iload_n 1, 1) := by decide +kernel
theorem dX5_thing_66 : decode cX5_thing 66 = .ok (.invokevirtual 109, 3) := by decide +kernel
theorem dX5_thing_69 : decode cX5_thing 69 = .ok (.goto 4, 3) := by decide +kernel
theorem dX5_thing_72 : decode cX5_thing 72 = .ok (.iload_n 2, 1) := by decide +kernel
theorem dX5_thing_73 : decode cX5_thing 73 = .ok (.ireturn, 1) := by decide +kernel
theorem dX5_cast_0 : decode cX5_cast 0 = .ok (.aload_n 0, 1) := by decide +kernel
theorem dX5_cast_1 : decode cX5_cast 1 = .ok (.getfield 33, 3) := by decide +kernel
theorem dX5_cast_4 : decode cX5_cast 4 = .ok (.iload_n 1, 1) := by decide +kernel
theorem dX5_cast_5 : decode cX5_cast 5 = .ok (.invokevirtual 111, 3) := by decide +kernel
theorem dX5_cast_8 : decode cX5_cast 8 = .ok (.ifCond .eq 14, 3) := by decide +kernel
theorem dX5_cast_11 : decode cX5_cast 11 = .ok (.aload_n 0, 1) := by decide +kernel
theorem dX5_cast_12 : decode cX5_cast 12 = .ok (.getfield 26, 3) := by decide +kernel
theorem dX5_cast_15 : decode cX5_cast 15 = .ok (.iload_n 2, 1) := by decide +kernel
theorem dX5_cast_16 : decode cX5_cast 16 = .ok (.invokevirtual 97, 3) := by decide +kernel
theorem dX5_cast_19 : decode cX5_cast 19 = .ok (.ifCond .ne 6, 3) := by decide +kernel
theorem dX5_cast_22 : decode cX5_cast 22 = .ok (.bipush (-2), 2) := by decide +kernel
theorem dX5_cast_24 : decode cX5_cast 24 = .ok (.ireturn, 1) := by decide +kernel
theorem dX5_cast_25 : decode cX5_cast 25 = .ok (.aload_n 0, 1) := by decide +kernel
theorem dX5_cast_26 : decode cX5_cast 26 = .ok (.getfield 33, 3) := by decide +kernel
theorem dX5_cast_29 : decode cX5_cast 29 = .ok (.getfield 112, 3) := by decide +kernel
theorem dX5_cast_32 : decode cX5_cast 32 = .ok (.iload_n 1, 1) := by decide +kernel
theorem dX5_cast_33 : decode cX5_cast 33 = .ok (.baload, 1) := by decide +kernel
theorem dX5_cast_34 : decode cX5_cast 34 = .ok (.ifCond .eq 6, 3) := by decide +kernel
theorem dX5_cast_37 : decode cX5_cast 37 = .ok (.bipush (-3), 2) := by decide +kernel
theorem dX5_cast_39 : decode cX5_cast 39 = .ok (.ireturn, 1) := by decide +kernel
theorem dX5_cast_40 : decode cX5_cast 40 = .ok (.aload_n 0, 1) := by decide +kernel
theorem dX5_cast_41 : decode cX5_cast 41 = .ok (.getfield 26, 3) := by decide +kernel
theorem dX5_cast_44 : decode cX5_cast 44 = .ok (.aload_n 0, 1) := by decide +kernel
theorem dX5_cast_45 : decode cX5_cast 45 = .ok (.getfield 33, 3) := by decide +kernel
theorem dX5_cast_48 : decode cX5_cast 48 = .ok (.getfield 115, 3) := by decide +kernel
theorem dX5_cast_51 : decode cX5_cast 51 = .ok (.iload_n 1, 1) := by decide +kernel
theorem dX5_cast_52 : decode cX5_cast 52 = .ok (.iaload, 1) := by decide +kernel
theorem dX5_cast_53 : decode cX5_cast 53 = .ok (.iload_n 2, 1) := by decide +kernel
theorem dX5_cast_54 : decode cX5_cast 54 = .ok (.invokevirtual 118, 3) := by decide +kernel
theorem dX5_cast_57 : decode cX5_cast 57 = .ok (.ifCond .eq 7, 3) := by decide +kernel
theorem dX5_cast_60 : decode cX5_cast 60 = .ok (.iconst 1, 1) := by decide +kernel
theorem dX5_cast_61 : decode cX5_cast 61 = .ok (.goto 5, 3) := by decide +kernel
theorem dX5_cast_64 : decode cX5_cast 64 = .ok (.bipush (-19), 2) := by decide +kernel
theorem dX5_cast_66 : decode cX5_cast 66 = .ok (.ireturn, 1) := by decide +kernel
theorem dX5_drop_0 : decode cX5_drop 0 = .ok (.aload_n 0, 1) := by decide +kernel
theorem dX5_drop_1 : decode cX5_drop 1 = .ok (.getfield 33, 3) := by decide +kernel
theorem dX5_drop_4 : decode cX5_drop 4 = .ok (.iload_n 1, 1) := by decide +kernel
theorem dX5_drop_5 : decode cX5_drop 5 = .ok (.invokevirtual 111, 3) := by decide +kernel
theorem dX5_drop_8 : decode cX5_drop 8 = .ok (.ifCond .ne 6, 3) := by decide +kernel
theorem dX5_drop_11 : decode cX5_drop 11 = .ok (.bipush (-2), 2) := by decide +kernel
theorem dX5_drop_13 : decode cX5_drop 13 = .ok (.ireturn, 1) := by decide +kernel
theorem dX5_drop_14 : decode cX5_drop 14 = .ok (.aload_n 0, 1) := by decide +kernel
theorem dX5_drop_15 : decode cX5_drop 15 = .ok (.getfield 33, 3) := by decide +kernel
theorem dX5_drop_18 : decode cX5_drop 18 = .ok (.getfield 112, 3) := by decide +kernel
theorem dX5_drop_21 : decode cX5_drop 21 = .ok (.iload_n 1, 1) := by decide +kernel
theorem dX5_drop_22 : decode cX5_drop 22 = .ok (.baload, 1) := by decide +kernel
theorem dX5_drop_23 : decode cX5_drop 23 = .ok (.ifCond .eq 6, 3) := by decide +kernel
theorem dX5_drop_26 : decode cX5_drop 26 = .ok (.bipush (-3), 2) := by decide +kernel
theorem dX5_drop_28 : decode cX5_drop 28 = .ok (.ireturn, 1) := by decide +kernel
theorem dX5_drop_29 : decode cX5_drop 29 = .ok (.aload_n 0, 1) := by decide +kernel
theorem dX5_drop_30 : decode cX5_drop 30 = .ok (.getfield 33, 3) := by decide +kernel
theorem dX5_drop_33 : decode cX5_drop 33 = .ok (.getfield 112, 3) := by decide +kernel
theorem dX5_drop_36 : decode cX5_drop 36 = .ok (.iload_n 1, 1) := by decide +kernel
theorem dX5_drop_37 : decode cX5_drop 37 = .ok (.iconst 1, 1) := by decide +kernel
theorem dX5_drop_38 : decode cX5_drop 38 = .ok (.bastore, 1) := by decide +kernel
theorem dX5_drop_39 : decode cX5_drop 39 = .ok (.iconst 1, 1) := by decide +kernel
theorem dX5_drop_40 : decode cX5_drop 40 = .ok (.ireturn, 1) := by decide +kernel
theorem dX5_letGo_0 : decode cX5_letGo 0 = .ok (.aload_n 0, 1) := by decide +kernel
theorem dX5_letGo_1 : decode cX5_letGo 1 = .ok (.getfield 19, 3) := by decide +kernel
theorem dX5_letGo_4 : decode cX5_letGo 4 = .ok (.iload_n 1, 1) := by decide +kernel
theorem dX5_letGo_5 : decode cX5_letGo 5 = .ok (.invokevirtual 62, 3) := by decide +kernel
theorem dX5_letGo_8 : decode cX5_letGo 8 = .ok (.ifCond .ne 6, 3) := by decide +kernel
theorem dX5_letGo_11 : decode cX5_letGo 11 = .ok (.bipush (-2), 2) := by decide +kernel
theorem dX5_letGo_13 : decode cX5_letGo 13 = .ok (.ireturn, 1) := by decide +kernel
theorem dX5_letGo_14 : decode cX5_letGo 14 = .ok (.aload_n 0, 1) := by decide +kernel
theorem dX5_letGo_15 : decode cX5_letGo 15 = .ok (.getfield 19, 3) := by decide +kernel
theorem dX5_letGo_18 : decode cX5_letGo 18 = .ok (.getfield 68, 3) := by decide +kernel
theorem dX5_letGo_21 : decode cX5_letGo 21 = .ok (.iload_n 1, 1) := by decide +kernel
theorem dX5_letGo_22 : decode cX5_letGo 22 = .ok (.baload, 1) := by decide +kernel
theorem dX5_letGo_23 : decode cX5_letGo 23 = .ok (.ifCond .ne 14, 3) := by decide +kernel
theorem dX5_letGo_26 : decode cX5_letGo 26 = .ok (.aload_n 0, 1) := by decide +kernel
theorem dX5_letGo_27 : decode cX5_letGo 27 = .ok (.getfield 19, 3) := by decide +kernel
theorem dX5_letGo_30 : decode cX5_letGo 30 = .ok (.iload_n 1, 1) := by decide +kernel
theorem dX5_letGo_31 : decode cX5_letGo 31 = .ok (.invokevirtual 122, 3) := by decide +kernel
theorem dX5_letGo_34 : decode cX5_letGo 34 = .ok (.ifCond .eq 6, 3) := by decide +kernel
theorem dX5_letGo_37 : decode cX5_letGo 37 = .ok (.bipush (-3), 2) := by decide +kernel
theorem dX5_letGo_39 : decode cX5_letGo 39 = .ok (.ireturn, 1) := by decide +kernel
theorem dX5_letGo_40 : decode cX5_letGo 40 = .ok (.aload_n 0, 1) := by decide +kernel
theorem dX5_letGo_41 : decode cX5_letGo 41 = .ok (.getfield 19, 3) := by decide +kernel
theorem dX5_letGo_44 : decode cX5_letGo 44 = .ok (.getfield 68, 3) := by decide +kernel
theorem dX5_letGo_47 : decode cX5_letGo 47 = .ok (.iload_n 1, 1) := by decide +kernel
theorem dX5_letGo_48 : decode cX5_letGo 48 = .ok (.iconst 1, 1) := by decide +kernel
theorem dX5_letGo_49 : decode cX5_letGo 49 = .ok (.bastore, 1) := by decide +kernel
theorem dX5_letGo_50 : decode cX5_letGo 50 = .ok (.iconst 1, 1) := by decide +kernel
theorem dX5_letGo_51 : decode cX5_letGo 51 = .ok (.ireturn, 1) := by decide +kernel
theorem dX5_held_0 : decode cX5_held 0 = .ok (.aload_n 0, 1) := by decide +kernel
theorem dX5_held_1 : decode cX5_held 1 = .ok (.getfield 19, 3) := by decide +kernel
theorem dX5_held_4 : decode cX5_held 4 = .ok (.iload_n 1, 1) := by decide +kernel
theorem dX5_held_5 : decode cX5_held 5 = .ok (.invokevirtual 62, 3) := by decide +kernel
theorem dX5_held_8 : decode cX5_held 8 = .ok (.ifCond .ne 6, 3) := by decide +kernel
theorem dX5_held_11 : decode cX5_held 11 = .ok (.bipush (-2), 2) := by decide +kernel
theorem dX5_held_13 : decode cX5_held 13 = .ok (.ireturn, 1) := by decide +kernel
theorem dX5_held_14 : decode cX5_held 14 = .ok (.aload_n 0, 1) := by decide +kernel
theorem dX5_held_15 : decode cX5_held 15 = .ok (.invokevirtual 125, 3) := by decide +kernel
theorem dX5_held_18 : decode cX5_held 18 = .ok (.iconst 0, 1) := by decide +kernel
theorem dX5_held_19 : decode cX5_held 19 = .ok (.istore_n 2, 1) := by decide +kernel
theorem dX5_held_20 : decode cX5_held 20 = .ok (.iconst 0, 1) := by decide +kernel
theorem dX5_held_21 : decode cX5_held 21 = .ok (.istore_n 3, 1) := by decide +kernel
theorem dX5_held_22 : decode cX5_held 22 = .ok (.iload_n 3, 1) := by decide +kernel
theorem dX5_held_23 : decode cX5_held 23 = .ok (.aload_n 0, 1) := by decide +kernel
theorem dX5_held_24 : decode cX5_held 24 = .ok (.getfield 26, 3) := by decide +kernel
theorem dX5_held_27 : decode cX5_held 27 = .ok (.getfield 128, 3) := by decide +kernel
theorem dX5_held_30 : decode cX5_held 30 = .ok (.if_icmp .ge 34, 3) := by decide +kernel
theorem dX5_held_33 : decode cX5_held 33 = .ok (.aload_n 0, 1) := by decide +kernel
theorem dX5_held_34 : decode cX5_held 34 = .ok (.getfield 26, 3) := by decide +kernel
theorem dX5_held_37 : decode cX5_held 37 = .ok (.getfield 98, 3) := by decide +kernel
theorem dX5_held_40 : decode cX5_held 40 = .ok (.iload_n 3, 1) := by decide +kernel
theorem dX5_held_41 : decode cX5_held 41 = .ok (.iaload, 1) := by decide +kernel
theorem dX5_held_42 : decode cX5_held 42 = .ok (.iload_n 1, 1) := by decide +kernel
theorem dX5_held_43 : decode cX5_held 43 = .ok (.if_icmp .ne 15, 3) := by decide +kernel
theorem dX5_held_46 : decode cX5_held 46 = .ok (.aload_n 0, 1) := by decide +kernel
theorem dX5_held_47 : decode cX5_held 47 = .ok (.getfield 47, 3) := by decide +kernel
theorem dX5_held_50 : decode cX5_held 50 = .ok (.iload_n 3, 1) := by decide +kernel
theorem dX5_held_51 : decode cX5_held 51 = .ok (.baload, 1) := by decide +kernel
theorem dX5_held_52 : decode cX5_held 52 = .ok (.ifCond .eq 6, 3) := by decide +kernel
theorem dX5_held_55 : decode cX5_held 55 = .ok (.iinc 2 1, 3) := by decide +kernel
theorem dX5_held_58 : decode cX5_held 58 = .ok (.iinc 3 1, 3) := by decide +kernel
theorem dX5_held_61 : decode cX5_held 61 = .ok (.goto (-39), 3) := by decide +kernel
theorem dX5_held_64 : decode cX5_held 64 = .ok (.iload_n 2, 1) := by decide +kernel
theorem dX5_held_65 : decode cX5_held 65 = .ok (.ireturn, 1) := by decide +kernel
theorem dX5_isHeld_0 : decode cX5_isHeld 0 = .ok (.aload_n 0, 1) := by decide +kernel
theorem dX5_isHeld_1 : decode cX5_isHeld 1 = .ok (.getfield 26, 3) := by decide +kernel
theorem dX5_isHeld_4 : decode cX5_isHeld 4 = .ok (.iload_n 1, 1) := by decide +kernel
theorem dX5_isHeld_5 : decode cX5_isHeld 5 = .ok (.invokevirtual 97, 3) := by decide +kernel
theorem dX5_isHeld_8 : decode cX5_isHeld 8 = .ok (.ifCond .ne 6, 3) := by decide +kernel
theorem dX5_isHeld_11 : decode cX5_isHeld 11 = .ok (.bipush (-2), 2) := by decide +kernel
theorem dX5_isHeld_13 : decode cX5_isHeld 13 = .ok (.ireturn, 1) := by decide +kernel
theorem dX5_isHeld_14 : decode cX5_isHeld 14 = .ok (.aload_n 0, 1) := by decide +kernel
theorem dX5_isHeld_15 : decode cX5_isHeld 15 = .ok (.invokevirtual 125, 3) := by decide +kernel
theorem dX5_isHeld_18 : decode cX5_isHeld 18 = .ok (.aload_n 0, 1) := by decide +kernel
theorem dX5_isHeld_19 : decode cX5_isHeld 19 = .ok (.getfield 47, 3) := by decide +kernel
theorem dX5_isHeld_22 : decode cX5_isHeld 22 = .ok (.iload_n 1, 1) := by decide +kernel
theorem dX5_isHeld_23 : decode cX5_isHeld 23 = .ok (.baload, 1) := by decide +kernel
theorem dX5_isHeld_24 : decode cX5_isHeld 24 = .ok (.ifCond .eq 7, 3) := by decide +kernel
theorem dX5_isHeld_27 : decode cX5_isHeld 27 = .ok (.iconst 1, 1) := by decide +kernel
theorem dX5_isHeld_28 : decode cX5_isHeld 28 = .ok (.goto 4, 3) := by decide +kernel
theorem dX5_isHeld_31 : decode cX5_isHeld 31 = .ok (.iconst 0, 1) := by decide +kernel
theorem dX5_isHeld_32 : decode cX5_isHeld 32 = .ok (.ireturn, 1) := by decide +kernel
theorem dX5_about_0 : decode cX5_about 0 = .ok (.aload_n 0, 1) := by decide +kernel
theorem dX5_about_1 : decode cX5_about 1 = .ok (.getfield 26, 3) := by decide +kernel
theorem dX5_about_4 : decode cX5_about 4 = .ok (.iload_n 1, 1) := by decide +kernel
theorem dX5_about_5 : decode cX5_about 5 = .ok (.invokevirtual 97, 3) := by decide +kernel
theorem dX5_about_8 : decode cX5_about 8 = .ok (.ifCond .ne 5, 3) := by decide +kernel
theorem dX5_about_11 : decode cX5_about 11 = .ok (.iconst 0, 1) := by decide +kernel
theorem dX5_about_12 : decode cX5_about 12 = .ok (.ireturn, 1) := by decide +kernel
theorem dX5_about_13 : decode cX5_about 13 = .ok (.iload_n 2, 1) := by decide +kernel
theorem dX5_about_14 : decode cX5_about 14 = .ok (.tableswitch 106 0 5 #[38, 48, 58, 68, 78, 96], 38) := by decide +kernel
theorem dX5_about_52 : decode cX5_about 52 = .ok (.aload_n 0, 1) := by decide +kernel
theorem dX5_about_53 : decode cX5_about 53 = .ok (.getfield 26, 3) := by decide +kernel
theorem dX5_about_56 : decode cX5_about 56 = .ok (.getfield 98, 3) := by decide +kernel
theorem dX5_about_59 : decode cX5_about 59 = .ok (.iload_n 1, 1) := by decide +kernel
theorem dX5_about_60 : decode cX5_about 60 = .ok (.iaload, 1) := by decide +kernel
theorem dX5_about_61 : decode cX5_about 61 = .ok (.ireturn, 1) := by decide +kernel
theorem dX5_about_62 : decode cX5_about 62 = .ok (.aload_n 0, 1) := by decide +kernel
theorem dX5_about_63 : decode cX5_about 63 = .ok (.getfield 26, 3) := by decide +kernel
theorem dX5_about_66 : decode cX5_about 66 = .ok (.getfield 132, 3) := by decide +kernel
theorem dX5_about_69 : decode cX5_about 69 = .ok (.iload_n 1, 1) := by decide +kernel
theorem dX5_about_70 : decode cX5_about 70 = .ok (.iaload, 1) := by decide +kernel
theorem dX5_about_71 : decode cX5_about 71 = .ok (.ireturn, 1) := by decide +kernel
theorem dX5_about_72 : decode cX5_about 72 = .ok (.aload_n 0, 1) := by decide +kernel
theorem dX5_about_73 : decode cX5_about 73 = .ok (.getfield 26, 3) := by decide +kernel
theorem dX5_about_76 : decode cX5_about 76 = .ok (.getfield 135, 3) := by decide +kernel
theorem dX5_about_79 : decode cX5_about 79 = .ok (.iload_n 1, 1) := by decide +kernel
theorem dX5_about_80 : decode cX5_about 80 = .ok (.iaload, 1) := by decide +kernel
theorem dX5_about_81 : decode cX5_about 81 = .ok (.ireturn, 1) := by decide +kernel
theorem dX5_about_82 : decode cX5_about 82 = .ok (.aload_n 0, 1) := by decide +kernel
theorem dX5_about_83 : decode cX5_about 83 = .ok (.getfield 26, 3) := by decide +kernel
theorem dX5_about_86 : decode cX5_about 86 = .ok (.getfield 138, 3) := by decide +kernel
theorem dX5_about_89 : decode cX5_about 89 = .ok (.iload_n 1, 1) := by decide +kernel
theorem dX5_about_90 : decode cX5_about 90 = .ok (.iaload, 1) := by decide +kernel
theorem dX5_about_91 : decode cX5_about 91 = .ok (.ireturn, 1) := by decide +kernel
theorem dX5_about_92 : decode cX5_about 92 = .ok (.aload_n 0, 1) := by decide +kernel
theorem dX5_about_93 : decode cX5_about 93 = .ok (.getfield 12, 3) := by decide +kernel
theorem dX5_about_96 : decode cX5_about 96 = .ok (.getfield 141, 3) := by decide +kernel
theorem dX5_about_99 : decode cX5_about 99 = .ok (.aload_n 0, 1) := by decide +kernel
theorem dX5_about_100 : decode cX5_about 100 = .ok (.getfield 26, 3) := by decide +kernel
theorem dX5_about_103 : decode cX5_about 103 = .ok (.getfield 144, 3) := by decide +kernel
theorem dX5_about_106 : decode cX5_about 106 = .ok (.iload_n 1, 1) := by decide +kernel
theorem dX5_about_107 : decode cX5_about 107 = .ok (.iaload, 1) := by decide +kernel
theorem dX5_about_108 : decode cX5_about 108 = .ok (.iaload, 1) := by decide +kernel
theorem dX5_about_109 : decode cX5_about 109 = .ok (.ireturn, 1) := by decide +kernel
theorem dX5_about_110 : decode cX5_about 110 = .ok (.aload_n 0, 1) := by decide +kernel
theorem dX5_about_111 : decode cX5_about 111 = .ok (.getfield 26, 3) := by decide +kernel
theorem dX5_about_114 : decode cX5_about 114 = .ok (.getfield 144, 3) := by decide +kernel
theorem dX5_about_117 : decode cX5_about 117 = .ok (.iload_n 1, 1) := by decide +kernel
theorem dX5_about_118 : decode cX5_about 118 = .ok (.iaload, 1) := by decide +kernel
theorem dX5_about_119 : decode cX5_about 119 = .ok (.ireturn, 1) := by decide +kernel
theorem dX5_about_120 : decode cX5_about 120 = .ok (.iconst 0, 1) := by decide +kernel
theorem dX5_about_121 : decode cX5_about 121 = .ok (.ireturn, 1) := by decide +kernel
theorem dX5_aboutThing_0 : decode cX5_aboutThing 0 = .ok (.aload_n 0, 1) := by decide +kernel
theorem dX5_aboutThing_1 : decode cX5_aboutThing 1 = .ok (.getfield 33, 3) := by decide +kernel
theorem dX5_aboutThing_4 : decode cX5_aboutThing 4 = .ok (.iload_n 1, 1) := by decide +kernel
theorem dX5_aboutThing_5 : decode cX5_aboutThing 5 = .ok (.invokevirtual 111, 3) := by decide +kernel
theorem dX5_aboutThing_8 : decode cX5_aboutThing 8 = .ok (.ifCond .ne 6, 3) := by decide +kernel
theorem dX5_aboutThing_11 : decode cX5_aboutThing 11 = .ok (.bipush (-2), 2) := by decide +kernel
theorem dX5_aboutThing_13 : decode cX5_aboutThing 13 = .ok (.ireturn, 1) := by decide +kernel
theorem dX5_aboutThing_14 : decode cX5_aboutThing 14 = .ok (.iload_n 2, 1) := by decide +kernel
theorem dX5_aboutThing_15 : decode cX5_aboutThing 15 = .ok (.lookupswitch 53 #[(0, 25), (1, 35)], 25) := by decide +kernel
theorem dX5_aboutThing_40 : decode cX5_aboutThing 40 = .ok (.aload_n 0, 1) := by decide +kernel
theorem dX5_aboutThing_41 : decode cX5_aboutThing 41 = .ok (.getfield 33, 3) := by decide +kernel
theorem dX5_aboutThing_44 : decode cX5_aboutThing 44 = .ok (.getfield 115, 3) := by decide +kernel
theorem dX5_aboutThing_47 : decode cX5_aboutThing 47 = .ok (.iload_n 1, 1) := by decide +kernel
theorem dX5_aboutThing_48 : decode cX5_aboutThing 48 = .ok (.iaload, 1) := by decide +kernel
theorem dX5_aboutThing_49 : decode cX5_aboutThing 49 = .ok (.ireturn, 1) := by decide +kernel
theorem dX5_aboutThing_50 : decode cX5_aboutThing 50 = .ok (.aload_n 0, 1) := by decide +kernel
theorem dX5_aboutThing_51 : decode cX5_aboutThing 51 = .ok (.getfield 33, 3) := by decide +kernel
theorem dX5_aboutThing_54 : decode cX5_aboutThing 54 = .ok (.getfield 112, 3) := by decide +kernel
theorem dX5_aboutThing_57 : decode cX5_aboutThing 57 = .ok (.iload_n 1, 1) := by decide +kernel
theorem dX5_aboutThing_58 : decode cX5_aboutThing 58 = .ok (.baload, 1) := by decide +kernel
theorem dX5_aboutThing_59 : decode cX5_aboutThing 59 = .ok (.ifCond .eq 7, 3) := by decide +kernel
theorem dX5_aboutThing_62 : decode cX5_aboutThing 62 = .ok (.iconst 1, 1) := by decide +kernel
theorem dX5_aboutThing_63 : decode cX5_aboutThing 63 = .ok (.goto 4, 3) := by decide +kernel
theorem dX5_aboutThing_66 : decode cX5_aboutThing 66 = .ok (.iconst 0, 1) := by decide +kernel
theorem dX5_aboutThing_67 : decode cX5_aboutThing 67 = .ok (.ireturn, 1) := by decide +kernel
theorem dX5_aboutThing_68 : decode cX5_aboutThing 68 = .ok (.bipush (-2), 2) := by decide +kernel
theorem dX5_aboutThing_70 : decode cX5_aboutThing 70 = .ok (.ireturn, 1) := by decide +kernel
theorem dX5_order_0 : decode cX5_order 0 = .ok (.iload_n 1, 1) := by decide +kernel
theorem dX5_order_1 : decode cX5_order 1 = .ok (.ifCond .lt 26, 3) := by decide +kernel
theorem dX5_order_4 : decode cX5_order 4 = .ok (.iload_n 1, 1) := by decide +kernel
theorem dX5_order_5 : decode cX5_order 5 = .ok (.aload_n 0, 1) := by decide +kernel
theorem dX5_order_6 : decode cX5_order 6 = .ok (.getfield 40, 3) := by decide +kernel
theorem dX5_order_9 : decode cX5_order 9 = .ok (.getfield 147, 3) := by decide +kernel
theorem dX5_order_12 : decode cX5_order 12 = .ok (.if_icmp .ge 15, 3) := by decide +kernel
theorem dX5_order_15 : decode cX5_order 15 = .ok (.aload_n 0, 1) := by decide +kernel
theorem dX5_order_16 : decode cX5_order 16 = .ok (.getfield 40, 3) := by decide +kernel
theorem dX5_order_19 : decode cX5_order 19 = .ok (.getfield 148, 3) := by decide +kernel
theorem dX5_order_22 : decode cX5_order 22 = .ok (.iload_n 1, 1) := by decide +kernel
theorem dX5_order_23 : decode cX5_order 23 = .ok (.iaload, 1) := by decide +kernel
theorem dX5_order_24 : decode cX5_order 24 = .ok (.goto 4, 3) := by decide +kernel
theorem dX5_order_27 : decode cX5_order 27 = .ok (.iconst 0, 1) := by decide +kernel
theorem dX5_order_28 : decode cX5_order 28 = .ok (.ireturn, 1) := by decide +kernel
theorem dX5_count_0 : decode cX5_count 0 = .ok (.iload_n 1, 1) := by decide +kernel
theorem dX5_count_1 : decode cX5_count 1 = .ok (.tableswitch 75 0 4 #[35, 43, 51, 59, 67], 35) := by decide +kernel
theorem dX5_count_36 : decode cX5_count 36 = .ok (.aload_n 0, 1) := by decide +kernel
theorem dX5_count_37 : decode cX5_count 37 = .ok (.getfield 12, 3) := by decide +kernel
theorem dX5_count_40 : decode cX5_count 40 = .ok (.getfield 151, 3) := by decide +kernel
theorem dX5_count_43 : decode cX5_count 43 = .ok (.ireturn, 1) := by decide +kernel
theorem dX5_count_44 : decode cX5_count 44 = .ok (.aload_n 0, 1) := by decide +kernel
theorem dX5_count_45 : decode cX5_count 45 = .ok (.getfield 19, 3) := by decide +kernel
theorem dX5_count_48 : decode cX5_count 48 = .ok (.getfield 152, 3) := by decide +kernel
theorem dX5_count_51 : decode cX5_count 51 = .ok (.ireturn, 1) := by decide +kernel
theorem dX5_count_52 : decode cX5_count 52 = .ok (.aload_n 0, 1) := by decide +kernel
theorem dX5_count_53 : decode cX5_count 53 = .ok (.getfield 26, 3) := by decide +kernel
theorem dX5_count_56 : decode cX5_count 56 = .ok (.getfield 128, 3) := by decide +kernel
theorem dX5_count_59 : decode cX5_count 59 = .ok (.ireturn, 1) := by decide +kernel
theorem dX5_count_60 : decode cX5_count 60 = .ok (.aload_n 0, 1) := by decide +kernel
theorem dX5_count_61 : decode cX5_count 61 = .ok (.getfield 33, 3) := by decide +kernel
theorem dX5_count_64 : decode cX5_count 64 = .ok (.getfield 153, 3) := by decide +kernel
theorem dX5_count_67 : decode cX5_count 67 = .ok (.ireturn, 1) := by decide +kernel
theorem dX5_count_68 : decode cX5_count 68 = .ok (.aload_n 0, 1) := by decide +kernel
theorem dX5_count_69 : decode cX5_count 69 = .ok (.getfield 40, 3) := by decide +kernel
theorem dX5_count_72 : decode cX5_count 72 = .ok (.getfield 147, 3) := by decide +kernel
theorem dX5_count_75 : decode cX5_count 75 = .ok (.ireturn, 1) := by decide +kernel
theorem dX5_count_76 : decode cX5_count 76 = .ok (.bipush (-2), 2) := by decide +kernel
theorem dX5_count_78 : decode cX5_count 78 = .ok (.ireturn, 1) := by decide +kernel
theorem dX5_isName_0 : decode cX5_isName 0 = .ok (.iload_n 0, 1) := by decide +kernel
theorem dX5_isName_1 : decode cX5_isName 1 = .ok (.ifCond .lt 13, 3) := by decide +kernel
theorem dX5_isName_4 : decode cX5_isName 4 = .ok (.iload_n 0, 1) := by decide +kernel
theorem dX5_isName_5 : decode cX5_isName 5 = .ok (.bipush 31, 2) := by decide +kernel
theorem dX5_isName_7 : decode cX5_isName 7 = .ok (.if_icmp .ge 7, 3) := by decide +kernel
theorem dX5_isName_10 : decode cX5_isName 10 = .ok (.iconst 1, 1) := by decide +kernel
theorem dX5_isName_11 : decode cX5_isName 11 = .ok (.goto 4, 3) := by decide +kernel
theorem dX5_isName_14 : decode cX5_isName 14 = .ok (.iconst 0, 1) := by decide +kernel
theorem dX5_isName_15 : decode cX5_isName 15 = .ok (.ireturn, 1) := by decide +kernel
theorem dX5_isNameOrNone_0 : decode cX5_isNameOrNone 0 = .ok (.iload_n 0, 1) := by decide +kernel
theorem dX5_isNameOrNone_1 : decode cX5_isNameOrNone 1 = .ok (.iconst (-1), 1) := by decide +kernel
theorem dX5_isNameOrNone_2 : decode cX5_isNameOrNone 2 = .ok (.if_icmp .eq 10, 3) := by decide +kernel
theorem dX5_isNameOrNone_5 : decode cX5_isNameOrNone 5 = .ok (.iload_n 0, 1) := by decide +kernel
theorem dX5_isNameOrNone_6 : decode cX5_isNameOrNone 6 = .ok (.invokestatic 51, 3) := by decide +kernel
theorem dX5_isNameOrNone_9 : decode cX5_isNameOrNone 9 = .ok (.ifCond .eq 7, 3) := by decide +kernel
theorem dX5_isNameOrNone_12 : decode cX5_isNameOrNone 12 = .ok (.iconst 1, 1) := by decide +kernel
theorem dX5_isNameOrNone_13 : decode cX5_isNameOrNone 13 = .ok (.goto 4, 3) := by decide +kernel
theorem dX5_isNameOrNone_16 : decode cX5_isNameOrNone 16 = .ok (.iconst 0, 1) := by decide +kernel
theorem dX5_isNameOrNone_17 : decode cX5_isNameOrNone 17 = .ok (.ireturn, 1) := by decide +kernel
theorem dX5_slot_0 : decode cX5_slot 0 = .ok (.iload_n 0, 1) := by decide +kernel
theorem dX5_slot_1 : decode cX5_slot 1 = .ok (.bipush 31, 2) := by decide +kernel
theorem dX5_slot_3 : decode cX5_slot 3 = .ok (.imul, 1) := by decide +kernel
theorem dX5_slot_4 : decode cX5_slot 4 = .ok (.iload_n 1, 1) := by decide +kernel
theorem dX5_slot_5 : decode cX5_slot 5 = .ok (.iadd, 1) := by decide +kernel
theorem dX5_slot_6 : decode cX5_slot 6 = .ok (.ireturn, 1) := by decide +kernel
theorem dX5_ask_0 : decode cX5_ask 0 = .ok (.aload_n 0, 1) := by decide +kernel
theorem dX5_ask_1 : decode cX5_ask 1 = .ok (.getfield 19, 3) := by decide +kernel
theorem dX5_ask_4 : decode cX5_ask 4 = .ok (.iload_n 1, 1) := by decide +kernel
theorem dX5_ask_5 : decode cX5_ask 5 = .ok (.iload_n 2, 1) := by decide +kernel
theorem dX5_ask_6 : decode cX5_ask 6 = .ok (.invokevirtual 94, 3) := by decide +kernel
theorem dX5_ask_9 : decode cX5_ask 9 = .ok (.istore 4, 2) := by decide +kernel
theorem dX5_ask_11 : decode cX5_ask 11 = .ok (.iload 4, 2) := by decide +kernel
theorem dX5_ask_13 : decode cX5_ask 13 = .ok (.iconst (-1), 1) := by decide +kernel
theorem dX5_ask_14 : decode cX5_ask 14 = .ok (.if_icmp .eq 6, 3) := by decide +kernel
theorem dX5_ask_17 : decode cX5_ask 17 = .ok (.iload 4, 2) := by decide +kernel
theorem dX5_ask_19 : decode cX5_ask 19 = .ok (.ireturn, 1) := by decide +kernel
theorem dX5_ask_20 : decode cX5_ask 20 = .ok (.aload_n 0, 1) := by decide +kernel
theorem dX5_ask_21 : decode cX5_ask 21 = .ok (.getfield 19, 3) := by decide +kernel
theorem dX5_ask_24 : decode cX5_ask 24 = .ok (.iload_n 1, 1) := by decide +kernel
theorem dX5_ask_25 : decode cX5_ask 25 = .ok (.invokevirtual 65, 3) := by decide +kernel
theorem dX5_ask_28 : decode cX5_ask 28 = .ok (.istore 5, 2) := by decide +kernel
theorem dX5_ask_30 : decode cX5_ask 30 = .ok (.aload_n 0, 1) := by decide +kernel
theorem dX5_ask_31 : decode cX5_ask 31 = .ok (.getfield 19, 3) := by decide +kernel
theorem dX5_ask_34 : decode cX5_ask 34 = .ok (.getfield 154, 3) := by decide +kernel
theorem dX5_ask_37 : decode cX5_ask 37 = .ok (.iload_n 1, 1) := by decide +kernel
theorem dX5_ask_38 : decode cX5_ask 38 = .ok (.baload, 1) := by decide +kernel
theorem dX5_ask_39 : decode cX5_ask 39 = .ok (.istore 6, 2) := by decide +kernel
theorem dX5_ask_41 : decode cX5_ask 41 = .ok (.iload 5, 2) := by decide +kernel
theorem dX5_ask_43 : decode cX5_ask 43 = .ok (.ifCond .eq 27, 3) := by decide +kernel
theorem dX5_ask_46 : decode cX5_ask 46 = .ok (.iload 6, 2) := by decide +kernel
theorem dX5_ask_48 : decode cX5_ask 48 = .ok (.ifCond .ne 22, 3) := by decide +kernel
theorem dX5_ask_51 : decode cX5_ask 51 = .ok (.aload_n 0, 1) := by decide +kernel
theorem dX5_ask_52 : decode cX5_ask 52 = .ok (.iload_n 1, 1) := by decide +kernel
theorem dX5_ask_53 : decode cX5_ask 53 = .ok (.iload_n 2, 1) := by decide +kernel
theorem dX5_ask_54 : decode cX5_ask 54 = .ok (.iload_n 3, 1) := by decide +kernel
theorem dX5_ask_55 : decode cX5_ask 55 = .ok (.invokevirtual 157, 3) := by decide +kernel
theorem dX5_ask_58 : decode cX5_ask 58 = .ok (.istore 7, 2) := by decide +kernel
theorem dX5_ask_60 : decode cX5_ask 60 = .ok (.iload 7, 2) := by decide +kernel
theorem dX5_ask_62 : decode cX5_ask 62 = .ok (.bipush (-11), 2) := by decide +kernel
theorem dX5_ask_64 : decode cX5_ask 64 = .ok (.if_icmp .eq 6, 3) := by decide +kernel
theorem dX5_ask_67 : decode cX5_ask 67 = .ok (.iload 7, 2) := by decide +kernel
theorem dX5_ask_69 : decode cX5_ask 69 = .ok (.ireturn, 1) := by decide +kernel
theorem dX5_ask_70 : decode cX5_ask 70 = .ok (.aload_n 0, 1) := by decide +kernel
theorem dX5_ask_71 : decode cX5_ask 71 = .ok (.getfield 19, 3) := by decide +kernel
theorem dX5_ask_74 : decode cX5_ask 74 = .ok (.getfield 75, 3) := by decide +kernel
theorem dX5_ask_77 : decode cX5_ask 77 = .ok (.iload_n 1, 1) := by decide +kernel
theorem dX5_ask_78 : decode cX5_ask 78 = .ok (.iload_n 2, 1) := by decide +kernel
theorem dX5_ask_79 : decode cX5_ask 79 = .ok (.invokestatic 79, 3) := by decide +kernel
theorem dX5_ask_82 : decode cX5_ask 82 = .ok (.iaload, 1) := by decide +kernel
theorem dX5_ask_83 : decode cX5_ask 83 = .ok (.istore 7, 2) := by decide +kernel
theorem dX5_ask_85 : decode cX5_ask 85 = .ok (.iload 7, 2) := by decide +kernel
theorem dX5_ask_87 : decode cX5_ask 87 = .ok (.iconst (-1), 1) := by decide +kernel
theorem dX5_ask_88 : decode cX5_ask 88 = .ok (.if_icmp .eq 13, 3) := by decide +kernel
theorem dX5_ask_91 : decode cX5_ask 91 = .ok (.aload_n 0, 1) := by decide +kernel
theorem dX5_ask_92 : decode cX5_ask 92 = .ok (.iload_n 1, 1) := by decide +kernel
theorem dX5_ask_93 : decode cX5_ask 93 = .ok (.iload_n 2, 1) := by decide +kernel
theorem dX5_ask_94 : decode cX5_ask 94 = .ok (.iload 7, 2) := by decide +kernel
theorem dX5_ask_96 : decode cX5_ask 96 = .ok (.iload_n 3, 1) := by decide +kernel
theorem dX5_ask_97 : decode cX5_ask 97 = .ok (.invokevirtual 90, 3) := by decide +kernel
theorem dX5_ask_100 : decode cX5_ask 100 = .ok (.ireturn, 1) := by decide +kernel
theorem dX5_ask_101 : decode cX5_ask 101 = .ok (.iload 5, 2) := by decide +kernel
theorem dX5_ask_103 : decode cX5_ask 103 = .ok (.ifCond .eq 18, 3) := by decide +kernel
theorem dX5_ask_106 : decode cX5_ask 106 = .ok (.iload 6, 2) := by decide +kernel
theorem dX5_ask_108 : decode cX5_ask 108 = .ok (.ifCond .eq 13, 3) := by decide +kernel
theorem dX5_ask_111 : decode cX5_ask 111 = .ok (.aload_n 0, 1) := by decide +kernel
theorem dX5_ask_112 : decode cX5_ask 112 = .ok (.iload_n 1, 1) := by decide +kernel
theorem dX5_ask_113 : decode cX5_ask 113 = .ok (.iload_n 2, 1) := by decide +kernel
theorem dX5_ask_114 : decode cX5_ask 114 = .ok (.iload_n 3, 1) := by decide +kernel
theorem dX5_ask_115 : decode cX5_ask 115 = .ok (.invokevirtual 157, 3) := by decide +kernel
theorem dX5_ask_118 : decode cX5_ask 118 = .ok (.goto 5, 3) := by decide +kernel
theorem dX5_ask_121 : decode cX5_ask 121 = .ok (.bipush (-11), 2) := by decide +kernel
theorem dX5_ask_123 : decode cX5_ask 123 = .ok (.ireturn, 1) := by decide +kernel
theorem dX5_askLibrary_0 : decode cX5_askLibrary 0 = .ok (.aload_n 0, 1) := by decide +kernel
theorem dX5_askLibrary_1 : decode cX5_askLibrary 1 = .ok (.aload_n 0, 1) := by decide +kernel
theorem dX5_askLibrary_2 : decode cX5_askLibrary 2 = .ok (.getfield 19, 3) := by decide +kernel
theorem dX5_askLibrary_5 : decode cX5_askLibrary 5 = .ok (.getfield 160, 3) := by decide +kernel
theorem dX5_askLibrary_8 : decode cX5_askLibrary 8 = .ok (.iload_n 1, 1) := by decide +kernel
theorem dX5_askLibrary_9 : decode cX5_askLibrary 9 = .ok (.iaload, 1) := by decide +kernel
theorem dX5_askLibrary_10 : decode cX5_askLibrary 10 = .ok (.iload_n 2, 1) := by decide +kernel
theorem dX5_askLibrary_11 : decode cX5_askLibrary 11 = .ok (.iload_n 3, 1) := by decide +kernel
theorem dX5_askLibrary_12 : decode cX5_askLibrary 12 = .ok (.invokevirtual 83, 3) := by decide +kernel
theorem dX5_askLibrary_15 : decode cX5_askLibrary 15 = .ok (.istore 4, 2) := by decide +kernel
theorem dX5_askLibrary_17 : decode cX5_askLibrary 17 = .ok (.iload 4, 2) := by decide +kernel
theorem dX5_askLibrary_19 : decode cX5_askLibrary 19 = .ok (.ifCond .lt 18, 3) := by decide +kernel
theorem dX5_askLibrary_22 : decode cX5_askLibrary 22 = .ok (.aload_n 0, 1) := by decide +kernel
theorem dX5_askLibrary_23 : decode cX5_askLibrary 23 = .ok (.getfield 19, 3) := by decide +kernel
theorem dX5_askLibrary_26 : decode cX5_askLibrary 26 = .ok (.getfield 163, 3) := by decide +kernel
theorem dX5_askLibrary_29 : decode cX5_askLibrary 29 = .ok (.iload_n 1, 1) := by decide +kernel
theorem dX5_askLibrary_30 : decode cX5_askLibrary 30 = .ok (.iload_n 2, 1) := by decide +kernel
theorem dX5_askLibrary_31 : decode cX5_askLibrary 31 = .ok (.invokestatic 79, 3) := by decide +kernel
theorem dX5_askLibrary_34 : decode cX5_askLibrary 34 = .ok (.iload 4, 2) := by decide +kernel
theorem dX5_askLibrary_36 : decode cX5_askLibrary 36 = .ok (.iastore, 1) := by decide +kernel
theorem dX5_askLibrary_37 : decode cX5_askLibrary 37 = .ok (.iload 4, 2) := by decide +kernel
theorem dX5_askLibrary_39 : decode cX5_askLibrary 39 = .ok (.ireturn, 1) := by decide +kernel
theorem dX5_make_0 : decode cX5_make 0 = .ok (.aload_n 0, 1) := by decide +kernel
theorem dX5_make_1 : decode cX5_make 1 = .ok (.iload_n 1, 1) := by decide +kernel
theorem dX5_make_2 : decode cX5_make 2 = .ok (.iload_n 2, 1) := by decide +kernel
theorem dX5_make_3 : decode cX5_make 3 = .ok (.iload_n 3, 1) := by decide +kernel
theorem dX5_make_4 : decode cX5_make 4 = .ok (.invokevirtual 166, 3) := by decide +kernel
theorem dX5_make_7 : decode cX5_make 7 = .ok (.istore 5, 2) := by decide +kernel
theorem dX5_make_9 : decode cX5_make 9 = .ok (.iload 5, 2) := by decide +kernel
theorem dX5_make_11 : decode cX5_make 11 = .ok (.iconst 1, 1) := by decide +kernel
theorem dX5_make_12 : decode cX5_make 12 = .ok (.if_icmp .eq 6, 3) := by decide +kernel
theorem dX5_make_15 : decode cX5_make 15 = .ok (.iload 5, 2) := by decide +kernel
theorem dX5_make_17 : decode cX5_make 17 = .ok (.ireturn, 1) := by decide +kernel
theorem dX5_make_18 : decode cX5_make 18 = .ok (.aload_n 0, 1) := by decide +kernel
theorem dX5_make_19 : decode cX5_make 19 = .ok (.getfield 12, 3) := by decide +kernel
theorem dX5_make_22 : decode cX5_make 22 = .ok (.getfield 169, 3) := by decide +kernel
theorem dX5_make_25 : decode cX5_make 25 = .ok (.iload_n 3, 1) := by decide +kernel
theorem dX5_make_26 : decode cX5_make 26 = .ok (.iaload, 1) := by decide +kernel
theorem dX5_make_27 : decode cX5_make 27 = .ok (.istore 6, 2) := by decide +kernel
theorem dX5_make_29 : decode cX5_make 29 = .ok (.iload 6, 2) := by decide +kernel
theorem dX5_make_31 : decode cX5_make 31 = .ok (.iconst (-1), 1) := by decide +kernel
theorem dX5_make_32 : decode cX5_make 32 = .ok (.if_icmp .ne 12, 3) := by decide +kernel
theorem dX5_make_35 : decode cX5_make 35 = .ok (.aload_n 0, 1) := by decide +kernel
theorem dX5_make_36 : decode cX5_make 36 = .ok (.iload_n 1, 1) := by decide +kernel
theorem dX5_make_37 : decode cX5_make 37 = .ok (.iload_n 2, 1) := by decide +kernel
theorem dX5_make_38 : decode cX5_make 38 = .ok (.iload_n 3, 1) := by decide +kernel
theorem dX5_make_39 : decode cX5_make 39 = .ok (.iconst (-1), 1) := by decide +kernel
theorem dX5_make_40 : decode cX5_make 40 = .ok (.invokevirtual 170, 3) := by decide +kernel
theorem dX5_make_43 : decode cX5_make 43 = .ok (.ireturn, 1) := by decide +kernel
theorem dX5_make_44 : decode cX5_make 44 = .ok (.iload_n 1, 1) := by decide +kernel
theorem dX5_make_45 : decode cX5_make 45 = .ok (.iload_n 2, 1) := by decide +kernel
theorem dX5_make_46 : decode cX5_make 46 = .ok (.invokestatic 79, 3) := by decide +kernel
theorem dX5_make_49 : decode cX5_make 49 = .ok (.istore 7, 2) := by decide +kernel
theorem dX5_make_51 : decode cX5_make 51 = .ok (.aload_n 0, 1) := by decide +kernel
theorem dX5_make_52 : decode cX5_make 52 = .ok (.getfield 19, 3) := by decide +kernel
theorem dX5_make_55 : decode cX5_make 55 = .ok (.getfield 173, 3) := by decide +kernel
theorem dX5_make_58 : decode cX5_make 58 = .ok (.iload 7, 2) := by decide +kernel
theorem dX5_make_60 : decode cX5_make 60 = .ok (.iconst 1, 1) := by decide +kernel
theorem dX5_make_61 : decode cX5_make 61 = .ok (.bastore, 1) := by decide +kernel
theorem dX5_make_62 : decode cX5_make 62 = .ok (.aload_n 0, 1) := by decide +kernel
theorem dX5_make_63 : decode cX5_make 63 = .ok (.getfield 19, 3) := by decide +kernel
theorem dX5_make_66 : decode cX5_make 66 = .ok (.getfield 173, 3) := by decide +kernel
theorem dX5_make_69 : decode cX5_make 69 = .ok (.iload_n 1, 1) := by decide +kernel
theorem dX5_make_70 : decode cX5_make 70 = .ok (.iload 6, 2) := by decide +kernel
theorem dX5_make_72 : decode cX5_make 72 = .ok (.invokestatic 79, 3) := by decide +kernel
theorem dX5_make_75 : decode cX5_make 75 = .ok (.baload, 1) := by decide +kernel
theorem dX5_make_76 : decode cX5_make 76 = .ok (.ifCond .ne 10, 3) := by decide +kernel
theorem dX5_make_79 : decode cX5_make 79 = .ok (.iload 4, 2) := by decide +kernel
theorem dX5_make_81 : decode cX5_make 81 = .ok (.bipush 62, 2) := by decide +kernel
theorem dX5_make_83 : decode cX5_make 83 = .ok (.if_icmp .lt 7, 3) := by decide +kernel
theorem dX5_make_86 : decode cX5_make 86 = .ok (.iconst 1, 1) := by decide +kernel
theorem dX5_make_87 : decode cX5_make 87 = .ok (.goto 4, 3) := by decide +kernel
theorem dX5_make_90 : decode cX5_make 90 = .ok (.iconst 0, 1) := by decide +kernel
theorem dX5_make_91 : decode cX5_make 91 = .ok (.istore 8, 2) := by decide +kernel
theorem dX5_make_93 : decode cX5_make 93 = .ok (.iload 8, 2) := by decide +kernel
theorem dX5_make_95 : decode cX5_make 95 = .ok (.ifCond .eq 8, 3) := by decide +kernel
theorem dX5_make_98 : decode cX5_make 98 = .ok (.bipush (-15), 2) := by decide +kernel
theorem dX5_make_100 : decode cX5_make 100 = .ok (.goto 14, 3) := by decide +kernel
theorem dX5_make_103 : decode cX5_make 103 = .ok (.aload_n 0, 1) := by decide +kernel
theorem dX5_make_104 : decode cX5_make 104 = .ok (.iload_n 1, 1) := by decide +kernel
theorem dX5_make_105 : decode cX5_make 105 = .ok (.iload 6, 2) := by decide +kernel
theorem dX5_make_107 : decode cX5_make 107 = .ok (.iload 4, 2) := by decide +kernel
theorem dX5_make_109 : decode cX5_make 109 = .ok (.iconst 1, 1) := by decide +kernel
theorem dX5_make_110 : decode cX5_make 110 = .ok (.iadd, 1) := by decide +kernel
theorem dX5_make_111 : decode cX5_make 111 = .ok (.invokevirtual 83, 3) := by decide +kernel
theorem dX5_make_114 : decode cX5_make 114 = .ok (.istore 9, 2) := by decide +kernel
theorem dX5_make_116 : decode cX5_make 116 = .ok (.aload_n 0, 1) := by decide +kernel
theorem dX5_make_117 : decode cX5_make 117 = .ok (.getfield 19, 3) := by decide +kernel
theorem dX5_make_120 : decode cX5_make 120 = .ok (.getfield 173, 3) := by decide +kernel
theorem dX5_make_123 : decode cX5_make 123 = .ok (.iload 7, 2) := by decide +kernel
theorem dX5_make_125 : decode cX5_make 125 = .ok (.iconst 0, 1) := by decide +kernel
theorem dX5_make_126 : decode cX5_make 126 = .ok (.bastore, 1) := by decide +kernel
theorem dX5_make_127 : decode cX5_make 127 = .ok (.iload 9, 2) := by decide +kernel
theorem dX5_make_129 : decode cX5_make 129 = .ok (.ifCond .lt 15, 3) := by decide +kernel
theorem dX5_make_132 : decode cX5_make 132 = .ok (.aload_n 0, 1) := by decide +kernel
theorem dX5_make_133 : decode cX5_make 133 = .ok (.iload_n 1, 1) := by decide +kernel
theorem dX5_make_134 : decode cX5_make 134 = .ok (.iload_n 2, 1) := by decide +kernel
theorem dX5_make_135 : decode cX5_make 135 = .ok (.iload_n 3, 1) := by decide +kernel
theorem dX5_make_136 : decode cX5_make 136 = .ok (.iload 9, 2) := by decide +kernel
theorem dX5_make_138 : decode cX5_make 138 = .ok (.invokevirtual 170, 3) := by decide +kernel
theorem dX5_make_141 : decode cX5_make 141 = .ok (.goto 5, 3) := by decide +kernel
theorem dX5_make_144 : decode cX5_make 144 = .ok (.iload 9, 2) := by decide +kernel
theorem dX5_make_146 : decode cX5_make 146 = .ok (.ireturn, 1) := by decide +kernel
theorem dX5_failureAhead_0 : decode cX5_failureAhead 0 = .ok (.aload_n 0, 1) := by decide +kernel
theorem dX5_failureAhead_1 : decode cX5_failureAhead 1 = .ok (.getfield 12, 3) := by decide +kernel
theorem dX5_failureAhead_4 : decode cX5_failureAhead 4 = .ok (.getfield 176, 3) := by decide +kernel
theorem dX5_failureAhead_7 : decode cX5_failureAhead 7 = .ok (.iload_n 3, 1) := by decide +kernel
theorem dX5_failureAhead_8 : decode cX5_failureAhead 8 = .ok (.iaload, 1) := by decide +kernel
theorem dX5_failureAhead_9 : decode cX5_failureAhead 9 = .ok (.iload_n 2, 1) := by decide +kernel
theorem dX5_failureAhead_10 : decode cX5_failureAhead 10 = .ok (.if_icmp .eq 6, 3) := by decide +kernel
theorem dX5_failureAhead_13 : decode cX5_failureAhead 13 = .ok (.bipush (-13), 2) := by decide +kernel
theorem dX5_failureAhead_15 : decode cX5_failureAhead 15 = .ok (.ireturn, 1) := by decide +kernel
theorem dX5_failureAhead_16 : decode cX5_failureAhead 16 = .ok (.iload_n 2, 1) := by decide +kernel
theorem dX5_failureAhead_17 : decode cX5_failureAhead 17 = .ok (.iconst 4, 1) := by decide +kernel
theorem dX5_failureAhead_18 : decode cX5_failureAhead 18 = .ok (.if_icmp .ge 17, 3) := by decide +kernel
theorem dX5_failureAhead_21 : decode cX5_failureAhead 21 = .ok (.aload_n 0, 1) := by decide +kernel
theorem dX5_failureAhead_22 : decode cX5_failureAhead 22 = .ok (.getfield 19, 3) := by decide +kernel
theorem dX5_failureAhead_25 : decode cX5_failureAhead 25 = .ok (.iload_n 1, 1) := by decide +kernel
theorem dX5_failureAhead_26 : decode cX5_failureAhead 26 = .ok (.invokevirtual 65, 3) := by decide +kernel
theorem dX5_failureAhead_29 : decode cX5_failureAhead 29 = .ok (.ifCond .eq 6, 3) := by decide +kernel
theorem dX5_failureAhead_32 : decode cX5_failureAhead 32 = .ok (.bipush (-14), 2) := by decide +kernel
theorem dX5_failureAhead_34 : decode cX5_failureAhead 34 = .ok (.ireturn, 1) := by decide +kernel
theorem dX5_failureAhead_35 : decode cX5_failureAhead 35 = .ok (.aload_n 0, 1) := by decide +kernel
theorem dX5_failureAhead_36 : decode cX5_failureAhead 36 = .ok (.getfield 12, 3) := by decide +kernel
theorem dX5_failureAhead_39 : decode cX5_failureAhead 39 = .ok (.iload_n 3, 1) := by decide +kernel
theorem dX5_failureAhead_40 : decode cX5_failureAhead 40 = .ok (.iconst 1, 1) := by decide +kernel
theorem dX5_failureAhead_41 : decode cX5_failureAhead 41 = .ok (.invokevirtual 179, 3) := by decide +kernel
theorem dX5_failureAhead_44 : decode cX5_failureAhead 44 = .ok (.ifCond .eq 8, 3) := by decide +kernel
theorem dX5_failureAhead_47 : decode cX5_failureAhead 47 = .ok (.bipush (-16), 2) := by decide +kernel
theorem dX5_failureAhead_49 : decode cX5_failureAhead 49 = .ok (.goto 4, 3) := by decide +kernel
theorem dX5_failureAhead_52 : decode cX5_failureAhead 52 = .ok (.iconst 1, 1) := by decide +kernel
theorem dX5_failureAhead_53 : decode cX5_failureAhead 53 = .ok (.ireturn, 1) := by decide +kernel
theorem dX5_stand_0 : decode cX5_stand 0 = .ok (.aload_n 0, 1) := by decide +kernel
theorem dX5_stand_1 : decode cX5_stand 1 = .ok (.getfield 26, 3) := by decide +kernel
theorem dX5_stand_4 : decode cX5_stand 4 = .ok (.iload_n 1, 1) := by decide +kernel
theorem dX5_stand_5 : decode cX5_stand 5 = .ok (.iload_n 2, 1) := by decide +kernel
theorem dX5_stand_6 : decode cX5_stand 6 = .ok (.iload_n 3, 1) := by decide +kernel
theorem dX5_stand_7 : decode cX5_stand 7 = .ok (.iload 4, 2) := by decide +kernel
theorem dX5_stand_9 : decode cX5_stand 9 = .ok (.invokevirtual 182, 3) := by decide +kernel
theorem dX5_stand_12 : decode cX5_stand 12 = .ok (.istore 5, 2) := by decide +kernel
theorem dX5_stand_14 : decode cX5_stand 14 = .ok (.iload 5, 2) := by decide +kernel
theorem dX5_stand_16 : decode cX5_stand 16 = .ok (.ifCond .lt 18, 3) := by decide +kernel
theorem dX5_stand_19 : decode cX5_stand 19 = .ok (.aload_n 0, 1) := by decide +kernel
theorem dX5_stand_20 : decode cX5_stand 20 = .ok (.getfield 19, 3) := by decide +kernel
theorem dX5_stand_23 : decode cX5_stand 23 = .ok (.getfield 87, 3) := by decide +kernel
theorem dX5_stand_26 : decode cX5_stand 26 = .ok (.iload_n 1, 1) := by decide +kernel
theorem dX5_stand_27 : decode cX5_stand 27 = .ok (.iload_n 2, 1) := by decide +kernel
theorem dX5_stand_28 : decode cX5_stand 28 = .ok (.invokestatic 79, 3) := by decide +kernel
theorem dX5_stand_31 : decode cX5_stand 31 = .ok (.iload 5, 2) := by decide +kernel
theorem dX5_stand_33 : decode cX5_stand 33 = .ok (.iastore, 1) := by decide +kernel
theorem dX5_stand_34 : decode cX5_stand 34 = .ok (.iload 5, 2) := by decide +kernel
theorem dX5_stand_36 : decode cX5_stand 36 = .ok (.ireturn, 1) := by decide +kernel
theorem dX5_beginFrom_0 : decode cX5_beginFrom 0 = .ok (.aload_n 0, 1) := by decide +kernel
theorem dX5_beginFrom_1 : decode cX5_beginFrom 1 = .ok (.iload_n 1, 1) := by decide +kernel
theorem dX5_beginFrom_2 : decode cX5_beginFrom 2 = .ok (.invokevirtual 184, 3) := by decide +kernel
theorem dX5_beginFrom_5 : decode cX5_beginFrom 5 = .ok (.istore_n 2, 1) := by decide +kernel
theorem dX5_beginFrom_6 : decode cX5_beginFrom 6 = .ok (.iconst 0, 1) := by decide +kernel
theorem dX5_beginFrom_7 : decode cX5_beginFrom 7 = .ok (.istore_n 3, 1) := by decide +kernel
theorem dX5_beginFrom_8 : decode cX5_beginFrom 8 = .ok (.iload_n 3, 1) := by decide +kernel
theorem dX5_beginFrom_9 : decode cX5_beginFrom 9 = .ok (.sipush 1536, 3) := by decide +kernel
theorem dX5_beginFrom_12 : decode cX5_beginFrom 12 = .ok (.if_icmp .ge 46, 3) := by decide +kernel
theorem dX5_beginFrom_15 : decode cX5_beginFrom 15 = .ok (.iload_n 2, 1) := by decide +kernel
theorem dX5_beginFrom_16 : decode cX5_beginFrom 16 = .ok (.iconst 1, 1) := by decide +kernel
theorem dX5_beginFrom_17 : decode cX5_beginFrom 17 = .ok (.if_icmp .ne 41, 3) := by decide +kernel
theorem dX5_beginFrom_20 : decode cX5_beginFrom 20 = .ok (.aload_n 0, 1) := by decide +kernel
theorem dX5_beginFrom_21 : decode cX5_beginFrom 21 = .ok (.getfield 44, 3) := by decide +kernel
theorem dX5_beginFrom_24 : decode cX5_beginFrom 24 = .ok (.getfield 147, 3) := by decide +kernel
theorem dX5_beginFrom_27 : decode cX5_beginFrom 27 = .ok (.ifCond .le 31, 3) := by decide +kernel
theorem dX5_beginFrom_30 : decode cX5_beginFrom 30 = .ok (.aload_n 0, 1) := by decide +kernel
theorem dX5_beginFrom_31 : decode cX5_beginFrom 31 = .ok (.aload_n 0, 1) := by decide +kernel
theorem dX5_beginFrom_32 : decode cX5_beginFrom 32 = .ok (.getfield 44, 3) := by decide +kernel
theorem dX5_beginFrom_35 : decode cX5_beginFrom 35 = .ok (.getfield 148, 3) := by decide +kernel
theorem dX5_beginFrom_38 : decode cX5_beginFrom 38 = .ok (.aload_n 0, 1) := by decide +kernel
theorem dX5_beginFrom_39 : decode cX5_beginFrom 39 = .ok (.getfield 44, 3) := by decide +kernel
theorem dX5_beginFrom_42 : decode cX5_beginFrom 42 = .ok (.getfield 147, 3) := by decide +kernel
theorem dX5_beginFrom_45 : decode cX5_beginFrom 45 = .ok (.iconst 1, 1) := by decide +kernel
theorem dX5_beginFrom_46 : decode cX5_beginFrom 46 = .ok (.isub, 1) := by decide +kernel
theorem dX5_beginFrom_47 : decode cX5_beginFrom 47 = .ok (.iaload, 1) := by decide +kernel
theorem dX5_beginFrom_48 : decode cX5_beginFrom 48 = .ok (.invokevirtual 187, 3) := by decide +kernel
theorem dX5_beginFrom_51 : decode cX5_beginFrom 51 = .ok (.istore_n 2, 1) := by decide +kernel
theorem dX5_beginFrom_52 : decode cX5_beginFrom 52 = .ok (.iinc 3 1, 3) := by decide +kernel
theorem dX5_beginFrom_55 : decode cX5_beginFrom 55 = .ok (.goto (-47), 3) := by decide +kernel
theorem dX5_beginFrom_58 : decode cX5_beginFrom 58 = .ok (.aload_n 0, 1) := by decide +kernel
theorem dX5_beginFrom_59 : decode cX5_beginFrom 59 = .ok (.getfield 44, 3) := by decide +kernel
theorem dX5_beginFrom_62 : decode cX5_beginFrom 62 = .ok (.getfield 147, 3) := by decide +kernel
theorem dX5_beginFrom_65 : decode cX5_beginFrom 65 = .ok (.ifCond .le 45, 3) := by decide +kernel
theorem dX5_beginFrom_68 : decode cX5_beginFrom 68 = .ok (.aload_n 0, 1) := by decide +kernel
theorem dX5_beginFrom_69 : decode cX5_beginFrom 69 = .ok (.getfield 26, 3) := by decide +kernel
theorem dX5_beginFrom_72 : decode cX5_beginFrom 72 = .ok (.getfield 138, 3) := by decide +kernel
theorem dX5_beginFrom_75 : decode cX5_beginFrom 75 = .ok (.aload_n 0, 1) := by decide +kernel
theorem dX5_beginFrom_76 : decode cX5_beginFrom 76 = .ok (.getfield 44, 3) := by decide +kernel
theorem dX5_beginFrom_79 : decode cX5_beginFrom 79 = .ok (.getfield 148, 3) := by decide +kernel
theorem dX5_beginFrom_82 : decode cX5_beginFrom 82 = .ok (.aload_n 0, 1) := by decide +kernel
theorem dX5_beginFrom_83 : decode cX5_beginFrom 83 = .ok (.getfield 44, 3) := by decide +kernel
theorem dX5_beginFrom_86 : decode cX5_beginFrom 86 = .ok (.getfield 147, 3) := by decide +kernel
theorem dX5_beginFrom_89 : decode cX5_beginFrom 89 = .ok (.iconst 1, 1) := by decide +kernel
theorem dX5_beginFrom_90 : decode cX5_beginFrom 90 = .ok (.isub, 1) := by decide +kernel
theorem dX5_beginFrom_91 : decode cX5_beginFrom 91 = .ok (.iaload, 1) := by decide +kernel
theorem dX5_beginFrom_92 : decode cX5_beginFrom 92 = .ok (.iconst 2, 1) := by decide +kernel
theorem dX5_beginFrom_93 : decode cX5_beginFrom 93 = .ok (.iastore, 1) := by decide +kernel
theorem dX5_beginFrom_94 : decode cX5_beginFrom 94 = .ok (.aload_n 0, 1) := by decide +kernel
theorem dX5_beginFrom_95 : decode cX5_beginFrom 95 = .ok (.getfield 44, 3) := by decide +kernel
theorem dX5_beginFrom_98 : decode cX5_beginFrom 98 = .ok (.dup, 1) := by decide +kernel
theorem dX5_beginFrom_99 : decode cX5_beginFrom 99 = .ok (.getfield 147, 3) := by decide +kernel
theorem dX5_beginFrom_102 : decode cX5_beginFrom 102 = .ok (.iconst 1, 1) := by decide +kernel
theorem dX5_beginFrom_103 : decode cX5_beginFrom 103 = .ok (.isub, 1) := by decide +kernel
theorem dX5_beginFrom_104 : decode cX5_beginFrom 104 = .ok (.putfield 147, 3) := by decide +kernel
theorem dX5_beginFrom_107 : decode cX5_beginFrom 107 = .ok (.goto (-49), 3) := by decide +kernel
theorem dX5_beginFrom_110 : decode cX5_beginFrom 110 = .ok (.iload_n 2, 1) := by decide +kernel
theorem dX5_beginFrom_111 : decode cX5_beginFrom 111 = .ok (.ireturn, 1) := by decide +kernel
theorem dX5_comeTo_0 : decode cX5_comeTo 0 = .ok (.aload_n 0, 1) := by decide +kernel
theorem dX5_comeTo_1 : decode cX5_comeTo 1 = .ok (.getfield 26, 3) := by decide +kernel
theorem dX5_comeTo_4 : decode cX5_comeTo 4 = .ok (.getfield 138, 3) := by decide +kernel
theorem dX5_comeTo_7 : decode cX5_comeTo 7 = .ok (.iload_n 1, 1) := by decide +kernel
theorem dX5_comeTo_8 : decode cX5_comeTo 8 = .ok (.iaload, 1) := by decide +kernel
theorem dX5_comeTo_9 : decode cX5_comeTo 9 = .ok (.istore_n 2, 1) := by decide +kernel
theorem dX5_comeTo_10 : decode cX5_comeTo 10 = .ok (.iload_n 2, 1) := by decide +kernel
theorem dX5_comeTo_11 : decode cX5_comeTo 11 = .ok (.iconst 2, 1) := by decide +kernel
theorem dX5_comeTo_12 : decode cX5_comeTo 12 = .ok (.if_icmp .ne 6, 3) := by decide +kernel
theorem dX5_comeTo_15 : decode cX5_comeTo 15 = .ok (.bipush (-18), 2) := by decide +kernel
theorem dX5_comeTo_17 : decode cX5_comeTo 17 = .ok (.ireturn, 1) := by decide +kernel
theorem dX5_comeTo_18 : decode cX5_comeTo 18 = .ok (.iload_n 2, 1) := by decide +kernel
theorem dX5_comeTo_19 : decode cX5_comeTo 19 = .ok (.ifCond .ne 21, 3) := by decide +kernel
theorem dX5_comeTo_22 : decode cX5_comeTo 22 = .ok (.aload_n 0, 1) := by decide +kernel
theorem dX5_comeTo_23 : decode cX5_comeTo 23 = .ok (.getfield 26, 3) := by decide +kernel
theorem dX5_comeTo_26 : decode cX5_comeTo 26 = .ok (.getfield 138, 3) := by decide +kernel
theorem dX5_comeTo_29 : decode cX5_comeTo 29 = .ok (.iload_n 1, 1) := by decide +kernel
theorem dX5_comeTo_30 : decode cX5_comeTo 30 = .ok (.iconst 3, 1) := by decide +kernel
theorem dX5_comeTo_31 : decode cX5_comeTo 31 = .ok (.iastore, 1) := by decide +kernel
theorem dX5_comeTo_32 : decode cX5_comeTo 32 = .ok (.aload_n 0, 1) := by decide +kernel
theorem dX5_comeTo_33 : decode cX5_comeTo 33 = .ok (.getfield 44, 3) := by decide +kernel
theorem dX5_comeTo_36 : decode cX5_comeTo 36 = .ok (.iload_n 1, 1) := by decide +kernel
theorem dX5_comeTo_37 : decode cX5_comeTo 37 = .ok (.invokevirtual 190, 3) := by decide +kernel
theorem dX5_comeTo_40 : decode cX5_comeTo 40 = .ok (.iconst 1, 1) := by decide +kernel
theorem dX5_comeTo_41 : decode cX5_comeTo 41 = .ok (.ireturn, 1) := by decide +kernel
theorem dX5_goOn_0 : decode cX5_goOn 0 = .ok (.aload_n 0, 1) := by decide +kernel
theorem dX5_goOn_1 : decode cX5_goOn 1 = .ok (.getfield 26, 3) := by decide +kernel
theorem dX5_goOn_4 : decode cX5_goOn 4 = .ok (.getfield 138, 3) := by decide +kernel
theorem dX5_goOn_7 : decode cX5_goOn 7 = .ok (.iload_n 1, 1) := by decide +kernel
theorem dX5_goOn_8 : decode cX5_goOn 8 = .ok (.iaload, 1) := by decide +kernel
theorem dX5_goOn_9 : decode cX5_goOn 9 = .ok (.lookupswitch 84 #[(3, 27), (4, 68)], 27) := by decide +kernel
theorem dX5_goOn_36 : decode cX5_goOn 36 = .ok (.aload_n 0, 1) := by decide +kernel
theorem dX5_goOn_37 : decode cX5_goOn 37 = .ok (.getfield 26, 3) := by decide +kernel
theorem dX5_goOn_40 : decode cX5_goOn 40 = .ok (.getfield 138, 3) := by decide +kernel
theorem dX5_goOn_43 : decode cX5_goOn 43 = .ok (.iload_n 1, 1) := by decide +kernel
theorem dX5_goOn_44 : decode cX5_goOn 44 = .ok (.iconst 4, 1) := by decide +kernel
theorem dX5_goOn_45 : decode cX5_goOn 45 = .ok (.iastore, 1) := by decide +kernel
theorem dX5_goOn_46 : decode cX5_goOn 46 = .ok (.aload_n 0, 1) := by decide +kernel
theorem dX5_goOn_47 : decode cX5_goOn 47 = .ok (.getfield 26, 3) := by decide +kernel
theorem dX5_goOn_50 : decode cX5_goOn 50 = .ok (.getfield 135, 3) := by decide +kernel
theorem dX5_goOn_53 : decode cX5_goOn 53 = .ok (.iload_n 1, 1) := by decide +kernel
theorem dX5_goOn_54 : decode cX5_goOn 54 = .ok (.iaload, 1) := by decide +kernel
theorem dX5_goOn_55 : decode cX5_goOn 55 = .ok (.iconst (-1), 1) := by decide +kernel
theorem dX5_goOn_56 : decode cX5_goOn 56 = .ok (.if_icmp .ne 7, 3) := by decide +kernel
theorem dX5_goOn_59 : decode cX5_goOn 59 = .ok (.iconst 1, 1) := by decide +kernel
theorem dX5_goOn_60 : decode cX5_goOn 60 = .ok (.goto 16, 3) := by decide +kernel
theorem dX5_goOn_63 : decode cX5_goOn 63 = .ok (.aload_n 0, 1) := by decide +kernel
theorem dX5_goOn_64 : decode cX5_goOn 64 = .ok (.aload_n 0, 1) := by decide +kernel
theorem dX5_goOn_65 : decode cX5_goOn 65 = .ok (.getfield 26, 3) := by decide +kernel
theorem dX5_goOn_68 : decode cX5_goOn 68 = .ok (.getfield 135, 3) := by decide +kernel
theorem dX5_goOn_71 : decode cX5_goOn 71 = .ok (.iload_n 1, 1) := by decide +kernel
theorem dX5_goOn_72 : decode cX5_goOn 72 = .ok (.iaload, 1) := by decide +kernel
theorem dX5_goOn_73 : decode cX5_goOn 73 = .ok (.invokevirtual 184, 3) := by decide +kernel
theorem dX5_goOn_76 : decode cX5_goOn 76 = .ok (.ireturn, 1) := by decide +kernel
theorem dX5_goOn_77 : decode cX5_goOn 77 = .ok (.aload_n 0, 1) := by decide +kernel
theorem dX5_goOn_78 : decode cX5_goOn 78 = .ok (.getfield 26, 3) := by decide +kernel
theorem dX5_goOn_81 : decode cX5_goOn 81 = .ok (.getfield 138, 3) := by decide +kernel
theorem dX5_goOn_84 : decode cX5_goOn 84 = .ok (.iload_n 1, 1) := by decide +kernel
theorem dX5_goOn_85 : decode cX5_goOn 85 = .ok (.iconst 5, 1) := by decide +kernel
theorem dX5_goOn_86 : decode cX5_goOn 86 = .ok (.iastore, 1) := by decide +kernel
theorem dX5_goOn_87 : decode cX5_goOn 87 = .ok (.aload_n 0, 1) := by decide +kernel
theorem dX5_goOn_88 : decode cX5_goOn 88 = .ok (.iload_n 1, 1) := by decide +kernel
theorem dX5_goOn_89 : decode cX5_goOn 89 = .ok (.invokevirtual 193, 3) := by decide +kernel
theorem dX5_goOn_92 : decode cX5_goOn 92 = .ok (.ireturn, 1) := by decide +kernel
theorem dX5_goOn_93 : decode cX5_goOn 93 = .ok (.aload_n 0, 1) := by decide +kernel
theorem dX5_goOn_94 : decode cX5_goOn 94 = .ok (.iload_n 1, 1) := by decide +kernel
theorem dX5_goOn_95 : decode cX5_goOn 95 = .ok (.invokevirtual 196, 3) := by decide +kernel
theorem dX5_goOn_98 : decode cX5_goOn 98 = .ok (.ireturn, 1) := by decide +kernel
theorem dX5_comeToNeed_0 : decode cX5_comeToNeed 0 = .ok (.aload_n 0, 1) := by decide +kernel
theorem dX5_comeToNeed_1 : decode cX5_comeToNeed 1 = .ok (.getfield 12, 3) := by decide +kernel
theorem dX5_comeToNeed_4 : decode cX5_comeToNeed 4 = .ok (.getfield 199, 3) := by decide +kernel
theorem dX5_comeToNeed_7 : decode cX5_comeToNeed 7 = .ok (.aload_n 0, 1) := by decide +kernel
theorem dX5_comeToNeed_8 : decode cX5_comeToNeed 8 = .ok (.getfield 26, 3) := by decide +kernel
theorem dX5_comeToNeed_11 : decode cX5_comeToNeed 11 = .ok (.getfield 144, 3) := by decide +kernel
theorem dX5_comeToNeed_14 : decode cX5_comeToNeed 14 = .ok (.iload_n 1, 1) := by decide +kernel
theorem dX5_comeToNeed_15 : decode cX5_comeToNeed 15 = .ok (.iaload, 1) := by decide +kernel
theorem dX5_comeToNeed_16 : decode cX5_comeToNeed 16 = .ok (.iaload, 1) := by decide +kernel
theorem dX5_comeToNeed_17 : decode cX5_comeToNeed 17 = .ok (.istore_n 2, 1) := by decide +kernel
theorem dX5_comeToNeed_18 : decode cX5_comeToNeed 18 = .ok (.iload_n 2, 1) := by decide +kernel
theorem dX5_comeToNeed_19 : decode cX5_comeToNeed 19 = .ok (.iconst (-1), 1) := by decide +kernel
theorem dX5_comeToNeed_20 : decode cX5_comeToNeed 20 = .ok (.if_icmp .ne 5, 3) := by decide +kernel
theorem dX5_comeToNeed_23 : decode cX5_comeToNeed 23 = .ok (.iconst 1, 1) := by decide +kernel
theorem dX5_comeToNeed_24 : decode cX5_comeToNeed 24 = .ok (.ireturn, 1) := by decide +kernel
theorem dX5_comeToNeed_25 : decode cX5_comeToNeed 25 = .ok (.aload_n 0, 1) := by decide +kernel
theorem dX5_comeToNeed_26 : decode cX5_comeToNeed 26 = .ok (.aload_n 0, 1) := by decide +kernel
theorem dX5_comeToNeed_27 : decode cX5_comeToNeed 27 = .ok (.getfield 26, 3) := by decide +kernel
theorem dX5_comeToNeed_30 : decode cX5_comeToNeed 30 = .ok (.getfield 98, 3) := by decide +kernel
theorem dX5_comeToNeed_33 : decode cX5_comeToNeed 33 = .ok (.iload_n 1, 1) := by decide +kernel
theorem dX5_comeToNeed_34 : decode cX5_comeToNeed 34 = .ok (.iaload, 1) := by decide +kernel
theorem dX5_comeToNeed_35 : decode cX5_comeToNeed 35 = .ok (.iload_n 2, 1) := by decide +kernel
theorem dX5_comeToNeed_36 : decode cX5_comeToNeed 36 = .ok (.iconst 0, 1) := by decide +kernel
theorem dX5_comeToNeed_37 : decode cX5_comeToNeed 37 = .ok (.invokevirtual 83, 3) := by decide +kernel
theorem dX5_comeToNeed_40 : decode cX5_comeToNeed 40 = .ok (.istore_n 3, 1) := by decide +kernel
theorem dX5_comeToNeed_41 : decode cX5_comeToNeed 41 = .ok (.iload_n 3, 1) := by decide +kernel
theorem dX5_comeToNeed_42 : decode cX5_comeToNeed 42 = .ok (.ifCond .lt 11, 3) := by decide +kernel
theorem dX5_comeToNeed_45 : decode cX5_comeToNeed 45 = .ok (.aload_n 0, 1) := by decide +kernel
theorem dX5_comeToNeed_46 : decode cX5_comeToNeed 46 = .ok (.iload_n 3, 1) := by decide +kernel
theorem dX5_comeToNeed_47 : decode cX5_comeToNeed 47 = .ok (.invokevirtual 184, 3) := by decide +kernel
theorem dX5_comeToNeed_50 : decode cX5_comeToNeed 50 = .ok (.goto 4, 3) := by decide +kernel
theorem dX5_comeToNeed_53 : decode cX5_comeToNeed 53 = .ok (.iload_n 3, 1) := by decide +kernel
theorem dX5_comeToNeed_54 : decode cX5_comeToNeed 54 = .ok (.ireturn, 1) := by decide +kernel
theorem dX5_beginItself_0 : decode cX5_beginItself 0 = .ok (.aload_n 0, 1) := by decide +kernel
theorem dX5_beginItself_1 : decode cX5_beginItself 1 = .ok (.getfield 26, 3) := by decide +kernel
theorem dX5_beginItself_4 : decode cX5_beginItself 4 = .ok (.getfield 144, 3) := by decide +kernel
theorem dX5_beginItself_7 : decode cX5_beginItself 7 = .ok (.iload_n 1, 1) := by decide +kernel
theorem dX5_beginItself_8 : decode cX5_beginItself 8 = .ok (.iaload, 1) := by decide +kernel
theorem dX5_beginItself_9 : decode cX5_beginItself 9 = .ok (.istore_n 2, 1) := by decide +kernel
theorem dX5_beginItself_10 : decode cX5_beginItself 10 = .ok (.aload_n 0, 1) := by decide +kernel
theorem dX5_beginItself_11 : decode cX5_beginItself 11 = .ok (.getfield 12, 3) := by decide +kernel
theorem dX5_beginItself_14 : decode cX5_beginItself 14 = .ok (.iload_n 2, 1) := by decide +kernel
theorem dX5_beginItself_15 : decode cX5_beginItself 15 = .ok (.iconst 2, 1) := by decide +kernel
theorem dX5_beginItself_16 : decode cX5_beginItself 16 = .ok (.invokevirtual 179, 3) := by decide +kernel
theorem dX5_beginItself_19 : decode cX5_beginItself 19 = .ok (.ifCond .eq 6, 3) := by decide +kernel
theorem dX5_beginItself_22 : decode cX5_beginItself 22 = .ok (.bipush (-17), 2) := by decide +kernel
theorem dX5_beginItself_24 : decode cX5_beginItself 24 = .ok (.ireturn, 1) := by decide +kernel
theorem dX5_beginItself_25 : decode cX5_beginItself 25 = .ok (.aload_n 0, 1) := by decide +kernel
theorem dX5_beginItself_26 : decode cX5_beginItself 26 = .ok (.getfield 40, 3) := by decide +kernel
theorem dX5_beginItself_29 : decode cX5_beginItself 29 = .ok (.aload_n 0, 1) := by decide +kernel
theorem dX5_beginItself_30 : decode cX5_beginItself 30 = .ok (.getfield 12, 3) := by decide +kernel
theorem dX5_beginItself_33 : decode cX5_beginItself 33 = .ok (.getfield 141, 3) := by decide +kernel
theorem dX5_beginItself_36 : decode cX5_beginItself 36 = .ok (.iload_n 2, 1) := by decide +kernel
theorem dX5_beginItself_37 : decode cX5_beginItself 37 = .ok (.iaload, 1) := by decide +kernel
theorem dX5_beginItself_38 : decode cX5_beginItself 38 = .ok (.invokevirtual 190, 3) := by decide +kernel
theorem dX5_beginItself_41 : decode cX5_beginItself 41 = .ok (.aload_n 0, 1) := by decide +kernel
theorem dX5_beginItself_42 : decode cX5_beginItself 42 = .ok (.getfield 26, 3) := by decide +kernel
theorem dX5_beginItself_45 : decode cX5_beginItself 45 = .ok (.getfield 138, 3) := by decide +kernel
theorem dX5_beginItself_48 : decode cX5_beginItself 48 = .ok (.iload_n 1, 1) := by decide +kernel
theorem dX5_beginItself_49 : decode cX5_beginItself 49 = .ok (.iconst 1, 1) := by decide +kernel
theorem dX5_beginItself_50 : decode cX5_beginItself 50 = .ok (.iastore, 1) := by decide +kernel
theorem dX5_beginItself_51 : decode cX5_beginItself 51 = .ok (.aload_n 0, 1) := by decide +kernel
theorem dX5_beginItself_52 : decode cX5_beginItself 52 = .ok (.getfield 44, 3) := by decide +kernel
theorem dX5_beginItself_55 : decode cX5_beginItself 55 = .ok (.dup, 1) := by decide +kernel
theorem dX5_beginItself_56 : decode cX5_beginItself 56 = .ok (.getfield 147, 3) := by decide +kernel
theorem dX5_beginItself_59 : decode cX5_beginItself 59 = .ok (.iconst 1, 1) := by decide +kernel
theorem dX5_beginItself_60 : decode cX5_beginItself 60 = .ok (.isub, 1) := by decide +kernel
theorem dX5_beginItself_61 : decode cX5_beginItself 61 = .ok (.putfield 147, 3) := by decide +kernel
theorem dX5_beginItself_64 : decode cX5_beginItself 64 = .ok (.iconst 1, 1) := by decide +kernel
theorem dX5_beginItself_65 : decode cX5_beginItself 65 = .ok (.ireturn, 1) := by decide +kernel
theorem dX5_markHeld_0 : decode cX5_markHeld 0 = .ok (.iconst 0, 1) := by decide +kernel
theorem dX5_markHeld_1 : decode cX5_markHeld 1 = .ok (.istore_n 1, 1) := by decide +kernel
theorem dX5_markHeld_2 : decode cX5_markHeld 2 = .ok (.iload_n 1, 1) := by decide +kernel
theorem dX5_markHeld_3 : decode cX5_markHeld 3 = .ok (.aload_n 0, 1) := by decide +kernel
theorem dX5_markHeld_4 : decode cX5_markHeld 4 = .ok (.getfield 26, 3) := by decide +kernel
theorem dX5_markHeld_7 : decode cX5_markHeld 7 = .ok (.getfield 128, 3) := by decide +kernel
theorem dX5_markHeld_10 : decode cX5_markHeld 10 = .ok (.if_icmp .ge 16, 3) := by decide +kernel
theorem dX5_markHeld_13 : decode cX5_markHeld 13 = .ok (.aload_n 0, 1) := by decide +kernel
theorem dX5_markHeld_14 : decode cX5_markHeld 14 = .ok (.getfield 47, 3) := by decide +kernel
theorem dX5_markHeld_17 : decode cX5_markHeld 17 = .ok (.iload_n 1, 1) := by decide +kernel
theorem dX5_markHeld_18 : decode cX5_markHeld 18 = .ok (.iconst 0, 1) := by decide +kernel
theorem dX5_markHeld_19 : decode cX5_markHeld 19 = .ok (.bastore, 1) := by decide +kernel
theorem dX5_markHeld_20 : decode cX5_markHeld 20 = .ok (.iinc 1 1, 3) := by decide +kernel
theorem dX5_markHeld_23 : decode cX5_markHeld 23 = .ok (.goto (-21), 3) := by decide +kernel
theorem dX5_markHeld_26 : decode cX5_markHeld 26 = .ok (.iconst 0, 1) := by decide +kernel
theorem dX5_markHeld_27 : decode cX5_markHeld 27 = .ok (.istore_n 1, 1) := by decide +kernel
theorem dX5_markHeld_28 : decode cX5_markHeld 28 = .ok (.iload_n 1, 1) := by decide +kernel
theorem dX5_markHeld_29 : decode cX5_markHeld 29 = .ok (.aload_n 0, 1) := by decide +kernel
theorem dX5_markHeld_30 : decode cX5_markHeld 30 = .ok (.getfield 33, 3) := by decide +kernel
theorem dX5_markHeld_33 : decode cX5_markHeld 33 = .ok (.getfield 153, 3) := by decide +kernel
theorem dX5_markHeld_36 : decode cX5_markHeld 36 = .ok (.if_icmp .ge 36, 3) := by decide +kernel
theorem dX5_markHeld_39 : decode cX5_markHeld 39 = .ok (.aload_n 0, 1) := by decide +kernel
theorem dX5_markHeld_40 : decode cX5_markHeld 40 = .ok (.getfield 33, 3) := by decide +kernel
theorem dX5_markHeld_43 : decode cX5_markHeld 43 = .ok (.getfield 112, 3) := by decide +kernel
theorem dX5_markHeld_46 : decode cX5_markHeld 46 = .ok (.iload_n 1, 1) := by decide +kernel
theorem dX5_markHeld_47 : decode cX5_markHeld 47 = .ok (.baload, 1) := by decide +kernel
theorem dX5_markHeld_48 : decode cX5_markHeld 48 = .ok (.ifCond .ne 18, 3) := by decide +kernel
theorem dX5_markHeld_51 : decode cX5_markHeld 51 = .ok (.aload_n 0, 1) := by decide +kernel
theorem dX5_markHeld_52 : decode cX5_markHeld 52 = .ok (.getfield 47, 3) := by decide +kernel
theorem dX5_markHeld_55 : decode cX5_markHeld 55 = .ok (.aload_n 0, 1) := by decide +kernel
theorem dX5_markHeld_56 : decode cX5_markHeld 56 = .ok (.getfield 33, 3) := by decide +kernel
theorem dX5_markHeld_59 : decode cX5_markHeld 59 = .ok (.getfield 115, 3) := by decide +kernel
theorem dX5_markHeld_62 : decode cX5_markHeld 62 = .ok (.iload_n 1, 1) := by decide +kernel
theorem dX5_markHeld_63 : decode cX5_markHeld 63 = .ok (.iaload, 1) := by decide +kernel
theorem dX5_markHeld_64 : decode cX5_markHeld 64 = .ok (.iconst 1, 1) := by decide +kernel
theorem dX5_markHeld_65 : decode cX5_markHeld 65 = .ok (.bastore, 1) := by decide +kernel
theorem dX5_markHeld_66 : decode cX5_markHeld 66 = .ok (.iinc 1 1, 3) := by decide +kernel
theorem dX5_markHeld_69 : decode cX5_markHeld 69 = .ok (.goto (-41), 3) := by decide +kernel
theorem dX5_markHeld_72 : decode cX5_markHeld 72 = .ok (.iconst 0, 1) := by decide +kernel
theorem dX5_markHeld_73 : decode cX5_markHeld 73 = .ok (.istore_n 1, 1) := by decide +kernel
theorem dX5_markHeld_74 : decode cX5_markHeld 74 = .ok (.iload_n 1, 1) := by decide +kernel
theorem dX5_markHeld_75 : decode cX5_markHeld 75 = .ok (.aload_n 0, 1) := by decide +kernel
theorem dX5_markHeld_76 : decode cX5_markHeld 76 = .ok (.getfield 19, 3) := by decide +kernel
theorem dX5_markHeld_79 : decode cX5_markHeld 79 = .ok (.getfield 152, 3) := by decide +kernel
theorem dX5_markHeld_82 : decode cX5_markHeld 82 = .ok (.if_icmp .ge 26, 3) := by decide +kernel
theorem dX5_markHeld_85 : decode cX5_markHeld 85 = .ok (.aload_n 0, 1) := by decide +kernel
theorem dX5_markHeld_86 : decode cX5_markHeld 86 = .ok (.getfield 19, 3) := by decide +kernel
theorem dX5_markHeld_89 : decode cX5_markHeld 89 = .ok (.getfield 68, 3) := by decide +kernel
theorem dX5_markHeld_92 : decode cX5_markHeld 92 = .ok (.iload_n 1, 1) := by decide +kernel
theorem dX5_markHeld_93 : decode cX5_markHeld 93 = .ok (.baload, 1) := by decide +kernel
theorem dX5_markHeld_94 : decode cX5_markHeld 94 = .ok (.ifCond .ne 8, 3) := by decide +kernel
theorem dX5_markHeld_97 : decode cX5_markHeld 97 = .ok (.aload_n 0, 1) := by decide +kernel
theorem dX5_markHeld_98 : decode cX5_markHeld 98 = .ok (.iload_n 1, 1) := by decide +kernel
theorem dX5_markHeld_99 : decode cX5_markHeld 99 = .ok (.invokevirtual 202, 3) := by decide +kernel
theorem dX5_markHeld_102 : decode cX5_markHeld 102 = .ok (.iinc 1 1, 3) := by decide +kernel
theorem dX5_markHeld_105 : decode cX5_markHeld 105 = .ok (.goto (-31), 3) := by decide +kernel
theorem dX5_markHeld_108 : decode cX5_markHeld 108 = .ok (.aload_n 0, 1) := by decide +kernel
theorem dX5_markHeld_109 : decode cX5_markHeld 109 = .ok (.getfield 26, 3) := by decide +kernel
theorem dX5_markHeld_112 : decode cX5_markHeld 112 = .ok (.getfield 128, 3) := by decide +kernel
theorem dX5_markHeld_115 : decode cX5_markHeld 115 = .ok (.iconst 1, 1) := by decide +kernel
theorem dX5_markHeld_116 : decode cX5_markHeld 116 = .ok (.isub, 1) := by decide +kernel
theorem dX5_markHeld_117 : decode cX5_markHeld 117 = .ok (.istore_n 1, 1) := by decide +kernel
theorem dX5_markHeld_118 : decode cX5_markHeld 118 = .ok (.iload_n 1, 1) := by decide +kernel
theorem dX5_markHeld_119 : decode cX5_markHeld 119 = .ok (.ifCond .lt 46, 3) := by decide +kernel
theorem dX5_markHeld_122 : decode cX5_markHeld 122 = .ok (.aload_n 0, 1) := by decide +kernel
theorem dX5_markHeld_123 : decode cX5_markHeld 123 = .ok (.getfield 47, 3) := by decide +kernel
theorem dX5_markHeld_126 : decode cX5_markHeld 126 = .ok (.iload_n 1, 1) := by decide +kernel
theorem dX5_markHeld_127 : decode cX5_markHeld 127 = .ok (.baload, 1) := by decide +kernel
theorem dX5_markHeld_128 : decode cX5_markHeld 128 = .ok (.ifCond .eq 31, 3) := by decide +kernel
theorem dX5_markHeld_131 : decode cX5_markHeld 131 = .ok (.aload_n 0, 1) := by decide +kernel
theorem dX5_markHeld_132 : decode cX5_markHeld 132 = .ok (.getfield 26, 3) := by decide +kernel
theorem dX5_markHeld_135 : decode cX5_markHeld 135 = .ok (.getfield 135, 3) := by decide +kernel
theorem dX5_markHeld_138 : decode cX5_markHeld 138 = .ok (.iload_n 1, 1) := by decide +kernel
theorem dX5_markHeld_139 : decode cX5_markHeld 139 = .ok (.iaload, 1) := by decide +kernel
theorem dX5_markHeld_140 : decode cX5_markHeld 140 = .ok (.iconst (-1), 1) := by decide +kernel
theorem dX5_markHeld_141 : decode cX5_markHeld 141 = .ok (.if_icmp .eq 18, 3) := by decide +kernel
theorem dX5_markHeld_144 : decode cX5_markHeld 144 = .ok (.aload_n 0, 1) := by decide +kernel
theorem dX5_markHeld_145 : decode cX5_markHeld 145 = .ok (.getfield 47, 3) := by decide +kernel
theorem dX5_markHeld_148 : decode cX5_markHeld 148 = .ok (.aload_n 0, 1) := by decide +kernel
theorem dX5_markHeld_149 : decode cX5_markHeld 149 = .ok (.getfield 26, 3) := by decide +kernel
theorem dX5_markHeld_152 : decode cX5_markHeld 152 = .ok (.getfield 135, 3) := by decide +kernel
theorem dX5_markHeld_155 : decode cX5_markHeld 155 = .ok (.iload_n 1, 1) := by decide +kernel
theorem dX5_markHeld_156 : decode cX5_markHeld 156 = .ok (.iaload, 1) := by decide +kernel
theorem dX5_markHeld_157 : decode cX5_markHeld 157 = .ok (.iconst 1, 1) := by decide +kernel
theorem dX5_markHeld_158 : decode cX5_markHeld 158 = .ok (.bastore, 1) := by decide +kernel
theorem dX5_markHeld_159 : decode cX5_markHeld 159 = .ok (.iinc 1 (-1), 3) := by decide +kernel
theorem dX5_markHeld_162 : decode cX5_markHeld 162 = .ok (.goto (-44), 3) := by decide +kernel
theorem dX5_markHeld_165 : decode cX5_markHeld 165 = .ok (.return_, 1) := by decide +kernel
theorem dX5_markHeldBy_0 : decode cX5_markHeldBy 0 = .ok (.iconst 0, 1) := by decide +kernel
theorem dX5_markHeldBy_1 : decode cX5_markHeldBy 1 = .ok (.istore_n 2, 1) := by decide +kernel
theorem dX5_markHeldBy_2 : decode cX5_markHeldBy 2 = .ok (.iload_n 2, 1) := by decide +kernel
theorem dX5_markHeldBy_3 : decode cX5_markHeldBy 3 = .ok (.bipush 31, 2) := by decide +kernel
theorem dX5_markHeldBy_5 : decode cX5_markHeldBy 5 = .ok (.if_icmp .ge 64, 3) := by decide +kernel
theorem dX5_markHeldBy_8 : decode cX5_markHeldBy 8 = .ok (.aload_n 0, 1) := by decide +kernel
theorem dX5_markHeldBy_9 : decode cX5_markHeldBy 9 = .ok (.getfield 19, 3) := by decide +kernel
theorem dX5_markHeldBy_12 : decode cX5_markHeldBy 12 = .ok (.getfield 87, 3) := by decide +kernel
theorem dX5_markHeldBy_15 : decode cX5_markHeldBy 15 = .ok (.iload_n 1, 1) := by decide +kernel
theorem dX5_markHeldBy_16 : decode cX5_markHeldBy 16 = .ok (.iload_n 2, 1) := by decide +kernel
theorem dX5_markHeldBy_17 : decode cX5_markHeldBy 17 = .ok (.invokestatic 79, 3) := by decide +kernel
theorem dX5_markHeldBy_20 : decode cX5_markHeldBy 20 = .ok (.iaload, 1) := by decide +kernel
theorem dX5_markHeldBy_21 : decode cX5_markHeldBy 21 = .ok (.istore_n 3, 1) := by decide +kernel
theorem dX5_markHeldBy_22 : decode cX5_markHeldBy 22 = .ok (.iload_n 3, 1) := by decide +kernel
theorem dX5_markHeldBy_23 : decode cX5_markHeldBy 23 = .ok (.iconst (-1), 1) := by decide +kernel
theorem dX5_markHeldBy_24 : decode cX5_markHeldBy 24 = .ok (.if_icmp .eq 10, 3) := by decide +kernel
theorem dX5_markHeldBy_27 : decode cX5_markHeldBy 27 = .ok (.aload_n 0, 1) := by decide +kernel
theorem dX5_markHeldBy_28 : decode cX5_markHeldBy 28 = .ok (.getfield 47, 3) := by decide +kernel
theorem dX5_markHeldBy_31 : decode cX5_markHeldBy 31 = .ok (.iload_n 3, 1) := by decide +kernel
theorem dX5_markHeldBy_32 : decode cX5_markHeldBy 32 = .ok (.iconst 1, 1) := by decide +kernel
theorem dX5_markHeldBy_33 : decode cX5_markHeldBy 33 = .ok (.bastore, 1) := by decide +kernel
theorem dX5_markHeldBy_34 : decode cX5_markHeldBy 34 = .ok (.aload_n 0, 1) := by decide +kernel
theorem dX5_markHeldBy_35 : decode cX5_markHeldBy 35 = .ok (.getfield 19, 3) := by decide +kernel
theorem dX5_markHeldBy_38 : decode cX5_markHeldBy 38 = .ok (.getfield 163, 3) := by decide +kernel
theorem dX5_markHeldBy_41 : decode cX5_markHeldBy 41 = .ok (.iload_n 1, 1) := by decide +kernel
theorem dX5_markHeldBy_42 : decode cX5_markHeldBy 42 = .ok (.iload_n 2, 1) := by decide +kernel
theorem dX5_markHeldBy_43 : decode cX5_markHeldBy 43 = .ok (.invokestatic 79, 3) := by decide +kernel
theorem dX5_markHeldBy_46 : decode cX5_markHeldBy 46 = .ok (.iaload, 1) := by decide +kernel
theorem dX5_markHeldBy_47 : decode cX5_markHeldBy 47 = .ok (.istore 4, 2) := by decide +kernel
theorem dX5_markHeldBy_49 : decode cX5_markHeldBy 49 = .ok (.iload 4, 2) := by decide +kernel
theorem dX5_markHeldBy_51 : decode cX5_markHeldBy 51 = .ok (.iconst (-1), 1) := by decide +kernel
theorem dX5_markHeldBy_52 : decode cX5_markHeldBy 52 = .ok (.if_icmp .eq 11, 3) := by decide +kernel
theorem dX5_markHeldBy_55 : decode cX5_markHeldBy 55 = .ok (.aload_n 0, 1) := by decide +kernel
theorem dX5_markHeldBy_56 : decode cX5_markHeldBy 56 = .ok (.getfield 47, 3) := by decide +kernel
theorem dX5_markHeldBy_59 : decode cX5_markHeldBy 59 = .ok (.iload 4, 2) := by decide +kernel
theorem dX5_markHeldBy_61 : decode cX5_markHeldBy 61 = .ok (.iconst 1, 1) := by decide +kernel
theorem dX5_markHeldBy_62 : decode cX5_markHeldBy 62 = .ok (.bastore, 1) := by decide +kernel
theorem dX5_markHeldBy_63 : decode cX5_markHeldBy 63 = .ok (.iinc 2 1, 3) := by decide +kernel
theorem dX5_markHeldBy_66 : decode cX5_markHeldBy 66 = .ok (.goto (-64), 3) := by decide +kernel
theorem dX5_markHeldBy_69 : decode cX5_markHeldBy 69 = .ok (.return_, 1) := by decide +kernel
theorem dJ7_fill_53178_0 : decode cJ7_fill_53178 0 = .ok (.iconst 0, 1) := by decide +kernel
theorem dJ7_fill_53178_1 : decode cJ7_fill_53178 1 = .ok (.istore_n 2, 1) := by decide +kernel
theorem dJ7_fill_53178_2 : decode cJ7_fill_53178 2 = .ok (.aload_n 0, 1) := by decide +kernel
theorem dJ7_fill_53178_3 : decode cJ7_fill_53178 3 = .ok (.arraylength, 1) := by decide +kernel
theorem dJ7_fill_53178_4 : decode cJ7_fill_53178 4 = .ok (.istore_n 3, 1) := by decide +kernel
theorem dJ7_fill_53178_5 : decode cJ7_fill_53178 5 = .ok (.iload_n 2, 1) := by decide +kernel
theorem dJ7_fill_53178_6 : decode cJ7_fill_53178 6 = .ok (.iload_n 3, 1) := by decide +kernel
theorem dJ7_fill_53178_7 : decode cJ7_fill_53178 7 = .ok (.if_icmp .ge 13, 3) := by decide +kernel
theorem dJ7_fill_53178_10 : decode cJ7_fill_53178 10 = .ok (.aload_n 0, 1) := by decide +kernel
theorem dJ7_fill_53178_11 : decode cJ7_fill_53178 11 = .ok (.iload_n 2, 1) := by decide +kernel
theorem dJ7_fill_53178_12 : decode cJ7_fill_53178 12 = .ok (.iload_n 1, 1) := by decide +kernel
theorem dJ7_fill_53178_13 : decode cJ7_fill_53178 13 = .ok (.iastore, 1) := by decide +kernel
theorem dJ7_fill_53178_14 : decode cJ7_fill_53178 14 = .ok (.iinc 2 1, 3) := by decide +kernel
theorem dJ7_fill_53178_17 : decode cJ7_fill_53178 17 = .ok (.goto (-12), 3) := by decide +kernel
theorem dJ7_fill_53178_20 : decode cJ7_fill_53178 20 = .ok (.return_, 1) := by decide +kernel
