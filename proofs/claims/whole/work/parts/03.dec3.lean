theorem dX7_isWordAt_71 : decode cX7_isWordAt 71 = .ok (.iadd, 1) := by decide +kernel
theorem dX7_isWordAt_72 : decode cX7_isWordAt 72 = .ok (.iaload, 1) := by decide +kernel
theorem dX7_isWordAt_73 : decode cX7_isWordAt 73 = .ok (.iload_n 3, 1) := by decide +kernel
theorem dX7_isWordAt_74 : decode cX7_isWordAt 74 = .ok (.if_icmp .ne 28, 3) := by decide +kernel
theorem dX7_isWordAt_77 : decode cX7_isWordAt 77 = .ok (.iload 4, 2) := by decide +kernel
theorem dX7_isWordAt_79 : decode cX7_isWordAt 79 = .ok (.ifCond .eq 19, 3) := by decide +kernel
theorem dX7_isWordAt_82 : decode cX7_isWordAt 82 = .ok (.aload_n 0, 1) := by decide +kernel
theorem dX7_isWordAt_83 : decode cX7_isWordAt 83 = .ok (.getfield 49, 3) := by decide +kernel
theorem dX7_isWordAt_86 : decode cX7_isWordAt 86 = .ok (.aload_n 0, 1) := by decide +kernel
theorem dX7_isWordAt_87 : decode cX7_isWordAt 87 = .ok (.getfield 231, 3) := by decide +kernel
theorem dX7_isWordAt_90 : decode cX7_isWordAt 90 = .ok (.iconst 3, 1) := by decide +kernel
theorem dX7_isWordAt_91 : decode cX7_isWordAt 91 = .ok (.iadd, 1) := by decide +kernel
theorem dX7_isWordAt_92 : decode cX7_isWordAt 92 = .ok (.iaload, 1) := by decide +kernel
theorem dX7_isWordAt_93 : decode cX7_isWordAt 93 = .ok (.iload 4, 2) := by decide +kernel
theorem dX7_isWordAt_95 : decode cX7_isWordAt 95 = .ok (.if_icmp .ne 7, 3) := by decide +kernel
theorem dX7_isWordAt_98 : decode cX7_isWordAt 98 = .ok (.iconst 1, 1) := by decide +kernel
theorem dX7_isWordAt_99 : decode cX7_isWordAt 99 = .ok (.goto 4, 3) := by decide +kernel
theorem dX7_isWordAt_102 : decode cX7_isWordAt 102 = .ok (.iconst 0, 1) := by decide +kernel
theorem dX7_isWordAt_103 : decode cX7_isWordAt 103 = .ok (.ireturn, 1) := by decide +kernel
theorem dX7_isLong_0 : decode cX7_isLong 0 = .ok (.iload 6, 2) := by decide +kernel
theorem dX7_isLong_2 : decode cX7_isLong 2 = .ok (.ifCond .ne 7, 3) := by decide +kernel
theorem dX7_isLong_5 : decode cX7_isLong 5 = .ok (.iconst 5, 1) := by decide +kernel
theorem dX7_isLong_6 : decode cX7_isLong 6 = .ok (.goto 5, 3) := by decide +kernel
theorem dX7_isLong_9 : decode cX7_isLong 9 = .ok (.bipush 6, 2) := by decide +kernel
theorem dX7_isLong_11 : decode cX7_isLong 11 = .ok (.istore 7, 2) := by decide +kernel
theorem dX7_isLong_13 : decode cX7_isLong 13 = .ok (.aload_n 0, 1) := by decide +kernel
theorem dX7_isLong_14 : decode cX7_isLong 14 = .ok (.getfield 228, 3) := by decide +kernel
theorem dX7_isLong_17 : decode cX7_isLong 17 = .ok (.iconst 1, 1) := by decide +kernel
theorem dX7_isLong_18 : decode cX7_isLong 18 = .ok (.if_icmp .ne 117, 3) := by decide +kernel
theorem dX7_isLong_21 : decode cX7_isLong 21 = .ok (.aload_n 0, 1) := by decide +kernel
theorem dX7_isLong_22 : decode cX7_isLong 22 = .ok (.getfield 225, 3) := by decide +kernel
theorem dX7_isLong_25 : decode cX7_isLong 25 = .ok (.aload_n 0, 1) := by decide +kernel
theorem dX7_isLong_26 : decode cX7_isLong 26 = .ok (.getfield 231, 3) := by decide +kernel
theorem dX7_isLong_29 : decode cX7_isLong 29 = .ok (.isub, 1) := by decide +kernel
theorem dX7_isLong_30 : decode cX7_isLong 30 = .ok (.iload 7, 2) := by decide +kernel
theorem dX7_isLong_32 : decode cX7_isLong 32 = .ok (.if_icmp .ne 103, 3) := by decide +kernel
theorem dX7_isLong_35 : decode cX7_isLong 35 = .ok (.aload_n 0, 1) := by decide +kernel
theorem dX7_isLong_36 : decode cX7_isLong 36 = .ok (.getfield 49, 3) := by decide +kernel
theorem dX7_isLong_39 : decode cX7_isLong 39 = .ok (.aload_n 0, 1) := by decide +kernel
theorem dX7_isLong_40 : decode cX7_isLong 40 = .ok (.getfield 231, 3) := by decide +kernel
theorem dX7_isLong_43 : decode cX7_isLong 43 = .ok (.iaload, 1) := by decide +kernel
theorem dX7_isLong_44 : decode cX7_isLong 44 = .ok (.iload_n 1, 1) := by decide +kernel
theorem dX7_isLong_45 : decode cX7_isLong 45 = .ok (.if_icmp .ne 90, 3) := by decide +kernel
theorem dX7_isLong_48 : decode cX7_isLong 48 = .ok (.aload_n 0, 1) := by decide +kernel
theorem dX7_isLong_49 : decode cX7_isLong 49 = .ok (.getfield 49, 3) := by decide +kernel
theorem dX7_isLong_52 : decode cX7_isLong 52 = .ok (.aload_n 0, 1) := by decide +kernel
theorem dX7_isLong_53 : decode cX7_isLong 53 = .ok (.getfield 231, 3) := by decide +kernel
theorem dX7_isLong_56 : decode cX7_isLong 56 = .ok (.iconst 1, 1) := by decide +kernel
theorem dX7_isLong_57 : decode cX7_isLong 57 = .ok (.iadd, 1) := by decide +kernel
theorem dX7_isLong_58 : decode cX7_isLong 58 = .ok (.iaload, 1) := by decide +kernel
theorem dX7_isLong_59 : decode cX7_isLong 59 = .ok (.iload_n 2, 1) := by decide +kernel
theorem dX7_isLong_60 : decode cX7_isLong 60 = .ok (.if_icmp .ne 75, 3) := by decide +kernel
theorem dX7_isLong_63 : decode cX7_isLong 63 = .ok (.aload_n 0, 1) := by decide +kernel
theorem dX7_isLong_64 : decode cX7_isLong 64 = .ok (.getfield 49, 3) := by decide +kernel
theorem dX7_isLong_67 : decode cX7_isLong 67 = .ok (.aload_n 0, 1) := by decide +kernel
theorem dX7_isLong_68 : decode cX7_isLong 68 = .ok (.getfield 231, 3) := by decide +kernel
theorem dX7_isLong_71 : decode cX7_isLong 71 = .ok (.iconst 2, 1) := by decide +kernel
theorem dX7_isLong_72 : decode cX7_isLong 72 = .ok (.iadd, 1) := by decide +kernel
theorem dX7_isLong_73 : decode cX7_isLong 73 = .ok (.iaload, 1) := by decide +kernel
theorem dX7_isLong_74 : decode cX7_isLong 74 = .ok (.iload_n 3, 1) := by decide +kernel
theorem dX7_isLong_75 : decode cX7_isLong 75 = .ok (.if_icmp .ne 60, 3) := by decide +kernel
theorem dX7_isLong_78 : decode cX7_isLong 78 = .ok (.aload_n 0, 1) := by decide +kernel
theorem dX7_isLong_79 : decode cX7_isLong 79 = .ok (.getfield 49, 3) := by decide +kernel
theorem dX7_isLong_82 : decode cX7_isLong 82 = .ok (.aload_n 0, 1) := by decide +kernel
theorem dX7_isLong_83 : decode cX7_isLong 83 = .ok (.getfield 231, 3) := by decide +kernel
theorem dX7_isLong_86 : decode cX7_isLong 86 = .ok (.iconst 3, 1) := by decide +kernel
theorem dX7_isLong_87 : decode cX7_isLong 87 = .ok (.iadd, 1) := by decide +kernel
theorem dX7_isLong_88 : decode cX7_isLong 88 = .ok (.iaload, 1) := by decide +kernel
theorem dX7_isLong_89 : decode cX7_isLong 89 = .ok (.iload 4, 2) := by decide +kernel
theorem dX7_isLong_91 : decode cX7_isLong 91 = .ok (.if_icmp .ne 44, 3) := by decide +kernel
theorem dX7_isLong_94 : decode cX7_isLong 94 = .ok (.aload_n 0, 1) := by decide +kernel
theorem dX7_isLong_95 : decode cX7_isLong 95 = .ok (.getfield 49, 3) := by decide +kernel
theorem dX7_isLong_98 : decode cX7_isLong 98 = .ok (.aload_n 0, 1) := by decide +kernel
theorem dX7_isLong_99 : decode cX7_isLong 99 = .ok (.getfield 231, 3) := by decide +kernel
theorem dX7_isLong_102 : decode cX7_isLong 102 = .ok (.iconst 4, 1) := by decide +kernel
theorem dX7_isLong_103 : decode cX7_isLong 103 = .ok (.iadd, 1) := by decide +kernel
theorem dX7_isLong_104 : decode cX7_isLong 104 = .ok (.iaload, 1) := by decide +kernel
theorem dX7_isLong_105 : decode cX7_isLong 105 = .ok (.iload 5, 2) := by decide +kernel
theorem dX7_isLong_107 : decode cX7_isLong 107 = .ok (.if_icmp .ne 28, 3) := by decide +kernel
theorem dX7_isLong_110 : decode cX7_isLong 110 = .ok (.iload 6, 2) := by decide +kernel
theorem dX7_isLong_112 : decode cX7_isLong 112 = .ok (.ifCond .eq 19, 3) := by decide +kernel
theorem dX7_isLong_115 : decode cX7_isLong 115 = .ok (.aload_n 0, 1) := by decide +kernel
theorem dX7_isLong_116 : decode cX7_isLong 116 = .ok (.getfield 49, 3) := by decide +kernel
theorem dX7_isLong_119 : decode cX7_isLong 119 = .ok (.aload_n 0, 1) := by decide +kernel
theorem dX7_isLong_120 : decode cX7_isLong 120 = .ok (.getfield 231, 3) := by decide +kernel
theorem dX7_isLong_123 : decode cX7_isLong 123 = .ok (.iconst 5, 1) := by decide +kernel
theorem dX7_isLong_124 : decode cX7_isLong 124 = .ok (.iadd, 1) := by decide +kernel
theorem dX7_isLong_125 : decode cX7_isLong 125 = .ok (.iaload, 1) := by decide +kernel
theorem dX7_isLong_126 : decode cX7_isLong 126 = .ok (.iload 6, 2) := by decide +kernel
theorem dX7_isLong_128 : decode cX7_isLong 128 = .ok (.if_icmp .ne 7, 3) := by decide +kernel
theorem dX7_isLong_131 : decode cX7_isLong 131 = .ok (.iconst 1, 1) := by decide +kernel
theorem dX7_isLong_132 : decode cX7_isLong 132 = .ok (.goto 4, 3) := by decide +kernel
theorem dX7_isLong_135 : decode cX7_isLong 135 = .ok (.iconst 0, 1) := by decide +kernel
theorem dX7_isLong_136 : decode cX7_isLong 136 = .ok (.ireturn, 1) := by decide +kernel
theorem dX7_key_0 : decode cX7_key 0 = .ok (.aload_n 0, 1) := by decide +kernel
theorem dX7_key_1 : decode cX7_key 1 = .ok (.bipush 112, 2) := by decide +kernel
theorem dX7_key_3 : decode cX7_key 3 = .ok (.bipush 114, 2) := by decide +kernel
theorem dX7_key_5 : decode cX7_key 5 = .ok (.bipush 105, 2) := by decide +kernel
theorem dX7_key_7 : decode cX7_key 7 = .ok (.bipush 99, 2) := by decide +kernel
theorem dX7_key_9 : decode cX7_key 9 = .ok (.bipush 101, 2) := by decide +kernel
theorem dX7_key_11 : decode cX7_key 11 = .ok (.iconst 0, 1) := by decide +kernel
theorem dX7_key_12 : decode cX7_key 12 = .ok (.invokevirtual 246, 3) := by decide +kernel
theorem dX7_key_15 : decode cX7_key 15 = .ok (.ifCond .eq 5, 3) := by decide +kernel
theorem dX7_key_18 : decode cX7_key 18 = .ok (.iconst 0, 1) := by decide +kernel
theorem dX7_key_19 : decode cX7_key 19 = .ok (.ireturn, 1) := by decide +kernel
theorem dX7_key_20 : decode cX7_key 20 = .ok (.aload_n 0, 1) := by decide +kernel
theorem dX7_key_21 : decode cX7_key 21 = .ok (.bipush 119, 2) := by decide +kernel
theorem dX7_key_23 : decode cX7_key 23 = .ok (.bipush 101, 2) := by decide +kernel
theorem dX7_key_25 : decode cX7_key 25 = .ok (.bipush 97, 2) := by decide +kernel
theorem dX7_key_27 : decode cX7_key 27 = .ok (.bipush 114, 2) := by decide +kernel
theorem dX7_key_29 : decode cX7_key 29 = .ok (.invokevirtual 250, 3) := by decide +kernel
theorem dX7_key_32 : decode cX7_key 32 = .ok (.ifCond .eq 5, 3) := by decide +kernel
theorem dX7_key_35 : decode cX7_key 35 = .ok (.iconst 1, 1) := by decide +kernel
theorem dX7_key_36 : decode cX7_key 36 = .ok (.ireturn, 1) := by decide +kernel
theorem dX7_key_37 : decode cX7_key 37 = .ok (.aload_n 0, 1) := by decide +kernel
theorem dX7_key_38 : decode cX7_key 38 = .ok (.bipush 102, 2) := by decide +kernel
theorem dX7_key_40 : decode cX7_key 40 = .ok (.bipush 105, 2) := by decide +kernel
theorem dX7_key_42 : decode cX7_key 42 = .ok (.bipush 110, 2) := by decide +kernel
theorem dX7_key_44 : decode cX7_key 44 = .ok (.bipush 101, 2) := by decide +kernel
theorem dX7_key_46 : decode cX7_key 46 = .ok (.invokevirtual 250, 3) := by decide +kernel
theorem dX7_key_49 : decode cX7_key 49 = .ok (.ifCond .eq 7, 3) := by decide +kernel
theorem dX7_key_52 : decode cX7_key 52 = .ok (.iconst 2, 1) := by decide +kernel
theorem dX7_key_53 : decode cX7_key 53 = .ok (.goto 4, 3) := by decide +kernel
theorem dX7_key_56 : decode cX7_key 56 = .ok (.iconst (-1), 1) := by decide +kernel
theorem dX7_key_57 : decode cX7_key 57 = .ok (.ireturn, 1) := by decide +kernel
theorem dX7_isName_0 : decode cX7_isName 0 = .ok (.iload_n 0, 1) := by decide +kernel
theorem dX7_isName_1 : decode cX7_isName 1 = .ok (.lookupswitch 75 #[(0, 27), (1, 51)], 27) := by decide +kernel
theorem dX7_isName_28 : decode cX7_isName 28 = .ok (.iload_n 1, 1) := by decide +kernel
theorem dX7_isName_29 : decode cX7_isName 29 = .ok (.bipush 116, 2) := by decide +kernel
theorem dX7_isName_31 : decode cX7_isName 31 = .ok (.if_icmp .eq 15, 3) := by decide +kernel
theorem dX7_isName_34 : decode cX7_isName 34 = .ok (.iload_n 1, 1) := by decide +kernel
theorem dX7_isName_35 : decode cX7_isName 35 = .ok (.bipush 119, 2) := by decide +kernel
theorem dX7_isName_37 : decode cX7_isName 37 = .ok (.if_icmp .eq 9, 3) := by decide +kernel
theorem dX7_isName_40 : decode cX7_isName 40 = .ok (.iload_n 1, 1) := by decide +kernel
theorem dX7_isName_41 : decode cX7_isName 41 = .ok (.bipush 100, 2) := by decide +kernel
theorem dX7_isName_43 : decode cX7_isName 43 = .ok (.if_icmp .ne 7, 3) := by decide +kernel
theorem dX7_isName_46 : decode cX7_isName 46 = .ok (.iconst 1, 1) := by decide +kernel
theorem dX7_isName_47 : decode cX7_isName 47 = .ok (.goto 4, 3) := by decide +kernel
theorem dX7_isName_50 : decode cX7_isName 50 = .ok (.iconst 0, 1) := by decide +kernel
theorem dX7_isName_51 : decode cX7_isName 51 = .ok (.ireturn, 1) := by decide +kernel
theorem dX7_isName_52 : decode cX7_isName 52 = .ok (.iload_n 1, 1) := by decide +kernel
theorem dX7_isName_53 : decode cX7_isName 53 = .ok (.bipush 120, 2) := by decide +kernel
theorem dX7_isName_55 : decode cX7_isName 55 = .ok (.if_icmp .eq 15, 3) := by decide +kernel
theorem dX7_isName_58 : decode cX7_isName 58 = .ok (.iload_n 1, 1) := by decide +kernel
theorem dX7_isName_59 : decode cX7_isName 59 = .ok (.bipush 116, 2) := by decide +kernel
theorem dX7_isName_61 : decode cX7_isName 61 = .ok (.if_icmp .eq 9, 3) := by decide +kernel
theorem dX7_isName_64 : decode cX7_isName 64 = .ok (.iload_n 1, 1) := by decide +kernel
theorem dX7_isName_65 : decode cX7_isName 65 = .ok (.bipush 119, 2) := by decide +kernel
theorem dX7_isName_67 : decode cX7_isName 67 = .ok (.if_icmp .ne 7, 3) := by decide +kernel
theorem dX7_isName_70 : decode cX7_isName 70 = .ok (.iconst 1, 1) := by decide +kernel
theorem dX7_isName_71 : decode cX7_isName 71 = .ok (.goto 4, 3) := by decide +kernel
theorem dX7_isName_74 : decode cX7_isName 74 = .ok (.iconst 0, 1) := by decide +kernel
theorem dX7_isName_75 : decode cX7_isName 75 = .ok (.ireturn, 1) := by decide +kernel
theorem dX7_isName_76 : decode cX7_isName 76 = .ok (.iload_n 1, 1) := by decide +kernel
theorem dX7_isName_77 : decode cX7_isName 77 = .ok (.bipush 99, 2) := by decide +kernel
theorem dX7_isName_79 : decode cX7_isName 79 = .ok (.if_icmp .eq 9, 3) := by decide +kernel
theorem dX7_isName_82 : decode cX7_isName 82 = .ok (.iload_n 1, 1) := by decide +kernel
theorem dX7_isName_83 : decode cX7_isName 83 = .ok (.bipush 110, 2) := by decide +kernel
theorem dX7_isName_85 : decode cX7_isName 85 = .ok (.if_icmp .ne 7, 3) := by decide +kernel
theorem dX7_isName_88 : decode cX7_isName 88 = .ok (.iconst 1, 1) := by decide +kernel
theorem dX7_isName_89 : decode cX7_isName 89 = .ok (.goto 4, 3) := by decide +kernel
theorem dX7_isName_92 : decode cX7_isName 92 = .ok (.iconst 0, 1) := by decide +kernel
theorem dX7_isName_93 : decode cX7_isName 93 = .ok (.ireturn, 1) := by decide +kernel
theorem dX7_step_0 : decode cX7_step 0 = .ok (.aload_n 0, 1) := by decide +kernel
theorem dX7_step_1 : decode cX7_step 1 = .ok (.getfield 7, 3) := by decide +kernel
theorem dX7_step_4 : decode cX7_step 4 = .ok (.aload_n 0, 1) := by decide +kernel
theorem dX7_step_5 : decode cX7_step 5 = .ok (.getfield 254, 3) := by decide +kernel
theorem dX7_step_8 : decode cX7_step 8 = .ok (.iconst 2, 1) := by decide +kernel
theorem dX7_step_9 : decode cX7_step 9 = .ok (.aload_n 0, 1) := by decide +kernel
theorem dX7_step_10 : decode cX7_step 10 = .ok (.getfield 257, 3) := by decide +kernel
theorem dX7_step_13 : decode cX7_step 13 = .ok (.imul, 1) := by decide +kernel
theorem dX7_step_14 : decode cX7_step 14 = .ok (.iadd, 1) := by decide +kernel
theorem dX7_step_15 : decode cX7_step 15 = .ok (.iload_n 1, 1) := by decide +kernel
theorem dX7_step_16 : decode cX7_step 16 = .ok (.iastore, 1) := by decide +kernel
theorem dX7_step_17 : decode cX7_step 17 = .ok (.aload_n 0, 1) := by decide +kernel
theorem dX7_step_18 : decode cX7_step 18 = .ok (.getfield 7, 3) := by decide +kernel
theorem dX7_step_21 : decode cX7_step 21 = .ok (.aload_n 0, 1) := by decide +kernel
theorem dX7_step_22 : decode cX7_step 22 = .ok (.getfield 254, 3) := by decide +kernel
theorem dX7_step_25 : decode cX7_step 25 = .ok (.iconst 2, 1) := by decide +kernel
theorem dX7_step_26 : decode cX7_step 26 = .ok (.aload_n 0, 1) := by decide +kernel
theorem dX7_step_27 : decode cX7_step 27 = .ok (.getfield 257, 3) := by decide +kernel
theorem dX7_step_30 : decode cX7_step 30 = .ok (.imul, 1) := by decide +kernel
theorem dX7_step_31 : decode cX7_step 31 = .ok (.iadd, 1) := by decide +kernel
theorem dX7_step_32 : decode cX7_step 32 = .ok (.iconst 1, 1) := by decide +kernel
theorem dX7_step_33 : decode cX7_step 33 = .ok (.iadd, 1) := by decide +kernel
theorem dX7_step_34 : decode cX7_step 34 = .ok (.iload_n 2, 1) := by decide +kernel
theorem dX7_step_35 : decode cX7_step 35 = .ok (.iastore, 1) := by decide +kernel
theorem dX7_step_36 : decode cX7_step 36 = .ok (.aload_n 0, 1) := by decide +kernel
theorem dX7_step_37 : decode cX7_step 37 = .ok (.dup, 1) := by decide +kernel
theorem dX7_step_38 : decode cX7_step 38 = .ok (.getfield 257, 3) := by decide +kernel
theorem dX7_step_41 : decode cX7_step 41 = .ok (.iconst 1, 1) := by decide +kernel
theorem dX7_step_42 : decode cX7_step 42 = .ok (.iadd, 1) := by decide +kernel
theorem dX7_step_43 : decode cX7_step 43 = .ok (.putfield 257, 3) := by decide +kernel
theorem dX7_step_46 : decode cX7_step 46 = .ok (.return_, 1) := by decide +kernel
theorem dX7_either_0 : decode cX7_either 0 = .ok (.aload_n 0, 1) := by decide +kernel
theorem dX7_either_1 : decode cX7_either 1 = .ok (.iload_n 1, 1) := by decide +kernel
theorem dX7_either_2 : decode cX7_either 2 = .ok (.invokevirtual 260, 3) := by decide +kernel
theorem dX7_either_5 : decode cX7_either 5 = .ok (.ifCond .ne 5, 3) := by decide +kernel
theorem dX7_either_8 : decode cX7_either 8 = .ok (.iconst 0, 1) := by decide +kernel
theorem dX7_either_9 : decode cX7_either 9 = .ok (.ireturn, 1) := by decide +kernel
theorem dX7_either_10 : decode cX7_either 10 = .ok (.aload_n 0, 1) := by decide +kernel
theorem dX7_either_11 : decode cX7_either 11 = .ok (.bipush 124, 2) := by decide +kernel
theorem dX7_either_13 : decode cX7_either 13 = .ok (.invokevirtual 263, 3) := by decide +kernel
theorem dX7_either_16 : decode cX7_either 16 = .ok (.ifCond .eq 27, 3) := by decide +kernel
theorem dX7_either_19 : decode cX7_either 19 = .ok (.aload_n 0, 1) := by decide +kernel
theorem dX7_either_20 : decode cX7_either 20 = .ok (.invokevirtual 266, 3) := by decide +kernel
theorem dX7_either_23 : decode cX7_either 23 = .ok (.aload_n 0, 1) := by decide +kernel
theorem dX7_either_24 : decode cX7_either 24 = .ok (.iload_n 1, 1) := by decide +kernel
theorem dX7_either_25 : decode cX7_either 25 = .ok (.invokevirtual 260, 3) := by decide +kernel
theorem dX7_either_28 : decode cX7_either 28 = .ok (.ifCond .ne 5, 3) := by decide +kernel
theorem dX7_either_31 : decode cX7_either 31 = .ok (.iconst 0, 1) := by decide +kernel
theorem dX7_either_32 : decode cX7_either 32 = .ok (.ireturn, 1) := by decide +kernel
theorem dX7_either_33 : decode cX7_either 33 = .ok (.aload_n 0, 1) := by decide +kernel
theorem dX7_either_34 : decode cX7_either 34 = .ok (.iconst 2, 1) := by decide +kernel
theorem dX7_either_35 : decode cX7_either 35 = .ok (.bipush 124, 2) := by decide +kernel
theorem dX7_either_37 : decode cX7_either 37 = .ok (.invokevirtual 269, 3) := by decide +kernel
theorem dX7_either_40 : decode cX7_either 40 = .ok (.goto (-30), 3) := by decide +kernel
theorem dX7_either_43 : decode cX7_either 43 = .ok (.iconst 1, 1) := by decide +kernel
theorem dX7_either_44 : decode cX7_either 44 = .ok (.ireturn, 1) := by decide +kernel
theorem dX7_both_0 : decode cX7_both 0 = .ok (.aload_n 0, 1) := by decide +kernel
theorem dX7_both_1 : decode cX7_both 1 = .ok (.iload_n 1, 1) := by decide +kernel
theorem dX7_both_2 : decode cX7_both 2 = .ok (.invokevirtual 273, 3) := by decide +kernel
theorem dX7_both_5 : decode cX7_both 5 = .ok (.ifCond .ne 5, 3) := by decide +kernel
theorem dX7_both_8 : decode cX7_both 8 = .ok (.iconst 0, 1) := by decide +kernel
theorem dX7_both_9 : decode cX7_both 9 = .ok (.ireturn, 1) := by decide +kernel
theorem dX7_both_10 : decode cX7_both 10 = .ok (.aload_n 0, 1) := by decide +kernel
theorem dX7_both_11 : decode cX7_both 11 = .ok (.bipush 38, 2) := by decide +kernel
theorem dX7_both_13 : decode cX7_both 13 = .ok (.invokevirtual 263, 3) := by decide +kernel
theorem dX7_both_16 : decode cX7_both 16 = .ok (.ifCond .eq 27, 3) := by decide +kernel
theorem dX7_both_19 : decode cX7_both 19 = .ok (.aload_n 0, 1) := by decide +kernel
theorem dX7_both_20 : decode cX7_both 20 = .ok (.invokevirtual 266, 3) := by decide +kernel
theorem dX7_both_23 : decode cX7_both 23 = .ok (.aload_n 0, 1) := by decide +kernel
theorem dX7_both_24 : decode cX7_both 24 = .ok (.iload_n 1, 1) := by decide +kernel
theorem dX7_both_25 : decode cX7_both 25 = .ok (.invokevirtual 273, 3) := by decide +kernel
theorem dX7_both_28 : decode cX7_both 28 = .ok (.ifCond .ne 5, 3) := by decide +kernel
theorem dX7_both_31 : decode cX7_both 31 = .ok (.iconst 0, 1) := by decide +kernel
theorem dX7_both_32 : decode cX7_both 32 = .ok (.ireturn, 1) := by decide +kernel
theorem dX7_both_33 : decode cX7_both 33 = .ok (.aload_n 0, 1) := by decide +kernel
theorem dX7_both_34 : decode cX7_both 34 = .ok (.iconst 2, 1) := by decide +kernel
theorem dX7_both_35 : decode cX7_both 35 = .ok (.bipush 38, 2) := by decide +kernel
theorem dX7_both_37 : decode cX7_both 37 = .ok (.invokevirtual 269, 3) := by decide +kernel
theorem dX7_both_40 : decode cX7_both 40 = .ok (.goto (-30), 3) := by decide +kernel
theorem dX7_both_43 : decode cX7_both 43 = .ok (.iconst 1, 1) := by decide +kernel
theorem dX7_both_44 : decode cX7_both 44 = .ok (.ireturn, 1) := by decide +kernel
theorem dX7_test_0 : decode cX7_test 0 = .ok (.aload_n 0, 1) := by decide +kernel
theorem dX7_test_1 : decode cX7_test 1 = .ok (.iload_n 1, 1) := by decide +kernel
theorem dX7_test_2 : decode cX7_test 2 = .ok (.invokevirtual 276, 3) := by decide +kernel
theorem dX7_test_5 : decode cX7_test 5 = .ok (.ifCond .ne 5, 3) := by decide +kernel
theorem dX7_test_8 : decode cX7_test 8 = .ok (.iconst 0, 1) := by decide +kernel
theorem dX7_test_9 : decode cX7_test 9 = .ok (.ireturn, 1) := by decide +kernel
theorem dX7_test_10 : decode cX7_test 10 = .ok (.aload_n 0, 1) := by decide +kernel
theorem dX7_test_11 : decode cX7_test 11 = .ok (.bipush 60, 2) := by decide +kernel
theorem dX7_test_13 : decode cX7_test 13 = .ok (.invokevirtual 263, 3) := by decide +kernel
theorem dX7_test_16 : decode cX7_test 16 = .ok (.ifCond .ne 21, 3) := by decide +kernel
theorem dX7_test_19 : decode cX7_test 19 = .ok (.aload_n 0, 1) := by decide +kernel
theorem dX7_test_20 : decode cX7_test 20 = .ok (.bipush 61, 2) := by decide +kernel
theorem dX7_test_22 : decode cX7_test 22 = .ok (.invokevirtual 263, 3) := by decide +kernel
theorem dX7_test_25 : decode cX7_test 25 = .ok (.ifCond .ne 12, 3) := by decide +kernel
theorem dX7_test_28 : decode cX7_test 28 = .ok (.aload_n 0, 1) := by decide +kernel
theorem dX7_test_29 : decode cX7_test 29 = .ok (.bipush 62, 2) := by decide +kernel
theorem dX7_test_31 : decode cX7_test 31 = .ok (.invokevirtual 263, 3) := by decide +kernel
theorem dX7_test_34 : decode cX7_test 34 = .ok (.ifCond .eq 28, 3) := by decide +kernel
theorem dX7_test_37 : decode cX7_test 37 = .ok (.aload_n 0, 1) := by decide +kernel
theorem dX7_test_38 : decode cX7_test 38 = .ok (.getfield 237, 3) := by decide +kernel
theorem dX7_test_41 : decode cX7_test 41 = .ok (.istore_n 2, 1) := by decide +kernel
theorem dX7_test_42 : decode cX7_test 42 = .ok (.aload_n 0, 1) := by decide +kernel
theorem dX7_test_43 : decode cX7_test 43 = .ok (.invokevirtual 266, 3) := by decide +kernel
theorem dX7_test_46 : decode cX7_test 46 = .ok (.aload_n 0, 1) := by decide +kernel
theorem dX7_test_47 : decode cX7_test 47 = .ok (.iload_n 1, 1) := by decide +kernel
theorem dX7_test_48 : decode cX7_test 48 = .ok (.invokevirtual 276, 3) := by decide +kernel
theorem dX7_test_51 : decode cX7_test 51 = .ok (.ifCond .ne 5, 3) := by decide +kernel
theorem dX7_test_54 : decode cX7_test 54 = .ok (.iconst 0, 1) := by decide +kernel
theorem dX7_test_55 : decode cX7_test 55 = .ok (.ireturn, 1) := by decide +kernel
theorem dX7_test_56 : decode cX7_test 56 = .ok (.aload_n 0, 1) := by decide +kernel
theorem dX7_test_57 : decode cX7_test 57 = .ok (.iconst 2, 1) := by decide +kernel
theorem dX7_test_58 : decode cX7_test 58 = .ok (.iload_n 2, 1) := by decide +kernel
theorem dX7_test_59 : decode cX7_test 59 = .ok (.invokevirtual 269, 3) := by decide +kernel
theorem dX7_test_62 : decode cX7_test 62 = .ok (.iconst 1, 1) := by decide +kernel
theorem dX7_test_63 : decode cX7_test 63 = .ok (.ireturn, 1) := by decide +kernel
theorem dX7_sum_0 : decode cX7_sum 0 = .ok (.aload_n 0, 1) := by decide +kernel
theorem dX7_sum_1 : decode cX7_sum 1 = .ok (.iload_n 1, 1) := by decide +kernel
theorem dX7_sum_2 : decode cX7_sum 2 = .ok (.invokevirtual 279, 3) := by decide +kernel
theorem dX7_sum_5 : decode cX7_sum 5 = .ok (.ifCond .ne 5, 3) := by decide +kernel
theorem dX7_sum_8 : decode cX7_sum 8 = .ok (.iconst 0, 1) := by decide +kernel
theorem dX7_sum_9 : decode cX7_sum 9 = .ok (.ireturn, 1) := by decide +kernel
theorem dX7_sum_10 : decode cX7_sum 10 = .ok (.aload_n 0, 1) := by decide +kernel
theorem dX7_sum_11 : decode cX7_sum 11 = .ok (.bipush 43, 2) := by decide +kernel
theorem dX7_sum_13 : decode cX7_sum 13 = .ok (.invokevirtual 263, 3) := by decide +kernel
theorem dX7_sum_16 : decode cX7_sum 16 = .ok (.ifCond .ne 12, 3) := by decide +kernel
theorem dX7_sum_19 : decode cX7_sum 19 = .ok (.aload_n 0, 1) := by decide +kernel
theorem dX7_sum_20 : decode cX7_sum 20 = .ok (.bipush 45, 2) := by decide +kernel
theorem dX7_sum_22 : decode cX7_sum 22 = .ok (.invokevirtual 263, 3) := by decide +kernel
theorem dX7_sum_25 : decode cX7_sum 25 = .ok (.ifCond .eq 31, 3) := by decide +kernel
theorem dX7_sum_28 : decode cX7_sum 28 = .ok (.aload_n 0, 1) := by decide +kernel
theorem dX7_sum_29 : decode cX7_sum 29 = .ok (.getfield 237, 3) := by decide +kernel
theorem dX7_sum_32 : decode cX7_sum 32 = .ok (.istore_n 2, 1) := by decide +kernel
theorem dX7_sum_33 : decode cX7_sum 33 = .ok (.aload_n 0, 1) := by decide +kernel
theorem dX7_sum_34 : decode cX7_sum 34 = .ok (.invokevirtual 266, 3) := by decide +kernel
theorem dX7_sum_37 : decode cX7_sum 37 = .ok (.aload_n 0, 1) := by decide +kernel
theorem dX7_sum_38 : decode cX7_sum 38 = .ok (.iload_n 1, 1) := by decide +kernel
theorem dX7_sum_39 : decode cX7_sum 39 = .ok (.invokevirtual 279, 3) := by decide +kernel
theorem dX7_sum_42 : decode cX7_sum 42 = .ok (.ifCond .ne 5, 3) := by decide +kernel
theorem dX7_sum_45 : decode cX7_sum 45 = .ok (.iconst 0, 1) := by decide +kernel
theorem dX7_sum_46 : decode cX7_sum 46 = .ok (.ireturn, 1) := by decide +kernel
theorem dX7_sum_47 : decode cX7_sum 47 = .ok (.aload_n 0, 1) := by decide +kernel
theorem dX7_sum_48 : decode cX7_sum 48 = .ok (.iconst 2, 1) := by decide +kernel
theorem dX7_sum_49 : decode cX7_sum 49 = .ok (.iload_n 2, 1) := by decide +kernel
theorem dX7_sum_50 : decode cX7_sum 50 = .ok (.invokevirtual 269, 3) := by decide +kernel
theorem dX7_sum_53 : decode cX7_sum 53 = .ok (.goto (-43), 3) := by decide +kernel
theorem dX7_sum_56 : decode cX7_sum 56 = .ok (.iconst 1, 1) := by decide +kernel
theorem dX7_sum_57 : decode cX7_sum 57 = .ok (.ireturn, 1) := by decide +kernel
theorem dX7_term_0 : decode cX7_term 0 = .ok (.aload_n 0, 1) := by decide +kernel
theorem dX7_term_1 : decode cX7_term 1 = .ok (.iload_n 1, 1) := by decide +kernel
theorem dX7_term_2 : decode cX7_term 2 = .ok (.invokevirtual 282, 3) := by decide +kernel
theorem dX7_term_5 : decode cX7_term 5 = .ok (.ifCond .ne 5, 3) := by decide +kernel
theorem dX7_term_8 : decode cX7_term 8 = .ok (.iconst 0, 1) := by decide +kernel
theorem dX7_term_9 : decode cX7_term 9 = .ok (.ireturn, 1) := by decide +kernel
theorem dX7_term_10 : decode cX7_term 10 = .ok (.aload_n 0, 1) := by decide +kernel
theorem dX7_term_11 : decode cX7_term 11 = .ok (.bipush 42, 2) := by decide +kernel
theorem dX7_term_13 : decode cX7_term 13 = .ok (.invokevirtual 263, 3) := by decide +kernel
theorem dX7_term_16 : decode cX7_term 16 = .ok (.ifCond .ne 12, 3) := by decide +kernel
theorem dX7_term_19 : decode cX7_term 19 = .ok (.aload_n 0, 1) := by decide +kernel
theorem dX7_term_20 : decode cX7_term 20 = .ok (.bipush 47, 2) := by decide +kernel
theorem dX7_term_22 : decode cX7_term 22 = .ok (.invokevirtual 263, 3) := by decide +kernel
theorem dX7_term_25 : decode cX7_term 25 = .ok (.ifCond .eq 31, 3) := by decide +kernel
theorem dX7_term_28 : decode cX7_term 28 = .ok (.aload_n 0, 1) := by decide +kernel
theorem dX7_term_29 : decode cX7_term 29 = .ok (.getfield 237, 3) := by decide +kernel
theorem dX7_term_32 : decode cX7_term 32 = .ok (.istore_n 2, 1) := by decide +kernel
theorem dX7_term_33 : decode cX7_term 33 = .ok (.aload_n 0, 1) := by decide +kernel
theorem dX7_term_34 : decode cX7_term 34 = .ok (.invokevirtual 266, 3) := by decide +kernel
theorem dX7_term_37 : decode cX7_term 37 = .ok (.aload_n 0, 1) := by decide +kernel
theorem dX7_term_38 : decode cX7_term 38 = .ok (.iload_n 1, 1) := by decide +kernel
theorem dX7_term_39 : decode cX7_term 39 = .ok (.invokevirtual 282, 3) := by decide +kernel
theorem dX7_term_42 : decode cX7_term 42 = .ok (.ifCond .ne 5, 3) := by decide +kernel
theorem dX7_term_45 : decode cX7_term 45 = .ok (.iconst 0, 1) := by decide +kernel
theorem dX7_term_46 : decode cX7_term 46 = .ok (.ireturn, 1) := by decide +kernel
theorem dX7_term_47 : decode cX7_term 47 = .ok (.aload_n 0, 1) := by decide +kernel
theorem dX7_term_48 : decode cX7_term 48 = .ok (.iconst 2, 1) := by decide +kernel
theorem dX7_term_49 : decode cX7_term 49 = .ok (.iload_n 2, 1) := by decide +kernel
theorem dX7_term_50 : decode cX7_term 50 = .ok (.invokevirtual 269, 3) := by decide +kernel
theorem dX7_term_53 : decode cX7_term 53 = .ok (.goto (-43), 3) := by decide +kernel
theorem dX7_term_56 : decode cX7_term 56 = .ok (.iconst 1, 1) := by decide +kernel
theorem dX7_term_57 : decode cX7_term 57 = .ok (.ireturn, 1) := by decide +kernel
theorem dX7_part0_0 : decode cX7_part0 0 = .ok (.aload_n 0, 1) := by decide +kernel
theorem dX7_part0_1 : decode cX7_part0 1 = .ok (.getfield 228, 3) := by decide +kernel
theorem dX7_part0_4 : decode cX7_part0 4 = .ok (.iconst 2, 1) := by decide +kernel
theorem dX7_part0_5 : decode cX7_part0 5 = .ok (.if_icmp .ne 28, 3) := by decide +kernel
theorem dX7_part0_8 : decode cX7_part0 8 = .ok (.aload_n 0, 1) := by decide +kernel
theorem dX7_part0_9 : decode cX7_part0 9 = .ok (.iconst 0, 1) := by decide +kernel
theorem dX7_part0_10 : decode cX7_part0 10 = .ok (.aload_n 0, 1) := by decide +kernel
theorem dX7_part0_11 : decode cX7_part0 11 = .ok (.getfield 243, 3) := by decide +kernel
theorem dX7_part0_14 : decode cX7_part0 14 = .ok (.invokevirtual 269, 3) := by decide +kernel
theorem dX7_part0_17 : decode cX7_part0 17 = .ok (.aload_n 0, 1) := by decide +kernel
theorem dX7_part0_18 : decode cX7_part0 18 = .ok (.dup, 1) := by decide +kernel
theorem dX7_part0_19 : decode cX7_part0 19 = .ok (.getfield 285, 3) := by decide +kernel
theorem dX7_part0_22 : decode cX7_part0 22 = .ok (.iconst 1, 1) := by decide +kernel
theorem dX7_part0_23 : decode cX7_part0 23 = .ok (.iadd, 1) := by decide +kernel
theorem dX7_part0_24 : decode cX7_part0 24 = .ok (.putfield 285, 3) := by decide +kernel
theorem dX7_part0_27 : decode cX7_part0 27 = .ok (.aload_n 0, 1) := by decide +kernel
theorem dX7_part0_28 : decode cX7_part0 28 = .ok (.invokevirtual 266, 3) := by decide +kernel
theorem dX7_part0_31 : decode cX7_part0 31 = .ok (.iconst 1, 1) := by decide +kernel
theorem dX7_part0_32 : decode cX7_part0 32 = .ok (.ireturn, 1) := by decide +kernel
theorem dX7_part0_33 : decode cX7_part0 33 = .ok (.aload_n 0, 1) := by decide +kernel
theorem dX7_part0_34 : decode cX7_part0 34 = .ok (.getfield 228, 3) := by decide +kernel
theorem dX7_part0_37 : decode cX7_part0 37 = .ok (.iconst 1, 1) := by decide +kernel
theorem dX7_part0_38 : decode cX7_part0 38 = .ok (.if_icmp .ne 46, 3) := by decide +kernel
theorem dX7_part0_41 : decode cX7_part0 41 = .ok (.aload_n 0, 1) := by decide +kernel
theorem dX7_part0_42 : decode cX7_part0 42 = .ok (.getfield 237, 3) := by decide +kernel
theorem dX7_part0_45 : decode cX7_part0 45 = .ok (.ifCond .eq 39, 3) := by decide +kernel
theorem dX7_part0_48 : decode cX7_part0 48 = .ok (.iload_n 1, 1) := by decide +kernel
theorem dX7_part0_49 : decode cX7_part0 49 = .ok (.aload_n 0, 1) := by decide +kernel
theorem dX7_part0_50 : decode cX7_part0 50 = .ok (.getfield 237, 3) := by decide +kernel
theorem dX7_part0_53 : decode cX7_part0 53 = .ok (.invokestatic 288, 3) := by decide +kernel
theorem dX7_part0_56 : decode cX7_part0 56 = .ok (.ifCond .eq 28, 3) := by decide +kernel
theorem dX7_part0_59 : decode cX7_part0 59 = .ok (.aload_n 0, 1) := by decide +kernel
theorem dX7_part0_60 : decode cX7_part0 60 = .ok (.iconst 1, 1) := by decide +kernel
theorem dX7_part0_61 : decode cX7_part0 61 = .ok (.aload_n 0, 1) := by decide +kernel
theorem dX7_part0_62 : decode cX7_part0 62 = .ok (.getfield 237, 3) := by decide +kernel
theorem dX7_part0_65 : decode cX7_part0 65 = .ok (.invokevirtual 269, 3) := by decide +kernel
theorem dX7_part0_68 : decode cX7_part0 68 = .ok (.aload_n 0, 1) := by decide +kernel
theorem dX7_part0_69 : decode cX7_part0 69 = .ok (.dup, 1) := by decide +kernel
theorem dX7_part0_70 : decode cX7_part0 70 = .ok (.getfield 285, 3) := by decide +kernel
theorem dX7_part0_73 : decode cX7_part0 73 = .ok (.iconst 1, 1) := by decide +kernel
theorem dX7_part0_74 : decode cX7_part0 74 = .ok (.iadd, 1) := by decide +kernel
theorem dX7_part0_75 : decode cX7_part0 75 = .ok (.putfield 285, 3) := by decide +kernel
theorem dX7_part0_78 : decode cX7_part0 78 = .ok (.aload_n 0, 1) := by decide +kernel
theorem dX7_part0_79 : decode cX7_part0 79 = .ok (.invokevirtual 266, 3) := by decide +kernel
theorem dX7_part0_82 : decode cX7_part0 82 = .ok (.iconst 1, 1) := by decide +kernel
theorem dX7_part0_83 : decode cX7_part0 83 = .ok (.ireturn, 1) := by decide +kernel
theorem dX7_part0_84 : decode cX7_part0 84 = .ok (.aload_n 0, 1) := by decide +kernel
theorem dX7_part0_85 : decode cX7_part0 85 = .ok (.bipush 33, 2) := by decide +kernel
theorem dX7_part0_87 : decode cX7_part0 87 = .ok (.invokevirtual 263, 3) := by decide +kernel
theorem dX7_part0_90 : decode cX7_part0 90 = .ok (.ifCond .eq 55, 3) := by decide +kernel
theorem dX7_part0_93 : decode cX7_part0 93 = .ok (.aload_n 0, 1) := by decide +kernel
theorem dX7_part0_94 : decode cX7_part0 94 = .ok (.getfield 291, 3) := by decide +kernel
theorem dX7_part0_97 : decode cX7_part0 97 = .ok (.bipush 8, 2) := by decide +kernel
theorem dX7_part0_99 : decode cX7_part0 99 = .ok (.if_icmp .ge 46, 3) := by decide +kernel
theorem dX7_part0_102 : decode cX7_part0 102 = .ok (.aload_n 0, 1) := by decide +kernel
theorem dX7_part0_103 : decode cX7_part0 103 = .ok (.dup, 1) := by decide +kernel
theorem dX7_part0_104 : decode cX7_part0 104 = .ok (.getfield 291, 3) := by decide +kernel
theorem dX7_part0_107 : decode cX7_part0 107 = .ok (.iconst 1, 1) := by decide +kernel
theorem dX7_part0_108 : decode cX7_part0 108 = .ok (.iadd, 1) := by decide +kernel
theorem dX7_part0_109 : decode cX7_part0 109 = .ok (.putfield 291, 3) := by decide +kernel
theorem dX7_part0_112 : decode cX7_part0 112 = .ok (.aload_n 0, 1) := by decide +kernel
theorem dX7_part0_113 : decode cX7_part0 113 = .ok (.invokevirtual 266, 3) := by decide +kernel
theorem dX7_part0_116 : decode cX7_part0 116 = .ok (.aload_n 0, 1) := by decide +kernel
theorem dX7_part0_117 : decode cX7_part0 117 = .ok (.iload_n 1, 1) := by decide +kernel
theorem dX7_part0_118 : decode cX7_part0 118 = .ok (.invokevirtual 282, 3) := by decide +kernel
theorem dX7_part0_121 : decode cX7_part0 121 = .ok (.ifCond .ne 5, 3) := by decide +kernel
theorem dX7_part0_124 : decode cX7_part0 124 = .ok (.iconst 0, 1) := by decide +kernel
theorem dX7_part0_125 : decode cX7_part0 125 = .ok (.ireturn, 1) := by decide +kernel
theorem dX7_part0_126 : decode cX7_part0 126 = .ok (.aload_n 0, 1) := by decide +kernel
theorem dX7_part0_127 : decode cX7_part0 127 = .ok (.dup, 1) := by decide +kernel
theorem dX7_part0_128 : decode cX7_part0 128 = .ok (.getfield 291, 3) := by decide +kernel
theorem dX7_part0_131 : decode cX7_part0 131 = .ok (.iconst 1, 1) := by decide +kernel
theorem dX7_part0_132 : decode cX7_part0 132 = .ok (.isub, 1) := by decide +kernel
theorem dX7_part0_133 : decode cX7_part0 133 = .ok (.putfield 291, 3) := by decide +kernel
theorem dX7_part0_136 : decode cX7_part0 136 = .ok (.aload_n 0, 1) := by decide +kernel
theorem dX7_part0_137 : decode cX7_part0 137 = .ok (.iconst 2, 1) := by decide +kernel
theorem dX7_part0_138 : decode cX7_part0 138 = .ok (.bipush 33, 2) := by decide +kernel
theorem dX7_part0_140 : decode cX7_part0 140 = .ok (.invokevirtual 269, 3) := by decide +kernel
theorem dX7_part0_143 : decode cX7_part0 143 = .ok (.iconst 1, 1) := by decide +kernel
theorem dX7_part0_144 : decode cX7_part0 144 = .ok (.ireturn, 1) := by decide +kernel
theorem dX7_part0_145 : decode cX7_part0 145 = .ok (.aload_n 0, 1) := by decide +kernel
theorem dX7_part0_146 : decode cX7_part0 146 = .ok (.bipush 40, 2) := by decide +kernel
theorem dX7_part0_148 : decode cX7_part0 148 = .ok (.invokevirtual 263, 3) := by decide +kernel
theorem dX7_part0_151 : decode cX7_part0 151 = .ok (.ifCond .eq 12, 3) := by decide +kernel
theorem dX7_part0_154 : decode cX7_part0 154 = .ok (.aload_n 0, 1) := by decide +kernel
theorem dX7_part0_155 : decode cX7_part0 155 = .ok (.getfield 294, 3) := by decide +kernel
theorem dX7_part0_158 : decode cX7_part0 158 = .ok (.bipush 8, 2) := by decide +kernel
theorem dX7_part0_160 : decode cX7_part0 160 = .ok (.if_icmp .ne 5, 3) := by decide +kernel
theorem dX7_part0_163 : decode cX7_part0 163 = .ok (.iconst 0, 1) := by decide +kernel
theorem dX7_part0_164 : decode cX7_part0 164 = .ok (.ireturn, 1) := by decide +kernel
theorem dX7_part0_165 : decode cX7_part0 165 = .ok (.aload_n 0, 1) := by decide +kernel
theorem dX7_part0_166 : decode cX7_part0 166 = .ok (.dup, 1) := by decide +kernel
theorem dX7_part0_167 : decode cX7_part0 167 = .ok (.getfield 294, 3) := by decide +kernel
theorem dX7_part0_170 : decode cX7_part0 170 = .ok (.iconst 1, 1) := by decide +kernel
theorem dX7_part0_171 : decode cX7_part0 171 = .ok (.iadd, 1) := by decide +kernel
theorem dX7_part0_172 : decode cX7_part0 172 = .ok (.putfield 294, 3) := by decide +kernel
theorem dX7_part0_175 : decode cX7_part0 175 = .ok (.aload_n 0, 1) := by decide +kernel
theorem dX7_part0_176 : decode cX7_part0 176 = .ok (.invokevirtual 266, 3) := by decide +kernel
theorem dX7_part0_179 : decode cX7_part0 179 = .ok (.aload_n 0, 1) := by decide +kernel
theorem dX7_part0_180 : decode cX7_part0 180 = .ok (.iload_n 1, 1) := by decide +kernel
theorem dX7_part0_181 : decode cX7_part0 181 = .ok (.invokevirtual 297, 3) := by decide +kernel
theorem dX7_part0_184 : decode cX7_part0 184 = .ok (.ifCond .eq 12, 3) := by decide +kernel
theorem dX7_part0_187 : decode cX7_part0 187 = .ok (.aload_n 0, 1) := by decide +kernel
theorem dX7_part0_188 : decode cX7_part0 188 = .ok (.bipush 41, 2) := by decide +kernel
theorem dX7_part0_190 : decode cX7_part0 190 = .ok (.invokevirtual 263, 3) := by decide +kernel
theorem dX7_part0_193 : decode cX7_part0 193 = .ok (.ifCond .ne 5, 3) := by decide +kernel
theorem dX7_part0_196 : decode cX7_part0 196 = .ok (.iconst 0, 1) := by decide +kernel
theorem dX7_part0_197 : decode cX7_part0 197 = .ok (.ireturn, 1) := by decide +kernel
theorem dX7_part0_198 : decode cX7_part0 198 = .ok (.aload_n 0, 1) := by decide +kernel
theorem dX7_part0_199 : decode cX7_part0 199 = .ok (.dup, 1) := by decide +kernel
theorem dX7_part0_200 : decode cX7_part0 200 = .ok (.getfield 294, 3) := by decide +kernel
theorem dX7_part0_203 : decode cX7_part0 203 = .ok (.iconst 1, 1) := by decide +kernel
theorem dX7_part0_204 : decode cX7_part0 204 = .ok (.isub, 1) := by decide +kernel
theorem dX7_part0_205 : decode cX7_part0 205 = .ok (.putfield 294, 3) := by decide +kernel
theorem dX7_part0_208 : decode cX7_part0 208 = .ok (.aload_n 0, 1) := by decide +kernel
theorem dX7_part0_209 : decode cX7_part0 209 = .ok (.invokevirtual 266, 3) := by decide +kernel
theorem dX7_part0_212 : decode cX7_part0 212 = .ok (.iconst 1, 1) := by decide +kernel
theorem dX7_part0_213 : decode cX7_part0 213 = .ok (.ireturn, 1) := by decide +kernel
theorem dX7_parse_0 : decode cX7_parse 0 = .ok (.aload_n 0, 1) := by decide +kernel
theorem dX7_parse_1 : decode cX7_parse 1 = .ok (.iconst 0, 1) := by decide +kernel
theorem dX7_parse_2 : decode cX7_parse 2 = .ok (.putfield 225, 3) := by decide +kernel
theorem dX7_parse_5 : decode cX7_parse 5 = .ok (.aload_n 0, 1) := by decide +kernel
theorem dX7_parse_6 : decode cX7_parse 6 = .ok (.iconst 3, 1) := by decide +kernel
theorem dX7_parse_7 : decode cX7_parse 7 = .ok (.putfield 228, 3) := by decide +kernel
theorem dX7_parse_10 : decode cX7_parse 10 = .ok (.aload_n 0, 1) := by decide +kernel
theorem dX7_parse_11 : decode cX7_parse 11 = .ok (.iconst 0, 1) := by decide +kernel
theorem dX7_parse_12 : decode cX7_parse 12 = .ok (.putfield 294, 3) := by decide +kernel
theorem dX7_parse_15 : decode cX7_parse 15 = .ok (.aload_n 0, 1) := by decide +kernel
theorem dX7_parse_16 : decode cX7_parse 16 = .ok (.iconst 0, 1) := by decide +kernel
theorem dX7_parse_17 : decode cX7_parse 17 = .ok (.putfield 291, 3) := by decide +kernel
theorem dX7_parse_20 : decode cX7_parse 20 = .ok (.aload_n 0, 1) := by decide +kernel
theorem dX7_parse_21 : decode cX7_parse 21 = .ok (.iconst 0, 1) := by decide +kernel
theorem dX7_parse_22 : decode cX7_parse 22 = .ok (.putfield 257, 3) := by decide +kernel
theorem dX7_parse_25 : decode cX7_parse 25 = .ok (.aload_n 0, 1) := by decide +kernel
theorem dX7_parse_26 : decode cX7_parse 26 = .ok (.iconst 0, 1) := by decide +kernel
theorem dX7_parse_27 : decode cX7_parse 27 = .ok (.putfield 285, 3) := by decide +kernel
theorem dX7_parse_30 : decode cX7_parse 30 = .ok (.aload_n 0, 1) := by decide +kernel
theorem dX7_parse_31 : decode cX7_parse 31 = .ok (.aload_n 0, 1) := by decide +kernel
theorem dX7_parse_32 : decode cX7_parse 32 = .ok (.getfield 7, 3) := by decide +kernel
theorem dX7_parse_35 : decode cX7_parse 35 = .ok (.iconst 1, 1) := by decide +kernel
theorem dX7_parse_36 : decode cX7_parse 36 = .ok (.iaload, 1) := by decide +kernel
theorem dX7_parse_37 : decode cX7_parse 37 = .ok (.bipush 14, 2) := by decide +kernel
theorem dX7_parse_39 : decode cX7_parse 39 = .ok (.if_icmp .ge 18, 3) := by decide +kernel
theorem dX7_parse_42 : decode cX7_parse 42 = .ok (.aload_n 0, 1) := by decide +kernel
theorem dX7_parse_43 : decode cX7_parse 43 = .ok (.aload_n 0, 1) := by decide +kernel
theorem dX7_parse_44 : decode cX7_parse 44 = .ok (.getfield 7, 3) := by decide +kernel
theorem dX7_parse_47 : decode cX7_parse 47 = .ok (.iconst 1, 1) := by decide +kernel
theorem dX7_parse_48 : decode cX7_parse 48 = .ok (.iaload, 1) := by decide +kernel
theorem dX7_parse_49 : decode cX7_parse 49 = .ok (.invokevirtual 300, 3) := by decide +kernel
theorem dX7_parse_52 : decode cX7_parse 52 = .ok (.iconst 4, 1) := by decide +kernel
theorem dX7_parse_53 : decode cX7_parse 53 = .ok (.iadd, 1) := by decide +kernel
theorem dX7_parse_54 : decode cX7_parse 54 = .ok (.goto 6, 3) := by decide +kernel
theorem dX7_parse_57 : decode cX7_parse 57 = .ok (.sipush 2878, 3) := by decide +kernel
theorem dX7_parse_60 : decode cX7_parse 60 = .ok (.putfield 254, 3) := by decide +kernel
theorem dX7_parse_63 : decode cX7_parse 63 = .ok (.aload_n 0, 1) := by decide +kernel
theorem dX7_parse_64 : decode cX7_parse 64 = .ok (.invokevirtual 266, 3) := by decide +kernel
theorem dX7_parse_67 : decode cX7_parse 67 = .ok (.aload_n 0, 1) := by decide +kernel
theorem dX7_parse_68 : decode cX7_parse 68 = .ok (.invokevirtual 303, 3) := by decide +kernel
theorem dX7_parse_71 : decode cX7_parse 71 = .ok (.istore_n 1, 1) := by decide +kernel
theorem dX7_parse_72 : decode cX7_parse 72 = .ok (.iload_n 1, 1) := by decide +kernel
theorem dX7_parse_73 : decode cX7_parse 73 = .ok (.ifCond .lt 7, 3) := by decide +kernel
theorem dX7_parse_76 : decode cX7_parse 76 = .ok (.iconst 1, 1) := by decide +kernel
theorem dX7_parse_77 : decode cX7_parse 77 = .ok (.goto 4, 3) := by decide +kernel
theorem dX7_parse_80 : decode cX7_parse 80 = .ok (.iconst 0, 1) := by decide +kernel
theorem dX7_parse_81 : decode cX7_parse 81 = .ok (.istore_n 2, 1) := by decide +kernel
theorem dX7_parse_82 : decode cX7_parse 82 = .ok (.iload_n 2, 1) := by decide +kernel
theorem dX7_parse_83 : decode cX7_parse 83 = .ok (.ifCond .eq 28, 3) := by decide +kernel
theorem dX7_parse_86 : decode cX7_parse 86 = .ok (.aload_n 0, 1) := by decide +kernel
theorem dX7_parse_87 : decode cX7_parse 87 = .ok (.invokevirtual 266, 3) := by decide +kernel
theorem dX7_parse_90 : decode cX7_parse 90 = .ok (.aload_n 0, 1) := by decide +kernel
theorem dX7_parse_91 : decode cX7_parse 91 = .ok (.iload_n 1, 1) := by decide +kernel
theorem dX7_parse_92 : decode cX7_parse 92 = .ok (.invokevirtual 297, 3) := by decide +kernel
theorem dX7_parse_95 : decode cX7_parse 95 = .ok (.ifCond .eq 14, 3) := by decide +kernel
theorem dX7_parse_98 : decode cX7_parse 98 = .ok (.aload_n 0, 1) := by decide +kernel
theorem dX7_parse_99 : decode cX7_parse 99 = .ok (.getfield 228, 3) := by decide +kernel
theorem dX7_parse_102 : decode cX7_parse 102 = .ok (.ifCond .ne 7, 3) := by decide +kernel
theorem dX7_parse_105 : decode cX7_parse 105 = .ok (.iconst 1, 1) := by decide +kernel
theorem dX7_parse_106 : decode cX7_parse 106 = .ok (.goto 4, 3) := by decide +kernel
theorem dX7_parse_109 : decode cX7_parse 109 = .ok (.iconst 0, 1) := by decide +kernel
theorem dX7_parse_110 : decode cX7_parse 110 = .ok (.istore_n 2, 1) := by decide +kernel
theorem dX7_parse_111 : decode cX7_parse 111 = .ok (.aload_n 0, 1) := by decide +kernel
theorem dX7_parse_112 : decode cX7_parse 112 = .ok (.iconst 0, 1) := by decide +kernel
theorem dX7_parse_113 : decode cX7_parse 113 = .ok (.putfield 213, 3) := by decide +kernel
theorem dX7_parse_116 : decode cX7_parse 116 = .ok (.iload_n 2, 1) := by decide +kernel
theorem dX7_parse_117 : decode cX7_parse 117 = .ok (.ifCond .eq 7, 3) := by decide +kernel
theorem dX7_parse_120 : decode cX7_parse 120 = .ok (.iload_n 1, 1) := by decide +kernel
theorem dX7_parse_121 : decode cX7_parse 121 = .ok (.goto 4, 3) := by decide +kernel
theorem dX7_parse_124 : decode cX7_parse 124 = .ok (.iconst (-1), 1) := by decide +kernel
theorem dX7_parse_125 : decode cX7_parse 125 = .ok (.ireturn, 1) := by decide +kernel
theorem dX7_text_0 : decode cX7_text 0 = .ok (.aload_n 0, 1) := by decide +kernel
theorem dX7_text_1 : decode cX7_text 1 = .ok (.invokevirtual 306, 3) := by decide +kernel
theorem dX7_text_4 : decode cX7_text 4 = .ok (.istore_n 1, 1) := by decide +kernel
theorem dX7_text_5 : decode cX7_text 5 = .ok (.iload_n 1, 1) := by decide +kernel
theorem dX7_text_6 : decode cX7_text 6 = .ok (.ifCond .ge 11, 3) := by decide +kernel
theorem dX7_text_9 : decode cX7_text 9 = .ok (.bipush (-100), 2) := by decide +kernel
theorem dX7_text_11 : decode cX7_text 11 = .ok (.aload_n 0, 1) := by decide +kernel
theorem dX7_text_12 : decode cX7_text 12 = .ok (.getfield 231, 3) := by decide +kernel
theorem dX7_text_15 : decode cX7_text 15 = .ok (.isub, 1) := by decide +kernel
theorem dX7_text_16 : decode cX7_text 16 = .ok (.ireturn, 1) := by decide +kernel
theorem dX7_text_17 : decode cX7_text 17 = .ok (.aload_n 0, 1) := by decide +kernel
theorem dX7_text_18 : decode cX7_text 18 = .ok (.getfield 7, 3) := by decide +kernel
theorem dX7_text_21 : decode cX7_text 21 = .ok (.iconst 1, 1) := by decide +kernel
theorem dX7_text_22 : decode cX7_text 22 = .ok (.iaload, 1) := by decide +kernel
theorem dX7_text_23 : decode cX7_text 23 = .ok (.bipush 14, 2) := by decide +kernel
theorem dX7_text_25 : decode cX7_text 25 = .ok (.if_icmp .ne 6, 3) := by decide +kernel
theorem dX7_text_28 : decode cX7_text 28 = .ok (.ldc 88, 2) := by decide +kernel
theorem dX7_text_30 : decode cX7_text 30 = .ok (.ireturn, 1) := by decide +kernel
theorem dX7_text_31 : decode cX7_text 31 = .ok (.aload_n 0, 1) := by decide +kernel
theorem dX7_text_32 : decode cX7_text 32 = .ok (.aload_n 0, 1) := by decide +kernel
theorem dX7_text_33 : decode cX7_text 33 = .ok (.getfield 7, 3) := by decide +kernel
theorem dX7_text_36 : decode cX7_text 36 = .ok (.iconst 1, 1) := by decide +kernel
theorem dX7_text_37 : decode cX7_text 37 = .ok (.iaload, 1) := by decide +kernel
theorem dX7_text_38 : decode cX7_text 38 = .ok (.invokevirtual 300, 3) := by decide +kernel
theorem dX7_text_41 : decode cX7_text 41 = .ok (.istore_n 2, 1) := by decide +kernel
theorem dX7_text_42 : decode cX7_text 42 = .ok (.aload_n 0, 1) := by decide +kernel
theorem dX7_text_43 : decode cX7_text 43 = .ok (.getfield 7, 3) := by decide +kernel
theorem dX7_text_46 : decode cX7_text 46 = .ok (.iload_n 2, 1) := by decide +kernel
theorem dX7_text_47 : decode cX7_text 47 = .ok (.iconst 0, 1) := by decide +kernel
theorem dX7_text_48 : decode cX7_text 48 = .ok (.iadd, 1) := by decide +kernel
theorem dX7_text_49 : decode cX7_text 49 = .ok (.iload_n 1, 1) := by decide +kernel
theorem dX7_text_50 : decode cX7_text 50 = .ok (.iastore, 1) := by decide +kernel
theorem dX7_text_51 : decode cX7_text 51 = .ok (.aload_n 0, 1) := by decide +kernel
theorem dX7_text_52 : decode cX7_text 52 = .ok (.getfield 7, 3) := by decide +kernel
theorem dX7_text_55 : decode cX7_text 55 = .ok (.iload_n 2, 1) := by decide +kernel
theorem dX7_text_56 : decode cX7_text 56 = .ok (.iconst 1, 1) := by decide +kernel
theorem dX7_text_57 : decode cX7_text 57 = .ok (.iadd, 1) := by decide +kernel
theorem dX7_text_58 : decode cX7_text 58 = .ok (.aload_n 0, 1) := by decide +kernel
theorem dX7_text_59 : decode cX7_text 59 = .ok (.getfield 285, 3) := by decide +kernel
theorem dX7_text_62 : decode cX7_text 62 = .ok (.iastore, 1) := by decide +kernel
theorem dX7_text_63 : decode cX7_text 63 = .ok (.aload_n 0, 1) := by decide +kernel
theorem dX7_text_64 : decode cX7_text 64 = .ok (.getfield 7, 3) := by decide +kernel
theorem dX7_text_67 : decode cX7_text 67 = .ok (.iload_n 2, 1) := by decide +kernel
theorem dX7_text_68 : decode cX7_text 68 = .ok (.iconst 2, 1) := by decide +kernel
theorem dX7_text_69 : decode cX7_text 69 = .ok (.iadd, 1) := by decide +kernel
theorem dX7_text_70 : decode cX7_text 70 = .ok (.aload_n 0, 1) := by decide +kernel
theorem dX7_text_71 : decode cX7_text 71 = .ok (.getfield 257, 3) := by decide +kernel
theorem dX7_text_74 : decode cX7_text 74 = .ok (.iastore, 1) := by decide +kernel
theorem dX7_text_75 : decode cX7_text 75 = .ok (.aload_n 0, 1) := by decide +kernel
theorem dX7_text_76 : decode cX7_text 76 = .ok (.getfield 7, 3) := by decide +kernel
theorem dX7_text_79 : decode cX7_text 79 = .ok (.iconst 1, 1) := by decide +kernel
theorem dX7_text_80 : decode cX7_text 80 = .ok (.dup2, 1) := by decide +kernel
theorem dX7_text_81 : decode cX7_text 81 = .ok (.iaload, 1) := by decide +kernel
theorem dX7_text_82 : decode cX7_text 82 = .ok (.iconst 1, 1) := by decide +kernel
theorem dX7_text_83 : decode cX7_text 83 = .ok (.iadd, 1) := by decide +kernel
theorem dX7_text_84 : decode cX7_text 84 = .ok (.iastore, 1) := by decide +kernel
theorem dX7_text_85 : decode cX7_text 85 = .ok (.aload_n 0, 1) := by decide +kernel
theorem dX7_text_86 : decode cX7_text 86 = .ok (.getfield 7, 3) := by decide +kernel
theorem dX7_text_89 : decode cX7_text 89 = .ok (.iconst 1, 1) := by decide +kernel
theorem dX7_text_90 : decode cX7_text 90 = .ok (.iaload, 1) := by decide +kernel
theorem dX7_text_91 : decode cX7_text 91 = .ok (.iconst 1, 1) := by decide +kernel
theorem dX7_text_92 : decode cX7_text 92 = .ok (.isub, 1) := by decide +kernel
theorem dX7_text_93 : decode cX7_text 93 = .ok (.ireturn, 1) := by decide +kernel
theorem dX7_textTold_0 : decode cX7_textTold 0 = .ok (.aload_n 0, 1) := by decide +kernel
theorem dX7_textTold_1 : decode cX7_textTold 1 = .ok (.iload_n 1, 1) := by decide +kernel
theorem dX7_textTold_2 : decode cX7_textTold 2 = .ok (.invokevirtual 309, 3) := by decide +kernel
theorem dX7_textTold_5 : decode cX7_textTold 5 = .ok (.ifCond .eq 13, 3) := by decide +kernel
theorem dX7_textTold_8 : decode cX7_textTold 8 = .ok (.iload_n 2, 1) := by decide +kernel
theorem dX7_textTold_9 : decode cX7_textTold 9 = .ok (.i2l, 1) := by decide +kernel
theorem dX7_textTold_10 : decode cX7_textTold 10 = .ok (.lconst 0, 1) := by decide +kernel
theorem dX7_textTold_11 : decode cX7_textTold 11 = .ok (.lconst 1, 1) := by decide +kernel
theorem dX7_textTold_12 : decode cX7_textTold 12 = .ok (.invokestatic 68, 3) := by decide +kernel
theorem dX7_textTold_15 : decode cX7_textTold 15 = .ok (.ifCond .ne 6, 3) := by decide +kernel
theorem dX7_textTold_18 : decode cX7_textTold 18 = .ok (.ldc 87, 2) := by decide +kernel
theorem dX7_textTold_20 : decode cX7_textTold 20 = .ok (.ireturn, 1) := by decide +kernel
theorem dX7_textTold_21 : decode cX7_textTold 21 = .ok (.aload_n 0, 1) := by decide +kernel
theorem dX7_textTold_22 : decode cX7_textTold 22 = .ok (.getfield 7, 3) := by decide +kernel
theorem dX7_textTold_25 : decode cX7_textTold 25 = .ok (.aload_n 0, 1) := by decide +kernel
theorem dX7_textTold_26 : decode cX7_textTold 26 = .ok (.iload_n 1, 1) := by decide +kernel
theorem dX7_textTold_27 : decode cX7_textTold 27 = .ok (.invokevirtual 300, 3) := by decide +kernel
theorem dX7_textTold_30 : decode cX7_textTold 30 = .ok (.iload_n 2, 1) := by decide +kernel
theorem dX7_textTold_31 : decode cX7_textTold 31 = .ok (.iadd, 1) := by decide +kernel
theorem dX7_textTold_32 : decode cX7_textTold 32 = .ok (.iaload, 1) := by decide +kernel
theorem dX7_textTold_33 : decode cX7_textTold 33 = .ok (.ireturn, 1) := by decide +kernel
theorem dX7_counts_0 : decode cX7_counts 0 = .ok (.iconst (-1), 1) := by decide +kernel
theorem dX7_counts_1 : decode cX7_counts 1 = .ok (.istore_n 2, 1) := by decide +kernel
theorem dX7_counts_2 : decode cX7_counts 2 = .ok (.iconst 0, 1) := by decide +kernel
theorem dX7_counts_3 : decode cX7_counts 3 = .ok (.istore_n 3, 1) := by decide +kernel
theorem dX7_counts_4 : decode cX7_counts 4 = .ok (.iload_n 3, 1) := by decide +kernel
theorem dX7_counts_5 : decode cX7_counts 5 = .ok (.aload_n 0, 1) := by decide +kernel
theorem dX7_counts_6 : decode cX7_counts 6 = .ok (.getfield 7, 3) := by decide +kernel
theorem dX7_counts_9 : decode cX7_counts 9 = .ok (.iconst 1, 1) := by decide +kernel
theorem dX7_counts_10 : decode cX7_counts 10 = .ok (.iaload, 1) := by decide +kernel
theorem dX7_counts_11 : decode cX7_counts 11 = .ok (.if_icmp .ge 29, 3) := by decide +kernel
theorem dX7_counts_14 : decode cX7_counts 14 = .ok (.aload_n 0, 1) := by decide +kernel
theorem dX7_counts_15 : decode cX7_counts 15 = .ok (.getfield 7, 3) := by decide +kernel
theorem dX7_counts_18 : decode cX7_counts 18 = .ok (.aload_n 0, 1) := by decide +kernel
theorem dX7_counts_19 : decode cX7_counts 19 = .ok (.iload_n 3, 1) := by decide +kernel
theorem dX7_counts_20 : decode cX7_counts 20 = .ok (.invokevirtual 300, 3) := by decide +kernel
theorem dX7_counts_23 : decode cX7_counts 23 = .ok (.iaload, 1) := by decide +kernel
theorem dX7_counts_24 : decode cX7_counts 24 = .ok (.iload_n 1, 1) := by decide +kernel
theorem dX7_counts_25 : decode cX7_counts 25 = .ok (.if_icmp .ne 7, 3) := by decide +kernel
theorem dX7_counts_28 : decode cX7_counts 28 = .ok (.iload_n 3, 1) := by decide +kernel
theorem dX7_counts_29 : decode cX7_counts 29 = .ok (.goto 4, 3) := by decide +kernel
theorem dX7_counts_32 : decode cX7_counts 32 = .ok (.iload_n 2, 1) := by decide +kernel
theorem dX7_counts_33 : decode cX7_counts 33 = .ok (.istore_n 2, 1) := by decide +kernel
theorem dX7_counts_34 : decode cX7_counts 34 = .ok (.iinc 3 1, 3) := by decide +kernel
theorem dX7_counts_37 : decode cX7_counts 37 = .ok (.goto (-33), 3) := by decide +kernel
theorem dX7_counts_40 : decode cX7_counts 40 = .ok (.iload_n 2, 1) := by decide +kernel
theorem dX7_counts_41 : decode cX7_counts 41 = .ok (.ireturn, 1) := by decide +kernel
theorem dX7_why_0 : decode cX7_why 0 = .ok (.iload_n 1, 1) := by decide +kernel
theorem dX7_why_1 : decode cX7_why 1 = .ok (.i2l, 1) := by decide +kernel
theorem dX7_why_2 : decode cX7_why 2 = .ok (.lconst 0, 1) := by decide +kernel
theorem dX7_why_3 : decode cX7_why 3 = .ok (.ldc2_w 135, 3) := by decide +kernel
theorem dX7_why_6 : decode cX7_why 6 = .ok (.invokestatic 68, 3) := by decide +kernel
theorem dX7_why_9 : decode cX7_why 9 = .ok (.ifCond .eq 14, 3) := by decide +kernel
theorem dX7_why_12 : decode cX7_why 12 = .ok (.aload_n 0, 1) := by decide +kernel
theorem dX7_why_13 : decode cX7_why 13 = .ok (.iload_n 1, 1) := by decide +kernel
theorem dX7_why_14 : decode cX7_why 14 = .ok (.invokevirtual 93, 3) := by decide +kernel
theorem dX7_why_17 : decode cX7_why 17 = .ok (.invokestatic 175, 3) := by decide +kernel
theorem dX7_why_20 : decode cX7_why 20 = .ok (.goto 5, 3) := by decide +kernel
theorem dX7_why_23 : decode cX7_why 23 = .ok (.ldc 87, 2) := by decide +kernel
theorem dX7_why_25 : decode cX7_why 25 = .ok (.ireturn, 1) := by decide +kernel
theorem dX7_joined_0 : decode cX7_joined 0 = .ok (.iload_n 0, 1) := by decide +kernel
theorem dX7_joined_1 : decode cX7_joined 1 = .ok (.tableswitch 196 38 62 #[182, 196, 196, 196, 123, 115, 196, 119, 196, 127, 196, 196, 196, 196, 196, 196, 196, 196, 196, 196, 196, 196, 149, 171, 160], 115) := by decide +kernel
theorem dX7_joined_116 : decode cX7_joined 116 = .ok (.iload_n 1, 1) := by decide +kernel
theorem dX7_joined_117 : decode cX7_joined 117 = .ok (.iload_n 2, 1) := by decide +kernel
theorem dX7_joined_118 : decode cX7_joined 118 = .ok (.iadd, 1) := by decide +kernel
theorem dX7_joined_119 : decode cX7_joined 119 = .ok (.ireturn, 1) := by decide +kernel
theorem dX7_joined_120 : decode cX7_joined 120 = .ok (.iload_n 1, 1) := by decide +kernel
theorem dX7_joined_121 : decode cX7_joined 121 = .ok (.iload_n 2, 1) := by decide +kernel
theorem dX7_joined_122 : decode cX7_joined 122 = .ok (.isub, 1) := by decide +kernel
theorem dX7_joined_123 : decode cX7_joined 123 = .ok (.ireturn, 1) := by decide +kernel
theorem dX7_joined_124 : decode cX7_joined 124 = .ok (.iload_n 1, 1) := by decide +kernel
theorem dX7_joined_125 : decode cX7_joined 125 = .ok (.iload_n 2, 1) := by decide +kernel
theorem dX7_joined_126 : decode cX7_joined 126 = .ok (.imul, 1) := by decide +kernel
theorem dX7_joined_127 : decode cX7_joined 127 = .ok (.ireturn, 1) := by decide +kernel
theorem dX7_joined_128 : decode cX7_joined 128 = .ok (.iload_n 2, 1) := by decide +kernel
theorem dX7_joined_129 : decode cX7_joined 129 = .ok (.ifCond .ne 7, 3) := by decide +kernel
theorem dX7_joined_132 : decode cX7_joined 132 = .ok (.iconst 0, 1) := by decide +kernel
theorem dX7_joined_133 : decode cX7_joined 133 = .ok (.goto 16, 3) := by decide +kernel
theorem dX7_joined_136 : decode cX7_joined 136 = .ok (.iload_n 2, 1) := by decide +kernel
theorem dX7_joined_137 : decode cX7_joined 137 = .ok (.iconst (-1), 1) := by decide +kernel
theorem dX7_joined_138 : decode cX7_joined 138 = .ok (.if_icmp .ne 8, 3) := by decide +kernel
theorem dX7_joined_141 : decode cX7_joined 141 = .ok (.iload_n 1, 1) := by decide +kernel
theorem dX7_joined_142 : decode cX7_joined 142 = .ok (.ineg, 1) := by decide +kernel
theorem dX7_joined_143 : decode cX7_joined 143 = .ok (.goto 6, 3) := by decide +kernel
theorem dX7_joined_146 : decode cX7_joined 146 = .ok (.iload_n 1, 1) := by decide +kernel
theorem dX7_joined_147 : decode cX7_joined 147 = .ok (.iload_n 2, 1) := by decide +kernel
theorem dX7_joined_148 : decode cX7_joined 148 = .ok (.idiv, 1) := by decide +kernel
theorem dX7_joined_149 : decode cX7_joined 149 = .ok (.ireturn, 1) := by decide +kernel
theorem dX7_joined_150 : decode cX7_joined 150 = .ok (.iload_n 1, 1) := by decide +kernel
theorem dX7_joined_151 : decode cX7_joined 151 = .ok (.iload_n 2, 1) := by decide +kernel
theorem dX7_joined_152 : decode cX7_joined 152 = .ok (.if_icmp .ge 7, 3) := by decide +kernel
theorem dX7_joined_155 : decode cX7_joined 155 = .ok (.iconst 1, 1) := by decide +kernel
theorem dX7_joined_156 : decode cX7_joined 156 = .ok (.goto 4, 3) := by decide +kernel
theorem dX7_joined_159 : decode cX7_joined 159 = .ok (.iconst 0, 1) := by decide +kernel
theorem dX7_joined_160 : decode cX7_joined 160 = .ok (.ireturn, 1) := by decide +kernel
theorem dX7_joined_161 : decode cX7_joined 161 = .ok (.iload_n 1, 1) := by decide +kernel
theorem dX7_joined_162 : decode cX7_joined 162 = .ok (.iload_n 2, 1) := by decide +kernel
theorem dX7_joined_163 : decode cX7_joined 163 = .ok (.if_icmp .le 7, 3) := by decide +kernel
theorem dX7_joined_166 : decode cX7_joined 166 = .ok (.iconst 1, 1) := by decide +kernel
theorem dX7_joined_167 : decode cX7_joined 167 = .ok (.goto 4, 3) := by decide +kernel
theorem dX7_joined_170 : decode cX7_joined 170 = .ok (.iconst 0, 1) := by decide +kernel
theorem dX7_joined_171 : decode cX7_joined 171 = .ok (.ireturn, 1) := by decide +kernel
theorem dX7_joined_172 : decode cX7_joined 172 = .ok (.iload_n 1, 1) := by decide +kernel
theorem dX7_joined_173 : decode cX7_joined 173 = .ok (.iload_n 2, 1) := by decide +kernel
theorem dX7_joined_174 : decode cX7_joined 174 = .ok (.if_icmp .ne 7, 3) := by decide +kernel
theorem dX7_joined_177 : decode cX7_joined 177 = .ok (.iconst 1, 1) := by decide +kernel
theorem dX7_joined_178 : decode cX7_joined 178 = .ok (.goto 4, 3) := by decide +kernel
theorem dX7_joined_181 : decode cX7_joined 181 = .ok (.iconst 0, 1) := by decide +kernel
theorem dX7_joined_182 : decode cX7_joined 182 = .ok (.ireturn, 1) := by decide +kernel
theorem dX7_joined_183 : decode cX7_joined 183 = .ok (.iload_n 1, 1) := by decide +kernel
theorem dX7_joined_184 : decode cX7_joined 184 = .ok (.ifCond .eq 11, 3) := by decide +kernel
theorem dX7_joined_187 : decode cX7_joined 187 = .ok (.iload_n 2, 1) := by decide +kernel
theorem dX7_joined_188 : decode cX7_joined 188 = .ok (.ifCond .eq 7, 3) := by decide +kernel
theorem dX7_joined_191 : decode cX7_joined 191 = .ok (.iconst 1, 1) := by decide +kernel
theorem dX7_joined_192 : decode cX7_joined 192 = .ok (.goto 4, 3) := by decide +kernel
theorem dX7_joined_195 : decode cX7_joined 195 = .ok (.iconst 0, 1) := by decide +kernel
theorem dX7_joined_196 : decode cX7_joined 196 = .ok (.ireturn, 1) := by decide +kernel
theorem dX7_joined_197 : decode cX7_joined 197 = .ok (.iload_n 1, 1) := by decide +kernel
theorem dX7_joined_198 : decode cX7_joined 198 = .ok (.ifCond .ne 7, 3) := by decide +kernel
theorem dX7_joined_201 : decode cX7_joined 201 = .ok (.iload_n 2, 1) := by decide +kernel
theorem dX7_joined_202 : decode cX7_joined 202 = .ok (.ifCond .eq 7, 3) := by decide +kernel
theorem dX7_joined_205 : decode cX7_joined 205 = .ok (.iconst 1, 1) := by decide +kernel
theorem dX7_joined_206 : decode cX7_joined 206 = .ok (.goto 4, 3) := by decide +kernel
theorem dX7_joined_209 : decode cX7_joined 209 = .ok (.iconst 0, 1) := by decide +kernel
theorem dX7_joined_210 : decode cX7_joined 210 = .ok (.ireturn, 1) := by decide +kernel
theorem dX7_worked_0 : decode cX7_worked 0 = .ok (.iconst 0, 1) := by decide +kernel
theorem dX7_worked_1 : decode cX7_worked 1 = .ok (.istore_n 2, 1) := by decide +kernel
theorem dX7_worked_2 : decode cX7_worked 2 = .ok (.iconst 0, 1) := by decide +kernel
theorem dX7_worked_3 : decode cX7_worked 3 = .ok (.istore_n 3, 1) := by decide +kernel
theorem dX7_worked_4 : decode cX7_worked 4 = .ok (.iload_n 3, 1) := by decide +kernel
theorem dX7_worked_5 : decode cX7_worked 5 = .ok (.aload_n 0, 1) := by decide +kernel
theorem dX7_worked_6 : decode cX7_worked 6 = .ok (.getfield 7, 3) := by decide +kernel
theorem dX7_worked_9 : decode cX7_worked 9 = .ok (.aload_n 0, 1) := by decide +kernel
theorem dX7_worked_10 : decode cX7_worked 10 = .ok (.iload_n 1, 1) := by decide +kernel
theorem dX7_worked_11 : decode cX7_worked 11 = .ok (.invokevirtual 300, 3) := by decide +kernel
theorem dX7_worked_14 : decode cX7_worked 14 = .ok (.iconst 2, 1) := by decide +kernel
theorem dX7_worked_15 : decode cX7_worked 15 = .ok (.iadd, 1) := by decide +kernel
theorem dX7_worked_16 : decode cX7_worked 16 = .ok (.iaload, 1) := by decide +kernel
theorem dX7_worked_17 : decode cX7_worked 17 = .ok (.if_icmp .ge 146, 3) := by decide +kernel
theorem dX7_worked_20 : decode cX7_worked 20 = .ok (.aload_n 0, 1) := by decide +kernel
theorem dX7_worked_21 : decode cX7_worked 21 = .ok (.getfield 7, 3) := by decide +kernel
theorem dX7_worked_24 : decode cX7_worked 24 = .ok (.aload_n 0, 1) := by decide +kernel
theorem dX7_worked_25 : decode cX7_worked 25 = .ok (.iload_n 1, 1) := by decide +kernel
theorem dX7_worked_26 : decode cX7_worked 26 = .ok (.invokevirtual 300, 3) := by decide +kernel
theorem dX7_worked_29 : decode cX7_worked 29 = .ok (.iconst 4, 1) := by decide +kernel
theorem dX7_worked_30 : decode cX7_worked 30 = .ok (.iadd, 1) := by decide +kernel
theorem dX7_worked_31 : decode cX7_worked 31 = .ok (.iconst 2, 1) := by decide +kernel
theorem dX7_worked_32 : decode cX7_worked 32 = .ok (.iload_n 3, 1) := by decide +kernel
theorem dX7_worked_33 : decode cX7_worked 33 = .ok (.imul, 1) := by decide +kernel
theorem dX7_worked_34 : decode cX7_worked 34 = .ok (.iadd, 1) := by decide +kernel
theorem dX7_worked_35 : decode cX7_worked 35 = .ok (.iaload, 1) := by decide +kernel
theorem dX7_worked_36 : decode cX7_worked 36 = .ok (.istore 4, 2) := by decide +kernel
theorem dX7_worked_38 : decode cX7_worked 38 = .ok (.aload_n 0, 1) := by decide +kernel
theorem dX7_worked_39 : decode cX7_worked 39 = .ok (.getfield 7, 3) := by decide +kernel
theorem dX7_worked_42 : decode cX7_worked 42 = .ok (.aload_n 0, 1) := by decide +kernel
theorem dX7_worked_43 : decode cX7_worked 43 = .ok (.iload_n 1, 1) := by decide +kernel
theorem dX7_worked_44 : decode cX7_worked 44 = .ok (.invokevirtual 300, 3) := by decide +kernel
theorem dX7_worked_47 : decode cX7_worked 47 = .ok (.iconst 4, 1) := by decide +kernel
theorem dX7_worked_48 : decode cX7_worked 48 = .ok (.iadd, 1) := by decide +kernel
theorem dX7_worked_49 : decode cX7_worked 49 = .ok (.iconst 2, 1) := by decide +kernel
theorem dX7_worked_50 : decode cX7_worked 50 = .ok (.iload_n 3, 1) := by decide +kernel
theorem dX7_worked_51 : decode cX7_worked 51 = .ok (.imul, 1) := by decide +kernel
theorem dX7_worked_52 : decode cX7_worked 52 = .ok (.iadd, 1) := by decide +kernel
theorem dX7_worked_53 : decode cX7_worked 53 = .ok (.iconst 1, 1) := by decide +kernel
theorem dX7_worked_54 : decode cX7_worked 54 = .ok (.iadd, 1) := by decide +kernel
theorem dX7_worked_55 : decode cX7_worked 55 = .ok (.iaload, 1) := by decide +kernel
theorem dX7_worked_56 : decode cX7_worked 56 = .ok (.istore 5, 2) := by decide +kernel
theorem dX7_worked_58 : decode cX7_worked 58 = .ok (.iload 4, 2) := by decide +kernel
theorem dX7_worked_60 : decode cX7_worked 60 = .ok (.iconst 2, 1) := by decide +kernel
theorem dX7_worked_61 : decode cX7_worked 61 = .ok (.if_icmp .eq 32, 3) := by decide +kernel
theorem dX7_worked_64 : decode cX7_worked 64 = .ok (.aload_n 0, 1) := by decide +kernel
theorem dX7_worked_65 : decode cX7_worked 65 = .ok (.getfield 55, 3) := by decide +kernel
theorem dX7_worked_68 : decode cX7_worked 68 = .ok (.iload_n 2, 1) := by decide +kernel
theorem dX7_worked_69 : decode cX7_worked 69 = .ok (.iload 4, 2) := by decide +kernel
theorem dX7_worked_71 : decode cX7_worked 71 = .ok (.ifCond .ne 8, 3) := by decide +kernel
theorem dX7_worked_74 : decode cX7_worked 74 = .ok (.iload 5, 2) := by decide +kernel
theorem dX7_worked_76 : decode cX7_worked 76 = .ok (.goto 10, 3) := by decide +kernel
theorem dX7_worked_79 : decode cX7_worked 79 = .ok (.aload_n 0, 1) := by decide +kernel
theorem dX7_worked_80 : decode cX7_worked 80 = .ok (.getfield 52, 3) := by decide +kernel
theorem dX7_worked_83 : decode cX7_worked 83 = .ok (.iload 5, 2) := by decide +kernel
theorem dX7_worked_85 : decode cX7_worked 85 = .ok (.iaload, 1) := by decide +kernel
theorem dX7_worked_86 : decode cX7_worked 86 = .ok (.iastore, 1) := by decide +kernel
theorem dX7_worked_87 : decode cX7_worked 87 = .ok (.iinc 2 1, 3) := by decide +kernel
theorem dX7_worked_90 : decode cX7_worked 90 = .ok (.goto 67, 3) := by decide +kernel
theorem dX7_worked_93 : decode cX7_worked 93 = .ok (.iload 5, 2) := by decide +kernel
theorem dX7_worked_95 : decode cX7_worked 95 = .ok (.bipush 33, 2) := by decide +kernel
theorem dX7_worked_97 : decode cX7_worked 97 = .ok (.if_icmp .ne 30, 3) := by decide +kernel
theorem dX7_worked_100 : decode cX7_worked 100 = .ok (.aload_n 0, 1) := by decide +kernel
theorem dX7_worked_101 : decode cX7_worked 101 = .ok (.getfield 55, 3) := by decide +kernel
theorem dX7_worked_104 : decode cX7_worked 104 = .ok (.iload_n 2, 1) := by decide +kernel
theorem dX7_worked_105 : decode cX7_worked 105 = .ok (.iconst 1, 1) := by decide +kernel
theorem dX7_worked_106 : decode cX7_worked 106 = .ok (.isub, 1) := by decide +kernel
theorem dX7_worked_107 : decode cX7_worked 107 = .ok (.aload_n 0, 1) := by decide +kernel
theorem dX7_worked_108 : decode cX7_worked 108 = .ok (.getfield 55, 3) := by decide +kernel
theorem dX7_worked_111 : decode cX7_worked 111 = .ok (.iload_n 2, 1) := by decide +kernel
theorem dX7_worked_112 : decode cX7_worked 112 = .ok (.iconst 1, 1) := by decide +kernel
theorem dX7_worked_113 : decode cX7_worked 113 = .ok (.isub, 1) := by decide +kernel
theorem dX7_worked_114 : decode cX7_worked 114 = .ok (.iaload, 1) := by decide +kernel
theorem dX7_worked_115 : decode cX7_worked 115 = .ok (.ifCond .ne 7, 3) := by decide +kernel
theorem dX7_worked_118 : decode cX7_worked 118 = .ok (.iconst 1, 1) := by decide +kernel
theorem dX7_worked_119 : decode cX7_worked 119 = .ok (.goto 4, 3) := by decide +kernel
theorem dX7_worked_122 : decode cX7_worked 122 = .ok (.iconst 0, 1) := by decide +kernel
theorem dX7_worked_123 : decode cX7_worked 123 = .ok (.iastore, 1) := by decide +kernel
theorem dX7_worked_124 : decode cX7_worked 124 = .ok (.goto 33, 3) := by decide +kernel
theorem dX7_worked_127 : decode cX7_worked 127 = .ok (.iinc 2 (-1), 3) := by decide +kernel
theorem dX7_worked_130 : decode cX7_worked 130 = .ok (.aload_n 0, 1) := by decide +kernel
theorem dX7_worked_131 : decode cX7_worked 131 = .ok (.getfield 55, 3) := by decide +kernel
theorem dX7_worked_134 : decode cX7_worked 134 = .ok (.iload_n 2, 1) := by decide +kernel
theorem dX7_worked_135 : decode cX7_worked 135 = .ok (.iconst 1, 1) := by decide +kernel
theorem dX7_worked_136 : decode cX7_worked 136 = .ok (.isub, 1) := by decide +kernel
theorem dX7_worked_137 : decode cX7_worked 137 = .ok (.iload 5, 2) := by decide +kernel
theorem dX7_worked_139 : decode cX7_worked 139 = .ok (.aload_n 0, 1) := by decide +kernel
theorem dX7_worked_140 : decode cX7_worked 140 = .ok (.getfield 55, 3) := by decide +kernel
theorem dX7_worked_143 : decode cX7_worked 143 = .ok (.iload_n 2, 1) := by decide +kernel
theorem dX7_worked_144 : decode cX7_worked 144 = .ok (.iconst 1, 1) := by decide +kernel
theorem dX7_worked_145 : decode cX7_worked 145 = .ok (.isub, 1) := by decide +kernel
theorem dX7_worked_146 : decode cX7_worked 146 = .ok (.iaload, 1) := by decide +kernel
theorem dX7_worked_147 : decode cX7_worked 147 = .ok (.aload_n 0, 1) := by decide +kernel
theorem dX7_worked_148 : decode cX7_worked 148 = .ok (.getfield 55, 3) := by decide +kernel
theorem dX7_worked_151 : decode cX7_worked 151 = .ok (.iload_n 2, 1) := by decide +kernel
theorem dX7_worked_152 : decode cX7_worked 152 = .ok (.iaload, 1) := by decide +kernel
theorem dX7_worked_153 : decode cX7_worked 153 = .ok (.invokestatic 312, 3) := by decide +kernel
theorem dX7_worked_156 : decode cX7_worked 156 = .ok (.iastore, 1) := by decide +kernel
theorem dX7_worked_157 : decode cX7_worked 157 = .ok (.iinc 3 1, 3) := by decide +kernel
theorem dX7_worked_160 : decode cX7_worked 160 = .ok (.goto (-156), 3) := by decide +kernel
theorem dX7_worked_163 : decode cX7_worked 163 = .ok (.aload_n 0, 1) := by decide +kernel
theorem dX7_worked_164 : decode cX7_worked 164 = .ok (.getfield 55, 3) := by decide +kernel
theorem dX7_worked_167 : decode cX7_worked 167 = .ok (.iconst 0, 1) := by decide +kernel
theorem dX7_worked_168 : decode cX7_worked 168 = .ok (.iaload, 1) := by decide +kernel
theorem dX7_worked_169 : decode cX7_worked 169 = .ok (.ireturn, 1) := by decide +kernel
theorem dX7_isSheet_0 : decode cX7_isSheet 0 = .ok (.iload_n 0, 1) := by decide +kernel
theorem dX7_isSheet_1 : decode cX7_isSheet 1 = .ok (.i2l, 1) := by decide +kernel
theorem dX7_isSheet_2 : decode cX7_isSheet 2 = .ok (.lconst 0, 1) := by decide +kernel
theorem dX7_isSheet_3 : decode cX7_isSheet 3 = .ok (.ldc2_w 133, 3) := by decide +kernel
theorem dX7_isSheet_6 : decode cX7_isSheet 6 = .ok (.invokestatic 68, 3) := by decide +kernel
theorem dX7_isSheet_9 : decode cX7_isSheet 9 = .ok (.ireturn, 1) := by decide +kernel
theorem dX7_sheet_0 : decode cX7_sheet 0 = .ok (.iload_n 1, 1) := by decide +kernel
theorem dX7_sheet_1 : decode cX7_sheet 1 = .ok (.invokestatic 316, 3) := by decide +kernel
theorem dX7_sheet_4 : decode cX7_sheet 4 = .ok (.ifCond .eq 25, 3) := by decide +kernel
theorem dX7_sheet_7 : decode cX7_sheet 7 = .ok (.iload_n 2, 1) := by decide +kernel
theorem dX7_sheet_8 : decode cX7_sheet 8 = .ok (.i2l, 1) := by decide +kernel
theorem dX7_sheet_9 : decode cX7_sheet 9 = .ok (.ldc2_w 319, 3) := by decide +kernel
theorem dX7_sheet_12 : decode cX7_sheet 12 = .ok (.lconst 1, 1) := by decide +kernel
theorem dX7_sheet_13 : decode cX7_sheet 13 = .ok (.invokestatic 68, 3) := by decide +kernel
theorem dX7_sheet_16 : decode cX7_sheet 16 = .ok (.ifCond .eq 13, 3) := by decide +kernel
theorem dX7_sheet_19 : decode cX7_sheet 19 = .ok (.iload_n 2, 1) := by decide +kernel
theorem dX7_sheet_20 : decode cX7_sheet 20 = .ok (.ifCond .lt 12, 3) := by decide +kernel
theorem dX7_sheet_23 : decode cX7_sheet 23 = .ok (.iload_n 3, 1) := by decide +kernel
theorem dX7_sheet_24 : decode cX7_sheet 24 = .ok (.bipush 24, 2) := by decide +kernel
theorem dX7_sheet_26 : decode cX7_sheet 26 = .ok (.if_icmp .le 6, 3) := by decide +kernel
theorem dX7_sheet_29 : decode cX7_sheet 29 = .ok (.ldc 87, 2) := by decide +kernel
theorem dX7_sheet_31 : decode cX7_sheet 31 = .ok (.ireturn, 1) := by decide +kernel
theorem dX7_sheet_32 : decode cX7_sheet 32 = .ok (.iload_n 2, 1) := by decide +kernel
theorem dX7_sheet_33 : decode cX7_sheet 33 = .ok (.ifCond .lt 11, 3) := by decide +kernel
theorem dX7_sheet_36 : decode cX7_sheet 36 = .ok (.iload_n 3, 1) := by decide +kernel
theorem dX7_sheet_37 : decode cX7_sheet 37 = .ok (.ifCond .ge 7, 3) := by decide +kernel
theorem dX7_sheet_40 : decode cX7_sheet 40 = .ok (.ldc_w 321, 3) := by decide +kernel
theorem dX7_sheet_43 : decode cX7_sheet 43 = .ok (.ireturn, 1) := by decide +kernel
theorem dX7_sheet_44 : decode cX7_sheet 44 = .ok (.aload_n 0, 1) := by decide +kernel
theorem dX7_sheet_45 : decode cX7_sheet 45 = .ok (.getfield 19, 3) := by decide +kernel
theorem dX7_sheet_48 : decode cX7_sheet 48 = .ok (.iload_n 1, 1) := by decide +kernel
theorem dX7_sheet_49 : decode cX7_sheet 49 = .ok (.iload_n 2, 1) := by decide +kernel
theorem dX7_sheet_50 : decode cX7_sheet 50 = .ok (.iastore, 1) := by decide +kernel
theorem dX7_sheet_51 : decode cX7_sheet 51 = .ok (.aload_n 0, 1) := by decide +kernel
theorem dX7_sheet_52 : decode cX7_sheet 52 = .ok (.getfield 22, 3) := by decide +kernel
theorem dX7_sheet_55 : decode cX7_sheet 55 = .ok (.iload_n 1, 1) := by decide +kernel
theorem dX7_sheet_56 : decode cX7_sheet 56 = .ok (.iload_n 2, 1) := by decide +kernel
theorem dX7_sheet_57 : decode cX7_sheet 57 = .ok (.ifCond .ge 7, 3) := by decide +kernel
theorem dX7_sheet_60 : decode cX7_sheet 60 = .ok (.iconst 0, 1) := by decide +kernel
theorem dX7_sheet_61 : decode cX7_sheet 61 = .ok (.goto 4, 3) := by decide +kernel
theorem dX7_sheet_64 : decode cX7_sheet 64 = .ok (.iload_n 3, 1) := by decide +kernel
theorem dX7_sheet_65 : decode cX7_sheet 65 = .ok (.iastore, 1) := by decide +kernel
theorem dX7_sheet_66 : decode cX7_sheet 66 = .ok (.iconst 0, 1) := by decide +kernel
theorem dX7_sheet_67 : decode cX7_sheet 67 = .ok (.istore 4, 2) := by decide +kernel
theorem dX7_sheet_69 : decode cX7_sheet 69 = .ok (.iload 4, 2) := by decide +kernel
theorem dX7_sheet_71 : decode cX7_sheet 71 = .ok (.bipush 24, 2) := by decide +kernel
theorem dX7_sheet_73 : decode cX7_sheet 73 = .ok (.if_icmp .ge 22, 3) := by decide +kernel
theorem dX7_sheet_76 : decode cX7_sheet 76 = .ok (.aload_n 0, 1) := by decide +kernel
theorem dX7_sheet_77 : decode cX7_sheet 77 = .ok (.getfield 25, 3) := by decide +kernel
theorem dX7_sheet_80 : decode cX7_sheet 80 = .ok (.bipush 24, 2) := by decide +kernel
theorem dX7_sheet_82 : decode cX7_sheet 82 = .ok (.iload_n 1, 1) := by decide +kernel
theorem dX7_sheet_83 : decode cX7_sheet 83 = .ok (.imul, 1) := by decide +kernel
theorem dX7_sheet_84 : decode cX7_sheet 84 = .ok (.iload 4, 2) := by decide +kernel
theorem dX7_sheet_86 : decode cX7_sheet 86 = .ok (.iadd, 1) := by decide +kernel
theorem dX7_sheet_87 : decode cX7_sheet 87 = .ok (.iconst 0, 1) := by decide +kernel
theorem dX7_sheet_88 : decode cX7_sheet 88 = .ok (.iastore, 1) := by decide +kernel
theorem dX7_sheet_89 : decode cX7_sheet 89 = .ok (.iinc 4 1, 3) := by decide +kernel
theorem dX7_sheet_92 : decode cX7_sheet 92 = .ok (.goto (-23), 3) := by decide +kernel
theorem dX7_sheet_95 : decode cX7_sheet 95 = .ok (.aload_n 0, 1) := by decide +kernel
theorem dX7_sheet_96 : decode cX7_sheet 96 = .ok (.getfield 22, 3) := by decide +kernel
theorem dX7_sheet_99 : decode cX7_sheet 99 = .ok (.iload_n 1, 1) := by decide +kernel
theorem dX7_sheet_100 : decode cX7_sheet 100 = .ok (.iaload, 1) := by decide +kernel
theorem dX7_sheet_101 : decode cX7_sheet 101 = .ok (.ireturn, 1) := by decide +kernel
theorem dX7_mark_0 : decode cX7_mark 0 = .ok (.iload_n 1, 1) := by decide +kernel
theorem dX7_mark_1 : decode cX7_mark 1 = .ok (.invokestatic 316, 3) := by decide +kernel
theorem dX7_mark_4 : decode cX7_mark 4 = .ok (.ifCond .ne 6, 3) := by decide +kernel
theorem dX7_mark_7 : decode cX7_mark 7 = .ok (.ldc 87, 2) := by decide +kernel
theorem dX7_mark_9 : decode cX7_mark 9 = .ok (.ireturn, 1) := by decide +kernel
theorem dX7_mark_10 : decode cX7_mark 10 = .ok (.aload_n 0, 1) := by decide +kernel
theorem dX7_mark_11 : decode cX7_mark 11 = .ok (.getfield 19, 3) := by decide +kernel
theorem dX7_mark_14 : decode cX7_mark 14 = .ok (.iload_n 1, 1) := by decide +kernel
theorem dX7_mark_15 : decode cX7_mark 15 = .ok (.iaload, 1) := by decide +kernel
theorem dX7_mark_16 : decode cX7_mark 16 = .ok (.ifCond .ge 7, 3) := by decide +kernel
theorem dX7_mark_19 : decode cX7_mark 19 = .ok (.ldc_w 322, 3) := by decide +kernel
theorem dX7_mark_22 : decode cX7_mark 22 = .ok (.ireturn, 1) := by decide +kernel
theorem dX7_mark_23 : decode cX7_mark 23 = .ok (.iload_n 2, 1) := by decide +kernel
theorem dX7_mark_24 : decode cX7_mark 24 = .ok (.i2l, 1) := by decide +kernel
theorem dX7_mark_25 : decode cX7_mark 25 = .ok (.lconst 0, 1) := by decide +kernel
theorem dX7_mark_26 : decode cX7_mark 26 = .ok (.aload_n 0, 1) := by decide +kernel
theorem dX7_mark_27 : decode cX7_mark 27 = .ok (.getfield 22, 3) := by decide +kernel
theorem dX7_mark_30 : decode cX7_mark 30 = .ok (.iload_n 1, 1) := by decide +kernel
theorem dX7_mark_31 : decode cX7_mark 31 = .ok (.iaload, 1) := by decide +kernel
theorem dX7_mark_32 : decode cX7_mark 32 = .ok (.iconst 1, 1) := by decide +kernel
theorem dX7_mark_33 : decode cX7_mark 33 = .ok (.isub, 1) := by decide +kernel
theorem dX7_mark_34 : decode cX7_mark 34 = .ok (.i2l, 1) := by decide +kernel
theorem dX7_mark_35 : decode cX7_mark 35 = .ok (.invokestatic 68, 3) := by decide +kernel
theorem dX7_mark_38 : decode cX7_mark 38 = .ok (.ifCond .ne 7, 3) := by decide +kernel
theorem dX7_mark_41 : decode cX7_mark 41 = .ok (.ldc_w 323, 3) := by decide +kernel
theorem dX7_mark_44 : decode cX7_mark 44 = .ok (.ireturn, 1) := by decide +kernel
theorem dX7_mark_45 : decode cX7_mark 45 = .ok (.aload_n 0, 1) := by decide +kernel
theorem dX7_mark_46 : decode cX7_mark 46 = .ok (.getfield 19, 3) := by decide +kernel
theorem dX7_mark_49 : decode cX7_mark 49 = .ok (.iload_n 1, 1) := by decide +kernel
theorem dX7_mark_50 : decode cX7_mark 50 = .ok (.iaload, 1) := by decide +kernel
theorem dX7_mark_51 : decode cX7_mark 51 = .ok (.ifCond .ne 12, 3) := by decide +kernel
theorem dX7_mark_54 : decode cX7_mark 54 = .ok (.iload_n 3, 1) := by decide +kernel
theorem dX7_mark_55 : decode cX7_mark 55 = .ok (.ldc 67, 2) := by decide +kernel
theorem dX7_mark_57 : decode cX7_mark 57 = .ok (.if_icmp .ne 6, 3) := by decide +kernel
theorem dX7_mark_60 : decode cX7_mark 60 = .ok (.ldc 129, 2) := by decide +kernel
theorem dX7_mark_62 : decode cX7_mark 62 = .ok (.ireturn, 1) := by decide +kernel
theorem dX7_mark_63 : decode cX7_mark 63 = .ok (.aload_n 0, 1) := by decide +kernel
theorem dX7_mark_64 : decode cX7_mark 64 = .ok (.getfield 19, 3) := by decide +kernel
theorem dX7_mark_67 : decode cX7_mark 67 = .ok (.iload_n 1, 1) := by decide +kernel
theorem dX7_mark_68 : decode cX7_mark 68 = .ok (.iaload, 1) := by decide +kernel
theorem dX7_mark_69 : decode cX7_mark 69 = .ok (.iconst 1, 1) := by decide +kernel
theorem dX7_mark_70 : decode cX7_mark 70 = .ok (.if_icmp .ne 26, 3) := by decide +kernel
theorem dX7_mark_73 : decode cX7_mark 73 = .ok (.iload_n 3, 1) := by decide +kernel
theorem dX7_mark_74 : decode cX7_mark 74 = .ok (.ldc 67, 2) := by decide +kernel
theorem dX7_mark_76 : decode cX7_mark 76 = .ok (.if_icmp .eq 20, 3) := by decide +kernel
theorem dX7_mark_79 : decode cX7_mark 79 = .ok (.iload_n 3, 1) := by decide +kernel
theorem dX7_mark_80 : decode cX7_mark 80 = .ok (.i2l, 1) := by decide +kernel
theorem dX7_mark_81 : decode cX7_mark 81 = .ok (.ldc2_w 324, 3) := by decide +kernel
theorem dX7_mark_84 : decode cX7_mark 84 = .ok (.ldc2_w 326, 3) := by decide +kernel
theorem dX7_mark_87 : decode cX7_mark 87 = .ok (.invokestatic 68, 3) := by decide +kernel
theorem dX7_mark_90 : decode cX7_mark 90 = .ok (.ifCond .ne 6, 3) := by decide +kernel
theorem dX7_mark_93 : decode cX7_mark 93 = .ok (.ldc 87, 2) := by decide +kernel
theorem dX7_mark_95 : decode cX7_mark 95 = .ok (.ireturn, 1) := by decide +kernel
theorem dX7_mark_96 : decode cX7_mark 96 = .ok (.aload_n 0, 1) := by decide +kernel
theorem dX7_mark_97 : decode cX7_mark 97 = .ok (.getfield 25, 3) := by decide +kernel
theorem dX7_mark_100 : decode cX7_mark 100 = .ok (.bipush 24, 2) := by decide +kernel
theorem dX7_mark_102 : decode cX7_mark 102 = .ok (.iload_n 1, 1) := by decide +kernel
theorem dX7_mark_103 : decode cX7_mark 103 = .ok (.imul, 1) := by decide +kernel
theorem dX7_mark_104 : decode cX7_mark 104 = .ok (.iload_n 2, 1) := by decide +kernel
theorem dX7_mark_105 : decode cX7_mark 105 = .ok (.iadd, 1) := by decide +kernel
theorem dX7_mark_106 : decode cX7_mark 106 = .ok (.aload_n 0, 1) := by decide +kernel
theorem dX7_mark_107 : decode cX7_mark 107 = .ok (.getfield 19, 3) := by decide +kernel
theorem dX7_mark_110 : decode cX7_mark 110 = .ok (.iload_n 1, 1) := by decide +kernel
theorem dX7_mark_111 : decode cX7_mark 111 = .ok (.iaload, 1) := by decide +kernel
theorem dX7_mark_112 : decode cX7_mark 112 = .ok (.ifCond .ne 13, 3) := by decide +kernel
theorem dX7_mark_115 : decode cX7_mark 115 = .ok (.iload_n 3, 1) := by decide +kernel
theorem dX7_mark_116 : decode cX7_mark 116 = .ok (.bipush 16, 2) := by decide +kernel
theorem dX7_mark_118 : decode cX7_mark 118 = .ok (.ishl, 1) := by decide +kernel
theorem dX7_mark_119 : decode cX7_mark 119 = .ok (.bipush 16, 2) := by decide +kernel
theorem dX7_mark_121 : decode cX7_mark 121 = .ok (.ishr, 1) := by decide +kernel
theorem dX7_mark_122 : decode cX7_mark 122 = .ok (.goto 4, 3) := by decide +kernel
theorem dX7_mark_125 : decode cX7_mark 125 = .ok (.iload_n 3, 1) := by decide +kernel
theorem dX7_mark_126 : decode cX7_mark 126 = .ok (.iastore, 1) := by decide +kernel
theorem dX7_mark_127 : decode cX7_mark 127 = .ok (.iconst 1, 1) := by decide +kernel
theorem dX7_mark_128 : decode cX7_mark 128 = .ok (.ireturn, 1) := by decide +kernel
theorem dX7_pour_0 : decode cX7_pour 0 = .ok (.iload_n 1, 1) := by decide +kernel
theorem dX7_pour_1 : decode cX7_pour 1 = .ok (.invokestatic 316, 3) := by decide +kernel
theorem dX7_pour_4 : decode cX7_pour 4 = .ok (.ifCond .ne 6, 3) := by decide +kernel
theorem dX7_pour_7 : decode cX7_pour 7 = .ok (.ldc 87, 2) := by decide +kernel
theorem dX7_pour_9 : decode cX7_pour 9 = .ok (.ireturn, 1) := by decide +kernel
theorem dX7_pour_10 : decode cX7_pour 10 = .ok (.aload_n 0, 1) := by decide +kernel
theorem dX7_pour_11 : decode cX7_pour 11 = .ok (.getfield 19, 3) := by decide +kernel
theorem dX7_pour_14 : decode cX7_pour 14 = .ok (.iload_n 1, 1) := by decide +kernel
theorem dX7_pour_15 : decode cX7_pour 15 = .ok (.iaload, 1) := by decide +kernel
theorem dX7_pour_16 : decode cX7_pour 16 = .ok (.ifCond .ge 7, 3) := by decide +kernel
theorem dX7_pour_19 : decode cX7_pour 19 = .ok (.ldc_w 322, 3) := by decide +kernel
theorem dX7_pour_22 : decode cX7_pour 22 = .ok (.ireturn, 1) := by decide +kernel
theorem dX7_pour_23 : decode cX7_pour 23 = .ok (.iconst 0, 1) := by decide +kernel
theorem dX7_pour_24 : decode cX7_pour 24 = .ok (.istore_n 2, 1) := by decide +kernel
theorem dX7_pour_25 : decode cX7_pour 25 = .ok (.iconst 0, 1) := by decide +kernel
theorem dX7_pour_26 : decode cX7_pour 26 = .ok (.istore_n 3, 1) := by decide +kernel
theorem dX7_pour_27 : decode cX7_pour 27 = .ok (.iload_n 3, 1) := by decide +kernel
theorem dX7_pour_28 : decode cX7_pour 28 = .ok (.aload_n 0, 1) := by decide +kernel
theorem dX7_pour_29 : decode cX7_pour 29 = .ok (.getfield 22, 3) := by decide +kernel
theorem dX7_pour_32 : decode cX7_pour 32 = .ok (.iload_n 1, 1) := by decide +kernel
theorem dX7_pour_33 : decode cX7_pour 33 = .ok (.iaload, 1) := by decide +kernel
theorem dX7_pour_34 : decode cX7_pour 34 = .ok (.if_icmp .ge 80, 3) := by decide +kernel
theorem dX7_pour_37 : decode cX7_pour 37 = .ok (.iload_n 3, 1) := by decide +kernel
theorem dX7_pour_38 : decode cX7_pour 38 = .ok (.bipush 6, 2) := by decide +kernel
theorem dX7_pour_40 : decode cX7_pour 40 = .ok (.if_icmp .ge 74, 3) := by decide +kernel
theorem dX7_pour_43 : decode cX7_pour 43 = .ok (.aload_n 0, 1) := by decide +kernel
theorem dX7_pour_44 : decode cX7_pour 44 = .ok (.getfield 25, 3) := by decide +kernel
theorem dX7_pour_47 : decode cX7_pour 47 = .ok (.bipush 24, 2) := by decide +kernel
theorem dX7_pour_49 : decode cX7_pour 49 = .ok (.iload_n 1, 1) := by decide +kernel
theorem dX7_pour_50 : decode cX7_pour 50 = .ok (.imul, 1) := by decide +kernel
theorem dX7_pour_51 : decode cX7_pour 51 = .ok (.iload_n 3, 1) := by decide +kernel
theorem dX7_pour_52 : decode cX7_pour 52 = .ok (.iadd, 1) := by decide +kernel
theorem dX7_pour_53 : decode cX7_pour 53 = .ok (.iaload, 1) := by decide +kernel
theorem dX7_pour_54 : decode cX7_pour 54 = .ok (.istore 4, 2) := by decide +kernel
theorem dX7_pour_56 : decode cX7_pour 56 = .ok (.iload 4, 2) := by decide +kernel
theorem dX7_pour_58 : decode cX7_pour 58 = .ok (.ldc 67, 2) := by decide +kernel
theorem dX7_pour_60 : decode cX7_pour 60 = .ok (.if_icmp .ne 15, 3) := by decide +kernel
theorem dX7_pour_63 : decode cX7_pour 63 = .ok (.aload_n 0, 1) := by decide +kernel
theorem dX7_pour_64 : decode cX7_pour 64 = .ok (.getfield 7, 3) := by decide +kernel
theorem dX7_pour_67 : decode cX7_pour 67 = .ok (.bipush 6, 2) := by decide +kernel
theorem dX7_pour_69 : decode cX7_pour 69 = .ok (.iload_n 3, 1) := by decide +kernel
theorem dX7_pour_70 : decode cX7_pour 70 = .ok (.iadd, 1) := by decide +kernel
theorem dX7_pour_71 : decode cX7_pour 71 = .ok (.iaload, 1) := by decide +kernel
theorem dX7_pour_72 : decode cX7_pour 72 = .ok (.goto 11, 3) := by decide +kernel
theorem dX7_pour_75 : decode cX7_pour 75 = .ok (.iload 4, 2) := by decide +kernel
theorem dX7_pour_77 : decode cX7_pour 77 = .ok (.sipush 9999, 3) := by decide +kernel
theorem dX7_pour_80 : decode cX7_pour 80 = .ok (.invokestatic 101, 3) := by decide +kernel
theorem dX7_pour_83 : decode cX7_pour 83 = .ok (.istore 5, 2) := by decide +kernel
theorem dX7_pour_85 : decode cX7_pour 85 = .ok (.iload_n 2, 1) := by decide +kernel
theorem dX7_pour_86 : decode cX7_pour 86 = .ok (.iload 5, 2) := by decide +kernel
theorem dX7_pour_88 : decode cX7_pour 88 = .ok (.aload_n 0, 1) := by decide +kernel
theorem dX7_pour_89 : decode cX7_pour 89 = .ok (.bipush 6, 2) := by decide +kernel
theorem dX7_pour_91 : decode cX7_pour 91 = .ok (.iload_n 3, 1) := by decide +kernel
theorem dX7_pour_92 : decode cX7_pour 92 = .ok (.iadd, 1) := by decide +kernel
theorem dX7_pour_93 : decode cX7_pour 93 = .ok (.iload 5, 2) := by decide +kernel
theorem dX7_pour_95 : decode cX7_pour 95 = .ok (.invokevirtual 130, 3) := by decide +kernel
theorem dX7_pour_98 : decode cX7_pour 98 = .ok (.if_icmp .ne 7, 3) := by decide +kernel
theorem dX7_pour_101 : decode cX7_pour 101 = .ok (.iconst 0, 1) := by decide +kernel
theorem dX7_pour_102 : decode cX7_pour 102 = .ok (.goto 4, 3) := by decide +kernel
theorem dX7_pour_105 : decode cX7_pour 105 = .ok (.iconst 1, 1) := by decide +kernel
theorem dX7_pour_106 : decode cX7_pour 106 = .ok (.iadd, 1) := by decide +kernel
theorem dX7_pour_107 : decode cX7_pour 107 = .ok (.istore_n 2, 1) := by decide +kernel
theorem dX7_pour_108 : decode cX7_pour 108 = .ok (.iinc 3 1, 3) := by decide +kernel
theorem dX7_pour_111 : decode cX7_pour 111 = .ok (.goto (-84), 3) := by decide +kernel
theorem dX7_pour_114 : decode cX7_pour 114 = .ok (.iload_n 2, 1) := by decide +kernel
theorem dX7_pour_115 : decode cX7_pour 115 = .ok (.ireturn, 1) := by decide +kernel
theorem dX7_reads_0 : decode cX7_reads 0 = .ok (.iload_n 1, 1) := by decide +kernel
theorem dX7_reads_1 : decode cX7_reads 1 = .ok (.invokestatic 316, 3) := by decide +kernel
theorem dX7_reads_4 : decode cX7_reads 4 = .ok (.ifCond .ne 6, 3) := by decide +kernel
theorem dX7_reads_7 : decode cX7_reads 7 = .ok (.ldc 87, 2) := by decide +kernel
theorem dX7_reads_9 : decode cX7_reads 9 = .ok (.ireturn, 1) := by decide +kernel
theorem dX7_reads_10 : decode cX7_reads 10 = .ok (.aload_n 0, 1) := by decide +kernel
theorem dX7_reads_11 : decode cX7_reads 11 = .ok (.getfield 19, 3) := by decide +kernel
theorem dX7_reads_14 : decode cX7_reads 14 = .ok (.iload_n 1, 1) := by decide +kernel
theorem dX7_reads_15 : decode cX7_reads 15 = .ok (.iaload, 1) := by decide +kernel
theorem dX7_reads_16 : decode cX7_reads 16 = .ok (.ifCond .ge 7, 3) := by decide +kernel
theorem dX7_reads_19 : decode cX7_reads 19 = .ok (.ldc_w 322, 3) := by decide +kernel
theorem dX7_reads_22 : decode cX7_reads 22 = .ok (.ireturn, 1) := by decide +kernel
theorem dX7_reads_23 : decode cX7_reads 23 = .ok (.iconst 0, 1) := by decide +kernel
theorem dX7_reads_24 : decode cX7_reads 24 = .ok (.istore_n 2, 1) := by decide +kernel
theorem dX7_reads_25 : decode cX7_reads 25 = .ok (.iload_n 2, 1) := by decide +kernel
theorem dX7_reads_26 : decode cX7_reads 26 = .ok (.aload_n 0, 1) := by decide +kernel
theorem dX7_reads_27 : decode cX7_reads 27 = .ok (.getfield 22, 3) := by decide +kernel
theorem dX7_reads_30 : decode cX7_reads 30 = .ok (.iload_n 1, 1) := by decide +kernel
theorem dX7_reads_31 : decode cX7_reads 31 = .ok (.iaload, 1) := by decide +kernel
theorem dX7_reads_32 : decode cX7_reads 32 = .ok (.if_icmp .ge 49, 3) := by decide +kernel
theorem dX7_reads_35 : decode cX7_reads 35 = .ok (.aload_n 0, 1) := by decide +kernel
theorem dX7_reads_36 : decode cX7_reads 36 = .ok (.getfield 25, 3) := by decide +kernel
theorem dX7_reads_39 : decode cX7_reads 39 = .ok (.bipush 24, 2) := by decide +kernel
theorem dX7_reads_41 : decode cX7_reads 41 = .ok (.iload_n 1, 1) := by decide +kernel
theorem dX7_reads_42 : decode cX7_reads 42 = .ok (.imul, 1) := by decide +kernel
theorem dX7_reads_43 : decode cX7_reads 43 = .ok (.iload_n 2, 1) := by decide +kernel
theorem dX7_reads_44 : decode cX7_reads 44 = .ok (.iadd, 1) := by decide +kernel
theorem dX7_reads_45 : decode cX7_reads 45 = .ok (.iaload, 1) := by decide +kernel
theorem dX7_reads_46 : decode cX7_reads 46 = .ok (.istore_n 3, 1) := by decide +kernel
theorem dX7_reads_47 : decode cX7_reads 47 = .ok (.iload_n 3, 1) := by decide +kernel
theorem dX7_reads_48 : decode cX7_reads 48 = .ok (.ldc 67, 2) := by decide +kernel
theorem dX7_reads_50 : decode cX7_reads 50 = .ok (.if_icmp .eq 25, 3) := by decide +kernel
theorem dX7_reads_53 : decode cX7_reads 53 = .ok (.iload_n 2, 1) := by decide +kernel
theorem dX7_reads_54 : decode cX7_reads 54 = .ok (.aload_n 0, 1) := by decide +kernel
theorem dX7_reads_55 : decode cX7_reads 55 = .ok (.getfield 7, 3) := by decide +kernel
theorem dX7_reads_58 : decode cX7_reads 58 = .ok (.iconst 0, 1) := by decide +kernel
theorem dX7_reads_59 : decode cX7_reads 59 = .ok (.iaload, 1) := by decide +kernel
theorem dX7_reads_60 : decode cX7_reads 60 = .ok (.if_icmp .ge 13, 3) := by decide +kernel
theorem dX7_reads_63 : decode cX7_reads 63 = .ok (.iload_n 3, 1) := by decide +kernel
theorem dX7_reads_64 : decode cX7_reads 64 = .ok (.aload_n 0, 1) := by decide +kernel
theorem dX7_reads_65 : decode cX7_reads 65 = .ok (.iload_n 2, 1) := by decide +kernel
theorem dX7_reads_66 : decode cX7_reads 66 = .ok (.iconst 3, 1) := by decide +kernel
theorem dX7_reads_67 : decode cX7_reads 67 = .ok (.invokevirtual 97, 3) := by decide +kernel
theorem dX7_reads_70 : decode cX7_reads 70 = .ok (.if_icmp .eq 5, 3) := by decide +kernel
theorem dX7_reads_73 : decode cX7_reads 73 = .ok (.iload_n 2, 1) := by decide +kernel
theorem dX7_reads_74 : decode cX7_reads 74 = .ok (.ireturn, 1) := by decide +kernel
theorem dX7_reads_75 : decode cX7_reads 75 = .ok (.iinc 2 1, 3) := by decide +kernel
theorem dX7_reads_78 : decode cX7_reads 78 = .ok (.goto (-53), 3) := by decide +kernel
theorem dX7_reads_81 : decode cX7_reads 81 = .ok (.ldc 67, 2) := by decide +kernel
theorem dX7_reads_83 : decode cX7_reads 83 = .ok (.ireturn, 1) := by decide +kernel
theorem dX7_toldBy_0 : decode cX7_toldBy 0 = .ok (.iload_n 1, 1) := by decide +kernel
theorem dX7_toldBy_1 : decode cX7_toldBy 1 = .ok (.invokestatic 316, 3) := by decide +kernel
theorem dX7_toldBy_4 : decode cX7_toldBy 4 = .ok (.ifCond .eq 13, 3) := by decide +kernel
theorem dX7_toldBy_7 : decode cX7_toldBy 7 = .ok (.iload_n 2, 1) := by decide +kernel
theorem dX7_toldBy_8 : decode cX7_toldBy 8 = .ok (.i2l, 1) := by decide +kernel
theorem dX7_toldBy_9 : decode cX7_toldBy 9 = .ok (.lconst 0, 1) := by decide +kernel
theorem dX7_toldBy_10 : decode cX7_toldBy 10 = .ok (.lconst 1, 1) := by decide +kernel
theorem dX7_toldBy_11 : decode cX7_toldBy 11 = .ok (.invokestatic 68, 3) := by decide +kernel
theorem dX7_toldBy_14 : decode cX7_toldBy 14 = .ok (.ifCond .ne 6, 3) := by decide +kernel
theorem dX7_toldBy_17 : decode cX7_toldBy 17 = .ok (.ldc 87, 2) := by decide +kernel
theorem dX7_toldBy_19 : decode cX7_toldBy 19 = .ok (.ireturn, 1) := by decide +kernel
theorem dX7_toldBy_20 : decode cX7_toldBy 20 = .ok (.aload_n 0, 1) := by decide +kernel
theorem dX7_toldBy_21 : decode cX7_toldBy 21 = .ok (.getfield 19, 3) := by decide +kernel
theorem dX7_toldBy_24 : decode cX7_toldBy 24 = .ok (.iload_n 1, 1) := by decide +kernel
theorem dX7_toldBy_25 : decode cX7_toldBy 25 = .ok (.iaload, 1) := by decide +kernel
theorem dX7_toldBy_26 : decode cX7_toldBy 26 = .ok (.ifCond .ge 7, 3) := by decide +kernel
theorem dX7_toldBy_29 : decode cX7_toldBy 29 = .ok (.ldc_w 322, 3) := by decide +kernel
theorem dX7_toldBy_32 : decode cX7_toldBy 32 = .ok (.ireturn, 1) := by decide +kernel
theorem dX7_toldBy_33 : decode cX7_toldBy 33 = .ok (.aload_n 0, 1) := by decide +kernel
theorem dX7_toldBy_34 : decode cX7_toldBy 34 = .ok (.invokevirtual 193, 3) := by decide +kernel
theorem dX7_toldBy_37 : decode cX7_toldBy 37 = .ok (.iconst (-1), 1) := by decide +kernel
theorem dX7_toldBy_38 : decode cX7_toldBy 38 = .ok (.istore_n 3, 1) := by decide +kernel
theorem dX7_toldBy_39 : decode cX7_toldBy 39 = .ok (.iconst 0, 1) := by decide +kernel
theorem dX7_toldBy_40 : decode cX7_toldBy 40 = .ok (.istore 4, 2) := by decide +kernel
theorem dX7_toldBy_42 : decode cX7_toldBy 42 = .ok (.iconst 0, 1) := by decide +kernel
theorem dX7_toldBy_43 : decode cX7_toldBy 43 = .ok (.istore 5, 2) := by decide +kernel
theorem dX7_toldBy_45 : decode cX7_toldBy 45 = .ok (.iload 5, 2) := by decide +kernel
theorem dX7_toldBy_47 : decode cX7_toldBy 47 = .ok (.aload_n 0, 1) := by decide +kernel
theorem dX7_toldBy_48 : decode cX7_toldBy 48 = .ok (.getfield 7, 3) := by decide +kernel
theorem dX7_toldBy_51 : decode cX7_toldBy 51 = .ok (.iconst 0, 1) := by decide +kernel
theorem dX7_toldBy_52 : decode cX7_toldBy 52 = .ok (.iaload, 1) := by decide +kernel
theorem dX7_toldBy_53 : decode cX7_toldBy 53 = .ok (.if_icmp .ge 100, 3) := by decide +kernel
theorem dX7_toldBy_56 : decode cX7_toldBy 56 = .ok (.iconst 0, 1) := by decide +kernel
theorem dX7_toldBy_57 : decode cX7_toldBy 57 = .ok (.istore 6, 2) := by decide +kernel
theorem dX7_toldBy_59 : decode cX7_toldBy 59 = .ok (.iconst 0, 1) := by decide +kernel
theorem dX7_toldBy_60 : decode cX7_toldBy 60 = .ok (.istore 7, 2) := by decide +kernel
theorem dX7_toldBy_62 : decode cX7_toldBy 62 = .ok (.iload 7, 2) := by decide +kernel
theorem dX7_toldBy_64 : decode cX7_toldBy 64 = .ok (.aload_n 0, 1) := by decide +kernel
theorem dX7_toldBy_65 : decode cX7_toldBy 65 = .ok (.getfield 22, 3) := by decide +kernel
theorem dX7_toldBy_68 : decode cX7_toldBy 68 = .ok (.iload_n 1, 1) := by decide +kernel
theorem dX7_toldBy_69 : decode cX7_toldBy 69 = .ok (.iaload, 1) := by decide +kernel
theorem dX7_toldBy_70 : decode cX7_toldBy 70 = .ok (.if_icmp .ge 55, 3) := by decide +kernel
theorem dX7_toldBy_73 : decode cX7_toldBy 73 = .ok (.aload_n 0, 1) := by decide +kernel
theorem dX7_toldBy_74 : decode cX7_toldBy 74 = .ok (.getfield 25, 3) := by decide +kernel
theorem dX7_toldBy_77 : decode cX7_toldBy 77 = .ok (.bipush 24, 2) := by decide +kernel
theorem dX7_toldBy_79 : decode cX7_toldBy 79 = .ok (.iload_n 1, 1) := by decide +kernel
theorem dX7_toldBy_80 : decode cX7_toldBy 80 = .ok (.imul, 1) := by decide +kernel
theorem dX7_toldBy_81 : decode cX7_toldBy 81 = .ok (.iload 7, 2) := by decide +kernel
theorem dX7_toldBy_83 : decode cX7_toldBy 83 = .ok (.iadd, 1) := by decide +kernel
theorem dX7_toldBy_84 : decode cX7_toldBy 84 = .ok (.iaload, 1) := by decide +kernel
theorem dX7_toldBy_85 : decode cX7_toldBy 85 = .ok (.istore 8, 2) := by decide +kernel
theorem dX7_toldBy_87 : decode cX7_toldBy 87 = .ok (.iload 6, 2) := by decide +kernel
theorem dX7_toldBy_89 : decode cX7_toldBy 89 = .ok (.iload 8, 2) := by decide +kernel
theorem dX7_toldBy_91 : decode cX7_toldBy 91 = .ok (.ldc 67, 2) := by decide +kernel
theorem dX7_toldBy_93 : decode cX7_toldBy 93 = .ok (.if_icmp .ne 7, 3) := by decide +kernel
theorem dX7_toldBy_96 : decode cX7_toldBy 96 = .ok (.iconst 0, 1) := by decide +kernel
theorem dX7_toldBy_97 : decode cX7_toldBy 97 = .ok (.goto 15, 3) := by decide +kernel
theorem dX7_toldBy_100 : decode cX7_toldBy 100 = .ok (.iload 8, 2) := by decide +kernel
theorem dX7_toldBy_102 : decode cX7_toldBy 102 = .ok (.aload_n 0, 1) := by decide +kernel
theorem dX7_toldBy_103 : decode cX7_toldBy 103 = .ok (.iload 5, 2) := by decide +kernel
theorem dX7_toldBy_105 : decode cX7_toldBy 105 = .ok (.iconst 3, 1) := by decide +kernel
theorem dX7_toldBy_106 : decode cX7_toldBy 106 = .ok (.invokevirtual 97, 3) := by decide +kernel
theorem dX7_toldBy_109 : decode cX7_toldBy 109 = .ok (.invokestatic 113, 3) := by decide +kernel
theorem dX7_toldBy_112 : decode cX7_toldBy 112 = .ok (.iadd, 1) := by decide +kernel
theorem dX7_toldBy_113 : decode cX7_toldBy 113 = .ok (.istore 6, 2) := by decide +kernel
theorem dX7_toldBy_115 : decode cX7_toldBy 115 = .ok (.aload_n 0, 1) := by decide +kernel
theorem dX7_toldBy_116 : decode cX7_toldBy 116 = .ok (.invokevirtual 163, 3) := by decide +kernel
theorem dX7_toldBy_119 : decode cX7_toldBy 119 = .ok (.iinc 7 1, 3) := by decide +kernel
theorem dX7_toldBy_122 : decode cX7_toldBy 122 = .ok (.goto (-60), 3) := by decide +kernel
theorem dX7_toldBy_125 : decode cX7_toldBy 125 = .ok (.aload_n 0, 1) := by decide +kernel
theorem dX7_toldBy_126 : decode cX7_toldBy 126 = .ok (.invokevirtual 196, 3) := by decide +kernel
theorem dX7_toldBy_129 : decode cX7_toldBy 129 = .ok (.iload_n 3, 1) := by decide +kernel
theorem dX7_toldBy_130 : decode cX7_toldBy 130 = .ok (.ifCond .lt 10, 3) := by decide +kernel
theorem dX7_toldBy_133 : decode cX7_toldBy 133 = .ok (.iload 6, 2) := by decide +kernel
theorem dX7_toldBy_135 : decode cX7_toldBy 135 = .ok (.iload 4, 2) := by decide +kernel
theorem dX7_toldBy_137 : decode cX7_toldBy 137 = .ok (.if_icmp .ge 10, 3) := by decide +kernel
theorem dX7_toldBy_140 : decode cX7_toldBy 140 = .ok (.iload 5, 2) := by decide +kernel
theorem dX7_toldBy_142 : decode cX7_toldBy 142 = .ok (.istore_n 3, 1) := by decide +kernel
theorem dX7_toldBy_143 : decode cX7_toldBy 143 = .ok (.iload 6, 2) := by decide +kernel
theorem dX7_toldBy_145 : decode cX7_toldBy 145 = .ok (.istore 4, 2) := by decide +kernel
theorem dX7_toldBy_147 : decode cX7_toldBy 147 = .ok (.iinc 5 1, 3) := by decide +kernel
theorem dX7_toldBy_150 : decode cX7_toldBy 150 = .ok (.goto (-105), 3) := by decide +kernel
theorem dX7_toldBy_153 : decode cX7_toldBy 153 = .ok (.iload_n 3, 1) := by decide +kernel
theorem dX7_toldBy_154 : decode cX7_toldBy 154 = .ok (.ifCond .ge 8, 3) := by decide +kernel
theorem dX7_toldBy_157 : decode cX7_toldBy 157 = .ok (.ldc 67, 2) := by decide +kernel
theorem dX7_toldBy_159 : decode cX7_toldBy 159 = .ok (.goto 13, 3) := by decide +kernel
theorem dX7_toldBy_162 : decode cX7_toldBy 162 = .ok (.iload_n 2, 1) := by decide +kernel
theorem dX7_toldBy_163 : decode cX7_toldBy 163 = .ok (.ifCond .ne 7, 3) := by decide +kernel
theorem dX7_toldBy_166 : decode cX7_toldBy 166 = .ok (.iload_n 3, 1) := by decide +kernel
theorem dX7_toldBy_167 : decode cX7_toldBy 167 = .ok (.goto 5, 3) := by decide +kernel
theorem dX7_toldBy_170 : decode cX7_toldBy 170 = .ok (.iload 4, 2) := by decide +kernel
theorem dX7_toldBy_172 : decode cX7_toldBy 172 = .ok (.ireturn, 1) := by decide +kernel
theorem dX7_copy_0 : decode cX7_copy 0 = .ok (.iload_n 1, 1) := by decide +kernel
theorem dX7_copy_1 : decode cX7_copy 1 = .ok (.invokestatic 316, 3) := by decide +kernel
theorem dX7_copy_4 : decode cX7_copy 4 = .ok (.ifCond .eq 10, 3) := by decide +kernel
theorem dX7_copy_7 : decode cX7_copy 7 = .ok (.iload_n 3, 1) := by decide +kernel
theorem dX7_copy_8 : decode cX7_copy 8 = .ok (.invokestatic 316, 3) := by decide +kernel
theorem dX7_copy_11 : decode cX7_copy 11 = .ok (.ifCond .ne 6, 3) := by decide +kernel
theorem dX7_copy_14 : decode cX7_copy 14 = .ok (.ldc 87, 2) := by decide +kernel
theorem dX7_copy_16 : decode cX7_copy 16 = .ok (.ireturn, 1) := by decide +kernel
theorem dX7_copy_17 : decode cX7_copy 17 = .ok (.aload_n 0, 1) := by decide +kernel
theorem dX7_copy_18 : decode cX7_copy 18 = .ok (.getfield 19, 3) := by decide +kernel
theorem dX7_copy_21 : decode cX7_copy 21 = .ok (.iload_n 1, 1) := by decide +kernel
theorem dX7_copy_22 : decode cX7_copy 22 = .ok (.iaload, 1) := by decide +kernel
theorem dX7_copy_23 : decode cX7_copy 23 = .ok (.ifCond .lt 12, 3) := by decide +kernel
theorem dX7_copy_26 : decode cX7_copy 26 = .ok (.aload_n 0, 1) := by decide +kernel
theorem dX7_copy_27 : decode cX7_copy 27 = .ok (.getfield 19, 3) := by decide +kernel
theorem dX7_copy_30 : decode cX7_copy 30 = .ok (.iload_n 3, 1) := by decide +kernel
theorem dX7_copy_31 : decode cX7_copy 31 = .ok (.iaload, 1) := by decide +kernel
theorem dX7_copy_32 : decode cX7_copy 32 = .ok (.ifCond .ge 7, 3) := by decide +kernel
theorem dX7_copy_35 : decode cX7_copy 35 = .ok (.ldc_w 322, 3) := by decide +kernel
theorem dX7_copy_38 : decode cX7_copy 38 = .ok (.ireturn, 1) := by decide +kernel
theorem dX7_copy_39 : decode cX7_copy 39 = .ok (.aload_n 0, 1) := by decide +kernel
theorem dX7_copy_40 : decode cX7_copy 40 = .ok (.getfield 19, 3) := by decide +kernel
theorem dX7_copy_43 : decode cX7_copy 43 = .ok (.iload_n 1, 1) := by decide +kernel
theorem dX7_copy_44 : decode cX7_copy 44 = .ok (.iaload, 1) := by decide +kernel
theorem dX7_copy_45 : decode cX7_copy 45 = .ok (.aload_n 0, 1) := by decide +kernel
theorem dX7_copy_46 : decode cX7_copy 46 = .ok (.getfield 19, 3) := by decide +kernel
theorem dX7_copy_49 : decode cX7_copy 49 = .ok (.iload_n 3, 1) := by decide +kernel
theorem dX7_copy_50 : decode cX7_copy 50 = .ok (.iaload, 1) := by decide +kernel
theorem dX7_copy_51 : decode cX7_copy 51 = .ok (.if_icmp .eq 6, 3) := by decide +kernel
theorem dX7_copy_54 : decode cX7_copy 54 = .ok (.ldc 129, 2) := by decide +kernel
theorem dX7_copy_56 : decode cX7_copy 56 = .ok (.ireturn, 1) := by decide +kernel
theorem dX7_copy_57 : decode cX7_copy 57 = .ok (.iload_n 2, 1) := by decide +kernel
theorem dX7_copy_58 : decode cX7_copy 58 = .ok (.ifCond .lt 48, 3) := by decide +kernel
theorem dX7_copy_61 : decode cX7_copy 61 = .ok (.iload 4, 2) := by decide +kernel
theorem dX7_copy_63 : decode cX7_copy 63 = .ok (.ifCond .lt 43, 3) := by decide +kernel
theorem dX7_copy_66 : decode cX7_copy 66 = .ok (.iload 5, 2) := by decide +kernel
theorem dX7_copy_68 : decode cX7_copy 68 = .ok (.ifCond .lt 38, 3) := by decide +kernel
theorem dX7_copy_71 : decode cX7_copy 71 = .ok (.iload_n 2, 1) := by decide +kernel
theorem dX7_copy_72 : decode cX7_copy 72 = .ok (.i2l, 1) := by decide +kernel
theorem dX7_copy_73 : decode cX7_copy 73 = .ok (.iload 5, 2) := by decide +kernel
theorem dX7_copy_75 : decode cX7_copy 75 = .ok (.i2l, 1) := by decide +kernel
theorem dX7_copy_76 : decode cX7_copy 76 = .ok (.ladd, 1) := by decide +kernel
theorem dX7_copy_77 : decode cX7_copy 77 = .ok (.aload_n 0, 1) := by decide +kernel
theorem dX7_copy_78 : decode cX7_copy 78 = .ok (.getfield 22, 3) := by decide +kernel
theorem dX7_copy_81 : decode cX7_copy 81 = .ok (.iload_n 1, 1) := by decide +kernel
theorem dX7_copy_82 : decode cX7_copy 82 = .ok (.iaload, 1) := by decide +kernel
theorem dX7_copy_83 : decode cX7_copy 83 = .ok (.i2l, 1) := by decide +kernel
theorem dX7_copy_84 : decode cX7_copy 84 = .ok (.lcmp, 1) := by decide +kernel
theorem dX7_copy_85 : decode cX7_copy 85 = .ok (.ifCond .gt 21, 3) := by decide +kernel
theorem dX7_copy_88 : decode cX7_copy 88 = .ok (.iload 4, 2) := by decide +kernel
theorem dX7_copy_90 : decode cX7_copy 90 = .ok (.i2l, 1) := by decide +kernel
theorem dX7_copy_91 : decode cX7_copy 91 = .ok (.iload 5, 2) := by decide +kernel
theorem dX7_copy_93 : decode cX7_copy 93 = .ok (.i2l, 1) := by decide +kernel
theorem dX7_copy_94 : decode cX7_copy 94 = .ok (.ladd, 1) := by decide +kernel
theorem dX7_copy_95 : decode cX7_copy 95 = .ok (.aload_n 0, 1) := by decide +kernel
theorem dX7_copy_96 : decode cX7_copy 96 = .ok (.getfield 22, 3) := by decide +kernel
theorem dX7_copy_99 : decode cX7_copy 99 = .ok (.iload_n 3, 1) := by decide +kernel
theorem dX7_copy_100 : decode cX7_copy 100 = .ok (.iaload, 1) := by decide +kernel
theorem dX7_copy_101 : decode cX7_copy 101 = .ok (.i2l, 1) := by decide +kernel
theorem dX7_copy_102 : decode cX7_copy 102 = .ok (.lcmp, 1) := by decide +kernel
theorem dX7_copy_103 : decode cX7_copy 103 = .ok (.ifCond .le 7, 3) := by decide +kernel
theorem dX7_copy_106 : decode cX7_copy 106 = .ok (.ldc_w 323, 3) := by decide +kernel
theorem dX7_copy_109 : decode cX7_copy 109 = .ok (.ireturn, 1) := by decide +kernel
theorem dX7_copy_110 : decode cX7_copy 110 = .ok (.iconst 0, 1) := by decide +kernel
theorem dX7_copy_111 : decode cX7_copy 111 = .ok (.istore 6, 2) := by decide +kernel
theorem dX7_copy_113 : decode cX7_copy 113 = .ok (.iload 6, 2) := by decide +kernel
theorem dX7_copy_115 : decode cX7_copy 115 = .ok (.iload 5, 2) := by decide +kernel
theorem dX7_copy_117 : decode cX7_copy 117 = .ok (.if_icmp .ge 30, 3) := by decide +kernel
theorem dX7_copy_120 : decode cX7_copy 120 = .ok (.aload_n 0, 1) := by decide +kernel
theorem dX7_copy_121 : decode cX7_copy 121 = .ok (.getfield 58, 3) := by decide +kernel
theorem dX7_copy_124 : decode cX7_copy 124 = .ok (.iload 6, 2) := by decide +kernel
theorem dX7_copy_126 : decode cX7_copy 126 = .ok (.aload_n 0, 1) := by decide +kernel
theorem dX7_copy_127 : decode cX7_copy 127 = .ok (.getfield 25, 3) := by decide +kernel
theorem dX7_copy_130 : decode cX7_copy 130 = .ok (.bipush 24, 2) := by decide +kernel
theorem dX7_copy_132 : decode cX7_copy 132 = .ok (.iload_n 1, 1) := by decide +kernel
theorem dX7_copy_133 : decode cX7_copy 133 = .ok (.imul, 1) := by decide +kernel
theorem dX7_copy_134 : decode cX7_copy 134 = .ok (.iload_n 2, 1) := by decide +kernel
theorem dX7_copy_135 : decode cX7_copy 135 = .ok (.iadd, 1) := by decide +kernel
theorem dX7_copy_136 : decode cX7_copy 136 = .ok (.iload 6, 2) := by decide +kernel
theorem dX7_copy_138 : decode cX7_copy 138 = .ok (.iadd, 1) := by decide +kernel
theorem dX7_copy_139 : decode cX7_copy 139 = .ok (.iaload, 1) := by decide +kernel
theorem dX7_copy_140 : decode cX7_copy 140 = .ok (.iastore, 1) := by decide +kernel
theorem dX7_copy_141 : decode cX7_copy 141 = .ok (.iinc 6 1, 3) := by decide +kernel
theorem dX7_copy_144 : decode cX7_copy 144 = .ok (.goto (-31), 3) := by decide +kernel
theorem dX7_copy_147 : decode cX7_copy 147 = .ok (.iconst 0, 1) := by decide +kernel
theorem dX7_copy_148 : decode cX7_copy 148 = .ok (.istore 6, 2) := by decide +kernel
theorem dX7_copy_150 : decode cX7_copy 150 = .ok (.iload 6, 2) := by decide +kernel
theorem dX7_copy_152 : decode cX7_copy 152 = .ok (.iload 5, 2) := by decide +kernel
theorem dX7_copy_154 : decode cX7_copy 154 = .ok (.if_icmp .ge 31, 3) := by decide +kernel
theorem dX7_copy_157 : decode cX7_copy 157 = .ok (.aload_n 0, 1) := by decide +kernel
theorem dX7_copy_158 : decode cX7_copy 158 = .ok (.getfield 25, 3) := by decide +kernel
theorem dX7_copy_161 : decode cX7_copy 161 = .ok (.bipush 24, 2) := by decide +kernel
theorem dX7_copy_163 : decode cX7_copy 163 = .ok (.iload_n 3, 1) := by decide +kernel
theorem dX7_copy_164 : decode cX7_copy 164 = .ok (.imul, 1) := by decide +kernel
theorem dX7_copy_165 : decode cX7_copy 165 = .ok (.iload 4, 2) := by decide +kernel
theorem dX7_copy_167 : decode cX7_copy 167 = .ok (.iadd, 1) := by decide +kernel
theorem dX7_copy_168 : decode cX7_copy 168 = .ok (.iload 6, 2) := by decide +kernel
theorem dX7_copy_170 : decode cX7_copy 170 = .ok (.iadd, 1) := by decide +kernel
theorem dX7_copy_171 : decode cX7_copy 171 = .ok (.aload_n 0, 1) := by decide +kernel
theorem dX7_copy_172 : decode cX7_copy 172 = .ok (.getfield 58, 3) := by decide +kernel
theorem dX7_copy_175 : decode cX7_copy 175 = .ok (.iload 6, 2) := by decide +kernel
theorem dX7_copy_177 : decode cX7_copy 177 = .ok (.iaload, 1) := by decide +kernel
theorem dX7_copy_178 : decode cX7_copy 178 = .ok (.iastore, 1) := by decide +kernel
theorem dX7_copy_179 : decode cX7_copy 179 = .ok (.iinc 6 1, 3) := by decide +kernel
theorem dX7_copy_182 : decode cX7_copy 182 = .ok (.goto (-32), 3) := by decide +kernel
theorem dX7_copy_185 : decode cX7_copy 185 = .ok (.iload 5, 2) := by decide +kernel
theorem dX7_copy_187 : decode cX7_copy 187 = .ok (.ireturn, 1) := by decide +kernel
theorem dX7_isSlot_0 : decode cX7_isSlot 0 = .ok (.iload_n 0, 1) := by decide +kernel
theorem dX7_isSlot_1 : decode cX7_isSlot 1 = .ok (.i2l, 1) := by decide +kernel
theorem dX7_isSlot_2 : decode cX7_isSlot 2 = .ok (.lconst 0, 1) := by decide +kernel
theorem dX7_isSlot_3 : decode cX7_isSlot 3 = .ok (.ldc2_w 199, 3) := by decide +kernel
theorem dX7_isSlot_6 : decode cX7_isSlot 6 = .ok (.invokestatic 68, 3) := by decide +kernel
theorem dX7_isSlot_9 : decode cX7_isSlot 9 = .ok (.ireturn, 1) := by decide +kernel
theorem dX7_lay_0 : decode cX7_lay 0 = .ok (.iload_n 2, 1) := by decide +kernel
theorem dX7_lay_1 : decode cX7_lay 1 = .ok (.ifCond .eq 33, 3) := by decide +kernel
theorem dX7_lay_4 : decode cX7_lay 4 = .ok (.iload_n 2, 1) := by decide +kernel
theorem dX7_lay_5 : decode cX7_lay 5 = .ok (.iconst 3, 1) := by decide +kernel
theorem dX7_lay_6 : decode cX7_lay 6 = .ok (.if_icmp .eq 28, 3) := by decide +kernel
theorem dX7_lay_9 : decode cX7_lay 9 = .ok (.iload_n 2, 1) := by decide +kernel
theorem dX7_lay_10 : decode cX7_lay 10 = .ok (.iconst 1, 1) := by decide +kernel
theorem dX7_lay_11 : decode cX7_lay 11 = .ok (.if_icmp .ne 11, 3) := by decide +kernel
theorem dX7_lay_14 : decode cX7_lay 14 = .ok (.aload_n 0, 1) := by decide +kernel
theorem dX7_lay_15 : decode cX7_lay 15 = .ok (.iload_n 3, 1) := by decide +kernel
theorem dX7_lay_16 : decode cX7_lay 16 = .ok (.invokevirtual 117, 3) := by decide +kernel
theorem dX7_lay_19 : decode cX7_lay 19 = .ok (.ifCond .ne 15, 3) := by decide +kernel
theorem dX7_lay_22 : decode cX7_lay 22 = .ok (.iload_n 2, 1) := by decide +kernel
theorem dX7_lay_23 : decode cX7_lay 23 = .ok (.iconst 2, 1) := by decide +kernel
theorem dX7_lay_24 : decode cX7_lay 24 = .ok (.if_icmp .ne 14, 3) := by decide +kernel
theorem dX7_lay_27 : decode cX7_lay 27 = .ok (.iload_n 3, 1) := by decide +kernel
theorem dX7_lay_28 : decode cX7_lay 28 = .ok (.invokestatic 316, 3) := by decide +kernel
theorem dX7_lay_31 : decode cX7_lay 31 = .ok (.ifCond .eq 7, 3) := by decide +kernel
theorem dX7_lay_34 : decode cX7_lay 34 = .ok (.iconst 1, 1) := by decide +kernel
theorem dX7_lay_35 : decode cX7_lay 35 = .ok (.goto 4, 3) := by decide +kernel
theorem dX7_lay_38 : decode cX7_lay 38 = .ok (.iconst 0, 1) := by decide +kernel
theorem dX7_lay_39 : decode cX7_lay 39 = .ok (.istore 4, 2) := by decide +kernel
theorem dX7_lay_41 : decode cX7_lay 41 = .ok (.iload_n 1, 1) := by decide +kernel
theorem dX7_lay_42 : decode cX7_lay 42 = .ok (.invokestatic 328, 3) := by decide +kernel
theorem dX7_lay_45 : decode cX7_lay 45 = .ok (.ifCond .eq 8, 3) := by decide +kernel
theorem dX7_lay_48 : decode cX7_lay 48 = .ok (.iload 4, 2) := by decide +kernel
theorem dX7_lay_50 : decode cX7_lay 50 = .ok (.ifCond .ne 6, 3) := by decide +kernel
theorem dX7_lay_53 : decode cX7_lay 53 = .ok (.ldc 87, 2) := by decide +kernel
theorem dX7_lay_55 : decode cX7_lay 55 = .ok (.ireturn, 1) := by decide +kernel
theorem dX7_lay_56 : decode cX7_lay 56 = .ok (.iload_n 2, 1) := by decide +kernel
theorem dX7_lay_57 : decode cX7_lay 57 = .ok (.iconst 2, 1) := by decide +kernel
theorem dX7_lay_58 : decode cX7_lay 58 = .ok (.if_icmp .ne 16, 3) := by decide +kernel
theorem dX7_lay_61 : decode cX7_lay 61 = .ok (.aload_n 0, 1) := by decide +kernel
theorem dX7_lay_62 : decode cX7_lay 62 = .ok (.getfield 19, 3) := by decide +kernel
theorem dX7_lay_65 : decode cX7_lay 65 = .ok (.iload_n 3, 1) := by decide +kernel
theorem dX7_lay_66 : decode cX7_lay 66 = .ok (.iaload, 1) := by decide +kernel
theorem dX7_lay_67 : decode cX7_lay 67 = .ok (.ifCond .ge 7, 3) := by decide +kernel
theorem dX7_lay_70 : decode cX7_lay 70 = .ok (.ldc_w 322, 3) := by decide +kernel
theorem dX7_lay_73 : decode cX7_lay 73 = .ok (.ireturn, 1) := by decide +kernel
theorem dX7_lay_74 : decode cX7_lay 74 = .ok (.aload_n 0, 1) := by decide +kernel
theorem dX7_lay_75 : decode cX7_lay 75 = .ok (.getfield 28, 3) := by decide +kernel
theorem dX7_lay_78 : decode cX7_lay 78 = .ok (.iload_n 1, 1) := by decide +kernel
theorem dX7_lay_79 : decode cX7_lay 79 = .ok (.iaload, 1) := by decide +kernel
theorem dX7_lay_80 : decode cX7_lay 80 = .ok (.istore 5, 2) := by decide +kernel
theorem dX7_lay_82 : decode cX7_lay 82 = .ok (.aload_n 0, 1) := by decide +kernel
theorem dX7_lay_83 : decode cX7_lay 83 = .ok (.getfield 28, 3) := by decide +kernel
theorem dX7_lay_86 : decode cX7_lay 86 = .ok (.iload_n 1, 1) := by decide +kernel
theorem dX7_lay_87 : decode cX7_lay 87 = .ok (.iload_n 2, 1) := by decide +kernel
theorem dX7_lay_88 : decode cX7_lay 88 = .ok (.iastore, 1) := by decide +kernel
theorem dX7_lay_89 : decode cX7_lay 89 = .ok (.aload_n 0, 1) := by decide +kernel
theorem dX7_lay_90 : decode cX7_lay 90 = .ok (.getfield 31, 3) := by decide +kernel
theorem dX7_lay_93 : decode cX7_lay 93 = .ok (.iload_n 1, 1) := by decide +kernel
theorem dX7_lay_94 : decode cX7_lay 94 = .ok (.iload_n 2, 1) := by decide +kernel
theorem dX7_lay_95 : decode cX7_lay 95 = .ok (.iconst 1, 1) := by decide +kernel
theorem dX7_lay_96 : decode cX7_lay 96 = .ok (.if_icmp .ne 12, 3) := by decide +kernel
theorem dX7_lay_99 : decode cX7_lay 99 = .ok (.aload_n 0, 1) := by decide +kernel
theorem dX7_lay_100 : decode cX7_lay 100 = .ok (.iload_n 3, 1) := by decide +kernel
theorem dX7_lay_101 : decode cX7_lay 101 = .ok (.iconst 0, 1) := by decide +kernel
theorem dX7_lay_102 : decode cX7_lay 102 = .ok (.invokevirtual 97, 3) := by decide +kernel
theorem dX7_lay_105 : decode cX7_lay 105 = .ok (.goto 4, 3) := by decide +kernel
theorem dX7_lay_108 : decode cX7_lay 108 = .ok (.iload_n 3, 1) := by decide +kernel
theorem dX7_lay_109 : decode cX7_lay 109 = .ok (.iastore, 1) := by decide +kernel
theorem dX7_lay_110 : decode cX7_lay 110 = .ok (.aload_n 0, 1) := by decide +kernel
theorem dX7_lay_111 : decode cX7_lay 111 = .ok (.getfield 34, 3) := by decide +kernel
theorem dX7_lay_114 : decode cX7_lay 114 = .ok (.iload_n 1, 1) := by decide +kernel
theorem dX7_lay_115 : decode cX7_lay 115 = .ok (.iload_n 2, 1) := by decide +kernel
theorem dX7_lay_116 : decode cX7_lay 116 = .ok (.iconst 1, 1) := by decide +kernel
theorem dX7_lay_117 : decode cX7_lay 117 = .ok (.if_icmp .ne 11, 3) := by decide +kernel
theorem dX7_lay_120 : decode cX7_lay 120 = .ok (.aload_n 0, 1) := by decide +kernel
theorem dX7_lay_121 : decode cX7_lay 121 = .ok (.iload_n 3, 1) := by decide +kernel
theorem dX7_lay_122 : decode cX7_lay 122 = .ok (.invokevirtual 122, 3) := by decide +kernel
theorem dX7_lay_125 : decode cX7_lay 125 = .ok (.goto 4, 3) := by decide +kernel
theorem dX7_lay_128 : decode cX7_lay 128 = .ok (.iconst 0, 1) := by decide +kernel
theorem dX7_lay_129 : decode cX7_lay 129 = .ok (.iastore, 1) := by decide +kernel
theorem dX7_lay_130 : decode cX7_lay 130 = .ok (.iload_n 2, 1) := by decide +kernel
theorem dX7_lay_131 : decode cX7_lay 131 = .ok (.iconst 2, 1) := by decide +kernel
theorem dX7_lay_132 : decode cX7_lay 132 = .ok (.if_icmp .ne 55, 3) := by decide +kernel
theorem dX7_lay_135 : decode cX7_lay 135 = .ok (.aload_n 0, 1) := by decide +kernel
theorem dX7_lay_136 : decode cX7_lay 136 = .ok (.getfield 37, 3) := by decide +kernel
theorem dX7_lay_139 : decode cX7_lay 139 = .ok (.iload_n 1, 1) := by decide +kernel
theorem dX7_lay_140 : decode cX7_lay 140 = .ok (.aload_n 0, 1) := by decide +kernel
theorem dX7_lay_141 : decode cX7_lay 141 = .ok (.getfield 22, 3) := by decide +kernel
theorem dX7_lay_144 : decode cX7_lay 144 = .ok (.iload_n 3, 1) := by decide +kernel
theorem dX7_lay_145 : decode cX7_lay 145 = .ok (.iaload, 1) := by decide +kernel
theorem dX7_lay_146 : decode cX7_lay 146 = .ok (.iastore, 1) := by decide +kernel
theorem dX7_lay_147 : decode cX7_lay 147 = .ok (.iconst 0, 1) := by decide +kernel
theorem dX7_lay_148 : decode cX7_lay 148 = .ok (.istore 6, 2) := by decide +kernel
theorem dX7_lay_150 : decode cX7_lay 150 = .ok (.iload 6, 2) := by decide +kernel
theorem dX7_lay_152 : decode cX7_lay 152 = .ok (.bipush 24, 2) := by decide +kernel
theorem dX7_lay_154 : decode cX7_lay 154 = .ok (.if_icmp .ge 33, 3) := by decide +kernel
theorem dX7_lay_157 : decode cX7_lay 157 = .ok (.aload_n 0, 1) := by decide +kernel
theorem dX7_lay_158 : decode cX7_lay 158 = .ok (.getfield 40, 3) := by decide +kernel
theorem dX7_lay_161 : decode cX7_lay 161 = .ok (.bipush 24, 2) := by decide +kernel
theorem dX7_lay_163 : decode cX7_lay 163 = .ok (.iload_n 1, 1) := by decide +kernel
theorem dX7_lay_164 : decode cX7_lay 164 = .ok (.imul, 1) := by decide +kernel
theorem dX7_lay_165 : decode cX7_lay 165 = .ok (.iload 6, 2) := by decide +kernel
theorem dX7_lay_167 : decode cX7_lay 167 = .ok (.iadd, 1) := by decide +kernel
theorem dX7_lay_168 : decode cX7_lay 168 = .ok (.aload_n 0, 1) := by decide +kernel
theorem dX7_lay_169 : decode cX7_lay 169 = .ok (.getfield 25, 3) := by decide +kernel
theorem dX7_lay_172 : decode cX7_lay 172 = .ok (.bipush 24, 2) := by decide +kernel
theorem dX7_lay_174 : decode cX7_lay 174 = .ok (.iload_n 3, 1) := by decide +kernel
theorem dX7_lay_175 : decode cX7_lay 175 = .ok (.imul, 1) := by decide +kernel
theorem dX7_lay_176 : decode cX7_lay 176 = .ok (.iload 6, 2) := by decide +kernel
theorem dX7_lay_178 : decode cX7_lay 178 = .ok (.iadd, 1) := by decide +kernel
theorem dX7_lay_179 : decode cX7_lay 179 = .ok (.iaload, 1) := by decide +kernel
theorem dX7_lay_180 : decode cX7_lay 180 = .ok (.iastore, 1) := by decide +kernel
theorem dX7_lay_181 : decode cX7_lay 181 = .ok (.iinc 6 1, 3) := by decide +kernel
theorem dX7_lay_184 : decode cX7_lay 184 = .ok (.goto (-34), 3) := by decide +kernel
theorem dX7_lay_187 : decode cX7_lay 187 = .ok (.iload 5, 2) := by decide +kernel
theorem dX7_lay_189 : decode cX7_lay 189 = .ok (.ireturn, 1) := by decide +kernel
theorem dX7_ask_0 : decode cX7_ask 0 = .ok (.iload_n 1, 1) := by decide +kernel
theorem dX7_ask_1 : decode cX7_ask 1 = .ok (.invokestatic 328, 3) := by decide +kernel
theorem dX7_ask_4 : decode cX7_ask 4 = .ok (.ifCond .eq 15, 3) := by decide +kernel
theorem dX7_ask_7 : decode cX7_ask 7 = .ok (.iload_n 2, 1) := by decide +kernel
theorem dX7_ask_8 : decode cX7_ask 8 = .ok (.i2l, 1) := by decide +kernel
theorem dX7_ask_9 : decode cX7_ask 9 = .ok (.lconst 0, 1) := by decide +kernel
theorem dX7_ask_10 : decode cX7_ask 10 = .ok (.ldc2_w 77, 3) := by decide +kernel
theorem dX7_ask_13 : decode cX7_ask 13 = .ok (.invokestatic 68, 3) := by decide +kernel
theorem dX7_ask_16 : decode cX7_ask 16 = .ok (.ifCond .ne 6, 3) := by decide +kernel
theorem dX7_ask_19 : decode cX7_ask 19 = .ok (.ldc 87, 2) := by decide +kernel
theorem dX7_ask_21 : decode cX7_ask 21 = .ok (.ireturn, 1) := by decide +kernel
theorem dX7_ask_22 : decode cX7_ask 22 = .ok (.aload_n 0, 1) := by decide +kernel
theorem dX7_ask_23 : decode cX7_ask 23 = .ok (.getfield 28, 3) := by decide +kernel
theorem dX7_ask_26 : decode cX7_ask 26 = .ok (.iload_n 1, 1) := by decide +kernel
theorem dX7_ask_27 : decode cX7_ask 27 = .ok (.iaload, 1) := by decide +kernel
theorem dX7_ask_28 : decode cX7_ask 28 = .ok (.ifCond .ne 7, 3) := by decide +kernel
theorem dX7_ask_31 : decode cX7_ask 31 = .ok (.ldc_w 322, 3) := by decide +kernel
theorem dX7_ask_34 : decode cX7_ask 34 = .ok (.ireturn, 1) := by decide +kernel
theorem dX7_ask_35 : decode cX7_ask 35 = .ok (.aload_n 0, 1) := by decide +kernel
theorem dX7_ask_36 : decode cX7_ask 36 = .ok (.getfield 28, 3) := by decide +kernel
theorem dX7_ask_39 : decode cX7_ask 39 = .ok (.iload_n 1, 1) := by decide +kernel
theorem dX7_ask_40 : decode cX7_ask 40 = .ok (.iaload, 1) := by decide +kernel
theorem dX7_ask_41 : decode cX7_ask 41 = .ok (.iconst 1, 1) := by decide +kernel
theorem dX7_ask_42 : decode cX7_ask 42 = .ok (.if_icmp .ne 25, 3) := by decide +kernel
theorem dX7_ask_45 : decode cX7_ask 45 = .ok (.aload_n 0, 1) := by decide +kernel
theorem dX7_ask_46 : decode cX7_ask 46 = .ok (.getfield 31, 3) := by decide +kernel
theorem dX7_ask_49 : decode cX7_ask 49 = .ok (.iload_n 1, 1) := by decide +kernel
theorem dX7_ask_50 : decode cX7_ask 50 = .ok (.iaload, 1) := by decide +kernel
theorem dX7_ask_51 : decode cX7_ask 51 = .ok (.iload_n 2, 1) := by decide +kernel
theorem dX7_ask_52 : decode cX7_ask 52 = .ok (.invokestatic 125, 3) := by decide +kernel
theorem dX7_ask_55 : decode cX7_ask 55 = .ok (.ifCond .eq 12, 3) := by decide +kernel
theorem dX7_ask_58 : decode cX7_ask 58 = .ok (.aload_n 0, 1) := by decide +kernel
theorem dX7_ask_59 : decode cX7_ask 59 = .ok (.getfield 34, 3) := by decide +kernel
theorem dX7_ask_62 : decode cX7_ask 62 = .ok (.iload_n 1, 1) := by decide +kernel
theorem dX7_ask_63 : decode cX7_ask 63 = .ok (.iaload, 1) := by decide +kernel
theorem dX7_ask_64 : decode cX7_ask 64 = .ok (.goto 5, 3) := by decide +kernel
theorem dX7_ask_67 : decode cX7_ask 67 = .ok (.ldc 129, 2) := by decide +kernel
theorem dX7_ask_69 : decode cX7_ask 69 = .ok (.ireturn, 1) := by decide +kernel
theorem dX7_item_0 : decode cX7_item 0 = .ok (.iload_n 1, 1) := by decide +kernel
theorem dX7_item_1 : decode cX7_item 1 = .ok (.invokestatic 328, 3) := by decide +kernel
theorem dX7_item_4 : decode cX7_item 4 = .ok (.ifCond .ne 6, 3) := by decide +kernel
theorem dX7_item_7 : decode cX7_item 7 = .ok (.ldc 87, 2) := by decide +kernel
theorem dX7_item_9 : decode cX7_item 9 = .ok (.ireturn, 1) := by decide +kernel
theorem dX7_item_10 : decode cX7_item 10 = .ok (.aload_n 0, 1) := by decide +kernel
theorem dX7_item_11 : decode cX7_item 11 = .ok (.getfield 28, 3) := by decide +kernel
theorem dX7_item_14 : decode cX7_item 14 = .ok (.iload_n 1, 1) := by decide +kernel
theorem dX7_item_15 : decode cX7_item 15 = .ok (.iaload, 1) := by decide +kernel
theorem dX7_item_16 : decode cX7_item 16 = .ok (.iconst 2, 1) := by decide +kernel
theorem dX7_item_17 : decode cX7_item 17 = .ok (.if_icmp .eq 21, 3) := by decide +kernel
theorem dX7_item_20 : decode cX7_item 20 = .ok (.aload_n 0, 1) := by decide +kernel
theorem dX7_item_21 : decode cX7_item 21 = .ok (.getfield 28, 3) := by decide +kernel
theorem dX7_item_24 : decode cX7_item 24 = .ok (.iload_n 1, 1) := by decide +kernel
theorem dX7_item_25 : decode cX7_item 25 = .ok (.iaload, 1) := by decide +kernel
theorem dX7_item_26 : decode cX7_item 26 = .ok (.ifCond .ne 9, 3) := by decide +kernel
theorem dX7_item_29 : decode cX7_item 29 = .ok (.ldc_w 322, 3) := by decide +kernel
theorem dX7_item_32 : decode cX7_item 32 = .ok (.goto 5, 3) := by decide +kernel
theorem dX7_item_35 : decode cX7_item 35 = .ok (.ldc 129, 2) := by decide +kernel
theorem dX7_item_37 : decode cX7_item 37 = .ok (.ireturn, 1) := by decide +kernel
theorem dX7_item_38 : decode cX7_item 38 = .ok (.iload_n 2, 1) := by decide +kernel
theorem dX7_item_39 : decode cX7_item 39 = .ok (.i2l, 1) := by decide +kernel
theorem dX7_item_40 : decode cX7_item 40 = .ok (.lconst 0, 1) := by decide +kernel
theorem dX7_item_41 : decode cX7_item 41 = .ok (.aload_n 0, 1) := by decide +kernel
theorem dX7_item_42 : decode cX7_item 42 = .ok (.getfield 37, 3) := by decide +kernel
theorem dX7_item_45 : decode cX7_item 45 = .ok (.iload_n 1, 1) := by decide +kernel
theorem dX7_item_46 : decode cX7_item 46 = .ok (.iaload, 1) := by decide +kernel
theorem dX7_item_47 : decode cX7_item 47 = .ok (.iconst 1, 1) := by decide +kernel
theorem dX7_item_48 : decode cX7_item 48 = .ok (.isub, 1) := by decide +kernel
theorem dX7_item_49 : decode cX7_item 49 = .ok (.i2l, 1) := by decide +kernel
theorem dX7_item_50 : decode cX7_item 50 = .ok (.invokestatic 68, 3) := by decide +kernel
theorem dX7_item_53 : decode cX7_item 53 = .ok (.ifCond .ne 7, 3) := by decide +kernel
theorem dX7_item_56 : decode cX7_item 56 = .ok (.ldc_w 323, 3) := by decide +kernel
theorem dX7_item_59 : decode cX7_item 59 = .ok (.ireturn, 1) := by decide +kernel
theorem dX7_item_60 : decode cX7_item 60 = .ok (.aload_n 0, 1) := by decide +kernel
theorem dX7_item_61 : decode cX7_item 61 = .ok (.getfield 40, 3) := by decide +kernel
theorem dX7_item_64 : decode cX7_item 64 = .ok (.bipush 24, 2) := by decide +kernel
theorem dX7_item_66 : decode cX7_item 66 = .ok (.iload_n 1, 1) := by decide +kernel
theorem dX7_item_67 : decode cX7_item 67 = .ok (.imul, 1) := by decide +kernel
theorem dX7_item_68 : decode cX7_item 68 = .ok (.iload_n 2, 1) := by decide +kernel
theorem dX7_item_69 : decode cX7_item 69 = .ok (.iadd, 1) := by decide +kernel
theorem dX7_item_70 : decode cX7_item 70 = .ok (.iaload, 1) := by decide +kernel
theorem dX7_item_71 : decode cX7_item 71 = .ok (.istore_n 3, 1) := by decide +kernel
theorem dX7_item_72 : decode cX7_item 72 = .ok (.iload_n 3, 1) := by decide +kernel
theorem dX7_item_73 : decode cX7_item 73 = .ok (.ldc 67, 2) := by decide +kernel
theorem dX7_item_75 : decode cX7_item 75 = .ok (.if_icmp .ne 8, 3) := by decide +kernel
theorem dX7_item_78 : decode cX7_item 78 = .ok (.ldc 129, 2) := by decide +kernel
theorem dX7_item_80 : decode cX7_item 80 = .ok (.goto 4, 3) := by decide +kernel
theorem dX7_item_83 : decode cX7_item 83 = .ok (.iload_n 3, 1) := by decide +kernel
theorem dX7_item_84 : decode cX7_item 84 = .ok (.ireturn, 1) := by decide +kernel
theorem dX7_rest_0 : decode cX7_rest 0 = .ok (.iload_n 1, 1) := by decide +kernel
theorem dX7_rest_1 : decode cX7_rest 1 = .ok (.invokestatic 328, 3) := by decide +kernel
theorem dX7_rest_4 : decode cX7_rest 4 = .ok (.ifCond .ne 6, 3) := by decide +kernel
theorem dX7_rest_7 : decode cX7_rest 7 = .ok (.ldc 87, 2) := by decide +kernel
theorem dX7_rest_9 : decode cX7_rest 9 = .ok (.ireturn, 1) := by decide +kernel
theorem dX7_rest_10 : decode cX7_rest 10 = .ok (.aload_n 0, 1) := by decide +kernel
theorem dX7_rest_11 : decode cX7_rest 11 = .ok (.getfield 28, 3) := by decide +kernel
theorem dX7_rest_14 : decode cX7_rest 14 = .ok (.iload_n 1, 1) := by decide +kernel
theorem dX7_rest_15 : decode cX7_rest 15 = .ok (.iaload, 1) := by decide +kernel
theorem dX7_rest_16 : decode cX7_rest 16 = .ok (.iconst 3, 1) := by decide +kernel
theorem dX7_rest_17 : decode cX7_rest 17 = .ok (.if_icmp .eq 21, 3) := by decide +kernel
theorem dX7_rest_20 : decode cX7_rest 20 = .ok (.aload_n 0, 1) := by decide +kernel
theorem dX7_rest_21 : decode cX7_rest 21 = .ok (.getfield 28, 3) := by decide +kernel
theorem dX7_rest_24 : decode cX7_rest 24 = .ok (.iload_n 1, 1) := by decide +kernel
theorem dX7_rest_25 : decode cX7_rest 25 = .ok (.iaload, 1) := by decide +kernel
theorem dX7_rest_26 : decode cX7_rest 26 = .ok (.ifCond .ne 9, 3) := by decide +kernel
theorem dX7_rest_29 : decode cX7_rest 29 = .ok (.ldc_w 322, 3) := by decide +kernel
theorem dX7_rest_32 : decode cX7_rest 32 = .ok (.goto 5, 3) := by decide +kernel
theorem dX7_rest_35 : decode cX7_rest 35 = .ok (.ldc 129, 2) := by decide +kernel
theorem dX7_rest_37 : decode cX7_rest 37 = .ok (.ireturn, 1) := by decide +kernel
theorem dX7_rest_38 : decode cX7_rest 38 = .ok (.iload_n 2, 1) := by decide +kernel
theorem dX7_rest_39 : decode cX7_rest 39 = .ok (.ifCond .ne 8, 3) := by decide +kernel
theorem dX7_rest_42 : decode cX7_rest 42 = .ok (.ldc 151, 2) := by decide +kernel
theorem dX7_rest_44 : decode cX7_rest 44 = .ok (.goto 11, 3) := by decide +kernel
theorem dX7_rest_47 : decode cX7_rest 47 = .ok (.aload_n 0, 1) := by decide +kernel
theorem dX7_rest_48 : decode cX7_rest 48 = .ok (.getfield 31, 3) := by decide +kernel
theorem dX7_rest_51 : decode cX7_rest 51 = .ok (.iload_n 1, 1) := by decide +kernel
theorem dX7_rest_52 : decode cX7_rest 52 = .ok (.iaload, 1) := by decide +kernel
theorem dX7_rest_53 : decode cX7_rest 53 = .ok (.iload_n 2, 1) := by decide +kernel
theorem dX7_rest_54 : decode cX7_rest 54 = .ok (.irem, 1) := by decide +kernel
theorem dX7_rest_55 : decode cX7_rest 55 = .ok (.ireturn, 1) := by decide +kernel
theorem dX7_tell_0 : decode cX7_tell 0 = .ok (.aload_n 0, 1) := by decide +kernel
theorem dX7_tell_1 : decode cX7_tell 1 = .ok (.getfield 331, 3) := by decide +kernel
theorem dX7_tell_4 : decode cX7_tell 4 = .ok (.bipush 60, 2) := by decide +kernel
theorem dX7_tell_6 : decode cX7_tell 6 = .ok (.if_icmp .ne 6, 3) := by decide +kernel
theorem dX7_tell_9 : decode cX7_tell 9 = .ok (.ldc 88, 2) := by decide +kernel
theorem dX7_tell_11 : decode cX7_tell 11 = .ok (.ireturn, 1) := by decide +kernel
theorem dX7_tell_12 : decode cX7_tell 12 = .ok (.aload_n 0, 1) := by decide +kernel
theorem dX7_tell_13 : decode cX7_tell 13 = .ok (.getfield 61, 3) := by decide +kernel
theorem dX7_tell_16 : decode cX7_tell 16 = .ok (.aload_n 0, 1) := by decide +kernel
theorem dX7_tell_17 : decode cX7_tell 17 = .ok (.getfield 331, 3) := by decide +kernel
theorem dX7_tell_20 : decode cX7_tell 20 = .ok (.iload_n 1, 1) := by decide +kernel
theorem dX7_tell_21 : decode cX7_tell 21 = .ok (.iastore, 1) := by decide +kernel
theorem dX7_tell_22 : decode cX7_tell 22 = .ok (.aload_n 0, 1) := by decide +kernel
theorem dX7_tell_23 : decode cX7_tell 23 = .ok (.dup, 1) := by decide +kernel
theorem dX7_tell_24 : decode cX7_tell 24 = .ok (.getfield 331, 3) := by decide +kernel
theorem dX7_tell_27 : decode cX7_tell 27 = .ok (.iconst 1, 1) := by decide +kernel
theorem dX7_tell_28 : decode cX7_tell 28 = .ok (.iadd, 1) := by decide +kernel
theorem dX7_tell_29 : decode cX7_tell 29 = .ok (.putfield 331, 3) := by decide +kernel
theorem dX7_tell_32 : decode cX7_tell 32 = .ok (.aload_n 0, 1) := by decide +kernel
theorem dX7_tell_33 : decode cX7_tell 33 = .ok (.getfield 331, 3) := by decide +kernel
theorem dX7_tell_36 : decode cX7_tell 36 = .ok (.ireturn, 1) := by decide +kernel
theorem dX7_setAside_0 : decode cX7_setAside 0 = .ok (.iconst 0, 1) := by decide +kernel
theorem dX7_setAside_1 : decode cX7_setAside 1 = .ok (.istore_n 3, 1) := by decide +kernel
theorem dX7_setAside_2 : decode cX7_setAside 2 = .ok (.iload_n 3, 1) := by decide +kernel
theorem dX7_setAside_3 : decode cX7_setAside 3 = .ok (.sipush 2878, 3) := by decide +kernel
theorem dX7_setAside_6 : decode cX7_setAside 6 = .ok (.if_icmp .ge 15, 3) := by decide +kernel
theorem dX7_setAside_9 : decode cX7_setAside 9 = .ok (.aload_n 2, 1) := by decide +kernel
theorem dX7_setAside_10 : decode cX7_setAside 10 = .ok (.iload_n 3, 1) := by decide +kernel
theorem dX7_setAside_11 : decode cX7_setAside 11 = .ok (.aload_n 1, 1) := by decide +kernel
theorem dX7_setAside_12 : decode cX7_setAside 12 = .ok (.iload_n 3, 1) := by decide +kernel
theorem dX7_setAside_13 : decode cX7_setAside 13 = .ok (.iaload, 1) := by decide +kernel
theorem dX7_setAside_14 : decode cX7_setAside 14 = .ok (.iastore, 1) := by decide +kernel
theorem dX7_setAside_15 : decode cX7_setAside 15 = .ok (.iinc 3 1, 3) := by decide +kernel
theorem dX7_setAside_18 : decode cX7_setAside 18 = .ok (.goto (-16), 3) := by decide +kernel
theorem dX7_setAside_21 : decode cX7_setAside 21 = .ok (.return_, 1) := by decide +kernel
theorem dX7_check_0 : decode cX7_check 0 = .ok (.aload_n 0, 1) := by decide +kernel
theorem dX7_check_1 : decode cX7_check 1 = .ok (.getfield 331, 3) := by decide +kernel
theorem dX7_check_4 : decode cX7_check 4 = .ok (.istore_n 2, 1) := by decide +kernel
theorem dX7_check_5 : decode cX7_check 5 = .ok (.aload_n 0, 1) := by decide +kernel
theorem dX7_check_6 : decode cX7_check 6 = .ok (.iconst 0, 1) := by decide +kernel
theorem dX7_check_7 : decode cX7_check 7 = .ok (.putfield 331, 3) := by decide +kernel
theorem dX7_check_10 : decode cX7_check 10 = .ok (.iload_n 1, 1) := by decide +kernel
theorem dX7_check_11 : decode cX7_check 11 = .ok (.i2l, 1) := by decide +kernel
theorem dX7_check_12 : decode cX7_check 12 = .ok (.lconst 1, 1) := by decide +kernel
theorem dX7_check_13 : decode cX7_check 13 = .ok (.ldc2_w 334, 3) := by decide +kernel
theorem dX7_check_16 : decode cX7_check 16 = .ok (.invokestatic 68, 3) := by decide +kernel
theorem dX7_check_19 : decode cX7_check 19 = .ok (.ifCond .ne 6, 3) := by decide +kernel
theorem dX7_check_22 : decode cX7_check 22 = .ok (.ldc 87, 2) := by decide +kernel
theorem dX7_check_24 : decode cX7_check 24 = .ok (.ireturn, 1) := by decide +kernel
theorem dX7_check_25 : decode cX7_check 25 = .ok (.aload_n 0, 1) := by decide +kernel
theorem dX7_check_26 : decode cX7_check 26 = .ok (.getfield 336, 3) := by decide +kernel
theorem dX7_check_29 : decode cX7_check 29 = .ok (.ifCond .ne 6, 3) := by decide +kernel
theorem dX7_check_32 : decode cX7_check 32 = .ok (.ldc 151, 2) := by decide +kernel
theorem dX7_check_34 : decode cX7_check 34 = .ok (.ireturn, 1) := by decide +kernel
theorem dX7_check_35 : decode cX7_check 35 = .ok (.aload_n 0, 1) := by decide +kernel
theorem dX7_check_36 : decode cX7_check 36 = .ok (.aload_n 0, 1) := by decide +kernel
theorem dX7_check_37 : decode cX7_check 37 = .ok (.getfield 7, 3) := by decide +kernel
theorem dX7_check_40 : decode cX7_check 40 = .ok (.aload_n 0, 1) := by decide +kernel
theorem dX7_check_41 : decode cX7_check 41 = .ok (.getfield 16, 3) := by decide +kernel
theorem dX7_check_44 : decode cX7_check 44 = .ok (.invokevirtual 340, 3) := by decide +kernel
theorem dX7_check_47 : decode cX7_check 47 = .ok (.aload_n 0, 1) := by decide +kernel
theorem dX7_check_48 : decode cX7_check 48 = .ok (.aload_n 0, 1) := by decide +kernel
theorem dX7_check_49 : decode cX7_check 49 = .ok (.getfield 13, 3) := by decide +kernel
theorem dX7_check_52 : decode cX7_check 52 = .ok (.aload_n 0, 1) := by decide +kernel
theorem dX7_check_53 : decode cX7_check 53 = .ok (.getfield 7, 3) := by decide +kernel
theorem dX7_check_56 : decode cX7_check 56 = .ok (.invokevirtual 340, 3) := by decide +kernel
theorem dX7_check_59 : decode cX7_check 59 = .ok (.iconst 0, 1) := by decide +kernel
theorem dX7_check_60 : decode cX7_check 60 = .ok (.istore_n 3, 1) := by decide +kernel
theorem dX7_check_61 : decode cX7_check 61 = .ok (.iconst 0, 1) := by decide +kernel
theorem dX7_check_62 : decode cX7_check 62 = .ok (.istore 4, 2) := by decide +kernel
theorem dX7_check_64 : decode cX7_check 64 = .ok (.iload 4, 2) := by decide +kernel
theorem dX7_check_66 : decode cX7_check 66 = .ok (.iload_n 1, 1) := by decide +kernel
theorem dX7_check_67 : decode cX7_check 67 = .ok (.if_icmp .ge 52, 3) := by decide +kernel
theorem dX7_check_70 : decode cX7_check 70 = .ok (.aload_n 0, 1) := by decide +kernel
theorem dX7_check_71 : decode cX7_check 71 = .ok (.getfield 7, 3) := by decide +kernel
theorem dX7_check_74 : decode cX7_check 74 = .ok (.iconst 2, 1) := by decide +kernel
theorem dX7_check_75 : decode cX7_check 75 = .ok (.iaload, 1) := by decide +kernel
theorem dX7_check_76 : decode cX7_check 76 = .ok (.sipush 9999, 3) := by decide +kernel
theorem dX7_check_79 : decode cX7_check 79 = .ok (.if_icmp .ge 40, 3) := by decide +kernel
theorem dX7_check_82 : decode cX7_check 82 = .ok (.aload_n 0, 1) := by decide +kernel
theorem dX7_check_83 : decode cX7_check 83 = .ok (.invokevirtual 163, 3) := by decide +kernel
theorem dX7_check_86 : decode cX7_check 86 = .ok (.aload_n 0, 1) := by decide +kernel
theorem dX7_check_87 : decode cX7_check 87 = .ok (.getfield 64, 3) := by decide +kernel
theorem dX7_check_90 : decode cX7_check 90 = .ok (.iload_n 3, 1) := by decide +kernel
theorem dX7_check_91 : decode cX7_check 91 = .ok (.aload_n 0, 1) := by decide +kernel
theorem dX7_check_92 : decode cX7_check 92 = .ok (.getfield 7, 3) := by decide +kernel
theorem dX7_check_95 : decode cX7_check 95 = .ok (.iconst 3, 1) := by decide +kernel
theorem dX7_check_96 : decode cX7_check 96 = .ok (.iaload, 1) := by decide +kernel
theorem dX7_check_97 : decode cX7_check 97 = .ok (.iastore, 1) := by decide +kernel
theorem dX7_check_98 : decode cX7_check 98 = .ok (.aload_n 0, 1) := by decide +kernel
theorem dX7_check_99 : decode cX7_check 99 = .ok (.getfield 64, 3) := by decide +kernel
theorem dX7_check_102 : decode cX7_check 102 = .ok (.iload_n 3, 1) := by decide +kernel
theorem dX7_check_103 : decode cX7_check 103 = .ok (.iconst 1, 1) := by decide +kernel
theorem dX7_check_104 : decode cX7_check 104 = .ok (.iadd, 1) := by decide +kernel
theorem dX7_check_105 : decode cX7_check 105 = .ok (.aload_n 0, 1) := by decide +kernel
theorem dX7_check_106 : decode cX7_check 106 = .ok (.invokevirtual 344, 3) := by decide +kernel
theorem dX7_check_109 : decode cX7_check 109 = .ok (.iastore, 1) := by decide +kernel
theorem dX7_check_110 : decode cX7_check 110 = .ok (.iinc 3 2, 3) := by decide +kernel
theorem dX7_check_113 : decode cX7_check 113 = .ok (.iinc 4 1, 3) := by decide +kernel
theorem dX7_check_116 : decode cX7_check 116 = .ok (.goto (-52), 3) := by decide +kernel
theorem dX7_check_119 : decode cX7_check 119 = .ok (.aload_n 0, 1) := by decide +kernel
theorem dX7_check_120 : decode cX7_check 120 = .ok (.aload_n 0, 1) := by decide +kernel
theorem dX7_check_121 : decode cX7_check 121 = .ok (.getfield 16, 3) := by decide +kernel
theorem dX7_check_124 : decode cX7_check 124 = .ok (.aload_n 0, 1) := by decide +kernel
theorem dX7_check_125 : decode cX7_check 125 = .ok (.getfield 7, 3) := by decide +kernel
theorem dX7_check_128 : decode cX7_check 128 = .ok (.invokevirtual 340, 3) := by decide +kernel
theorem dX7_check_131 : decode cX7_check 131 = .ok (.iconst 0, 1) := by decide +kernel
theorem dX7_check_132 : decode cX7_check 132 = .ok (.istore 4, 2) := by decide +kernel
theorem dX7_check_134 : decode cX7_check 134 = .ok (.iload 4, 2) := by decide +kernel
theorem dX7_check_136 : decode cX7_check 136 = .ok (.iload_n 2, 1) := by decide +kernel
theorem dX7_check_137 : decode cX7_check 137 = .ok (.if_icmp .ge 32, 3) := by decide +kernel
theorem dX7_check_140 : decode cX7_check 140 = .ok (.iload 4, 2) := by decide +kernel
theorem dX7_check_142 : decode cX7_check 142 = .ok (.iload_n 3, 1) := by decide +kernel
theorem dX7_check_143 : decode cX7_check 143 = .ok (.if_icmp .ge 26, 3) := by decide +kernel
theorem dX7_check_146 : decode cX7_check 146 = .ok (.aload_n 0, 1) := by decide +kernel
theorem dX7_check_147 : decode cX7_check 147 = .ok (.getfield 61, 3) := by decide +kernel
theorem dX7_check_150 : decode cX7_check 150 = .ok (.iload 4, 2) := by decide +kernel
theorem dX7_check_152 : decode cX7_check 152 = .ok (.iaload, 1) := by decide +kernel
theorem dX7_check_153 : decode cX7_check 153 = .ok (.aload_n 0, 1) := by decide +kernel
theorem dX7_check_154 : decode cX7_check 154 = .ok (.getfield 64, 3) := by decide +kernel
theorem dX7_check_157 : decode cX7_check 157 = .ok (.iload 4, 2) := by decide +kernel
theorem dX7_check_159 : decode cX7_check 159 = .ok (.iaload, 1) := by decide +kernel
theorem dX7_check_160 : decode cX7_check 160 = .ok (.if_icmp .ne 9, 3) := by decide +kernel
theorem dX7_check_163 : decode cX7_check 163 = .ok (.iinc 4 1, 3) := by decide +kernel
theorem dX7_check_166 : decode cX7_check 166 = .ok (.goto (-32), 3) := by decide +kernel
theorem dX7_check_169 : decode cX7_check 169 = .ok (.iload 4, 2) := by decide +kernel
theorem dX7_check_171 : decode cX7_check 171 = .ok (.iload_n 2, 1) := by decide +kernel
theorem dX7_check_172 : decode cX7_check 172 = .ok (.if_icmp .ne 13, 3) := by decide +kernel
theorem dX7_check_175 : decode cX7_check 175 = .ok (.iload 4, 2) := by decide +kernel
theorem dX7_check_177 : decode cX7_check 177 = .ok (.iload_n 3, 1) := by decide +kernel
theorem dX7_check_178 : decode cX7_check 178 = .ok (.if_icmp .ne 7, 3) := by decide +kernel
theorem dX7_check_181 : decode cX7_check 181 = .ok (.iconst 0, 1) := by decide +kernel
theorem dX7_check_182 : decode cX7_check 182 = .ok (.goto 7, 3) := by decide +kernel
theorem dX7_check_185 : decode cX7_check 185 = .ok (.iconst 1, 1) := by decide +kernel
theorem dX7_check_186 : decode cX7_check 186 = .ok (.iload 4, 2) := by decide +kernel
theorem dX7_check_188 : decode cX7_check 188 = .ok (.iadd, 1) := by decide +kernel
theorem dX7_check_189 : decode cX7_check 189 = .ok (.ireturn, 1) := by decide +kernel
theorem dX7_keep_0 : decode cX7_keep 0 = .ok (.aload_n 0, 1) := by decide +kernel
theorem dX7_keep_1 : decode cX7_keep 1 = .ok (.iconst 1, 1) := by decide +kernel
theorem dX7_keep_2 : decode cX7_keep 2 = .ok (.putfield 336, 3) := by decide +kernel
theorem dX7_keep_5 : decode cX7_keep 5 = .ok (.aload_n 0, 1) := by decide +kernel
theorem dX7_keep_6 : decode cX7_keep 6 = .ok (.aload_n 0, 1) := by decide +kernel
theorem dX7_keep_7 : decode cX7_keep 7 = .ok (.getfield 7, 3) := by decide +kernel
theorem dX7_keep_10 : decode cX7_keep 10 = .ok (.aload_n 0, 1) := by decide +kernel
theorem dX7_keep_11 : decode cX7_keep 11 = .ok (.getfield 13, 3) := by decide +kernel
theorem dX7_keep_14 : decode cX7_keep 14 = .ok (.invokevirtual 340, 3) := by decide +kernel
theorem dX7_keep_17 : decode cX7_keep 17 = .ok (.aload_n 0, 1) := by decide +kernel
theorem dX7_keep_18 : decode cX7_keep 18 = .ok (.getfield 7, 3) := by decide +kernel
theorem dX7_keep_21 : decode cX7_keep 21 = .ok (.iconst 0, 1) := by decide +kernel
theorem dX7_keep_22 : decode cX7_keep 22 = .ok (.iaload, 1) := by decide +kernel
theorem dX7_keep_23 : decode cX7_keep 23 = .ok (.ireturn, 1) := by decide +kernel
theorem dX7_back_0 : decode cX7_back 0 = .ok (.aload_n 0, 1) := by decide +kernel
theorem dX7_back_1 : decode cX7_back 1 = .ok (.getfield 336, 3) := by decide +kernel
theorem dX7_back_4 : decode cX7_back 4 = .ok (.ifCond .ne 6, 3) := by decide +kernel
theorem dX7_back_7 : decode cX7_back 7 = .ok (.ldc 151, 2) := by decide +kernel
theorem dX7_back_9 : decode cX7_back 9 = .ok (.ireturn, 1) := by decide +kernel
theorem dX7_back_10 : decode cX7_back 10 = .ok (.aload_n 0, 1) := by decide +kernel
theorem dX7_back_11 : decode cX7_back 11 = .ok (.aload_n 0, 1) := by decide +kernel
theorem dX7_back_12 : decode cX7_back 12 = .ok (.getfield 13, 3) := by decide +kernel
theorem dX7_back_15 : decode cX7_back 15 = .ok (.aload_n 0, 1) := by decide +kernel
theorem dX7_back_16 : decode cX7_back 16 = .ok (.getfield 7, 3) := by decide +kernel
theorem dX7_back_19 : decode cX7_back 19 = .ok (.invokevirtual 340, 3) := by decide +kernel
theorem dX7_back_22 : decode cX7_back 22 = .ok (.aload_n 0, 1) := by decide +kernel
theorem dX7_back_23 : decode cX7_back 23 = .ok (.getfield 7, 3) := by decide +kernel
theorem dX7_back_26 : decode cX7_back 26 = .ok (.iconst 0, 1) := by decide +kernel
theorem dX7_back_27 : decode cX7_back 27 = .ok (.iaload, 1) := by decide +kernel
theorem dX7_back_28 : decode cX7_back 28 = .ok (.ireturn, 1) := by decide +kernel
theorem dX7_count_0 : decode cX7_count 0 = .ok (.iload_n 1, 1) := by decide +kernel
theorem dX7_count_1 : decode cX7_count 1 = .ok (.tableswitch 95 0 7 #[47, 54, 61, 66, 71, 78, 83, 88], 47) := by decide +kernel
theorem dX7_count_48 : decode cX7_count 48 = .ok (.aload_n 0, 1) := by decide +kernel
theorem dX7_count_49 : decode cX7_count 49 = .ok (.getfield 7, 3) := by decide +kernel
theorem dX7_count_52 : decode cX7_count 52 = .ok (.iconst 0, 1) := by decide +kernel
theorem dX7_count_53 : decode cX7_count 53 = .ok (.iaload, 1) := by decide +kernel
theorem dX7_count_54 : decode cX7_count 54 = .ok (.ireturn, 1) := by decide +kernel
theorem dX7_count_55 : decode cX7_count 55 = .ok (.aload_n 0, 1) := by decide +kernel
theorem dX7_count_56 : decode cX7_count 56 = .ok (.getfield 7, 3) := by decide +kernel
theorem dX7_count_59 : decode cX7_count 59 = .ok (.iconst 2, 1) := by decide +kernel
theorem dX7_count_60 : decode cX7_count 60 = .ok (.iaload, 1) := by decide +kernel
theorem dX7_count_61 : decode cX7_count 61 = .ok (.ireturn, 1) := by decide +kernel
theorem dX7_count_62 : decode cX7_count 62 = .ok (.aload_n 0, 1) := by decide +kernel
theorem dX7_count_63 : decode cX7_count 63 = .ok (.invokevirtual 344, 3) := by decide +kernel
theorem dX7_count_66 : decode cX7_count 66 = .ok (.ireturn, 1) := by decide +kernel
theorem dX7_count_67 : decode cX7_count 67 = .ok (.aload_n 0, 1) := by decide +kernel
theorem dX7_count_68 : decode cX7_count 68 = .ok (.invokevirtual 208, 3) := by decide +kernel
theorem dX7_count_71 : decode cX7_count 71 = .ok (.ireturn, 1) := by decide +kernel
theorem dX7_count_72 : decode cX7_count 72 = .ok (.aload_n 0, 1) := by decide +kernel
theorem dX7_count_73 : decode cX7_count 73 = .ok (.getfield 7, 3) := by decide +kernel
theorem dX7_count_76 : decode cX7_count 76 = .ok (.iconst 1, 1) := by decide +kernel
theorem dX7_count_77 : decode cX7_count 77 = .ok (.iaload, 1) := by decide +kernel
theorem dX7_count_78 : decode cX7_count 78 = .ok (.ireturn, 1) := by decide +kernel
theorem dX7_count_79 : decode cX7_count 79 = .ok (.aload_n 0, 1) := by decide +kernel
theorem dX7_count_80 : decode cX7_count 80 = .ok (.getfield 331, 3) := by decide +kernel
theorem dX7_count_83 : decode cX7_count 83 = .ok (.ireturn, 1) := by decide +kernel
theorem dX7_count_84 : decode cX7_count 84 = .ok (.aload_n 0, 1) := by decide +kernel
theorem dX7_count_85 : decode cX7_count 85 = .ok (.getfield 213, 3) := by decide +kernel
theorem dX7_count_88 : decode cX7_count 88 = .ok (.ireturn, 1) := by decide +kernel
theorem dX7_count_89 : decode cX7_count 89 = .ok (.aload_n 0, 1) := by decide +kernel
theorem dX7_count_90 : decode cX7_count 90 = .ok (.getfield 7, 3) := by decide +kernel
theorem dX7_count_93 : decode cX7_count 93 = .ok (.iconst 5, 1) := by decide +kernel
theorem dX7_count_94 : decode cX7_count 94 = .ok (.iaload, 1) := by decide +kernel
theorem dX7_count_95 : decode cX7_count 95 = .ok (.ireturn, 1) := by decide +kernel
theorem dX7_count_96 : decode cX7_count 96 = .ok (.ldc 87, 2) := by decide +kernel
theorem dX7_count_98 : decode cX7_count 98 = .ok (.ireturn, 1) := by decide +kernel
theorem dJ11_isValidCodePoint_9a6ad_0 : decode cJ11_isValidCodePoint_9a6ad 0 = .ok (.iload_n 0, 1) := by decide +kernel
theorem dJ11_isValidCodePoint_9a6ad_1 : decode cJ11_isValidCodePoint_9a6ad 1 = .ok (.bipush 16, 2) := by decide +kernel
theorem dJ11_isValidCodePoint_9a6ad_3 : decode cJ11_isValidCodePoint_9a6ad 3 = .ok (.iushr, 1) := by decide +kernel
theorem dJ11_isValidCodePoint_9a6ad_4 : decode cJ11_isValidCodePoint_9a6ad 4 = .ok (.istore_n 1, 1) := by decide +kernel
theorem dJ11_isValidCodePoint_9a6ad_5 : decode cJ11_isValidCodePoint_9a6ad 5 = .ok (.iload_n 1, 1) := by decide +kernel
theorem dJ11_isValidCodePoint_9a6ad_6 : decode cJ11_isValidCodePoint_9a6ad 6 = .ok (.bipush 17, 2) := by decide +kernel
theorem dJ11_isValidCodePoint_9a6ad_8 : decode cJ11_isValidCodePoint_9a6ad 8 = .ok (.if_icmp .ge 7, 3) := by decide +kernel
theorem dJ11_isValidCodePoint_9a6ad_11 : decode cJ11_isValidCodePoint_9a6ad 11 = .ok (.iconst 1, 1) := by decide +kernel
theorem dJ11_isValidCodePoint_9a6ad_12 : decode cJ11_isValidCodePoint_9a6ad 12 = .ok (.goto 4, 3) := by decide +kernel
theorem dJ11_isValidCodePoint_9a6ad_15 : decode cJ11_isValidCodePoint_9a6ad 15 = .ok (.iconst 0, 1) := by decide +kernel
theorem dJ11_isValidCodePoint_9a6ad_16 : decode cJ11_isValidCodePoint_9a6ad 16 = .ok (.ireturn, 1) := by decide +kernel
theorem dJ11_highSurrogate_5068e_0 : decode cJ11_highSurrogate_5068e 0 = .ok (.iload_n 0, 1) := by decide +kernel
theorem dJ11_highSurrogate_5068e_1 : decode cJ11_highSurrogate_5068e 1 = .ok (.bipush 10, 2) := by decide +kernel
theorem dJ11_highSurrogate_5068e_3 : decode cJ11_highSurrogate_5068e 3 = .ok (.iushr, 1) := by decide +kernel
theorem dJ11_highSurrogate_5068e_4 : decode cJ11_highSurrogate_5068e 4 = .ok (.ldc 110, 2) := by decide +kernel
theorem dJ11_highSurrogate_5068e_6 : decode cJ11_highSurrogate_5068e 6 = .ok (.iadd, 1) := by decide +kernel
theorem dJ11_highSurrogate_5068e_7 : decode cJ11_highSurrogate_5068e 7 = .ok (.i2c, 1) := by decide +kernel
theorem dJ11_highSurrogate_5068e_8 : decode cJ11_highSurrogate_5068e 8 = .ok (.ireturn, 1) := by decide +kernel
theorem dJ11_lowSurrogate_5068e_0 : decode cJ11_lowSurrogate_5068e 0 = .ok (.iload_n 0, 1) := by decide +kernel
theorem dJ11_lowSurrogate_5068e_1 : decode cJ11_lowSurrogate_5068e 1 = .ok (.sipush 1023, 3) := by decide +kernel
theorem dJ11_lowSurrogate_5068e_4 : decode cJ11_lowSurrogate_5068e 4 = .ok (.iand, 1) := by decide +kernel
theorem dJ11_lowSurrogate_5068e_5 : decode cJ11_lowSurrogate_5068e 5 = .ok (.ldc 76, 2) := by decide +kernel
theorem dJ11_lowSurrogate_5068e_7 : decode cJ11_lowSurrogate_5068e 7 = .ok (.iadd, 1) := by decide +kernel
theorem dJ11_lowSurrogate_5068e_8 : decode cJ11_lowSurrogate_5068e 8 = .ok (.i2c, 1) := by decide +kernel
theorem dJ11_lowSurrogate_5068e_9 : decode cJ11_lowSurrogate_5068e 9 = .ok (.ireturn, 1) := by decide +kernel
theorem dJ6_bitCount_0f7a4_0 : decode cJ6_bitCount_0f7a4 0 = .ok (.iload_n 0, 1) := by decide +kernel
theorem dJ6_bitCount_0f7a4_1 : decode cJ6_bitCount_0f7a4 1 = .ok (.iload_n 0, 1) := by decide +kernel
theorem dJ6_bitCount_0f7a4_2 : decode cJ6_bitCount_0f7a4 2 = .ok (.iconst 1, 1) := by decide +kernel
theorem dJ6_bitCount_0f7a4_3 : decode cJ6_bitCount_0f7a4 3 = .ok (.iushr, 1) := by decide +kernel
theorem dJ6_bitCount_0f7a4_4 : decode cJ6_bitCount_0f7a4 4 = .ok (.ldc_w 265, 3) := by decide +kernel
theorem dJ6_bitCount_0f7a4_7 : decode cJ6_bitCount_0f7a4 7 = .ok (.iand, 1) := by decide +kernel
theorem dJ6_bitCount_0f7a4_8 : decode cJ6_bitCount_0f7a4 8 = .ok (.isub, 1) := by decide +kernel
theorem dJ6_bitCount_0f7a4_9 : decode cJ6_bitCount_0f7a4 9 = .ok (.istore_n 0, 1) := by decide +kernel
theorem dJ6_bitCount_0f7a4_10 : decode cJ6_bitCount_0f7a4 10 = .ok (.iload_n 0, 1) := by decide +kernel
theorem dJ6_bitCount_0f7a4_11 : decode cJ6_bitCount_0f7a4 11 = .ok (.ldc_w 266, 3) := by decide +kernel
theorem dJ6_bitCount_0f7a4_14 : decode cJ6_bitCount_0f7a4 14 = .ok (.iand, 1) := by decide +kernel
theorem dJ6_bitCount_0f7a4_15 : decode cJ6_bitCount_0f7a4 15 = .ok (.iload_n 0, 1) := by decide +kernel
theorem dJ6_bitCount_0f7a4_16 : decode cJ6_bitCount_0f7a4 16 = .ok (.iconst 2, 1) := by decide +kernel
theorem dJ6_bitCount_0f7a4_17 : decode cJ6_bitCount_0f7a4 17 = .ok (.iushr, 1) := by decide +kernel
theorem dJ6_bitCount_0f7a4_18 : decode cJ6_bitCount_0f7a4 18 = .ok (.ldc_w 266, 3) := by decide +kernel
theorem dJ6_bitCount_0f7a4_21 : decode cJ6_bitCount_0f7a4 21 = .ok (.iand, 1) := by decide +kernel
theorem dJ6_bitCount_0f7a4_22 : decode cJ6_bitCount_0f7a4 22 = .ok (.iadd, 1) := by decide +kernel
theorem dJ6_bitCount_0f7a4_23 : decode cJ6_bitCount_0f7a4 23 = .ok (.istore_n 0, 1) := by decide +kernel
theorem dJ6_bitCount_0f7a4_24 : decode cJ6_bitCount_0f7a4 24 = .ok (.iload_n 0, 1) := by decide +kernel
theorem dJ6_bitCount_0f7a4_25 : decode cJ6_bitCount_0f7a4 25 = .ok (.iload_n 0, 1) := by decide +kernel
theorem dJ6_bitCount_0f7a4_26 : decode cJ6_bitCount_0f7a4 26 = .ok (.iconst 4, 1) := by decide +kernel
theorem dJ6_bitCount_0f7a4_27 : decode cJ6_bitCount_0f7a4 27 = .ok (.iushr, 1) := by decide +kernel
theorem dJ6_bitCount_0f7a4_28 : decode cJ6_bitCount_0f7a4 28 = .ok (.iadd, 1) := by decide +kernel
theorem dJ6_bitCount_0f7a4_29 : decode cJ6_bitCount_0f7a4 29 = .ok (.ldc_w 267, 3) := by decide +kernel
theorem dJ6_bitCount_0f7a4_32 : decode cJ6_bitCount_0f7a4 32 = .ok (.iand, 1) := by decide +kernel
theorem dJ6_bitCount_0f7a4_33 : decode cJ6_bitCount_0f7a4 33 = .ok (.istore_n 0, 1) := by decide +kernel
theorem dJ6_bitCount_0f7a4_34 : decode cJ6_bitCount_0f7a4 34 = .ok (.iload_n 0, 1) := by decide +kernel
theorem dJ6_bitCount_0f7a4_35 : decode cJ6_bitCount_0f7a4 35 = .ok (.iload_n 0, 1) := by decide +kernel
theorem dJ6_bitCount_0f7a4_36 : decode cJ6_bitCount_0f7a4 36 = .ok (.bipush 8, 2) := by decide +kernel
theorem dJ6_bitCount_0f7a4_38 : decode cJ6_bitCount_0f7a4 38 = .ok (.iushr, 1) := by decide +kernel
theorem dJ6_bitCount_0f7a4_39 : decode cJ6_bitCount_0f7a4 39 = .ok (.iadd, 1) := by decide +kernel
theorem dJ6_bitCount_0f7a4_40 : decode cJ6_bitCount_0f7a4 40 = .ok (.istore_n 0, 1) := by decide +kernel
theorem dJ6_bitCount_0f7a4_41 : decode cJ6_bitCount_0f7a4 41 = .ok (.iload_n 0, 1) := by decide +kernel
theorem dJ6_bitCount_0f7a4_42 : decode cJ6_bitCount_0f7a4 42 = .ok (.iload_n 0, 1) := by decide +kernel
theorem dJ6_bitCount_0f7a4_43 : decode cJ6_bitCount_0f7a4 43 = .ok (.bipush 16, 2) := by decide +kernel
theorem dJ6_bitCount_0f7a4_45 : decode cJ6_bitCount_0f7a4 45 = .ok (.iushr, 1) := by decide +kernel
theorem dJ6_bitCount_0f7a4_46 : decode cJ6_bitCount_0f7a4 46 = .ok (.iadd, 1) := by decide +kernel
theorem dJ6_bitCount_0f7a4_47 : decode cJ6_bitCount_0f7a4 47 = .ok (.istore_n 0, 1) := by decide +kernel
theorem dJ6_bitCount_0f7a4_48 : decode cJ6_bitCount_0f7a4 48 = .ok (.iload_n 0, 1) := by decide +kernel
theorem dJ6_bitCount_0f7a4_49 : decode cJ6_bitCount_0f7a4 49 = .ok (.bipush 63, 2) := by decide +kernel
theorem dJ6_bitCount_0f7a4_51 : decode cJ6_bitCount_0f7a4 51 = .ok (.iand, 1) := by decide +kernel
theorem dJ6_bitCount_0f7a4_52 : decode cJ6_bitCount_0f7a4 52 = .ok (.ireturn, 1) := by decide +kernel
theorem dJ9_abs_0f7a4_0 : decode cJ9_abs_0f7a4 0 = .ok (.iload_n 0, 1) := by decide +kernel
theorem dJ9_abs_0f7a4_1 : decode cJ9_abs_0f7a4 1 = .ok (.ifCond .ge 8, 3) := by decide +kernel
theorem dJ9_abs_0f7a4_4 : decode cJ9_abs_0f7a4 4 = .ok (.iload_n 0, 1) := by decide +kernel
theorem dJ9_abs_0f7a4_5 : decode cJ9_abs_0f7a4 5 = .ok (.ineg, 1) := by decide +kernel
theorem dJ9_abs_0f7a4_6 : decode cJ9_abs_0f7a4 6 = .ok (.goto 4, 3) := by decide +kernel
theorem dJ9_abs_0f7a4_9 : decode cJ9_abs_0f7a4 9 = .ok (.iload_n 0, 1) := by decide +kernel
theorem dJ9_abs_0f7a4_10 : decode cJ9_abs_0f7a4 10 = .ok (.ireturn, 1) := by decide +kernel
theorem dJ9_max_7cf53_0 : decode cJ9_max_7cf53 0 = .ok (.iload_n 0, 1) := by decide +kernel
theorem dJ9_max_7cf53_1 : decode cJ9_max_7cf53 1 = .ok (.iload_n 1, 1) := by decide +kernel
theorem dJ9_max_7cf53_2 : decode cJ9_max_7cf53 2 = .ok (.if_icmp .lt 7, 3) := by decide +kernel
theorem dJ9_max_7cf53_5 : decode cJ9_max_7cf53 5 = .ok (.iload_n 0, 1) := by decide +kernel
theorem dJ9_max_7cf53_6 : decode cJ9_max_7cf53 6 = .ok (.goto 4, 3) := by decide +kernel
theorem dJ9_max_7cf53_9 : decode cJ9_max_7cf53 9 = .ok (.iload_n 1, 1) := by decide +kernel
theorem dJ9_max_7cf53_10 : decode cJ9_max_7cf53 10 = .ok (.ireturn, 1) := by decide +kernel
theorem dJ9_min_7cf53_0 : decode cJ9_min_7cf53 0 = .ok (.iload_n 0, 1) := by decide +kernel
theorem dJ9_min_7cf53_1 : decode cJ9_min_7cf53 1 = .ok (.iload_n 1, 1) := by decide +kernel
theorem dJ9_min_7cf53_2 : decode cJ9_min_7cf53 2 = .ok (.if_icmp .gt 7, 3) := by decide +kernel
theorem dJ9_min_7cf53_5 : decode cJ9_min_7cf53 5 = .ok (.iload_n 0, 1) := by decide +kernel
theorem dJ9_min_7cf53_6 : decode cJ9_min_7cf53 6 = .ok (.goto 4, 3) := by decide +kernel
theorem dJ9_min_7cf53_9 : decode cJ9_min_7cf53 9 = .ok (.iload_n 1, 1) := by decide +kernel
theorem dJ9_min_7cf53_10 : decode cJ9_min_7cf53 10 = .ok (.ireturn, 1) := by decide +kernel
theorem dJ0_length_8abf5_0 : decode cJ0_length_8abf5 0 = .ok (.aload_n 0, 1) := by decide +kernel
theorem dJ0_length_8abf5_1 : decode cJ0_length_8abf5 1 = .ok (.getfield 9, 3) := by decide +kernel
theorem dJ0_length_8abf5_4 : decode cJ0_length_8abf5 4 = .ok (.arraylength, 1) := by decide +kernel
theorem dJ0_length_8abf5_5 : decode cJ0_length_8abf5 5 = .ok (.aload_n 0, 1) := by decide +kernel
theorem dJ0_length_8abf5_6 : decode cJ0_length_8abf5 6 = .ok (.invokevirtual 335, 3) := by decide +kernel
theorem dJ0_length_8abf5_9 : decode cJ0_length_8abf5 9 = .ok (.ishr, 1) := by decide +kernel
theorem dJ0_length_8abf5_10 : decode cJ0_length_8abf5 10 = .ok (.ireturn, 1) := by decide +kernel
theorem dJ0_charAt_5068e_0 : decode cJ0_charAt_5068e 0 = .ok (.aload_n 0, 1) := by decide +kernel
theorem dJ0_charAt_5068e_1 : decode cJ0_charAt_5068e 1 = .ok (.invokevirtual 492, 3) := by decide +kernel
theorem dJ0_charAt_5068e_4 : decode cJ0_charAt_5068e 4 = .ok (.ifCond .eq 12, 3) := by decide +kernel
theorem dJ0_charAt_5068e_7 : decode cJ0_charAt_5068e 7 = .ok (.aload_n 0, 1) := by decide +kernel
theorem dJ0_charAt_5068e_8 : decode cJ0_charAt_5068e 8 = .ok (.getfield 9, 3) := by decide +kernel
theorem dJ0_charAt_5068e_11 : decode cJ0_charAt_5068e 11 = .ok (.iload_n 1, 1) := by decide +kernel
theorem dJ0_charAt_5068e_12 : decode cJ0_charAt_5068e 12 = .ok (.invokestatic 495, 3) := by decide +kernel
theorem dJ0_charAt_5068e_15 : decode cJ0_charAt_5068e 15 = .ok (.ireturn, 1) := by decide +kernel
theorem dJ0_charAt_5068e_16 : decode cJ0_charAt_5068e 16 = .ok (.aload_n 0, 1) := by decide +kernel
theorem dJ0_charAt_5068e_17 : decode cJ0_charAt_5068e 17 = .ok (.getfield 9, 3) := by decide +kernel
theorem dJ0_charAt_5068e_20 : decode cJ0_charAt_5068e 20 = .ok (.iload_n 1, 1) := by decide +kernel
theorem dJ0_charAt_5068e_21 : decode cJ0_charAt_5068e 21 = .ok (.invokestatic 498, 3) := by decide +kernel
theorem dJ0_charAt_5068e_24 : decode cJ0_charAt_5068e 24 = .ok (.ireturn, 1) := by decide +kernel
theorem dJ0_indexOf_0f7a4_0 : decode cJ0_indexOf_0f7a4 0 = .ok (.aload_n 0, 1) := by decide +kernel
theorem dJ0_indexOf_0f7a4_1 : decode cJ0_indexOf_0f7a4 1 = .ok (.iload_n 1, 1) := by decide +kernel
theorem dJ0_indexOf_0f7a4_2 : decode cJ0_indexOf_0f7a4 2 = .ok (.iconst 0, 1) := by decide +kernel
theorem dJ0_indexOf_0f7a4_3 : decode cJ0_indexOf_0f7a4 3 = .ok (.invokevirtual 633, 3) := by decide +kernel
theorem dJ0_indexOf_0f7a4_6 : decode cJ0_indexOf_0f7a4 6 = .ok (.ireturn, 1) := by decide +kernel
theorem dJ0_indexOf_7cf53_0 : decode cJ0_indexOf_7cf53 0 = .ok (.aload_n 0, 1) := by decide +kernel
theorem dJ0_indexOf_7cf53_1 : decode cJ0_indexOf_7cf53 1 = .ok (.invokevirtual 492, 3) := by decide +kernel
theorem dJ0_indexOf_7cf53_4 : decode cJ0_indexOf_7cf53 4 = .ok (.ifCond .eq 19, 3) := by decide +kernel
theorem dJ0_indexOf_7cf53_7 : decode cJ0_indexOf_7cf53 7 = .ok (.aload_n 0, 1) := by decide +kernel
theorem dJ0_indexOf_7cf53_8 : decode cJ0_indexOf_7cf53 8 = .ok (.getfield 9, 3) := by decide +kernel
theorem dJ0_indexOf_7cf53_11 : decode cJ0_indexOf_7cf53 11 = .ok (.iload_n 1, 1) := by decide +kernel
theorem dJ0_indexOf_7cf53_12 : decode cJ0_indexOf_7cf53 12 = .ok (.iload_n 2, 1) := by decide +kernel
theorem dJ0_indexOf_7cf53_13 : decode cJ0_indexOf_7cf53 13 = .ok (.aload_n 0, 1) := by decide +kernel
theorem dJ0_indexOf_7cf53_14 : decode cJ0_indexOf_7cf53 14 = .ok (.invokevirtual 505, 3) := by decide +kernel
theorem dJ0_indexOf_7cf53_17 : decode cJ0_indexOf_7cf53 17 = .ok (.invokestatic 637, 3) := by decide +kernel
theorem dJ0_indexOf_7cf53_20 : decode cJ0_indexOf_7cf53 20 = .ok (.goto 16, 3) := by decide +kernel
theorem dJ0_indexOf_7cf53_23 : decode cJ0_indexOf_7cf53 23 = .ok (.aload_n 0, 1) := by decide +kernel
theorem dJ0_indexOf_7cf53_24 : decode cJ0_indexOf_7cf53 24 = .ok (.getfield 9, 3) := by decide +kernel
theorem dJ0_indexOf_7cf53_27 : decode cJ0_indexOf_7cf53 27 = .ok (.iload_n 1, 1) := by decide +kernel
theorem dJ0_indexOf_7cf53_28 : decode cJ0_indexOf_7cf53 28 = .ok (.iload_n 2, 1) := by decide +kernel
theorem dJ0_indexOf_7cf53_29 : decode cJ0_indexOf_7cf53 29 = .ok (.aload_n 0, 1) := by decide +kernel
theorem dJ0_indexOf_7cf53_30 : decode cJ0_indexOf_7cf53 30 = .ok (.invokevirtual 505, 3) := by decide +kernel
theorem dJ0_indexOf_7cf53_33 : decode cJ0_indexOf_7cf53 33 = .ok (.invokestatic 640, 3) := by decide +kernel
theorem dJ0_indexOf_7cf53_36 : decode cJ0_indexOf_7cf53 36 = .ok (.ireturn, 1) := by decide +kernel
theorem dJ0_coder_7d493_0 : decode cJ0_coder_7d493 0 = .ok (.getstatic 38, 3) := by decide +kernel
theorem dJ0_coder_7d493_3 : decode cJ0_coder_7d493 3 = .ok (.ifCond .eq 10, 3) := by decide +kernel
theorem dJ0_coder_7d493_6 : decode cJ0_coder_7d493 6 = .ok (.aload_n 0, 1) := by decide +kernel
theorem dJ0_coder_7d493_7 : decode cJ0_coder_7d493 7 = .ok (.getfield 15, 3) := by decide +kernel
theorem dJ0_coder_7d493_10 : decode cJ0_coder_7d493 10 = .ok (.goto 4, 3) := by decide +kernel
theorem dJ0_coder_7d493_13 : decode cJ0_coder_7d493 13 = .ok (.iconst 1, 1) := by decide +kernel
theorem dJ0_coder_7d493_14 : decode cJ0_coder_7d493 14 = .ok (.ireturn, 1) := by decide +kernel
theorem dJ0_isLatin1_aae02_0 : decode cJ0_isLatin1_aae02 0 = .ok (.getstatic 38, 3) := by decide +kernel
theorem dJ0_isLatin1_aae02_3 : decode cJ0_isLatin1_aae02 3 = .ok (.ifCond .eq 14, 3) := by decide +kernel
theorem dJ0_isLatin1_aae02_6 : decode cJ0_isLatin1_aae02 6 = .ok (.aload_n 0, 1) := by decide +kernel
theorem dJ0_isLatin1_aae02_7 : decode cJ0_isLatin1_aae02 7 = .ok (.getfield 15, 3) := by decide +kernel
theorem dJ0_isLatin1_aae02_10 : decode cJ0_isLatin1_aae02 10 = .ok (.ifCond .ne 7, 3) := by decide +kernel
theorem dJ0_isLatin1_aae02_13 : decode cJ0_isLatin1_aae02 13 = .ok (.iconst 1, 1) := by decide +kernel
theorem dJ0_isLatin1_aae02_14 : decode cJ0_isLatin1_aae02 14 = .ok (.goto 4, 3) := by decide +kernel
theorem dJ0_isLatin1_aae02_17 : decode cJ0_isLatin1_aae02 17 = .ok (.iconst 0, 1) := by decide +kernel
theorem dJ0_isLatin1_aae02_18 : decode cJ0_isLatin1_aae02 18 = .ok (.ireturn, 1) := by decide +kernel
theorem dJ0_checkIndex_df160_0 : decode cJ0_checkIndex_df160 0 = .ok (.iload_n 0, 1) := by decide +kernel
theorem dJ0_checkIndex_df160_1 : decode cJ0_checkIndex_df160 1 = .ok (.iload_n 1, 1) := by decide +kernel
theorem dJ0_checkIndex_df160_2 : decode cJ0_checkIndex_df160 2 = .ok (.getstatic 1053, 3) := by decide +kernel
theorem dJ0_checkIndex_df160_5 : decode cJ0_checkIndex_df160 5 = .ok (.invokestatic 1059, 3) := by decide +kernel
theorem dJ0_checkIndex_df160_8 : decode cJ0_checkIndex_df160 8 = .ok (.pop, 1) := by decide +kernel
theorem dJ0_checkIndex_df160_9 : decode cJ0_checkIndex_df160 9 = .ok (.return_, 1) := by decide +kernel
theorem dJ0_checkBoundsBeginEnd_23922_0 : decode cJ0_checkBoundsBeginEnd_23922 0 = .ok (.iload_n 0, 1) := by decide +kernel
theorem dJ0_checkBoundsBeginEnd_23922_1 : decode cJ0_checkBoundsBeginEnd_23922 1 = .ok (.iload_n 1, 1) := by decide +kernel
theorem dJ0_checkBoundsBeginEnd_23922_2 : decode cJ0_checkBoundsBeginEnd_23922 2 = .ok (.iload_n 2, 1) := by decide +kernel
theorem dJ0_checkBoundsBeginEnd_23922_3 : decode cJ0_checkBoundsBeginEnd_23922 3 = .ok (.getstatic 1053, 3) := by decide +kernel
theorem dJ0_checkBoundsBeginEnd_23922_6 : decode cJ0_checkBoundsBeginEnd_23922 6 = .ok (.invokestatic 1062, 3) := by decide +kernel
theorem dJ0_checkBoundsBeginEnd_23922_9 : decode cJ0_checkBoundsBeginEnd_23922 9 = .ok (.pop, 1) := by decide +kernel
theorem dJ0_checkBoundsBeginEnd_23922_10 : decode cJ0_checkBoundsBeginEnd_23922 10 = .ok (.return_, 1) := by decide +kernel
theorem dJ1_charAt_3b067_0 : decode cJ1_charAt_3b067 0 = .ok (.iload_n 1, 1) := by decide +kernel
theorem dJ1_charAt_3b067_1 : decode cJ1_charAt_3b067 1 = .ok (.aload_n 0, 1) := by decide +kernel
theorem dJ1_charAt_3b067_2 : decode cJ1_charAt_3b067 2 = .ok (.arraylength, 1) := by decide +kernel
theorem dJ1_charAt_3b067_3 : decode cJ1_charAt_3b067 3 = .ok (.invokestatic 9, 3) := by decide +kernel
theorem dJ1_charAt_3b067_6 : decode cJ1_charAt_3b067 6 = .ok (.aload_n 0, 1) := by decide +kernel
theorem dJ1_charAt_3b067_7 : decode cJ1_charAt_3b067 7 = .ok (.iload_n 1, 1) := by decide +kernel
theorem dJ1_charAt_3b067_8 : decode cJ1_charAt_3b067 8 = .ok (.baload, 1) := by decide +kernel
theorem dJ1_charAt_3b067_9 : decode cJ1_charAt_3b067 9 = .ok (.sipush 255, 3) := by decide +kernel
theorem dJ1_charAt_3b067_12 : decode cJ1_charAt_3b067 12 = .ok (.iand, 1) := by decide +kernel
theorem dJ1_charAt_3b067_13 : decode cJ1_charAt_3b067 13 = .ok (.i2c, 1) := by decide +kernel
theorem dJ1_charAt_3b067_14 : decode cJ1_charAt_3b067 14 = .ok (.ireturn, 1) := by decide +kernel
theorem dJ1_canEncode_9a6ad_0 : decode cJ1_canEncode_9a6ad 0 = .ok (.iload_n 0, 1) := by decide +kernel
theorem dJ1_canEncode_9a6ad_1 : decode cJ1_canEncode_9a6ad 1 = .ok (.ifCond .lt 14, 3) := by decide +kernel
theorem dJ1_canEncode_9a6ad_4 : decode cJ1_canEncode_9a6ad 4 = .ok (.iload_n 0, 1) := by decide +kernel
theorem dJ1_canEncode_9a6ad_5 : decode cJ1_canEncode_9a6ad 5 = .ok (.sipush 255, 3) := by decide +kernel
theorem dJ1_canEncode_9a6ad_8 : decode cJ1_canEncode_9a6ad 8 = .ok (.if_icmp .gt 7, 3) := by decide +kernel
theorem dJ1_canEncode_9a6ad_11 : decode cJ1_canEncode_9a6ad 11 = .ok (.iconst 1, 1) := by decide +kernel
theorem dJ1_canEncode_9a6ad_12 : decode cJ1_canEncode_9a6ad 12 = .ok (.goto 4, 3) := by decide +kernel
theorem dJ1_canEncode_9a6ad_15 : decode cJ1_canEncode_9a6ad 15 = .ok (.iconst 0, 1) := by decide +kernel
theorem dJ1_canEncode_9a6ad_16 : decode cJ1_canEncode_9a6ad 16 = .ok (.ireturn, 1) := by decide +kernel
theorem dJ1_indexOf_4cfef_0 : decode cJ1_indexOf_4cfef 0 = .ok (.iload_n 1, 1) := by decide +kernel
theorem dJ1_indexOf_4cfef_1 : decode cJ1_indexOf_4cfef 1 = .ok (.invokestatic 88, 3) := by decide +kernel
theorem dJ1_indexOf_4cfef_4 : decode cJ1_indexOf_4cfef 4 = .ok (.ifCond .ne 5, 3) := by decide +kernel
theorem dJ1_indexOf_4cfef_7 : decode cJ1_indexOf_4cfef 7 = .ok (.iconst (-1), 1) := by decide +kernel
theorem dJ1_indexOf_4cfef_8 : decode cJ1_indexOf_4cfef 8 = .ok (.ireturn, 1) := by decide +kernel
theorem dJ1_indexOf_4cfef_9 : decode cJ1_indexOf_4cfef 9 = .ok (.iload_n 2, 1) := by decide +kernel
theorem dJ1_indexOf_4cfef_10 : decode cJ1_indexOf_4cfef 10 = .ok (.iconst 0, 1) := by decide +kernel
theorem dJ1_indexOf_4cfef_11 : decode cJ1_indexOf_4cfef 11 = .ok (.invokestatic 92, 3) := by decide +kernel
theorem dJ1_indexOf_4cfef_14 : decode cJ1_indexOf_4cfef 14 = .ok (.istore_n 2, 1) := by decide +kernel
theorem dJ1_indexOf_4cfef_15 : decode cJ1_indexOf_4cfef 15 = .ok (.iload_n 3, 1) := by decide +kernel
theorem dJ1_indexOf_4cfef_16 : decode cJ1_indexOf_4cfef 16 = .ok (.aload_n 0, 1) := by decide +kernel
theorem dJ1_indexOf_4cfef_17 : decode cJ1_indexOf_4cfef 17 = .ok (.arraylength, 1) := by decide +kernel
theorem dJ1_indexOf_4cfef_18 : decode cJ1_indexOf_4cfef 18 = .ok (.invokestatic 38, 3) := by decide +kernel
theorem dJ1_indexOf_4cfef_21 : decode cJ1_indexOf_4cfef 21 = .ok (.istore_n 3, 1) := by decide +kernel
theorem dJ1_indexOf_4cfef_22 : decode cJ1_indexOf_4cfef 22 = .ok (.iload_n 2, 1) := by decide +kernel
theorem dJ1_indexOf_4cfef_23 : decode cJ1_indexOf_4cfef 23 = .ok (.iload_n 3, 1) := by decide +kernel
theorem dJ1_indexOf_4cfef_24 : decode cJ1_indexOf_4cfef 24 = .ok (.if_icmp .lt 5, 3) := by decide +kernel
theorem dJ1_indexOf_4cfef_27 : decode cJ1_indexOf_4cfef 27 = .ok (.iconst (-1), 1) := by decide +kernel
theorem dJ1_indexOf_4cfef_28 : decode cJ1_indexOf_4cfef 28 = .ok (.ireturn, 1) := by decide +kernel
theorem dJ1_indexOf_4cfef_29 : decode cJ1_indexOf_4cfef 29 = .ok (.aload_n 0, 1) := by decide +kernel
theorem dJ1_indexOf_4cfef_30 : decode cJ1_indexOf_4cfef 30 = .ok (.iload_n 1, 1) := by decide +kernel
theorem dJ1_indexOf_4cfef_31 : decode cJ1_indexOf_4cfef 31 = .ok (.iload_n 2, 1) := by decide +kernel
theorem dJ1_indexOf_4cfef_32 : decode cJ1_indexOf_4cfef 32 = .ok (.iload_n 3, 1) := by decide +kernel
theorem dJ1_indexOf_4cfef_33 : decode cJ1_indexOf_4cfef 33 = .ok (.invokestatic 95, 3) := by decide +kernel
theorem dJ1_indexOf_4cfef_36 : decode cJ1_indexOf_4cfef 36 = .ok (.ireturn, 1) := by decide +kernel
theorem dJ1_indexOfChar_4cfef_0 : decode cJ1_indexOfChar_4cfef 0 = .ok (.iload_n 1, 1) := by decide +kernel
theorem dJ1_indexOfChar_4cfef_1 : decode cJ1_indexOfChar_4cfef 1 = .ok (.i2b, 1) := by decide +kernel
theorem dJ1_indexOfChar_4cfef_2 : decode cJ1_indexOfChar_4cfef 2 = .ok (.istore 4, 2) := by decide +kernel
theorem dJ1_indexOfChar_4cfef_4 : decode cJ1_indexOfChar_4cfef 4 = .ok (.iload_n 2, 1) := by decide +kernel
theorem dJ1_indexOfChar_4cfef_5 : decode cJ1_indexOfChar_4cfef 5 = .ok (.istore 5, 2) := by decide +kernel
theorem dJ1_indexOfChar_4cfef_7 : decode cJ1_indexOfChar_4cfef 7 = .ok (.iload 5, 2) := by decide +kernel
theorem dJ1_indexOfChar_4cfef_9 : decode cJ1_indexOfChar_4cfef 9 = .ok (.iload_n 3, 1) := by decide +kernel
theorem dJ1_indexOfChar_4cfef_10 : decode cJ1_indexOfChar_4cfef 10 = .ok (.if_icmp .ge 21, 3) := by decide +kernel
theorem dJ1_indexOfChar_4cfef_13 : decode cJ1_indexOfChar_4cfef 13 = .ok (.aload_n 0, 1) := by decide +kernel
theorem dJ1_indexOfChar_4cfef_14 : decode cJ1_indexOfChar_4cfef 14 = .ok (.iload 5, 2) := by decide +kernel
theorem dJ1_indexOfChar_4cfef_16 : decode cJ1_indexOfChar_4cfef 16 = .ok (.baload, 1) := by decide +kernel
theorem dJ1_indexOfChar_4cfef_17 : decode cJ1_indexOfChar_4cfef 17 = .ok (.iload 4, 2) := by decide +kernel
theorem dJ1_indexOfChar_4cfef_19 : decode cJ1_indexOfChar_4cfef 19 = .ok (.if_icmp .ne 6, 3) := by decide +kernel
theorem dJ1_indexOfChar_4cfef_22 : decode cJ1_indexOfChar_4cfef 22 = .ok (.iload 5, 2) := by decide +kernel
theorem dJ1_indexOfChar_4cfef_24 : decode cJ1_indexOfChar_4cfef 24 = .ok (.ireturn, 1) := by decide +kernel
theorem dJ1_indexOfChar_4cfef_25 : decode cJ1_indexOfChar_4cfef 25 = .ok (.iinc 5 1, 3) := by decide +kernel
theorem dJ1_indexOfChar_4cfef_28 : decode cJ1_indexOfChar_4cfef 28 = .ok (.goto (-21), 3) := by decide +kernel
theorem dJ1_indexOfChar_4cfef_31 : decode cJ1_indexOfChar_4cfef 31 = .ok (.iconst (-1), 1) := by decide +kernel
theorem dJ1_indexOfChar_4cfef_32 : decode cJ1_indexOfChar_4cfef 32 = .ok (.ireturn, 1) := by decide +kernel
theorem dJ2_getChar_3b067_0 : decode cJ2_getChar_3b067 0 = .ok (.getstatic 44, 3) := by decide +kernel
theorem dJ2_getChar_3b067_3 : decode cJ2_getChar_3b067 3 = .ok (.ifCond .ne 25, 3) := by decide +kernel
theorem dJ2_getChar_3b067_6 : decode cJ2_getChar_3b067 6 = .ok (.iload_n 1, 1) := by decide +kernel
theorem dJ2_getChar_3b067_7 : decode cJ2_getChar_3b067 7 = .ok (.ifCond .lt 11, 3) := by decide +kernel
theorem dJ2_getChar_3b067_10 : decode cJ2_getChar_3b067 10 = .ok (.iload_n 1, 1) := by decide +kernel
theorem dJ2_getChar_3b067_11 : decode cJ2_getChar_3b067 11 = .ok (.aload_n 0, 1) := by decide +kernel
theorem dJ2_getChar_3b067_12 : decode cJ2_getChar_3b067 12 = .ok (.invokestatic 48, 3) := by decide +kernel
theorem dJ2_getChar_3b067_15 : decode cJ2_getChar_3b067 15 = .ok (.if_icmp .lt 13, 3) := by decide +kernel
theorem dJ2_getChar_3b067_18 : decode cJ2_getChar_3b067 18 = .ok (.new 52, 3) := by decide +kernel
theorem dJ2_getChar_3b067_21 : decode cJ2_getChar_3b067 21 = .ok (.dup, 1) := by decide +kernel
theorem dJ2_getChar_3b067_22 : decode cJ2_getChar_3b067 22 = .ok (.ldc 54, 2) := by decide +kernel
theorem dJ2_getChar_3b067_24 : decode cJ2_getChar_3b067 24 = .ok (.invokespecial 56, 3) := by decide +kernel
theorem dJ2_getChar_3b067_27 : decode cJ2_getChar_3b067 27 = .ok (.athrow, 1) := by decide +kernel
theorem dJ2_getChar_3b067_28 : decode cJ2_getChar_3b067 28 = .ok (.iload_n 1, 1) := by decide +kernel
theorem dJ2_getChar_3b067_29 : decode cJ2_getChar_3b067 29 = .ok (.iconst 1, 1) := by decide +kernel
theorem dJ2_getChar_3b067_30 : decode cJ2_getChar_3b067 30 = .ok (.ishl, 1) := by decide +kernel
theorem dJ2_getChar_3b067_31 : decode cJ2_getChar_3b067 31 = .ok (.istore_n 1, 1) := by decide +kernel
theorem dJ2_getChar_3b067_32 : decode cJ2_getChar_3b067 32 = .ok (.aload_n 0, 1) := by decide +kernel
theorem dJ2_getChar_3b067_33 : decode cJ2_getChar_3b067 33 = .ok (.iload_n 1, 1) := by decide +kernel
theorem dJ2_getChar_3b067_34 : decode cJ2_getChar_3b067 34 = .ok (.iinc 1 1, 3) := by decide +kernel
theorem dJ2_getChar_3b067_37 : decode cJ2_getChar_3b067 37 = .ok (.baload, 1) := by decide +kernel
theorem dJ2_getChar_3b067_38 : decode cJ2_getChar_3b067 38 = .ok (.sipush 255, 3) := by decide +kernel
theorem dJ2_getChar_3b067_41 : decode cJ2_getChar_3b067 41 = .ok (.iand, 1) := by decide +kernel
theorem dJ2_getChar_3b067_42 : decode cJ2_getChar_3b067 42 = .ok (.getstatic 59, 3) := by decide +kernel
theorem dJ2_getChar_3b067_45 : decode cJ2_getChar_3b067 45 = .ok (.ishl, 1) := by decide +kernel
theorem dJ2_getChar_3b067_46 : decode cJ2_getChar_3b067 46 = .ok (.aload_n 0, 1) := by decide +kernel
theorem dJ2_getChar_3b067_47 : decode cJ2_getChar_3b067 47 = .ok (.iload_n 1, 1) := by decide +kernel
theorem dJ2_getChar_3b067_48 : decode cJ2_getChar_3b067 48 = .ok (.baload, 1) := by decide +kernel
theorem dJ2_getChar_3b067_49 : decode cJ2_getChar_3b067 49 = .ok (.sipush 255, 3) := by decide +kernel
theorem dJ2_getChar_3b067_52 : decode cJ2_getChar_3b067 52 = .ok (.iand, 1) := by decide +kernel
theorem dJ2_getChar_3b067_53 : decode cJ2_getChar_3b067 53 = .ok (.getstatic 63, 3) := by decide +kernel
theorem dJ2_getChar_3b067_56 : decode cJ2_getChar_3b067 56 = .ok (.ishl, 1) := by decide +kernel
theorem dJ2_getChar_3b067_57 : decode cJ2_getChar_3b067 57 = .ok (.ior, 1) := by decide +kernel
theorem dJ2_getChar_3b067_58 : decode cJ2_getChar_3b067 58 = .ok (.i2c, 1) := by decide +kernel
theorem dJ2_getChar_3b067_59 : decode cJ2_getChar_3b067 59 = .ok (.ireturn, 1) := by decide +kernel
theorem dJ2_length_9d52b_0 : decode cJ2_length_9d52b 0 = .ok (.aload_n 0, 1) := by decide +kernel
theorem dJ2_length_9d52b_1 : decode cJ2_length_9d52b 1 = .ok (.arraylength, 1) := by decide +kernel
theorem dJ2_length_9d52b_2 : decode cJ2_length_9d52b 2 = .ok (.iconst 1, 1) := by decide +kernel
theorem dJ2_length_9d52b_3 : decode cJ2_length_9d52b 3 = .ok (.ishr, 1) := by decide +kernel
theorem dJ2_length_9d52b_4 : decode cJ2_length_9d52b 4 = .ok (.ireturn, 1) := by decide +kernel
theorem dJ2_indexOf_4cfef_0 : decode cJ2_indexOf_4cfef 0 = .ok (.iload_n 2, 1) := by decide +kernel
theorem dJ2_indexOf_4cfef_1 : decode cJ2_indexOf_4cfef 1 = .ok (.iconst 0, 1) := by decide +kernel
theorem dJ2_indexOf_4cfef_2 : decode cJ2_indexOf_4cfef 2 = .ok (.invokestatic 224, 3) := by decide +kernel
theorem dJ2_indexOf_4cfef_5 : decode cJ2_indexOf_4cfef 5 = .ok (.istore_n 2, 1) := by decide +kernel
theorem dJ2_indexOf_4cfef_6 : decode cJ2_indexOf_4cfef 6 = .ok (.iload_n 3, 1) := by decide +kernel
theorem dJ2_indexOf_4cfef_7 : decode cJ2_indexOf_4cfef 7 = .ok (.aload_n 0, 1) := by decide +kernel
theorem dJ2_indexOf_4cfef_8 : decode cJ2_indexOf_4cfef 8 = .ok (.arraylength, 1) := by decide +kernel
theorem dJ2_indexOf_4cfef_9 : decode cJ2_indexOf_4cfef 9 = .ok (.iconst 1, 1) := by decide +kernel
theorem dJ2_indexOf_4cfef_10 : decode cJ2_indexOf_4cfef 10 = .ok (.ishr, 1) := by decide +kernel
theorem dJ2_indexOf_4cfef_11 : decode cJ2_indexOf_4cfef 11 = .ok (.invokestatic 183, 3) := by decide +kernel
theorem dJ2_indexOf_4cfef_14 : decode cJ2_indexOf_4cfef 14 = .ok (.istore_n 3, 1) := by decide +kernel
theorem dJ2_indexOf_4cfef_15 : decode cJ2_indexOf_4cfef 15 = .ok (.iload_n 2, 1) := by decide +kernel
theorem dJ2_indexOf_4cfef_16 : decode cJ2_indexOf_4cfef 16 = .ok (.iload_n 3, 1) := by decide +kernel
theorem dJ2_indexOf_4cfef_17 : decode cJ2_indexOf_4cfef 17 = .ok (.if_icmp .lt 5, 3) := by decide +kernel
theorem dJ2_indexOf_4cfef_20 : decode cJ2_indexOf_4cfef 20 = .ok (.iconst (-1), 1) := by decide +kernel
theorem dJ2_indexOf_4cfef_21 : decode cJ2_indexOf_4cfef 21 = .ok (.ireturn, 1) := by decide +kernel
theorem dJ2_indexOf_4cfef_22 : decode cJ2_indexOf_4cfef 22 = .ok (.iload_n 1, 1) := by decide +kernel
theorem dJ2_indexOf_4cfef_23 : decode cJ2_indexOf_4cfef 23 = .ok (.ldc 227, 2) := by decide +kernel
theorem dJ2_indexOf_4cfef_25 : decode cJ2_indexOf_4cfef 25 = .ok (.if_icmp .ge 11, 3) := by decide +kernel
theorem dJ2_indexOf_4cfef_28 : decode cJ2_indexOf_4cfef 28 = .ok (.aload_n 0, 1) := by decide +kernel
theorem dJ2_indexOf_4cfef_29 : decode cJ2_indexOf_4cfef 29 = .ok (.iload_n 1, 1) := by decide +kernel
theorem dJ2_indexOf_4cfef_30 : decode cJ2_indexOf_4cfef 30 = .ok (.iload_n 2, 1) := by decide +kernel
theorem dJ2_indexOf_4cfef_31 : decode cJ2_indexOf_4cfef 31 = .ok (.iload_n 3, 1) := by decide +kernel
theorem dJ2_indexOf_4cfef_32 : decode cJ2_indexOf_4cfef 32 = .ok (.invokestatic 228, 3) := by decide +kernel
theorem dJ2_indexOf_4cfef_35 : decode cJ2_indexOf_4cfef 35 = .ok (.ireturn, 1) := by decide +kernel
theorem dJ2_indexOf_4cfef_36 : decode cJ2_indexOf_4cfef 36 = .ok (.aload_n 0, 1) := by decide +kernel
theorem dJ2_indexOf_4cfef_37 : decode cJ2_indexOf_4cfef 37 = .ok (.iload_n 1, 1) := by decide +kernel
theorem dJ2_indexOf_4cfef_38 : decode cJ2_indexOf_4cfef 38 = .ok (.iload_n 2, 1) := by decide +kernel
theorem dJ2_indexOf_4cfef_39 : decode cJ2_indexOf_4cfef 39 = .ok (.iload_n 3, 1) := by decide +kernel
theorem dJ2_indexOf_4cfef_40 : decode cJ2_indexOf_4cfef 40 = .ok (.invokestatic 232, 3) := by decide +kernel
theorem dJ2_indexOf_4cfef_43 : decode cJ2_indexOf_4cfef 43 = .ok (.ireturn, 1) := by decide +kernel
theorem dJ2_indexOfChar_4cfef_0 : decode cJ2_indexOfChar_4cfef 0 = .ok (.iload_n 2, 1) := by decide +kernel
theorem dJ2_indexOfChar_4cfef_1 : decode cJ2_indexOfChar_4cfef 1 = .ok (.iload_n 3, 1) := by decide +kernel
theorem dJ2_indexOfChar_4cfef_2 : decode cJ2_indexOfChar_4cfef 2 = .ok (.aload_n 0, 1) := by decide +kernel
theorem dJ2_indexOfChar_4cfef_3 : decode cJ2_indexOfChar_4cfef 3 = .ok (.invokestatic 96, 3) := by decide +kernel
theorem dJ2_indexOfChar_4cfef_6 : decode cJ2_indexOfChar_4cfef 6 = .ok (.aload_n 0, 1) := by decide +kernel
theorem dJ2_indexOfChar_4cfef_7 : decode cJ2_indexOfChar_4cfef 7 = .ok (.iload_n 1, 1) := by decide +kernel
theorem dJ2_indexOfChar_4cfef_8 : decode cJ2_indexOfChar_4cfef 8 = .ok (.iload_n 2, 1) := by decide +kernel
theorem dJ2_indexOfChar_4cfef_9 : decode cJ2_indexOfChar_4cfef 9 = .ok (.iload_n 3, 1) := by decide +kernel
theorem dJ2_indexOfChar_4cfef_10 : decode cJ2_indexOfChar_4cfef 10 = .ok (.invokestatic 244, 3) := by decide +kernel
theorem dJ2_indexOfChar_4cfef_13 : decode cJ2_indexOfChar_4cfef 13 = .ok (.ireturn, 1) := by decide +kernel
theorem dJ2_indexOfCharUnsafe_4cfef_0 : decode cJ2_indexOfCharUnsafe_4cfef 0 = .ok (.iload_n 2, 1) := by decide +kernel
theorem dJ2_indexOfCharUnsafe_4cfef_1 : decode cJ2_indexOfCharUnsafe_4cfef 1 = .ok (.istore 4, 2) := by decide +kernel
theorem dJ2_indexOfCharUnsafe_4cfef_3 : decode cJ2_indexOfCharUnsafe_4cfef 3 = .ok (.iload 4, 2) := by decide +kernel
theorem dJ2_indexOfCharUnsafe_4cfef_5 : decode cJ2_indexOfCharUnsafe_4cfef 5 = .ok (.iload_n 3, 1) := by decide +kernel
theorem dJ2_indexOfCharUnsafe_4cfef_6 : decode cJ2_indexOfCharUnsafe_4cfef 6 = .ok (.if_icmp .ge 22, 3) := by decide +kernel
theorem dJ2_indexOfCharUnsafe_4cfef_9 : decode cJ2_indexOfCharUnsafe_4cfef 9 = .ok (.aload_n 0, 1) := by decide +kernel
theorem dJ2_indexOfCharUnsafe_4cfef_10 : decode cJ2_indexOfCharUnsafe_4cfef 10 = .ok (.iload 4, 2) := by decide +kernel
theorem dJ2_indexOfCharUnsafe_4cfef_12 : decode cJ2_indexOfCharUnsafe_4cfef 12 = .ok (.invokestatic 71, 3) := by decide +kernel
theorem dJ2_indexOfCharUnsafe_4cfef_15 : decode cJ2_indexOfCharUnsafe_4cfef 15 = .ok (.iload_n 1, 1) := by decide +kernel
theorem dJ2_indexOfCharUnsafe_4cfef_16 : decode cJ2_indexOfCharUnsafe_4cfef 16 = .ok (.if_icmp .ne 6, 3) := by decide +kernel
theorem dJ2_indexOfCharUnsafe_4cfef_19 : decode cJ2_indexOfCharUnsafe_4cfef 19 = .ok (.iload 4, 2) := by decide +kernel
theorem dJ2_indexOfCharUnsafe_4cfef_21 : decode cJ2_indexOfCharUnsafe_4cfef 21 = .ok (.ireturn, 1) := by decide +kernel
theorem dJ2_indexOfCharUnsafe_4cfef_22 : decode cJ2_indexOfCharUnsafe_4cfef 22 = .ok (.iinc 4 1, 3) := by decide +kernel
theorem dJ2_indexOfCharUnsafe_4cfef_25 : decode cJ2_indexOfCharUnsafe_4cfef 25 = .ok (.goto (-22), 3) := by decide +kernel
theorem dJ2_indexOfCharUnsafe_4cfef_28 : decode cJ2_indexOfCharUnsafe_4cfef 28 = .ok (.iconst (-1), 1) := by decide +kernel
theorem dJ2_indexOfCharUnsafe_4cfef_29 : decode cJ2_indexOfCharUnsafe_4cfef 29 = .ok (.ireturn, 1) := by decide +kernel
theorem dJ2_indexOfSupplementary_4cfef_0 : decode cJ2_indexOfSupplementary_4cfef 0 = .ok (.iload_n 1, 1) := by decide +kernel
theorem dJ2_indexOfSupplementary_4cfef_1 : decode cJ2_indexOfSupplementary_4cfef 1 = .ok (.invokestatic 164, 3) := by decide +kernel
theorem dJ2_indexOfSupplementary_4cfef_4 : decode cJ2_indexOfSupplementary_4cfef 4 = .ok (.ifCond .eq 65, 3) := by decide +kernel
theorem dJ2_indexOfSupplementary_4cfef_7 : decode cJ2_indexOfSupplementary_4cfef 7 = .ok (.iload_n 1, 1) := by decide +kernel
theorem dJ2_indexOfSupplementary_4cfef_8 : decode cJ2_indexOfSupplementary_4cfef 8 = .ok (.invokestatic 157, 3) := by decide +kernel
theorem dJ2_indexOfSupplementary_4cfef_11 : decode cJ2_indexOfSupplementary_4cfef 11 = .ok (.istore 4, 2) := by decide +kernel
theorem dJ2_indexOfSupplementary_4cfef_13 : decode cJ2_indexOfSupplementary_4cfef 13 = .ok (.iload_n 1, 1) := by decide +kernel
theorem dJ2_indexOfSupplementary_4cfef_14 : decode cJ2_indexOfSupplementary_4cfef 14 = .ok (.invokestatic 161, 3) := by decide +kernel
theorem dJ2_indexOfSupplementary_4cfef_17 : decode cJ2_indexOfSupplementary_4cfef 17 = .ok (.istore 5, 2) := by decide +kernel
theorem dJ2_indexOfSupplementary_4cfef_19 : decode cJ2_indexOfSupplementary_4cfef 19 = .ok (.iload_n 2, 1) := by decide +kernel
theorem dJ2_indexOfSupplementary_4cfef_20 : decode cJ2_indexOfSupplementary_4cfef 20 = .ok (.iload_n 3, 1) := by decide +kernel
theorem dJ2_indexOfSupplementary_4cfef_21 : decode cJ2_indexOfSupplementary_4cfef 21 = .ok (.aload_n 0, 1) := by decide +kernel
theorem dJ2_indexOfSupplementary_4cfef_22 : decode cJ2_indexOfSupplementary_4cfef 22 = .ok (.invokestatic 96, 3) := by decide +kernel
theorem dJ2_indexOfSupplementary_4cfef_25 : decode cJ2_indexOfSupplementary_4cfef 25 = .ok (.iload_n 2, 1) := by decide +kernel
theorem dJ2_indexOfSupplementary_4cfef_26 : decode cJ2_indexOfSupplementary_4cfef 26 = .ok (.istore 6, 2) := by decide +kernel
theorem dJ2_indexOfSupplementary_4cfef_28 : decode cJ2_indexOfSupplementary_4cfef 28 = .ok (.iload 6, 2) := by decide +kernel
theorem dJ2_indexOfSupplementary_4cfef_30 : decode cJ2_indexOfSupplementary_4cfef 30 = .ok (.iload_n 3, 1) := by decide +kernel
theorem dJ2_indexOfSupplementary_4cfef_31 : decode cJ2_indexOfSupplementary_4cfef 31 = .ok (.iconst 1, 1) := by decide +kernel
theorem dJ2_indexOfSupplementary_4cfef_32 : decode cJ2_indexOfSupplementary_4cfef 32 = .ok (.isub, 1) := by decide +kernel
theorem dJ2_indexOfSupplementary_4cfef_33 : decode cJ2_indexOfSupplementary_4cfef 33 = .ok (.if_icmp .ge 36, 3) := by decide +kernel
theorem dJ2_indexOfSupplementary_4cfef_36 : decode cJ2_indexOfSupplementary_4cfef 36 = .ok (.aload_n 0, 1) := by decide +kernel
theorem dJ2_indexOfSupplementary_4cfef_37 : decode cJ2_indexOfSupplementary_4cfef 37 = .ok (.iload 6, 2) := by decide +kernel
theorem dJ2_indexOfSupplementary_4cfef_39 : decode cJ2_indexOfSupplementary_4cfef 39 = .ok (.invokestatic 71, 3) := by decide +kernel
theorem dJ2_indexOfSupplementary_4cfef_42 : decode cJ2_indexOfSupplementary_4cfef 42 = .ok (.iload 4, 2) := by decide +kernel
theorem dJ2_indexOfSupplementary_4cfef_44 : decode cJ2_indexOfSupplementary_4cfef 44 = .ok (.if_icmp .ne 19, 3) := by decide +kernel
theorem dJ2_indexOfSupplementary_4cfef_47 : decode cJ2_indexOfSupplementary_4cfef 47 = .ok (.aload_n 0, 1) := by decide +kernel
theorem dJ2_indexOfSupplementary_4cfef_48 : decode cJ2_indexOfSupplementary_4cfef 48 = .ok (.iload 6, 2) := by decide +kernel
theorem dJ2_indexOfSupplementary_4cfef_50 : decode cJ2_indexOfSupplementary_4cfef 50 = .ok (.iconst 1, 1) := by decide +kernel
theorem dJ2_indexOfSupplementary_4cfef_51 : decode cJ2_indexOfSupplementary_4cfef 51 = .ok (.iadd, 1) := by decide +kernel
theorem dJ2_indexOfSupplementary_4cfef_52 : decode cJ2_indexOfSupplementary_4cfef 52 = .ok (.invokestatic 71, 3) := by decide +kernel
theorem dJ2_indexOfSupplementary_4cfef_55 : decode cJ2_indexOfSupplementary_4cfef 55 = .ok (.iload 5, 2) := by decide +kernel
theorem dJ2_indexOfSupplementary_4cfef_57 : decode cJ2_indexOfSupplementary_4cfef 57 = .ok (.if_icmp .ne 6, 3) := by decide +kernel
theorem dJ2_indexOfSupplementary_4cfef_60 : decode cJ2_indexOfSupplementary_4cfef 60 = .ok (.iload 6, 2) := by decide +kernel
theorem dJ2_indexOfSupplementary_4cfef_62 : decode cJ2_indexOfSupplementary_4cfef 62 = .ok (.ireturn, 1) := by decide +kernel
theorem dJ2_indexOfSupplementary_4cfef_63 : decode cJ2_indexOfSupplementary_4cfef 63 = .ok (.iinc 6 1, 3) := by decide +kernel
theorem dJ2_indexOfSupplementary_4cfef_66 : decode cJ2_indexOfSupplementary_4cfef 66 = .ok (.goto (-38), 3) := by decide +kernel
theorem dJ2_indexOfSupplementary_4cfef_69 : decode cJ2_indexOfSupplementary_4cfef 69 = .ok (.iconst (-1), 1) := by decide +kernel
theorem dJ2_indexOfSupplementary_4cfef_70 : decode cJ2_indexOfSupplementary_4cfef 70 = .ok (.ireturn, 1) := by decide +kernel
theorem dJ2_charAt_3b067_0 : decode cJ2_charAt_3b067 0 = .ok (.iload_n 1, 1) := by decide +kernel
theorem dJ2_charAt_3b067_1 : decode cJ2_charAt_3b067 1 = .ok (.aload_n 0, 1) := by decide +kernel
theorem dJ2_charAt_3b067_2 : decode cJ2_charAt_3b067 2 = .ok (.invokestatic 67, 3) := by decide +kernel
theorem dJ2_charAt_3b067_5 : decode cJ2_charAt_3b067 5 = .ok (.aload_n 0, 1) := by decide +kernel
theorem dJ2_charAt_3b067_6 : decode cJ2_charAt_3b067 6 = .ok (.iload_n 1, 1) := by decide +kernel
theorem dJ2_charAt_3b067_7 : decode cJ2_charAt_3b067 7 = .ok (.invokestatic 71, 3) := by decide +kernel
theorem dJ2_charAt_3b067_10 : decode cJ2_charAt_3b067 10 = .ok (.ireturn, 1) := by decide +kernel
theorem dJ2_checkIndex_2214a_0 : decode cJ2_checkIndex_2214a 0 = .ok (.iload_n 0, 1) := by decide +kernel
theorem dJ2_checkIndex_2214a_1 : decode cJ2_checkIndex_2214a 1 = .ok (.aload_n 1, 1) := by decide +kernel
theorem dJ2_checkIndex_2214a_2 : decode cJ2_checkIndex_2214a 2 = .ok (.invokestatic 48, 3) := by decide +kernel
theorem dJ2_checkIndex_2214a_5 : decode cJ2_checkIndex_2214a 5 = .ok (.invokestatic 414, 3) := by decide +kernel
theorem dJ2_checkIndex_2214a_8 : decode cJ2_checkIndex_2214a 8 = .ok (.return_, 1) := by decide +kernel
theorem dJ2_checkBoundsBeginEnd_d044e_0 : decode cJ2_checkBoundsBeginEnd_d044e 0 = .ok (.iload_n 0, 1) := by decide +kernel
theorem dJ2_checkBoundsBeginEnd_d044e_1 : decode cJ2_checkBoundsBeginEnd_d044e 1 = .ok (.iload_n 1, 1) := by decide +kernel
theorem dJ2_checkBoundsBeginEnd_d044e_2 : decode cJ2_checkBoundsBeginEnd_d044e 2 = .ok (.aload_n 2, 1) := by decide +kernel
theorem dJ2_checkBoundsBeginEnd_d044e_3 : decode cJ2_checkBoundsBeginEnd_d044e 3 = .ok (.invokestatic 48, 3) := by decide +kernel
theorem dJ2_checkBoundsBeginEnd_d044e_6 : decode cJ2_checkBoundsBeginEnd_d044e 6 = .ok (.invokestatic 241, 3) := by decide +kernel
theorem dJ2_checkBoundsBeginEnd_d044e_9 : decode cJ2_checkBoundsBeginEnd_d044e 9 = .ok (.return_, 1) := by decide +kernel
theorem dJ3_checkIndex_8e157_0 : decode cJ3_checkIndex_8e157 0 = .ok (.iload_n 0, 1) := by decide +kernel
theorem dJ3_checkIndex_8e157_1 : decode cJ3_checkIndex_8e157 1 = .ok (.ifCond .lt 8, 3) := by decide +kernel
theorem dJ3_checkIndex_8e157_4 : decode cJ3_checkIndex_8e157 4 = .ok (.iload_n 0, 1) := by decide +kernel
theorem dJ3_checkIndex_8e157_5 : decode cJ3_checkIndex_8e157 5 = .ok (.iload_n 1, 1) := by decide +kernel
theorem dJ3_checkIndex_8e157_6 : decode cJ3_checkIndex_8e157 6 = .ok (.if_icmp .lt 10, 3) := by decide +kernel
theorem dJ3_checkIndex_8e157_9 : decode cJ3_checkIndex_8e157 9 = .ok (.aload_n 2, 1) := by decide +kernel
theorem dJ3_checkIndex_8e157_10 : decode cJ3_checkIndex_8e157 10 = .ok (.iload_n 0, 1) := by decide +kernel
theorem dJ3_checkIndex_8e157_11 : decode cJ3_checkIndex_8e157 11 = .ok (.iload_n 1, 1) := by decide +kernel
theorem dJ3_checkIndex_8e157_12 : decode cJ3_checkIndex_8e157 12 = .ok (.invokestatic 95, 3) := by decide +kernel
theorem dJ3_checkIndex_8e157_15 : decode cJ3_checkIndex_8e157 15 = .ok (.athrow, 1) := by decide +kernel
theorem dJ3_checkIndex_8e157_16 : decode cJ3_checkIndex_8e157 16 = .ok (.iload_n 0, 1) := by decide +kernel
theorem dJ3_checkIndex_8e157_17 : decode cJ3_checkIndex_8e157 17 = .ok (.ireturn, 1) := by decide +kernel
theorem dJ3_checkFromToIndex_8c36e_0 : decode cJ3_checkFromToIndex_8c36e 0 = .ok (.iload_n 0, 1) := by decide +kernel
theorem dJ3_checkFromToIndex_8c36e_1 : decode cJ3_checkFromToIndex_8c36e 1 = .ok (.ifCond .lt 13, 3) := by decide +kernel
theorem dJ3_checkFromToIndex_8c36e_4 : decode cJ3_checkFromToIndex_8c36e 4 = .ok (.iload_n 0, 1) := by decide +kernel
theorem dJ3_checkFromToIndex_8c36e_5 : decode cJ3_checkFromToIndex_8c36e 5 = .ok (.iload_n 1, 1) := by decide +kernel
theorem dJ3_checkFromToIndex_8c36e_6 : decode cJ3_checkFromToIndex_8c36e 6 = .ok (.if_icmp .gt 8, 3) := by decide +kernel
theorem dJ3_checkFromToIndex_8c36e_9 : decode cJ3_checkFromToIndex_8c36e 9 = .ok (.iload_n 1, 1) := by decide +kernel
theorem dJ3_checkFromToIndex_8c36e_10 : decode cJ3_checkFromToIndex_8c36e 10 = .ok (.iload_n 2, 1) := by decide +kernel
theorem dJ3_checkFromToIndex_8c36e_11 : decode cJ3_checkFromToIndex_8c36e 11 = .ok (.if_icmp .le 11, 3) := by decide +kernel
theorem dJ3_checkFromToIndex_8c36e_14 : decode cJ3_checkFromToIndex_8c36e 14 = .ok (.aload_n 3, 1) := by decide +kernel
theorem dJ3_checkFromToIndex_8c36e_15 : decode cJ3_checkFromToIndex_8c36e 15 = .ok (.iload_n 0, 1) := by decide +kernel
theorem dJ3_checkFromToIndex_8c36e_16 : decode cJ3_checkFromToIndex_8c36e 16 = .ok (.iload_n 1, 1) := by decide +kernel
theorem dJ3_checkFromToIndex_8c36e_17 : decode cJ3_checkFromToIndex_8c36e 17 = .ok (.iload_n 2, 1) := by decide +kernel
theorem dJ3_checkFromToIndex_8c36e_18 : decode cJ3_checkFromToIndex_8c36e 18 = .ok (.invokestatic 99, 3) := by decide +kernel
theorem dJ3_checkFromToIndex_8c36e_21 : decode cJ3_checkFromToIndex_8c36e 21 = .ok (.athrow, 1) := by decide +kernel
theorem dJ3_checkFromToIndex_8c36e_22 : decode cJ3_checkFromToIndex_8c36e 22 = .ok (.iload_n 0, 1) := by decide +kernel
theorem dJ3_checkFromToIndex_8c36e_23 : decode cJ3_checkFromToIndex_8c36e 23 = .ok (.ireturn, 1) := by decide +kernel
theorem dL_law_0 : decode cL_law 0 = .ok (.new 7, 3) := by decide +kernel
theorem dL_law_3 : decode cL_law 3 = .ok (.dup, 1) := by decide +kernel
theorem dL_law_4 : decode cL_law 4 = .ok (.invokespecial 9, 3) := by decide +kernel
theorem dL_law_7 : decode cL_law 7 = .ok (.astore_n 1, 1) := by decide +kernel
theorem dL_law_8 : decode cL_law 8 = .ok (.new 10, 3) := by decide +kernel
theorem dL_law_11 : decode cL_law 11 = .ok (.dup, 1) := by decide +kernel
theorem dL_law_12 : decode cL_law 12 = .ok (.invokespecial 12, 3) := by decide +kernel
theorem dL_law_15 : decode cL_law 15 = .ok (.astore_n 2, 1) := by decide +kernel
theorem dL_law_16 : decode cL_law 16 = .ok (.iconst 0, 1) := by decide +kernel
theorem dL_law_17 : decode cL_law 17 = .ok (.istore_n 3, 1) := by decide +kernel
theorem dL_law_18 : decode cL_law 18 = .ok (.iload_n 3, 1) := by decide +kernel
theorem dL_law_19 : decode cL_law 19 = .ok (.aload_n 0, 1) := by decide +kernel
theorem dL_law_20 : decode cL_law 20 = .ok (.arraylength, 1) := by decide +kernel
theorem dL_law_21 : decode cL_law 21 = .ok (.bipush 6, 2) := by decide +kernel
theorem dL_law_23 : decode cL_law 23 = .ok (.isub, 1) := by decide +kernel
theorem dL_law_24 : decode cL_law 24 = .ok (.if_icmp .gt 1521, 3) := by decide +kernel
theorem dL_law_27 : decode cL_law 27 = .ok (.aload_n 0, 1) := by decide +kernel
theorem dL_law_28 : decode cL_law 28 = .ok (.iload_n 3, 1) := by decide +kernel
theorem dL_law_29 : decode cL_law 29 = .ok (.iaload, 1) := by decide +kernel
theorem dL_law_30 : decode cL_law 30 = .ok (.bipush 63, 2) := by decide +kernel
theorem dL_law_32 : decode cL_law 32 = .ok (.iand, 1) := by decide +kernel
theorem dL_law_33 : decode cL_law 33 = .ok (.tableswitch 1506 0 42 #[187, 240, 273, 306, 339, 382, 415, 458, 491, 514, 537, 580, 603, 626, 649, 662, 695, 718, 761, 794, 807, 850, 883, 916, 939, 982, 1005, 1018, 1051, 1074, 1117, 1160, 1183, 1206, 1269, 1312, 1345, 1378, 1411, 1434, 1457, 1470, 1483], 187) := by decide +kernel
theorem dL_law_220 : decode cL_law 220 = .ok (.aload_n 1, 1) := by decide +kernel
theorem dL_law_221 : decode cL_law 221 = .ok (.aload_n 0, 1) := by decide +kernel
theorem dL_law_222 : decode cL_law 222 = .ok (.iload_n 3, 1) := by decide +kernel
theorem dL_law_223 : decode cL_law 223 = .ok (.iconst 1, 1) := by decide +kernel
theorem dL_law_224 : decode cL_law 224 = .ok (.iadd, 1) := by decide +kernel
theorem dL_law_225 : decode cL_law 225 = .ok (.iaload, 1) := by decide +kernel
theorem dL_law_226 : decode cL_law 226 = .ok (.aload_n 0, 1) := by decide +kernel
theorem dL_law_227 : decode cL_law 227 = .ok (.iload_n 3, 1) := by decide +kernel
theorem dL_law_228 : decode cL_law 228 = .ok (.iconst 2, 1) := by decide +kernel
theorem dL_law_229 : decode cL_law 229 = .ok (.iadd, 1) := by decide +kernel
theorem dL_law_230 : decode cL_law 230 = .ok (.iaload, 1) := by decide +kernel
theorem dL_law_231 : decode cL_law 231 = .ok (.aload_n 0, 1) := by decide +kernel
theorem dL_law_232 : decode cL_law 232 = .ok (.iload_n 3, 1) := by decide +kernel
theorem dL_law_233 : decode cL_law 233 = .ok (.iconst 3, 1) := by decide +kernel
theorem dL_law_234 : decode cL_law 234 = .ok (.iadd, 1) := by decide +kernel
theorem dL_law_235 : decode cL_law 235 = .ok (.iaload, 1) := by decide +kernel
theorem dL_law_236 : decode cL_law 236 = .ok (.aload_n 0, 1) := by decide +kernel
theorem dL_law_237 : decode cL_law 237 = .ok (.iload_n 3, 1) := by decide +kernel
theorem dL_law_238 : decode cL_law 238 = .ok (.iconst 4, 1) := by decide +kernel
theorem dL_law_239 : decode cL_law 239 = .ok (.iadd, 1) := by decide +kernel
theorem dL_law_240 : decode cL_law 240 = .ok (.iaload, 1) := by decide +kernel
theorem dL_law_241 : decode cL_law 241 = .ok (.invokevirtual 13, 3) := by decide +kernel
theorem dL_law_244 : decode cL_law 244 = .ok (.aload_n 2, 1) := by decide +kernel
theorem dL_law_245 : decode cL_law 245 = .ok (.aload_n 0, 1) := by decide +kernel
theorem dL_law_246 : decode cL_law 246 = .ok (.iload_n 3, 1) := by decide +kernel
theorem dL_law_247 : decode cL_law 247 = .ok (.iconst 1, 1) := by decide +kernel
theorem dL_law_248 : decode cL_law 248 = .ok (.iadd, 1) := by decide +kernel
theorem dL_law_249 : decode cL_law 249 = .ok (.iaload, 1) := by decide +kernel
theorem dL_law_250 : decode cL_law 250 = .ok (.aload_n 0, 1) := by decide +kernel
theorem dL_law_251 : decode cL_law 251 = .ok (.iload_n 3, 1) := by decide +kernel
theorem dL_law_252 : decode cL_law 252 = .ok (.iconst 2, 1) := by decide +kernel
theorem dL_law_253 : decode cL_law 253 = .ok (.iadd, 1) := by decide +kernel
theorem dL_law_254 : decode cL_law 254 = .ok (.iaload, 1) := by decide +kernel
theorem dL_law_255 : decode cL_law 255 = .ok (.aload_n 0, 1) := by decide +kernel
theorem dL_law_256 : decode cL_law 256 = .ok (.iload_n 3, 1) := by decide +kernel
theorem dL_law_257 : decode cL_law 257 = .ok (.iconst 3, 1) := by decide +kernel
theorem dL_law_258 : decode cL_law 258 = .ok (.iadd, 1) := by decide +kernel
theorem dL_law_259 : decode cL_law 259 = .ok (.iaload, 1) := by decide +kernel
theorem dL_law_260 : decode cL_law 260 = .ok (.aload_n 0, 1) := by decide +kernel
theorem dL_law_261 : decode cL_law 261 = .ok (.iload_n 3, 1) := by decide +kernel
theorem dL_law_262 : decode cL_law 262 = .ok (.iconst 4, 1) := by decide +kernel
theorem dL_law_263 : decode cL_law 263 = .ok (.iadd, 1) := by decide +kernel
theorem dL_law_264 : decode cL_law 264 = .ok (.iaload, 1) := by decide +kernel
theorem dL_law_265 : decode cL_law 265 = .ok (.invokevirtual 17, 3) := by decide +kernel
theorem dL_law_268 : decode cL_law 268 = .ok (.if_icmp .eq 1271, 3) := by decide +kernel
theorem dL_law_271 : decode cL_law 271 = .ok (.iconst 0, 1) := by decide +kernel
theorem dL_law_272 : decode cL_law 272 = .ok (.ireturn, 1) := by decide +kernel
theorem dL_law_273 : decode cL_law 273 = .ok (.aload_n 1, 1) := by decide +kernel
theorem dL_law_274 : decode cL_law 274 = .ok (.aload_n 0, 1) := by decide +kernel
theorem dL_law_275 : decode cL_law 275 = .ok (.iload_n 3, 1) := by decide +kernel
theorem dL_law_276 : decode cL_law 276 = .ok (.iconst 1, 1) := by decide +kernel
theorem dL_law_277 : decode cL_law 277 = .ok (.iadd, 1) := by decide +kernel
theorem dL_law_278 : decode cL_law 278 = .ok (.iaload, 1) := by decide +kernel
theorem dL_law_279 : decode cL_law 279 = .ok (.aload_n 0, 1) := by decide +kernel
theorem dL_law_280 : decode cL_law 280 = .ok (.iload_n 3, 1) := by decide +kernel
theorem dL_law_281 : decode cL_law 281 = .ok (.iconst 2, 1) := by decide +kernel
theorem dL_law_282 : decode cL_law 282 = .ok (.iadd, 1) := by decide +kernel
theorem dL_law_283 : decode cL_law 283 = .ok (.iaload, 1) := by decide +kernel
theorem dL_law_284 : decode cL_law 284 = .ok (.invokevirtual 18, 3) := by decide +kernel
theorem dL_law_287 : decode cL_law 287 = .ok (.aload_n 2, 1) := by decide +kernel
theorem dL_law_288 : decode cL_law 288 = .ok (.aload_n 0, 1) := by decide +kernel
theorem dL_law_289 : decode cL_law 289 = .ok (.iload_n 3, 1) := by decide +kernel
theorem dL_law_290 : decode cL_law 290 = .ok (.iconst 1, 1) := by decide +kernel
theorem dL_law_291 : decode cL_law 291 = .ok (.iadd, 1) := by decide +kernel
theorem dL_law_292 : decode cL_law 292 = .ok (.iaload, 1) := by decide +kernel
theorem dL_law_293 : decode cL_law 293 = .ok (.aload_n 0, 1) := by decide +kernel
theorem dL_law_294 : decode cL_law 294 = .ok (.iload_n 3, 1) := by decide +kernel
theorem dL_law_295 : decode cL_law 295 = .ok (.iconst 2, 1) := by decide +kernel
theorem dL_law_296 : decode cL_law 296 = .ok (.iadd, 1) := by decide +kernel
theorem dL_law_297 : decode cL_law 297 = .ok (.iaload, 1) := by decide +kernel
theorem dL_law_298 : decode cL_law 298 = .ok (.invokevirtual 22, 3) := by decide +kernel
theorem dL_law_301 : decode cL_law 301 = .ok (.if_icmp .eq 1238, 3) := by decide +kernel
theorem dL_law_304 : decode cL_law 304 = .ok (.iconst 0, 1) := by decide +kernel
theorem dL_law_305 : decode cL_law 305 = .ok (.ireturn, 1) := by decide +kernel
theorem dL_law_306 : decode cL_law 306 = .ok (.aload_n 1, 1) := by decide +kernel
theorem dL_law_307 : decode cL_law 307 = .ok (.aload_n 0, 1) := by decide +kernel
theorem dL_law_308 : decode cL_law 308 = .ok (.iload_n 3, 1) := by decide +kernel
theorem dL_law_309 : decode cL_law 309 = .ok (.iconst 1, 1) := by decide +kernel
theorem dL_law_310 : decode cL_law 310 = .ok (.iadd, 1) := by decide +kernel
theorem dL_law_311 : decode cL_law 311 = .ok (.iaload, 1) := by decide +kernel
theorem dL_law_312 : decode cL_law 312 = .ok (.aload_n 0, 1) := by decide +kernel
theorem dL_law_313 : decode cL_law 313 = .ok (.iload_n 3, 1) := by decide +kernel
theorem dL_law_314 : decode cL_law 314 = .ok (.iconst 2, 1) := by decide +kernel
theorem dL_law_315 : decode cL_law 315 = .ok (.iadd, 1) := by decide +kernel
theorem dL_law_316 : decode cL_law 316 = .ok (.iaload, 1) := by decide +kernel
theorem dL_law_317 : decode cL_law 317 = .ok (.invokevirtual 23, 3) := by decide +kernel
theorem dL_law_320 : decode cL_law 320 = .ok (.aload_n 2, 1) := by decide +kernel
theorem dL_law_321 : decode cL_law 321 = .ok (.aload_n 0, 1) := by decide +kernel
theorem dL_law_322 : decode cL_law 322 = .ok (.iload_n 3, 1) := by decide +kernel
theorem dL_law_323 : decode cL_law 323 = .ok (.iconst 1, 1) := by decide +kernel
theorem dL_law_324 : decode cL_law 324 = .ok (.iadd, 1) := by decide +kernel
theorem dL_law_325 : decode cL_law 325 = .ok (.iaload, 1) := by decide +kernel
theorem dL_law_326 : decode cL_law 326 = .ok (.aload_n 0, 1) := by decide +kernel
theorem dL_law_327 : decode cL_law 327 = .ok (.iload_n 3, 1) := by decide +kernel
theorem dL_law_328 : decode cL_law 328 = .ok (.iconst 2, 1) := by decide +kernel
theorem dL_law_329 : decode cL_law 329 = .ok (.iadd, 1) := by decide +kernel
theorem dL_law_330 : decode cL_law 330 = .ok (.iaload, 1) := by decide +kernel
theorem dL_law_331 : decode cL_law 331 = .ok (.invokevirtual 26, 3) := by decide +kernel
theorem dL_law_334 : decode cL_law 334 = .ok (.if_icmp .eq 1205, 3) := by decide +kernel
theorem dL_law_337 : decode cL_law 337 = .ok (.iconst 0, 1) := by decide +kernel
theorem dL_law_338 : decode cL_law 338 = .ok (.ireturn, 1) := by decide +kernel
theorem dL_law_339 : decode cL_law 339 = .ok (.aload_n 1, 1) := by decide +kernel
theorem dL_law_340 : decode cL_law 340 = .ok (.aload_n 0, 1) := by decide +kernel
theorem dL_law_341 : decode cL_law 341 = .ok (.iload_n 3, 1) := by decide +kernel
theorem dL_law_342 : decode cL_law 342 = .ok (.iconst 1, 1) := by decide +kernel
theorem dL_law_343 : decode cL_law 343 = .ok (.iadd, 1) := by decide +kernel
theorem dL_law_344 : decode cL_law 344 = .ok (.iaload, 1) := by decide +kernel
theorem dL_law_345 : decode cL_law 345 = .ok (.aload_n 0, 1) := by decide +kernel
theorem dL_law_346 : decode cL_law 346 = .ok (.iload_n 3, 1) := by decide +kernel
theorem dL_law_347 : decode cL_law 347 = .ok (.iconst 2, 1) := by decide +kernel
theorem dL_law_348 : decode cL_law 348 = .ok (.iadd, 1) := by decide +kernel
theorem dL_law_349 : decode cL_law 349 = .ok (.iaload, 1) := by decide +kernel
theorem dL_law_350 : decode cL_law 350 = .ok (.invokevirtual 27, 3) := by decide +kernel
theorem dL_law_353 : decode cL_law 353 = .ok (.aload_n 2, 1) := by decide +kernel
theorem dL_law_354 : decode cL_law 354 = .ok (.aload_n 0, 1) := by decide +kernel
theorem dL_law_355 : decode cL_law 355 = .ok (.iload_n 3, 1) := by decide +kernel
theorem dL_law_356 : decode cL_law 356 = .ok (.iconst 1, 1) := by decide +kernel
theorem dL_law_357 : decode cL_law 357 = .ok (.iadd, 1) := by decide +kernel
theorem dL_law_358 : decode cL_law 358 = .ok (.iaload, 1) := by decide +kernel
theorem dL_law_359 : decode cL_law 359 = .ok (.aload_n 0, 1) := by decide +kernel
theorem dL_law_360 : decode cL_law 360 = .ok (.iload_n 3, 1) := by decide +kernel
theorem dL_law_361 : decode cL_law 361 = .ok (.iconst 2, 1) := by decide +kernel
theorem dL_law_362 : decode cL_law 362 = .ok (.iadd, 1) := by decide +kernel
theorem dL_law_363 : decode cL_law 363 = .ok (.iaload, 1) := by decide +kernel
theorem dL_law_364 : decode cL_law 364 = .ok (.invokevirtual 30, 3) := by decide +kernel
theorem dL_law_367 : decode cL_law 367 = .ok (.if_icmp .eq 1172, 3) := by decide +kernel
theorem dL_law_370 : decode cL_law 370 = .ok (.iconst 0, 1) := by decide +kernel
theorem dL_law_371 : decode cL_law 371 = .ok (.ireturn, 1) := by decide +kernel
theorem dL_law_372 : decode cL_law 372 = .ok (.aload_n 1, 1) := by decide +kernel
theorem dL_law_373 : decode cL_law 373 = .ok (.aload_n 0, 1) := by decide +kernel
theorem dL_law_374 : decode cL_law 374 = .ok (.iload_n 3, 1) := by decide +kernel
theorem dL_law_375 : decode cL_law 375 = .ok (.iconst 1, 1) := by decide +kernel
theorem dL_law_376 : decode cL_law 376 = .ok (.iadd, 1) := by decide +kernel
theorem dL_law_377 : decode cL_law 377 = .ok (.iaload, 1) := by decide +kernel
theorem dL_law_378 : decode cL_law 378 = .ok (.aload_n 0, 1) := by decide +kernel
theorem dL_law_379 : decode cL_law 379 = .ok (.iload_n 3, 1) := by decide +kernel
theorem dL_law_380 : decode cL_law 380 = .ok (.iconst 2, 1) := by decide +kernel
theorem dL_law_381 : decode cL_law 381 = .ok (.iadd, 1) := by decide +kernel
theorem dL_law_382 : decode cL_law 382 = .ok (.iaload, 1) := by decide +kernel
theorem dL_law_383 : decode cL_law 383 = .ok (.aload_n 0, 1) := by decide +kernel
theorem dL_law_384 : decode cL_law 384 = .ok (.iload_n 3, 1) := by decide +kernel
theorem dL_law_385 : decode cL_law 385 = .ok (.iconst 3, 1) := by decide +kernel
theorem dL_law_386 : decode cL_law 386 = .ok (.iadd, 1) := by decide +kernel
theorem dL_law_387 : decode cL_law 387 = .ok (.iaload, 1) := by decide +kernel
theorem dL_law_388 : decode cL_law 388 = .ok (.invokevirtual 31, 3) := by decide +kernel
theorem dL_law_391 : decode cL_law 391 = .ok (.aload_n 2, 1) := by decide +kernel
theorem dL_law_392 : decode cL_law 392 = .ok (.aload_n 0, 1) := by decide +kernel
theorem dL_law_393 : decode cL_law 393 = .ok (.iload_n 3, 1) := by decide +kernel
theorem dL_law_394 : decode cL_law 394 = .ok (.iconst 1, 1) := by decide +kernel
theorem dL_law_395 : decode cL_law 395 = .ok (.iadd, 1) := by decide +kernel
theorem dL_law_396 : decode cL_law 396 = .ok (.iaload, 1) := by decide +kernel
theorem dL_law_397 : decode cL_law 397 = .ok (.aload_n 0, 1) := by decide +kernel
theorem dL_law_398 : decode cL_law 398 = .ok (.iload_n 3, 1) := by decide +kernel
theorem dL_law_399 : decode cL_law 399 = .ok (.iconst 2, 1) := by decide +kernel
theorem dL_law_400 : decode cL_law 400 = .ok (.iadd, 1) := by decide +kernel
theorem dL_law_401 : decode cL_law 401 = .ok (.iaload, 1) := by decide +kernel
theorem dL_law_402 : decode cL_law 402 = .ok (.aload_n 0, 1) := by decide +kernel
theorem dL_law_403 : decode cL_law 403 = .ok (.iload_n 3, 1) := by decide +kernel
theorem dL_law_404 : decode cL_law 404 = .ok (.iconst 3, 1) := by decide +kernel
theorem dL_law_405 : decode cL_law 405 = .ok (.iadd, 1) := by decide +kernel
theorem dL_law_406 : decode cL_law 406 = .ok (.iaload, 1) := by decide +kernel
theorem dL_law_407 : decode cL_law 407 = .ok (.invokevirtual 35, 3) := by decide +kernel
theorem dL_law_410 : decode cL_law 410 = .ok (.if_icmp .eq 1129, 3) := by decide +kernel
theorem dL_law_413 : decode cL_law 413 = .ok (.iconst 0, 1) := by decide +kernel
theorem dL_law_414 : decode cL_law 414 = .ok (.ireturn, 1) := by decide +kernel
theorem dL_law_415 : decode cL_law 415 = .ok (.aload_n 1, 1) := by decide +kernel
theorem dL_law_416 : decode cL_law 416 = .ok (.aload_n 0, 1) := by decide +kernel
theorem dL_law_417 : decode cL_law 417 = .ok (.iload_n 3, 1) := by decide +kernel
theorem dL_law_418 : decode cL_law 418 = .ok (.iconst 1, 1) := by decide +kernel
theorem dL_law_419 : decode cL_law 419 = .ok (.iadd, 1) := by decide +kernel
theorem dL_law_420 : decode cL_law 420 = .ok (.iaload, 1) := by decide +kernel
theorem dL_law_421 : decode cL_law 421 = .ok (.aload_n 0, 1) := by decide +kernel
theorem dL_law_422 : decode cL_law 422 = .ok (.iload_n 3, 1) := by decide +kernel
theorem dL_law_423 : decode cL_law 423 = .ok (.iconst 2, 1) := by decide +kernel
theorem dL_law_424 : decode cL_law 424 = .ok (.iadd, 1) := by decide +kernel
theorem dL_law_425 : decode cL_law 425 = .ok (.iaload, 1) := by decide +kernel
theorem dL_law_426 : decode cL_law 426 = .ok (.invokevirtual 36, 3) := by decide +kernel
theorem dL_law_429 : decode cL_law 429 = .ok (.aload_n 2, 1) := by decide +kernel
theorem dL_law_430 : decode cL_law 430 = .ok (.aload_n 0, 1) := by decide +kernel
theorem dL_law_431 : decode cL_law 431 = .ok (.iload_n 3, 1) := by decide +kernel
theorem dL_law_432 : decode cL_law 432 = .ok (.iconst 1, 1) := by decide +kernel
theorem dL_law_433 : decode cL_law 433 = .ok (.iadd, 1) := by decide +kernel
theorem dL_law_434 : decode cL_law 434 = .ok (.iaload, 1) := by decide +kernel
theorem dL_law_435 : decode cL_law 435 = .ok (.aload_n 0, 1) := by decide +kernel
theorem dL_law_436 : decode cL_law 436 = .ok (.iload_n 3, 1) := by decide +kernel
theorem dL_law_437 : decode cL_law 437 = .ok (.iconst 2, 1) := by decide +kernel
theorem dL_law_438 : decode cL_law 438 = .ok (.iadd, 1) := by decide +kernel
theorem dL_law_439 : decode cL_law 439 = .ok (.iaload, 1) := by decide +kernel
theorem dL_law_440 : decode cL_law 440 = .ok (.invokevirtual 39, 3) := by decide +kernel
theorem dL_law_443 : decode cL_law 443 = .ok (.if_icmp .eq 1096, 3) := by decide +kernel
theorem dL_law_446 : decode cL_law 446 = .ok (.iconst 0, 1) := by decide +kernel
theorem dL_law_447 : decode cL_law 447 = .ok (.ireturn, 1) := by decide +kernel
theorem dL_law_448 : decode cL_law 448 = .ok (.aload_n 1, 1) := by decide +kernel
theorem dL_law_449 : decode cL_law 449 = .ok (.aload_n 0, 1) := by decide +kernel
theorem dL_law_450 : decode cL_law 450 = .ok (.iload_n 3, 1) := by decide +kernel
theorem dL_law_451 : decode cL_law 451 = .ok (.iconst 1, 1) := by decide +kernel
theorem dL_law_452 : decode cL_law 452 = .ok (.iadd, 1) := by decide +kernel
theorem dL_law_453 : decode cL_law 453 = .ok (.iaload, 1) := by decide +kernel
theorem dL_law_454 : decode cL_law 454 = .ok (.aload_n 0, 1) := by decide +kernel
theorem dL_law_455 : decode cL_law 455 = .ok (.iload_n 3, 1) := by decide +kernel
theorem dL_law_456 : decode cL_law 456 = .ok (.iconst 2, 1) := by decide +kernel
theorem dL_law_457 : decode cL_law 457 = .ok (.iadd, 1) := by decide +kernel
theorem dL_law_458 : decode cL_law 458 = .ok (.iaload, 1) := by decide +kernel
theorem dL_law_459 : decode cL_law 459 = .ok (.aload_n 0, 1) := by decide +kernel
theorem dL_law_460 : decode cL_law 460 = .ok (.iload_n 3, 1) := by decide +kernel
theorem dL_law_461 : decode cL_law 461 = .ok (.iconst 3, 1) := by decide +kernel
theorem dL_law_462 : decode cL_law 462 = .ok (.iadd, 1) := by decide +kernel
theorem dL_law_463 : decode cL_law 463 = .ok (.iaload, 1) := by decide +kernel
theorem dL_law_464 : decode cL_law 464 = .ok (.invokevirtual 40, 3) := by decide +kernel
theorem dL_law_467 : decode cL_law 467 = .ok (.aload_n 2, 1) := by decide +kernel
theorem dL_law_468 : decode cL_law 468 = .ok (.aload_n 0, 1) := by decide +kernel
theorem dL_law_469 : decode cL_law 469 = .ok (.iload_n 3, 1) := by decide +kernel
theorem dL_law_470 : decode cL_law 470 = .ok (.iconst 1, 1) := by decide +kernel
theorem dL_law_471 : decode cL_law 471 = .ok (.iadd, 1) := by decide +kernel
theorem dL_law_472 : decode cL_law 472 = .ok (.iaload, 1) := by decide +kernel
theorem dL_law_473 : decode cL_law 473 = .ok (.aload_n 0, 1) := by decide +kernel
theorem dL_law_474 : decode cL_law 474 = .ok (.iload_n 3, 1) := by decide +kernel
theorem dL_law_475 : decode cL_law 475 = .ok (.iconst 2, 1) := by decide +kernel
theorem dL_law_476 : decode cL_law 476 = .ok (.iadd, 1) := by decide +kernel
theorem dL_law_477 : decode cL_law 477 = .ok (.iaload, 1) := by decide +kernel
theorem dL_law_478 : decode cL_law 478 = .ok (.aload_n 0, 1) := by decide +kernel
theorem dL_law_479 : decode cL_law 479 = .ok (.iload_n 3, 1) := by decide +kernel
theorem dL_law_480 : decode cL_law 480 = .ok (.iconst 3, 1) := by decide +kernel
theorem dL_law_481 : decode cL_law 481 = .ok (.iadd, 1) := by decide +kernel
theorem dL_law_482 : decode cL_law 482 = .ok (.iaload, 1) := by decide +kernel
theorem dL_law_483 : decode cL_law 483 = .ok (.invokevirtual 43, 3) := by decide +kernel
theorem dL_law_486 : decode cL_law 486 = .ok (.if_icmp .eq 1053, 3) := by decide +kernel
theorem dL_law_489 : decode cL_law 489 = .ok (.iconst 0, 1) := by decide +kernel
theorem dL_law_490 : decode cL_law 490 = .ok (.ireturn, 1) := by decide +kernel
theorem dL_law_491 : decode cL_law 491 = .ok (.aload_n 1, 1) := by decide +kernel
theorem dL_law_492 : decode cL_law 492 = .ok (.aload_n 0, 1) := by decide +kernel
theorem dL_law_493 : decode cL_law 493 = .ok (.iload_n 3, 1) := by decide +kernel
theorem dL_law_494 : decode cL_law 494 = .ok (.iconst 1, 1) := by decide +kernel
theorem dL_law_495 : decode cL_law 495 = .ok (.iadd, 1) := by decide +kernel
theorem dL_law_496 : decode cL_law 496 = .ok (.iaload, 1) := by decide +kernel
theorem dL_law_497 : decode cL_law 497 = .ok (.aload_n 0, 1) := by decide +kernel
theorem dL_law_498 : decode cL_law 498 = .ok (.iload_n 3, 1) := by decide +kernel
theorem dL_law_499 : decode cL_law 499 = .ok (.iconst 2, 1) := by decide +kernel
theorem dL_law_500 : decode cL_law 500 = .ok (.iadd, 1) := by decide +kernel
theorem dL_law_501 : decode cL_law 501 = .ok (.iaload, 1) := by decide +kernel
theorem dL_law_502 : decode cL_law 502 = .ok (.invokevirtual 44, 3) := by decide +kernel
theorem dL_law_505 : decode cL_law 505 = .ok (.aload_n 2, 1) := by decide +kernel
theorem dL_law_506 : decode cL_law 506 = .ok (.aload_n 0, 1) := by decide +kernel
theorem dL_law_507 : decode cL_law 507 = .ok (.iload_n 3, 1) := by decide +kernel
theorem dL_law_508 : decode cL_law 508 = .ok (.iconst 1, 1) := by decide +kernel
theorem dL_law_509 : decode cL_law 509 = .ok (.iadd, 1) := by decide +kernel
theorem dL_law_510 : decode cL_law 510 = .ok (.iaload, 1) := by decide +kernel
theorem dL_law_511 : decode cL_law 511 = .ok (.aload_n 0, 1) := by decide +kernel
theorem dL_law_512 : decode cL_law 512 = .ok (.iload_n 3, 1) := by decide +kernel
theorem dL_law_513 : decode cL_law 513 = .ok (.iconst 2, 1) := by decide +kernel
theorem dL_law_514 : decode cL_law 514 = .ok (.iadd, 1) := by decide +kernel
theorem dL_law_515 : decode cL_law 515 = .ok (.iaload, 1) := by decide +kernel
theorem dL_law_516 : decode cL_law 516 = .ok (.invokevirtual 47, 3) := by decide +kernel
theorem dL_law_519 : decode cL_law 519 = .ok (.if_icmp .eq 1020, 3) := by decide +kernel
theorem dL_law_522 : decode cL_law 522 = .ok (.iconst 0, 1) := by decide +kernel
theorem dL_law_523 : decode cL_law 523 = .ok (.ireturn, 1) := by decide +kernel
theorem dL_law_524 : decode cL_law 524 = .ok (.aload_n 1, 1) := by decide +kernel
theorem dL_law_525 : decode cL_law 525 = .ok (.aload_n 0, 1) := by decide +kernel
theorem dL_law_526 : decode cL_law 526 = .ok (.iload_n 3, 1) := by decide +kernel
theorem dL_law_527 : decode cL_law 527 = .ok (.iconst 1, 1) := by decide +kernel
theorem dL_law_528 : decode cL_law 528 = .ok (.iadd, 1) := by decide +kernel
theorem dL_law_529 : decode cL_law 529 = .ok (.iaload, 1) := by decide +kernel
theorem dL_law_530 : decode cL_law 530 = .ok (.invokevirtual 48, 3) := by decide +kernel
theorem dL_law_533 : decode cL_law 533 = .ok (.aload_n 2, 1) := by decide +kernel
theorem dL_law_534 : decode cL_law 534 = .ok (.aload_n 0, 1) := by decide +kernel
theorem dL_law_535 : decode cL_law 535 = .ok (.iload_n 3, 1) := by decide +kernel
theorem dL_law_536 : decode cL_law 536 = .ok (.iconst 1, 1) := by decide +kernel
theorem dL_law_537 : decode cL_law 537 = .ok (.iadd, 1) := by decide +kernel
theorem dL_law_538 : decode cL_law 538 = .ok (.iaload, 1) := by decide +kernel
theorem dL_law_539 : decode cL_law 539 = .ok (.invokevirtual 52, 3) := by decide +kernel
theorem dL_law_542 : decode cL_law 542 = .ok (.if_icmp .eq 997, 3) := by decide +kernel
theorem dL_law_545 : decode cL_law 545 = .ok (.iconst 0, 1) := by decide +kernel
theorem dL_law_546 : decode cL_law 546 = .ok (.ireturn, 1) := by decide +kernel
theorem dL_law_547 : decode cL_law 547 = .ok (.aload_n 1, 1) := by decide +kernel
theorem dL_law_548 : decode cL_law 548 = .ok (.aload_n 0, 1) := by decide +kernel
theorem dL_law_549 : decode cL_law 549 = .ok (.iload_n 3, 1) := by decide +kernel
theorem dL_law_550 : decode cL_law 550 = .ok (.iconst 1, 1) := by decide +kernel
theorem dL_law_551 : decode cL_law 551 = .ok (.iadd, 1) := by decide +kernel
theorem dL_law_552 : decode cL_law 552 = .ok (.iaload, 1) := by decide +kernel
theorem dL_law_553 : decode cL_law 553 = .ok (.invokevirtual 53, 3) := by decide +kernel
theorem dL_law_556 : decode cL_law 556 = .ok (.aload_n 2, 1) := by decide +kernel
theorem dL_law_557 : decode cL_law 557 = .ok (.aload_n 0, 1) := by decide +kernel
theorem dL_law_558 : decode cL_law 558 = .ok (.iload_n 3, 1) := by decide +kernel
theorem dL_law_559 : decode cL_law 559 = .ok (.iconst 1, 1) := by decide +kernel
theorem dL_law_560 : decode cL_law 560 = .ok (.iadd, 1) := by decide +kernel
theorem dL_law_561 : decode cL_law 561 = .ok (.iaload, 1) := by decide +kernel
theorem dL_law_562 : decode cL_law 562 = .ok (.invokevirtual 56, 3) := by decide +kernel
theorem dL_law_565 : decode cL_law 565 = .ok (.if_icmp .eq 974, 3) := by decide +kernel
theorem dL_law_568 : decode cL_law 568 = .ok (.iconst 0, 1) := by decide +kernel
theorem dL_law_569 : decode cL_law 569 = .ok (.ireturn, 1) := by decide +kernel
theorem dL_law_570 : decode cL_law 570 = .ok (.aload_n 1, 1) := by decide +kernel
theorem dL_law_571 : decode cL_law 571 = .ok (.aload_n 0, 1) := by decide +kernel
theorem dL_law_572 : decode cL_law 572 = .ok (.iload_n 3, 1) := by decide +kernel
theorem dL_law_573 : decode cL_law 573 = .ok (.iconst 1, 1) := by decide +kernel
theorem dL_law_574 : decode cL_law 574 = .ok (.iadd, 1) := by decide +kernel
theorem dL_law_575 : decode cL_law 575 = .ok (.iaload, 1) := by decide +kernel
theorem dL_law_576 : decode cL_law 576 = .ok (.aload_n 0, 1) := by decide +kernel
theorem dL_law_577 : decode cL_law 577 = .ok (.iload_n 3, 1) := by decide +kernel
theorem dL_law_578 : decode cL_law 578 = .ok (.iconst 2, 1) := by decide +kernel
theorem dL_law_579 : decode cL_law 579 = .ok (.iadd, 1) := by decide +kernel
theorem dL_law_580 : decode cL_law 580 = .ok (.iaload, 1) := by decide +kernel
theorem dL_law_581 : decode cL_law 581 = .ok (.aload_n 0, 1) := by decide +kernel
theorem dL_law_582 : decode cL_law 582 = .ok (.iload_n 3, 1) := by decide +kernel
theorem dL_law_583 : decode cL_law 583 = .ok (.iconst 3, 1) := by decide +kernel
theorem dL_law_584 : decode cL_law 584 = .ok (.iadd, 1) := by decide +kernel
theorem dL_law_585 : decode cL_law 585 = .ok (.iaload, 1) := by decide +kernel
theorem dL_law_586 : decode cL_law 586 = .ok (.invokevirtual 57, 3) := by decide +kernel
theorem dL_law_589 : decode cL_law 589 = .ok (.aload_n 2, 1) := by decide +kernel
theorem dL_law_590 : decode cL_law 590 = .ok (.aload_n 0, 1) := by decide +kernel
theorem dL_law_591 : decode cL_law 591 = .ok (.iload_n 3, 1) := by decide +kernel
theorem dL_law_592 : decode cL_law 592 = .ok (.iconst 1, 1) := by decide +kernel
theorem dL_law_593 : decode cL_law 593 = .ok (.iadd, 1) := by decide +kernel
theorem dL_law_594 : decode cL_law 594 = .ok (.iaload, 1) := by decide +kernel
theorem dL_law_595 : decode cL_law 595 = .ok (.aload_n 0, 1) := by decide +kernel
theorem dL_law_596 : decode cL_law 596 = .ok (.iload_n 3, 1) := by decide +kernel
theorem dL_law_597 : decode cL_law 597 = .ok (.iconst 2, 1) := by decide +kernel
theorem dL_law_598 : decode cL_law 598 = .ok (.iadd, 1) := by decide +kernel
theorem dL_law_599 : decode cL_law 599 = .ok (.iaload, 1) := by decide +kernel
theorem dL_law_600 : decode cL_law 600 = .ok (.aload_n 0, 1) := by decide +kernel
theorem dL_law_601 : decode cL_law 601 = .ok (.iload_n 3, 1) := by decide +kernel
theorem dL_law_602 : decode cL_law 602 = .ok (.iconst 3, 1) := by decide +kernel
theorem dL_law_603 : decode cL_law 603 = .ok (.iadd, 1) := by decide +kernel
theorem dL_law_604 : decode cL_law 604 = .ok (.iaload, 1) := by decide +kernel
theorem dL_law_605 : decode cL_law 605 = .ok (.invokevirtual 60, 3) := by decide +kernel
theorem dL_law_608 : decode cL_law 608 = .ok (.if_icmp .eq 931, 3) := by decide +kernel
theorem dL_law_611 : decode cL_law 611 = .ok (.iconst 0, 1) := by decide +kernel
theorem dL_law_612 : decode cL_law 612 = .ok (.ireturn, 1) := by decide +kernel
theorem dL_law_613 : decode cL_law 613 = .ok (.aload_n 1, 1) := by decide +kernel
theorem dL_law_614 : decode cL_law 614 = .ok (.aload_n 0, 1) := by decide +kernel
theorem dL_law_615 : decode cL_law 615 = .ok (.iload_n 3, 1) := by decide +kernel
theorem dL_law_616 : decode cL_law 616 = .ok (.iconst 1, 1) := by decide +kernel
theorem dL_law_617 : decode cL_law 617 = .ok (.iadd, 1) := by decide +kernel
theorem dL_law_618 : decode cL_law 618 = .ok (.iaload, 1) := by decide +kernel
theorem dL_law_619 : decode cL_law 619 = .ok (.invokevirtual 61, 3) := by decide +kernel
theorem dL_law_622 : decode cL_law 622 = .ok (.aload_n 2, 1) := by decide +kernel
theorem dL_law_623 : decode cL_law 623 = .ok (.aload_n 0, 1) := by decide +kernel
theorem dL_law_624 : decode cL_law 624 = .ok (.iload_n 3, 1) := by decide +kernel
theorem dL_law_625 : decode cL_law 625 = .ok (.iconst 1, 1) := by decide +kernel
theorem dL_law_626 : decode cL_law 626 = .ok (.iadd, 1) := by decide +kernel
theorem dL_law_627 : decode cL_law 627 = .ok (.iaload, 1) := by decide +kernel
theorem dL_law_628 : decode cL_law 628 = .ok (.invokevirtual 64, 3) := by decide +kernel
theorem dL_law_631 : decode cL_law 631 = .ok (.if_icmp .eq 908, 3) := by decide +kernel
theorem dL_law_634 : decode cL_law 634 = .ok (.iconst 0, 1) := by decide +kernel
theorem dL_law_635 : decode cL_law 635 = .ok (.ireturn, 1) := by decide +kernel
theorem dL_law_636 : decode cL_law 636 = .ok (.aload_n 1, 1) := by decide +kernel
theorem dL_law_637 : decode cL_law 637 = .ok (.aload_n 0, 1) := by decide +kernel
theorem dL_law_638 : decode cL_law 638 = .ok (.iload_n 3, 1) := by decide +kernel
theorem dL_law_639 : decode cL_law 639 = .ok (.iconst 1, 1) := by decide +kernel
theorem dL_law_640 : decode cL_law 640 = .ok (.iadd, 1) := by decide +kernel
theorem dL_law_641 : decode cL_law 641 = .ok (.iaload, 1) := by decide +kernel
theorem dL_law_642 : decode cL_law 642 = .ok (.invokevirtual 65, 3) := by decide +kernel
theorem dL_law_645 : decode cL_law 645 = .ok (.aload_n 2, 1) := by decide +kernel
theorem dL_law_646 : decode cL_law 646 = .ok (.aload_n 0, 1) := by decide +kernel
theorem dL_law_647 : decode cL_law 647 = .ok (.iload_n 3, 1) := by decide +kernel
theorem dL_law_648 : decode cL_law 648 = .ok (.iconst 1, 1) := by decide +kernel
theorem dL_law_649 : decode cL_law 649 = .ok (.iadd, 1) := by decide +kernel
theorem dL_law_650 : decode cL_law 650 = .ok (.iaload, 1) := by decide +kernel
theorem dL_law_651 : decode cL_law 651 = .ok (.invokevirtual 68, 3) := by decide +kernel
theorem dL_law_654 : decode cL_law 654 = .ok (.if_icmp .eq 885, 3) := by decide +kernel
theorem dL_law_657 : decode cL_law 657 = .ok (.iconst 0, 1) := by decide +kernel
theorem dL_law_658 : decode cL_law 658 = .ok (.ireturn, 1) := by decide +kernel
theorem dL_law_659 : decode cL_law 659 = .ok (.aload_n 1, 1) := by decide +kernel
theorem dL_law_660 : decode cL_law 660 = .ok (.aload_n 0, 1) := by decide +kernel
theorem dL_law_661 : decode cL_law 661 = .ok (.iload_n 3, 1) := by decide +kernel
theorem dL_law_662 : decode cL_law 662 = .ok (.iconst 1, 1) := by decide +kernel
theorem dL_law_663 : decode cL_law 663 = .ok (.iadd, 1) := by decide +kernel
theorem dL_law_664 : decode cL_law 664 = .ok (.iaload, 1) := by decide +kernel
theorem dL_law_665 : decode cL_law 665 = .ok (.invokevirtual 69, 3) := by decide +kernel
theorem dL_law_668 : decode cL_law 668 = .ok (.aload_n 2, 1) := by decide +kernel
theorem dL_law_669 : decode cL_law 669 = .ok (.aload_n 0, 1) := by decide +kernel
theorem dL_law_670 : decode cL_law 670 = .ok (.iload_n 3, 1) := by decide +kernel
theorem dL_law_671 : decode cL_law 671 = .ok (.iconst 1, 1) := by decide +kernel
theorem dL_law_672 : decode cL_law 672 = .ok (.iadd, 1) := by decide +kernel
theorem dL_law_673 : decode cL_law 673 = .ok (.iaload, 1) := by decide +kernel
theorem dL_law_674 : decode cL_law 674 = .ok (.invokevirtual 72, 3) := by decide +kernel
theorem dL_law_677 : decode cL_law 677 = .ok (.if_icmp .eq 862, 3) := by decide +kernel
theorem dL_law_680 : decode cL_law 680 = .ok (.iconst 0, 1) := by decide +kernel
theorem dL_law_681 : decode cL_law 681 = .ok (.ireturn, 1) := by decide +kernel
theorem dL_law_682 : decode cL_law 682 = .ok (.aload_n 1, 1) := by decide +kernel
theorem dL_law_683 : decode cL_law 683 = .ok (.invokevirtual 73, 3) := by decide +kernel
theorem dL_law_686 : decode cL_law 686 = .ok (.aload_n 2, 1) := by decide +kernel
theorem dL_law_687 : decode cL_law 687 = .ok (.invokevirtual 77, 3) := by decide +kernel
theorem dL_law_690 : decode cL_law 690 = .ok (.if_icmp .eq 849, 3) := by decide +kernel
theorem dL_law_693 : decode cL_law 693 = .ok (.iconst 0, 1) := by decide +kernel
theorem dL_law_694 : decode cL_law 694 = .ok (.ireturn, 1) := by decide +kernel
theorem dL_law_695 : decode cL_law 695 = .ok (.aload_n 1, 1) := by decide +kernel
theorem dL_law_696 : decode cL_law 696 = .ok (.aload_n 0, 1) := by decide +kernel
theorem dL_law_697 : decode cL_law 697 = .ok (.iload_n 3, 1) := by decide +kernel
theorem dL_law_698 : decode cL_law 698 = .ok (.iconst 1, 1) := by decide +kernel
theorem dL_law_699 : decode cL_law 699 = .ok (.iadd, 1) := by decide +kernel
theorem dL_law_700 : decode cL_law 700 = .ok (.iaload, 1) := by decide +kernel
theorem dL_law_701 : decode cL_law 701 = .ok (.aload_n 0, 1) := by decide +kernel
theorem dL_law_702 : decode cL_law 702 = .ok (.iload_n 3, 1) := by decide +kernel
theorem dL_law_703 : decode cL_law 703 = .ok (.iconst 2, 1) := by decide +kernel
theorem dL_law_704 : decode cL_law 704 = .ok (.iadd, 1) := by decide +kernel
theorem dL_law_705 : decode cL_law 705 = .ok (.iaload, 1) := by decide +kernel
theorem dL_law_706 : decode cL_law 706 = .ok (.invokevirtual 78, 3) := by decide +kernel
theorem dL_law_709 : decode cL_law 709 = .ok (.aload_n 2, 1) := by decide +kernel
theorem dL_law_710 : decode cL_law 710 = .ok (.aload_n 0, 1) := by decide +kernel
theorem dL_law_711 : decode cL_law 711 = .ok (.iload_n 3, 1) := by decide +kernel
theorem dL_law_712 : decode cL_law 712 = .ok (.iconst 1, 1) := by decide +kernel
theorem dL_law_713 : decode cL_law 713 = .ok (.iadd, 1) := by decide +kernel
theorem dL_law_714 : decode cL_law 714 = .ok (.iaload, 1) := by decide +kernel
theorem dL_law_715 : decode cL_law 715 = .ok (.aload_n 0, 1) := by decide +kernel
theorem dL_law_716 : decode cL_law 716 = .ok (.iload_n 3, 1) := by decide +kernel
theorem dL_law_717 : decode cL_law 717 = .ok (.iconst 2, 1) := by decide +kernel
theorem dL_law_718 : decode cL_law 718 = .ok (.iadd, 1) := by decide +kernel
theorem dL_law_719 : decode cL_law 719 = .ok (.iaload, 1) := by decide +kernel
theorem dL_law_720 : decode cL_law 720 = .ok (.invokevirtual 81, 3) := by decide +kernel
theorem dL_law_723 : decode cL_law 723 = .ok (.if_icmp .eq 816, 3) := by decide +kernel
theorem dL_law_726 : decode cL_law 726 = .ok (.iconst 0, 1) := by decide +kernel
theorem dL_law_727 : decode cL_law 727 = .ok (.ireturn, 1) := by decide +kernel
theorem dL_law_728 : decode cL_law 728 = .ok (.aload_n 1, 1) := by decide +kernel
theorem dL_law_729 : decode cL_law 729 = .ok (.aload_n 0, 1) := by decide +kernel
theorem dL_law_730 : decode cL_law 730 = .ok (.iload_n 3, 1) := by decide +kernel
theorem dL_law_731 : decode cL_law 731 = .ok (.iconst 1, 1) := by decide +kernel
theorem dL_law_732 : decode cL_law 732 = .ok (.iadd, 1) := by decide +kernel
theorem dL_law_733 : decode cL_law 733 = .ok (.iaload, 1) := by decide +kernel
theorem dL_law_734 : decode cL_law 734 = .ok (.invokevirtual 82, 3) := by decide +kernel
theorem dL_law_737 : decode cL_law 737 = .ok (.aload_n 2, 1) := by decide +kernel
theorem dL_law_738 : decode cL_law 738 = .ok (.aload_n 0, 1) := by decide +kernel
theorem dL_law_739 : decode cL_law 739 = .ok (.iload_n 3, 1) := by decide +kernel
theorem dL_law_740 : decode cL_law 740 = .ok (.iconst 1, 1) := by decide +kernel
theorem dL_law_741 : decode cL_law 741 = .ok (.iadd, 1) := by decide +kernel
theorem dL_law_742 : decode cL_law 742 = .ok (.iaload, 1) := by decide +kernel
theorem dL_law_743 : decode cL_law 743 = .ok (.invokevirtual 85, 3) := by decide +kernel
theorem dL_law_746 : decode cL_law 746 = .ok (.if_icmp .eq 793, 3) := by decide +kernel
theorem dL_law_749 : decode cL_law 749 = .ok (.iconst 0, 1) := by decide +kernel
theorem dL_law_750 : decode cL_law 750 = .ok (.ireturn, 1) := by decide +kernel
theorem dL_law_751 : decode cL_law 751 = .ok (.aload_n 1, 1) := by decide +kernel
theorem dL_law_752 : decode cL_law 752 = .ok (.aload_n 0, 1) := by decide +kernel
theorem dL_law_753 : decode cL_law 753 = .ok (.iload_n 3, 1) := by decide +kernel
theorem dL_law_754 : decode cL_law 754 = .ok (.iconst 1, 1) := by decide +kernel
theorem dL_law_755 : decode cL_law 755 = .ok (.iadd, 1) := by decide +kernel
theorem dL_law_756 : decode cL_law 756 = .ok (.iaload, 1) := by decide +kernel
theorem dL_law_757 : decode cL_law 757 = .ok (.aload_n 0, 1) := by decide +kernel
theorem dL_law_758 : decode cL_law 758 = .ok (.iload_n 3, 1) := by decide +kernel
theorem dL_law_759 : decode cL_law 759 = .ok (.iconst 2, 1) := by decide +kernel
theorem dL_law_760 : decode cL_law 760 = .ok (.iadd, 1) := by decide +kernel
theorem dL_law_761 : decode cL_law 761 = .ok (.iaload, 1) := by decide +kernel
theorem dL_law_762 : decode cL_law 762 = .ok (.aload_n 0, 1) := by decide +kernel
theorem dL_law_763 : decode cL_law 763 = .ok (.iload_n 3, 1) := by decide +kernel
theorem dL_law_764 : decode cL_law 764 = .ok (.iconst 3, 1) := by decide +kernel
theorem dL_law_765 : decode cL_law 765 = .ok (.iadd, 1) := by decide +kernel
theorem dL_law_766 : decode cL_law 766 = .ok (.iaload, 1) := by decide +kernel
theorem dL_law_767 : decode cL_law 767 = .ok (.invokevirtual 86, 3) := by decide +kernel
theorem dL_law_770 : decode cL_law 770 = .ok (.aload_n 2, 1) := by decide +kernel
theorem dL_law_771 : decode cL_law 771 = .ok (.aload_n 0, 1) := by decide +kernel
theorem dL_law_772 : decode cL_law 772 = .ok (.iload_n 3, 1) := by decide +kernel
theorem dL_law_773 : decode cL_law 773 = .ok (.iconst 1, 1) := by decide +kernel
theorem dL_law_774 : decode cL_law 774 = .ok (.iadd, 1) := by decide +kernel
theorem dL_law_775 : decode cL_law 775 = .ok (.iaload, 1) := by decide +kernel
theorem dL_law_776 : decode cL_law 776 = .ok (.aload_n 0, 1) := by decide +kernel
theorem dL_law_777 : decode cL_law 777 = .ok (.iload_n 3, 1) := by decide +kernel
theorem dL_law_778 : decode cL_law 778 = .ok (.iconst 2, 1) := by decide +kernel
theorem dL_law_779 : decode cL_law 779 = .ok (.iadd, 1) := by decide +kernel
theorem dL_law_780 : decode cL_law 780 = .ok (.iaload, 1) := by decide +kernel
theorem dL_law_781 : decode cL_law 781 = .ok (.aload_n 0, 1) := by decide +kernel
theorem dL_law_782 : decode cL_law 782 = .ok (.iload_n 3, 1) := by decide +kernel
theorem dL_law_783 : decode cL_law 783 = .ok (.iconst 3, 1) := by decide +kernel
theorem dL_law_784 : decode cL_law 784 = .ok (.iadd, 1) := by decide +kernel
theorem dL_law_785 : decode cL_law 785 = .ok (.iaload, 1) := by decide +kernel
theorem dL_law_786 : decode cL_law 786 = .ok (.invokevirtual 89, 3) := by decide +kernel
theorem dL_law_789 : decode cL_law 789 = .ok (.if_icmp .eq 750, 3) := by decide +kernel
theorem dL_law_792 : decode cL_law 792 = .ok (.iconst 0, 1) := by decide +kernel
theorem dL_law_793 : decode cL_law 793 = .ok (.ireturn, 1) := by decide +kernel
theorem dL_law_794 : decode cL_law 794 = .ok (.aload_n 1, 1) := by decide +kernel
theorem dL_law_795 : decode cL_law 795 = .ok (.aload_n 0, 1) := by decide +kernel
theorem dL_law_796 : decode cL_law 796 = .ok (.iload_n 3, 1) := by decide +kernel
theorem dL_law_797 : decode cL_law 797 = .ok (.iconst 1, 1) := by decide +kernel
theorem dL_law_798 : decode cL_law 798 = .ok (.iadd, 1) := by decide +kernel
theorem dL_law_799 : decode cL_law 799 = .ok (.iaload, 1) := by decide +kernel
theorem dL_law_800 : decode cL_law 800 = .ok (.aload_n 0, 1) := by decide +kernel
theorem dL_law_801 : decode cL_law 801 = .ok (.iload_n 3, 1) := by decide +kernel
theorem dL_law_802 : decode cL_law 802 = .ok (.iconst 2, 1) := by decide +kernel
theorem dL_law_803 : decode cL_law 803 = .ok (.iadd, 1) := by decide +kernel
theorem dL_law_804 : decode cL_law 804 = .ok (.iaload, 1) := by decide +kernel
theorem dL_law_805 : decode cL_law 805 = .ok (.invokevirtual 90, 3) := by decide +kernel
theorem dL_law_808 : decode cL_law 808 = .ok (.aload_n 2, 1) := by decide +kernel
theorem dL_law_809 : decode cL_law 809 = .ok (.aload_n 0, 1) := by decide +kernel
theorem dL_law_810 : decode cL_law 810 = .ok (.iload_n 3, 1) := by decide +kernel
theorem dL_law_811 : decode cL_law 811 = .ok (.iconst 1, 1) := by decide +kernel
theorem dL_law_812 : decode cL_law 812 = .ok (.iadd, 1) := by decide +kernel
theorem dL_law_813 : decode cL_law 813 = .ok (.iaload, 1) := by decide +kernel
theorem dL_law_814 : decode cL_law 814 = .ok (.aload_n 0, 1) := by decide +kernel
theorem dL_law_815 : decode cL_law 815 = .ok (.iload_n 3, 1) := by decide +kernel
theorem dL_law_816 : decode cL_law 816 = .ok (.iconst 2, 1) := by decide +kernel
theorem dL_law_817 : decode cL_law 817 = .ok (.iadd, 1) := by decide +kernel
theorem dL_law_818 : decode cL_law 818 = .ok (.iaload, 1) := by decide +kernel
theorem dL_law_819 : decode cL_law 819 = .ok (.invokevirtual 93, 3) := by decide +kernel
theorem dL_law_822 : decode cL_law 822 = .ok (.if_icmp .eq 717, 3) := by decide +kernel
theorem dL_law_825 : decode cL_law 825 = .ok (.iconst 0, 1) := by decide +kernel
theorem dL_law_826 : decode cL_law 826 = .ok (.ireturn, 1) := by decide +kernel
theorem dL_law_827 : decode cL_law 827 = .ok (.aload_n 1, 1) := by decide +kernel
theorem dL_law_828 : decode cL_law 828 = .ok (.invokevirtual 94, 3) := by decide +kernel
theorem dL_law_831 : decode cL_law 831 = .ok (.aload_n 2, 1) := by decide +kernel
theorem dL_law_832 : decode cL_law 832 = .ok (.invokevirtual 97, 3) := by decide +kernel
theorem dL_law_835 : decode cL_law 835 = .ok (.if_icmp .eq 704, 3) := by decide +kernel
theorem dL_law_838 : decode cL_law 838 = .ok (.iconst 0, 1) := by decide +kernel
theorem dL_law_839 : decode cL_law 839 = .ok (.ireturn, 1) := by decide +kernel
theorem dL_law_840 : decode cL_law 840 = .ok (.aload_n 1, 1) := by decide +kernel
theorem dL_law_841 : decode cL_law 841 = .ok (.aload_n 0, 1) := by decide +kernel
theorem dL_law_842 : decode cL_law 842 = .ok (.iload_n 3, 1) := by decide +kernel
theorem dL_law_843 : decode cL_law 843 = .ok (.iconst 1, 1) := by decide +kernel
theorem dL_law_844 : decode cL_law 844 = .ok (.iadd, 1) := by decide +kernel
theorem dL_law_845 : decode cL_law 845 = .ok (.iaload, 1) := by decide +kernel
theorem dL_law_846 : decode cL_law 846 = .ok (.aload_n 0, 1) := by decide +kernel
theorem dL_law_847 : decode cL_law 847 = .ok (.iload_n 3, 1) := by decide +kernel
theorem dL_law_848 : decode cL_law 848 = .ok (.iconst 2, 1) := by decide +kernel
theorem dL_law_849 : decode cL_law 849 = .ok (.iadd, 1) := by decide +kernel
theorem dL_law_850 : decode cL_law 850 = .ok (.iaload, 1) := by decide +kernel
theorem dL_law_851 : decode cL_law 851 = .ok (.aload_n 0, 1) := by decide +kernel
theorem dL_law_852 : decode cL_law 852 = .ok (.iload_n 3, 1) := by decide +kernel
theorem dL_law_853 : decode cL_law 853 = .ok (.iconst 3, 1) := by decide +kernel
theorem dL_law_854 : decode cL_law 854 = .ok (.iadd, 1) := by decide +kernel
theorem dL_law_855 : decode cL_law 855 = .ok (.iaload, 1) := by decide +kernel
theorem dL_law_856 : decode cL_law 856 = .ok (.invokevirtual 98, 3) := by decide +kernel
theorem dL_law_859 : decode cL_law 859 = .ok (.aload_n 2, 1) := by decide +kernel
theorem dL_law_860 : decode cL_law 860 = .ok (.aload_n 0, 1) := by decide +kernel
theorem dL_law_861 : decode cL_law 861 = .ok (.iload_n 3, 1) := by decide +kernel
theorem dL_law_862 : decode cL_law 862 = .ok (.iconst 1, 1) := by decide +kernel
theorem dL_law_863 : decode cL_law 863 = .ok (.iadd, 1) := by decide +kernel
theorem dL_law_864 : decode cL_law 864 = .ok (.iaload, 1) := by decide +kernel
theorem dL_law_865 : decode cL_law 865 = .ok (.aload_n 0, 1) := by decide +kernel
theorem dL_law_866 : decode cL_law 866 = .ok (.iload_n 3, 1) := by decide +kernel
theorem dL_law_867 : decode cL_law 867 = .ok (.iconst 2, 1) := by decide +kernel
theorem dL_law_868 : decode cL_law 868 = .ok (.iadd, 1) := by decide +kernel
theorem dL_law_869 : decode cL_law 869 = .ok (.iaload, 1) := by decide +kernel
theorem dL_law_870 : decode cL_law 870 = .ok (.aload_n 0, 1) := by decide +kernel
theorem dL_law_871 : decode cL_law 871 = .ok (.iload_n 3, 1) := by decide +kernel
theorem dL_law_872 : decode cL_law 872 = .ok (.iconst 3, 1) := by decide +kernel
theorem dL_law_873 : decode cL_law 873 = .ok (.iadd, 1) := by decide +kernel
theorem dL_law_874 : decode cL_law 874 = .ok (.iaload, 1) := by decide +kernel
theorem dL_law_875 : decode cL_law 875 = .ok (.invokevirtual 101, 3) := by decide +kernel
theorem dL_law_878 : decode cL_law 878 = .ok (.if_icmp .eq 661, 3) := by decide +kernel
theorem dL_law_881 : decode cL_law 881 = .ok (.iconst 0, 1) := by decide +kernel
theorem dL_law_882 : decode cL_law 882 = .ok (.ireturn, 1) := by decide +kernel
theorem dL_law_883 : decode cL_law 883 = .ok (.aload_n 1, 1) := by decide +kernel
theorem dL_law_884 : decode cL_law 884 = .ok (.aload_n 0, 1) := by decide +kernel
theorem dL_law_885 : decode cL_law 885 = .ok (.iload_n 3, 1) := by decide +kernel
theorem dL_law_886 : decode cL_law 886 = .ok (.iconst 1, 1) := by decide +kernel
theorem dL_law_887 : decode cL_law 887 = .ok (.iadd, 1) := by decide +kernel
theorem dL_law_888 : decode cL_law 888 = .ok (.iaload, 1) := by decide +kernel
theorem dL_law_889 : decode cL_law 889 = .ok (.aload_n 0, 1) := by decide +kernel
theorem dL_law_890 : decode cL_law 890 = .ok (.iload_n 3, 1) := by decide +kernel
theorem dL_law_891 : decode cL_law 891 = .ok (.iconst 2, 1) := by decide +kernel
theorem dL_law_892 : decode cL_law 892 = .ok (.iadd, 1) := by decide +kernel
theorem dL_law_893 : decode cL_law 893 = .ok (.iaload, 1) := by decide +kernel
theorem dL_law_894 : decode cL_law 894 = .ok (.invokevirtual 102, 3) := by decide +kernel
theorem dL_law_897 : decode cL_law 897 = .ok (.aload_n 2, 1) := by decide +kernel
theorem dL_law_898 : decode cL_law 898 = .ok (.aload_n 0, 1) := by decide +kernel
theorem dL_law_899 : decode cL_law 899 = .ok (.iload_n 3, 1) := by decide +kernel
theorem dL_law_900 : decode cL_law 900 = .ok (.iconst 1, 1) := by decide +kernel
theorem dL_law_901 : decode cL_law 901 = .ok (.iadd, 1) := by decide +kernel
theorem dL_law_902 : decode cL_law 902 = .ok (.iaload, 1) := by decide +kernel
theorem dL_law_903 : decode cL_law 903 = .ok (.aload_n 0, 1) := by decide +kernel
theorem dL_law_904 : decode cL_law 904 = .ok (.iload_n 3, 1) := by decide +kernel
theorem dL_law_905 : decode cL_law 905 = .ok (.iconst 2, 1) := by decide +kernel
theorem dL_law_906 : decode cL_law 906 = .ok (.iadd, 1) := by decide +kernel
theorem dL_law_907 : decode cL_law 907 = .ok (.iaload, 1) := by decide +kernel
theorem dL_law_908 : decode cL_law 908 = .ok (.invokevirtual 105, 3) := by decide +kernel
theorem dL_law_911 : decode cL_law 911 = .ok (.if_icmp .eq 628, 3) := by decide +kernel
theorem dL_law_914 : decode cL_law 914 = .ok (.iconst 0, 1) := by decide +kernel
theorem dL_law_915 : decode cL_law 915 = .ok (.ireturn, 1) := by decide +kernel
theorem dL_law_916 : decode cL_law 916 = .ok (.aload_n 1, 1) := by decide +kernel
theorem dL_law_917 : decode cL_law 917 = .ok (.aload_n 0, 1) := by decide +kernel
theorem dL_law_918 : decode cL_law 918 = .ok (.iload_n 3, 1) := by decide +kernel
theorem dL_law_919 : decode cL_law 919 = .ok (.iconst 1, 1) := by decide +kernel
theorem dL_law_920 : decode cL_law 920 = .ok (.iadd, 1) := by decide +kernel
theorem dL_law_921 : decode cL_law 921 = .ok (.iaload, 1) := by decide +kernel
theorem dL_law_922 : decode cL_law 922 = .ok (.aload_n 0, 1) := by decide +kernel
theorem dL_law_923 : decode cL_law 923 = .ok (.iload_n 3, 1) := by decide +kernel
theorem dL_law_924 : decode cL_law 924 = .ok (.iconst 2, 1) := by decide +kernel
theorem dL_law_925 : decode cL_law 925 = .ok (.iadd, 1) := by decide +kernel
theorem dL_law_926 : decode cL_law 926 = .ok (.iaload, 1) := by decide +kernel
theorem dL_law_927 : decode cL_law 927 = .ok (.invokevirtual 106, 3) := by decide +kernel
theorem dL_law_930 : decode cL_law 930 = .ok (.aload_n 2, 1) := by decide +kernel
theorem dL_law_931 : decode cL_law 931 = .ok (.aload_n 0, 1) := by decide +kernel
theorem dL_law_932 : decode cL_law 932 = .ok (.iload_n 3, 1) := by decide +kernel
theorem dL_law_933 : decode cL_law 933 = .ok (.iconst 1, 1) := by decide +kernel
theorem dL_law_934 : decode cL_law 934 = .ok (.iadd, 1) := by decide +kernel
theorem dL_law_935 : decode cL_law 935 = .ok (.iaload, 1) := by decide +kernel
theorem dL_law_936 : decode cL_law 936 = .ok (.aload_n 0, 1) := by decide +kernel
theorem dL_law_937 : decode cL_law 937 = .ok (.iload_n 3, 1) := by decide +kernel
theorem dL_law_938 : decode cL_law 938 = .ok (.iconst 2, 1) := by decide +kernel
theorem dL_law_939 : decode cL_law 939 = .ok (.iadd, 1) := by decide +kernel
theorem dL_law_940 : decode cL_law 940 = .ok (.iaload, 1) := by decide +kernel
theorem dL_law_941 : decode cL_law 941 = .ok (.invokevirtual 109, 3) := by decide +kernel
theorem dL_law_944 : decode cL_law 944 = .ok (.if_icmp .eq 595, 3) := by decide +kernel
theorem dL_law_947 : decode cL_law 947 = .ok (.iconst 0, 1) := by decide +kernel
theorem dL_law_948 : decode cL_law 948 = .ok (.ireturn, 1) := by decide +kernel
theorem dL_law_949 : decode cL_law 949 = .ok (.aload_n 1, 1) := by decide +kernel
theorem dL_law_950 : decode cL_law 950 = .ok (.aload_n 0, 1) := by decide +kernel
theorem dL_law_951 : decode cL_law 951 = .ok (.iload_n 3, 1) := by decide +kernel
theorem dL_law_952 : decode cL_law 952 = .ok (.iconst 1, 1) := by decide +kernel
theorem dL_law_953 : decode cL_law 953 = .ok (.iadd, 1) := by decide +kernel
theorem dL_law_954 : decode cL_law 954 = .ok (.iaload, 1) := by decide +kernel
theorem dL_law_955 : decode cL_law 955 = .ok (.invokevirtual 110, 3) := by decide +kernel
theorem dL_law_958 : decode cL_law 958 = .ok (.aload_n 2, 1) := by decide +kernel
theorem dL_law_959 : decode cL_law 959 = .ok (.aload_n 0, 1) := by decide +kernel
theorem dL_law_960 : decode cL_law 960 = .ok (.iload_n 3, 1) := by decide +kernel
theorem dL_law_961 : decode cL_law 961 = .ok (.iconst 1, 1) := by decide +kernel
theorem dL_law_962 : decode cL_law 962 = .ok (.iadd, 1) := by decide +kernel
theorem dL_law_963 : decode cL_law 963 = .ok (.iaload, 1) := by decide +kernel
theorem dL_law_964 : decode cL_law 964 = .ok (.invokevirtual 113, 3) := by decide +kernel
theorem dL_law_967 : decode cL_law 967 = .ok (.if_icmp .eq 572, 3) := by decide +kernel
theorem dL_law_970 : decode cL_law 970 = .ok (.iconst 0, 1) := by decide +kernel
theorem dL_law_971 : decode cL_law 971 = .ok (.ireturn, 1) := by decide +kernel
theorem dL_law_972 : decode cL_law 972 = .ok (.aload_n 1, 1) := by decide +kernel
theorem dL_law_973 : decode cL_law 973 = .ok (.aload_n 0, 1) := by decide +kernel
theorem dL_law_974 : decode cL_law 974 = .ok (.iload_n 3, 1) := by decide +kernel
theorem dL_law_975 : decode cL_law 975 = .ok (.iconst 1, 1) := by decide +kernel
theorem dL_law_976 : decode cL_law 976 = .ok (.iadd, 1) := by decide +kernel
theorem dL_law_977 : decode cL_law 977 = .ok (.iaload, 1) := by decide +kernel
theorem dL_law_978 : decode cL_law 978 = .ok (.aload_n 0, 1) := by decide +kernel
theorem dL_law_979 : decode cL_law 979 = .ok (.iload_n 3, 1) := by decide +kernel
theorem dL_law_980 : decode cL_law 980 = .ok (.iconst 2, 1) := by decide +kernel
theorem dL_law_981 : decode cL_law 981 = .ok (.iadd, 1) := by decide +kernel
theorem dL_law_982 : decode cL_law 982 = .ok (.iaload, 1) := by decide +kernel
theorem dL_law_983 : decode cL_law 983 = .ok (.aload_n 0, 1) := by decide +kernel
theorem dL_law_984 : decode cL_law 984 = .ok (.iload_n 3, 1) := by decide +kernel
theorem dL_law_985 : decode cL_law 985 = .ok (.iconst 3, 1) := by decide +kernel
theorem dL_law_986 : decode cL_law 986 = .ok (.iadd, 1) := by decide +kernel
theorem dL_law_987 : decode cL_law 987 = .ok (.iaload, 1) := by decide +kernel
theorem dL_law_988 : decode cL_law 988 = .ok (.invokevirtual 114, 3) := by decide +kernel
theorem dL_law_991 : decode cL_law 991 = .ok (.aload_n 2, 1) := by decide +kernel
theorem dL_law_992 : decode cL_law 992 = .ok (.aload_n 0, 1) := by decide +kernel
theorem dL_law_993 : decode cL_law 993 = .ok (.iload_n 3, 1) := by decide +kernel
theorem dL_law_994 : decode cL_law 994 = .ok (.iconst 1, 1) := by decide +kernel
theorem dL_law_995 : decode cL_law 995 = .ok (.iadd, 1) := by decide +kernel
theorem dL_law_996 : decode cL_law 996 = .ok (.iaload, 1) := by decide +kernel
theorem dL_law_997 : decode cL_law 997 = .ok (.aload_n 0, 1) := by decide +kernel
theorem dL_law_998 : decode cL_law 998 = .ok (.iload_n 3, 1) := by decide +kernel
theorem dL_law_999 : decode cL_law 999 = .ok (.iconst 2, 1) := by decide +kernel
theorem dL_law_1000 : decode cL_law 1000 = .ok (.iadd, 1) := by decide +kernel
theorem dL_law_1001 : decode cL_law 1001 = .ok (.iaload, 1) := by decide +kernel
theorem dL_law_1002 : decode cL_law 1002 = .ok (.aload_n 0, 1) := by decide +kernel
theorem dL_law_1003 : decode cL_law 1003 = .ok (.iload_n 3, 1) := by decide +kernel
theorem dL_law_1004 : decode cL_law 1004 = .ok (.iconst 3, 1) := by decide +kernel
theorem dL_law_1005 : decode cL_law 1005 = .ok (.iadd, 1) := by decide +kernel
theorem dL_law_1006 : decode cL_law 1006 = .ok (.iaload, 1) := by decide +kernel
theorem dL_law_1007 : decode cL_law 1007 = .ok (.invokevirtual 117, 3) := by decide +kernel
theorem dL_law_1010 : decode cL_law 1010 = .ok (.if_icmp .eq 529, 3) := by decide +kernel
theorem dL_law_1013 : decode cL_law 1013 = .ok (.iconst 0, 1) := by decide +kernel
theorem dL_law_1014 : decode cL_law 1014 = .ok (.ireturn, 1) := by decide +kernel
theorem dL_law_1015 : decode cL_law 1015 = .ok (.aload_n 1, 1) := by decide +kernel
theorem dL_law_1016 : decode cL_law 1016 = .ok (.aload_n 0, 1) := by decide +kernel
theorem dL_law_1017 : decode cL_law 1017 = .ok (.iload_n 3, 1) := by decide +kernel
theorem dL_law_1018 : decode cL_law 1018 = .ok (.iconst 1, 1) := by decide +kernel
theorem dL_law_1019 : decode cL_law 1019 = .ok (.iadd, 1) := by decide +kernel
theorem dL_law_1020 : decode cL_law 1020 = .ok (.iaload, 1) := by decide +kernel
theorem dL_law_1021 : decode cL_law 1021 = .ok (.invokevirtual 118, 3) := by decide +kernel
theorem dL_law_1024 : decode cL_law 1024 = .ok (.aload_n 2, 1) := by decide +kernel
theorem dL_law_1025 : decode cL_law 1025 = .ok (.aload_n 0, 1) := by decide +kernel
theorem dL_law_1026 : decode cL_law 1026 = .ok (.iload_n 3, 1) := by decide +kernel
theorem dL_law_1027 : decode cL_law 1027 = .ok (.iconst 1, 1) := by decide +kernel
theorem dL_law_1028 : decode cL_law 1028 = .ok (.iadd, 1) := by decide +kernel
theorem dL_law_1029 : decode cL_law 1029 = .ok (.iaload, 1) := by decide +kernel
theorem dL_law_1030 : decode cL_law 1030 = .ok (.invokevirtual 121, 3) := by decide +kernel
theorem dL_law_1033 : decode cL_law 1033 = .ok (.if_icmp .eq 506, 3) := by decide +kernel
theorem dL_law_1036 : decode cL_law 1036 = .ok (.iconst 0, 1) := by decide +kernel
theorem dL_law_1037 : decode cL_law 1037 = .ok (.ireturn, 1) := by decide +kernel
theorem dL_law_1038 : decode cL_law 1038 = .ok (.aload_n 1, 1) := by decide +kernel
theorem dL_law_1039 : decode cL_law 1039 = .ok (.invokevirtual 122, 3) := by decide +kernel
theorem dL_law_1042 : decode cL_law 1042 = .ok (.aload_n 2, 1) := by decide +kernel
theorem dL_law_1043 : decode cL_law 1043 = .ok (.invokevirtual 125, 3) := by decide +kernel
theorem dL_law_1046 : decode cL_law 1046 = .ok (.if_icmp .eq 493, 3) := by decide +kernel
theorem dL_law_1049 : decode cL_law 1049 = .ok (.iconst 0, 1) := by decide +kernel
theorem dL_law_1050 : decode cL_law 1050 = .ok (.ireturn, 1) := by decide +kernel
theorem dL_law_1051 : decode cL_law 1051 = .ok (.aload_n 1, 1) := by decide +kernel
theorem dL_law_1052 : decode cL_law 1052 = .ok (.aload_n 0, 1) := by decide +kernel
theorem dL_law_1053 : decode cL_law 1053 = .ok (.iload_n 3, 1) := by decide +kernel
theorem dL_law_1054 : decode cL_law 1054 = .ok (.iconst 1, 1) := by decide +kernel
theorem dL_law_1055 : decode cL_law 1055 = .ok (.iadd, 1) := by decide +kernel
theorem dL_law_1056 : decode cL_law 1056 = .ok (.iaload, 1) := by decide +kernel
theorem dL_law_1057 : decode cL_law 1057 = .ok (.aload_n 0, 1) := by decide +kernel
theorem dL_law_1058 : decode cL_law 1058 = .ok (.iload_n 3, 1) := by decide +kernel
theorem dL_law_1059 : decode cL_law 1059 = .ok (.iconst 2, 1) := by decide +kernel
theorem dL_law_1060 : decode cL_law 1060 = .ok (.iadd, 1) := by decide +kernel
theorem dL_law_1061 : decode cL_law 1061 = .ok (.iaload, 1) := by decide +kernel
theorem dL_law_1062 : decode cL_law 1062 = .ok (.invokevirtual 126, 3) := by decide +kernel
theorem dL_law_1065 : decode cL_law 1065 = .ok (.aload_n 2, 1) := by decide +kernel
theorem dL_law_1066 : decode cL_law 1066 = .ok (.aload_n 0, 1) := by decide +kernel
theorem dL_law_1067 : decode cL_law 1067 = .ok (.iload_n 3, 1) := by decide +kernel
theorem dL_law_1068 : decode cL_law 1068 = .ok (.iconst 1, 1) := by decide +kernel
theorem dL_law_1069 : decode cL_law 1069 = .ok (.iadd, 1) := by decide +kernel
theorem dL_law_1070 : decode cL_law 1070 = .ok (.iaload, 1) := by decide +kernel
theorem dL_law_1071 : decode cL_law 1071 = .ok (.aload_n 0, 1) := by decide +kernel
theorem dL_law_1072 : decode cL_law 1072 = .ok (.iload_n 3, 1) := by decide +kernel
theorem dL_law_1073 : decode cL_law 1073 = .ok (.iconst 2, 1) := by decide +kernel
theorem dL_law_1074 : decode cL_law 1074 = .ok (.iadd, 1) := by decide +kernel
theorem dL_law_1075 : decode cL_law 1075 = .ok (.iaload, 1) := by decide +kernel
theorem dL_law_1076 : decode cL_law 1076 = .ok (.invokevirtual 129, 3) := by decide +kernel
theorem dL_law_1079 : decode cL_law 1079 = .ok (.if_icmp .eq 460, 3) := by decide +kernel
theorem dL_law_1082 : decode cL_law 1082 = .ok (.iconst 0, 1) := by decide +kernel
theorem dL_law_1083 : decode cL_law 1083 = .ok (.ireturn, 1) := by decide +kernel
theorem dL_law_1084 : decode cL_law 1084 = .ok (.aload_n 1, 1) := by decide +kernel
theorem dL_law_1085 : decode cL_law 1085 = .ok (.aload_n 0, 1) := by decide +kernel
theorem dL_law_1086 : decode cL_law 1086 = .ok (.iload_n 3, 1) := by decide +kernel
theorem dL_law_1087 : decode cL_law 1087 = .ok (.iconst 1, 1) := by decide +kernel
theorem dL_law_1088 : decode cL_law 1088 = .ok (.iadd, 1) := by decide +kernel
theorem dL_law_1089 : decode cL_law 1089 = .ok (.iaload, 1) := by decide +kernel
theorem dL_law_1090 : decode cL_law 1090 = .ok (.invokevirtual 130, 3) := by decide +kernel
theorem dL_law_1093 : decode cL_law 1093 = .ok (.aload_n 2, 1) := by decide +kernel
theorem dL_law_1094 : decode cL_law 1094 = .ok (.aload_n 0, 1) := by decide +kernel
theorem dL_law_1095 : decode cL_law 1095 = .ok (.iload_n 3, 1) := by decide +kernel
theorem dL_law_1096 : decode cL_law 1096 = .ok (.iconst 1, 1) := by decide +kernel
theorem dL_law_1097 : decode cL_law 1097 = .ok (.iadd, 1) := by decide +kernel
theorem dL_law_1098 : decode cL_law 1098 = .ok (.iaload, 1) := by decide +kernel
theorem dL_law_1099 : decode cL_law 1099 = .ok (.invokevirtual 133, 3) := by decide +kernel
theorem dL_law_1102 : decode cL_law 1102 = .ok (.if_icmp .eq 437, 3) := by decide +kernel
theorem dL_law_1105 : decode cL_law 1105 = .ok (.iconst 0, 1) := by decide +kernel
theorem dL_law_1106 : decode cL_law 1106 = .ok (.ireturn, 1) := by decide +kernel
theorem dL_law_1107 : decode cL_law 1107 = .ok (.aload_n 1, 1) := by decide +kernel
theorem dL_law_1108 : decode cL_law 1108 = .ok (.aload_n 0, 1) := by decide +kernel
theorem dL_law_1109 : decode cL_law 1109 = .ok (.iload_n 3, 1) := by decide +kernel
theorem dL_law_1110 : decode cL_law 1110 = .ok (.iconst 1, 1) := by decide +kernel
theorem dL_law_1111 : decode cL_law 1111 = .ok (.iadd, 1) := by decide +kernel
theorem dL_law_1112 : decode cL_law 1112 = .ok (.iaload, 1) := by decide +kernel
theorem dL_law_1113 : decode cL_law 1113 = .ok (.aload_n 0, 1) := by decide +kernel
theorem dL_law_1114 : decode cL_law 1114 = .ok (.iload_n 3, 1) := by decide +kernel
theorem dL_law_1115 : decode cL_law 1115 = .ok (.iconst 2, 1) := by decide +kernel
theorem dL_law_1116 : decode cL_law 1116 = .ok (.iadd, 1) := by decide +kernel
theorem dL_law_1117 : decode cL_law 1117 = .ok (.iaload, 1) := by decide +kernel
theorem dL_law_1118 : decode cL_law 1118 = .ok (.aload_n 0, 1) := by decide +kernel
theorem dL_law_1119 : decode cL_law 1119 = .ok (.iload_n 3, 1) := by decide +kernel
theorem dL_law_1120 : decode cL_law 1120 = .ok (.iconst 3, 1) := by decide +kernel
theorem dL_law_1121 : decode cL_law 1121 = .ok (.iadd, 1) := by decide +kernel
theorem dL_law_1122 : decode cL_law 1122 = .ok (.iaload, 1) := by decide +kernel
theorem dL_law_1123 : decode cL_law 1123 = .ok (.invokevirtual 134, 3) := by decide +kernel
theorem dL_law_1126 : decode cL_law 1126 = .ok (.aload_n 2, 1) := by decide +kernel
theorem dL_law_1127 : decode cL_law 1127 = .ok (.aload_n 0, 1) := by decide +kernel
theorem dL_law_1128 : decode cL_law 1128 = .ok (.iload_n 3, 1) := by decide +kernel
theorem dL_law_1129 : decode cL_law 1129 = .ok (.iconst 1, 1) := by decide +kernel
theorem dL_law_1130 : decode cL_law 1130 = .ok (.iadd, 1) := by decide +kernel
theorem dL_law_1131 : decode cL_law 1131 = .ok (.iaload, 1) := by decide +kernel
theorem dL_law_1132 : decode cL_law 1132 = .ok (.aload_n 0, 1) := by decide +kernel
theorem dL_law_1133 : decode cL_law 1133 = .ok (.iload_n 3, 1) := by decide +kernel
theorem dL_law_1134 : decode cL_law 1134 = .ok (.iconst 2, 1) := by decide +kernel
theorem dL_law_1135 : decode cL_law 1135 = .ok (.iadd, 1) := by decide +kernel
theorem dL_law_1136 : decode cL_law 1136 = .ok (.iaload, 1) := by decide +kernel
theorem dL_law_1137 : decode cL_law 1137 = .ok (.aload_n 0, 1) := by decide +kernel
theorem dL_law_1138 : decode cL_law 1138 = .ok (.iload_n 3, 1) := by decide +kernel
theorem dL_law_1139 : decode cL_law 1139 = .ok (.iconst 3, 1) := by decide +kernel
theorem dL_law_1140 : decode cL_law 1140 = .ok (.iadd, 1) := by decide +kernel
theorem dL_law_1141 : decode cL_law 1141 = .ok (.iaload, 1) := by decide +kernel
theorem dL_law_1142 : decode cL_law 1142 = .ok (.invokevirtual 137, 3) := by decide +kernel
theorem dL_law_1145 : decode cL_law 1145 = .ok (.if_icmp .eq 394, 3) := by decide +kernel
theorem dL_law_1148 : decode cL_law 1148 = .ok (.iconst 0, 1) := by decide +kernel
theorem dL_law_1149 : decode cL_law 1149 = .ok (.ireturn, 1) := by decide +kernel
theorem dL_law_1150 : decode cL_law 1150 = .ok (.aload_n 1, 1) := by decide +kernel
theorem dL_law_1151 : decode cL_law 1151 = .ok (.aload_n 0, 1) := by decide +kernel
theorem dL_law_1152 : decode cL_law 1152 = .ok (.iload_n 3, 1) := by decide +kernel
theorem dL_law_1153 : decode cL_law 1153 = .ok (.iconst 1, 1) := by decide +kernel
theorem dL_law_1154 : decode cL_law 1154 = .ok (.iadd, 1) := by decide +kernel
theorem dL_law_1155 : decode cL_law 1155 = .ok (.iaload, 1) := by decide +kernel
theorem dL_law_1156 : decode cL_law 1156 = .ok (.aload_n 0, 1) := by decide +kernel
theorem dL_law_1157 : decode cL_law 1157 = .ok (.iload_n 3, 1) := by decide +kernel
theorem dL_law_1158 : decode cL_law 1158 = .ok (.iconst 2, 1) := by decide +kernel
theorem dL_law_1159 : decode cL_law 1159 = .ok (.iadd, 1) := by decide +kernel
theorem dL_law_1160 : decode cL_law 1160 = .ok (.iaload, 1) := by decide +kernel
theorem dL_law_1161 : decode cL_law 1161 = .ok (.aload_n 0, 1) := by decide +kernel
theorem dL_law_1162 : decode cL_law 1162 = .ok (.iload_n 3, 1) := by decide +kernel
theorem dL_law_1163 : decode cL_law 1163 = .ok (.iconst 3, 1) := by decide +kernel
theorem dL_law_1164 : decode cL_law 1164 = .ok (.iadd, 1) := by decide +kernel
theorem dL_law_1165 : decode cL_law 1165 = .ok (.iaload, 1) := by decide +kernel
theorem dL_law_1166 : decode cL_law 1166 = .ok (.invokevirtual 138, 3) := by decide +kernel
theorem dL_law_1169 : decode cL_law 1169 = .ok (.aload_n 2, 1) := by decide +kernel
theorem dL_law_1170 : decode cL_law 1170 = .ok (.aload_n 0, 1) := by decide +kernel
theorem dL_law_1171 : decode cL_law 1171 = .ok (.iload_n 3, 1) := by decide +kernel
theorem dL_law_1172 : decode cL_law 1172 = .ok (.iconst 1, 1) := by decide +kernel
theorem dL_law_1173 : decode cL_law 1173 = .ok (.iadd, 1) := by decide +kernel
theorem dL_law_1174 : decode cL_law 1174 = .ok (.iaload, 1) := by decide +kernel
theorem dL_law_1175 : decode cL_law 1175 = .ok (.aload_n 0, 1) := by decide +kernel
theorem dL_law_1176 : decode cL_law 1176 = .ok (.iload_n 3, 1) := by decide +kernel
theorem dL_law_1177 : decode cL_law 1177 = .ok (.iconst 2, 1) := by decide +kernel
theorem dL_law_1178 : decode cL_law 1178 = .ok (.iadd, 1) := by decide +kernel
theorem dL_law_1179 : decode cL_law 1179 = .ok (.iaload, 1) := by decide +kernel
theorem dL_law_1180 : decode cL_law 1180 = .ok (.aload_n 0, 1) := by decide +kernel
theorem dL_law_1181 : decode cL_law 1181 = .ok (.iload_n 3, 1) := by decide +kernel
theorem dL_law_1182 : decode cL_law 1182 = .ok (.iconst 3, 1) := by decide +kernel
theorem dL_law_1183 : decode cL_law 1183 = .ok (.iadd, 1) := by decide +kernel
theorem dL_law_1184 : decode cL_law 1184 = .ok (.iaload, 1) := by decide +kernel
theorem dL_law_1185 : decode cL_law 1185 = .ok (.invokevirtual 141, 3) := by decide +kernel
theorem dL_law_1188 : decode cL_law 1188 = .ok (.if_icmp .eq 351, 3) := by decide +kernel
theorem dL_law_1191 : decode cL_law 1191 = .ok (.iconst 0, 1) := by decide +kernel
theorem dL_law_1192 : decode cL_law 1192 = .ok (.ireturn, 1) := by decide +kernel
theorem dL_law_1193 : decode cL_law 1193 = .ok (.aload_n 1, 1) := by decide +kernel
theorem dL_law_1194 : decode cL_law 1194 = .ok (.aload_n 0, 1) := by decide +kernel
theorem dL_law_1195 : decode cL_law 1195 = .ok (.iload_n 3, 1) := by decide +kernel
theorem dL_law_1196 : decode cL_law 1196 = .ok (.iconst 1, 1) := by decide +kernel
theorem dL_law_1197 : decode cL_law 1197 = .ok (.iadd, 1) := by decide +kernel
theorem dL_law_1198 : decode cL_law 1198 = .ok (.iaload, 1) := by decide +kernel
theorem dL_law_1199 : decode cL_law 1199 = .ok (.invokevirtual 142, 3) := by decide +kernel
theorem dL_law_1202 : decode cL_law 1202 = .ok (.aload_n 2, 1) := by decide +kernel
theorem dL_law_1203 : decode cL_law 1203 = .ok (.aload_n 0, 1) := by decide +kernel
theorem dL_law_1204 : decode cL_law 1204 = .ok (.iload_n 3, 1) := by decide +kernel
theorem dL_law_1205 : decode cL_law 1205 = .ok (.iconst 1, 1) := by decide +kernel
theorem dL_law_1206 : decode cL_law 1206 = .ok (.iadd, 1) := by decide +kernel
theorem dL_law_1207 : decode cL_law 1207 = .ok (.iaload, 1) := by decide +kernel
theorem dL_law_1208 : decode cL_law 1208 = .ok (.invokevirtual 145, 3) := by decide +kernel
theorem dL_law_1211 : decode cL_law 1211 = .ok (.if_icmp .eq 328, 3) := by decide +kernel
theorem dL_law_1214 : decode cL_law 1214 = .ok (.iconst 0, 1) := by decide +kernel
theorem dL_law_1215 : decode cL_law 1215 = .ok (.ireturn, 1) := by decide +kernel
theorem dL_law_1216 : decode cL_law 1216 = .ok (.aload_n 1, 1) := by decide +kernel
theorem dL_law_1217 : decode cL_law 1217 = .ok (.aload_n 0, 1) := by decide +kernel
theorem dL_law_1218 : decode cL_law 1218 = .ok (.iload_n 3, 1) := by decide +kernel
theorem dL_law_1219 : decode cL_law 1219 = .ok (.iconst 1, 1) := by decide +kernel
theorem dL_law_1220 : decode cL_law 1220 = .ok (.iadd, 1) := by decide +kernel
theorem dL_law_1221 : decode cL_law 1221 = .ok (.iaload, 1) := by decide +kernel
theorem dL_law_1222 : decode cL_law 1222 = .ok (.invokevirtual 146, 3) := by decide +kernel
theorem dL_law_1225 : decode cL_law 1225 = .ok (.aload_n 2, 1) := by decide +kernel
theorem dL_law_1226 : decode cL_law 1226 = .ok (.aload_n 0, 1) := by decide +kernel
theorem dL_law_1227 : decode cL_law 1227 = .ok (.iload_n 3, 1) := by decide +kernel
theorem dL_law_1228 : decode cL_law 1228 = .ok (.iconst 1, 1) := by decide +kernel
theorem dL_law_1229 : decode cL_law 1229 = .ok (.iadd, 1) := by decide +kernel
theorem dL_law_1230 : decode cL_law 1230 = .ok (.iaload, 1) := by decide +kernel
theorem dL_law_1231 : decode cL_law 1231 = .ok (.invokevirtual 149, 3) := by decide +kernel
theorem dL_law_1234 : decode cL_law 1234 = .ok (.if_icmp .eq 305, 3) := by decide +kernel
theorem dL_law_1237 : decode cL_law 1237 = .ok (.iconst 0, 1) := by decide +kernel
theorem dL_law_1238 : decode cL_law 1238 = .ok (.ireturn, 1) := by decide +kernel
theorem dL_law_1239 : decode cL_law 1239 = .ok (.aload_n 1, 1) := by decide +kernel
theorem dL_law_1240 : decode cL_law 1240 = .ok (.aload_n 0, 1) := by decide +kernel
theorem dL_law_1241 : decode cL_law 1241 = .ok (.iload_n 3, 1) := by decide +kernel
theorem dL_law_1242 : decode cL_law 1242 = .ok (.iconst 1, 1) := by decide +kernel
theorem dL_law_1243 : decode cL_law 1243 = .ok (.iadd, 1) := by decide +kernel
theorem dL_law_1244 : decode cL_law 1244 = .ok (.iaload, 1) := by decide +kernel
theorem dL_law_1245 : decode cL_law 1245 = .ok (.aload_n 0, 1) := by decide +kernel
theorem dL_law_1246 : decode cL_law 1246 = .ok (.iload_n 3, 1) := by decide +kernel
theorem dL_law_1247 : decode cL_law 1247 = .ok (.iconst 2, 1) := by decide +kernel
theorem dL_law_1248 : decode cL_law 1248 = .ok (.iadd, 1) := by decide +kernel
theorem dL_law_1249 : decode cL_law 1249 = .ok (.iaload, 1) := by decide +kernel
theorem dL_law_1250 : decode cL_law 1250 = .ok (.aload_n 0, 1) := by decide +kernel
theorem dL_law_1251 : decode cL_law 1251 = .ok (.iload_n 3, 1) := by decide +kernel
theorem dL_law_1252 : decode cL_law 1252 = .ok (.iconst 3, 1) := by decide +kernel
theorem dL_law_1253 : decode cL_law 1253 = .ok (.iadd, 1) := by decide +kernel
theorem dL_law_1254 : decode cL_law 1254 = .ok (.iaload, 1) := by decide +kernel
theorem dL_law_1255 : decode cL_law 1255 = .ok (.aload_n 0, 1) := by decide +kernel
theorem dL_law_1256 : decode cL_law 1256 = .ok (.iload_n 3, 1) := by decide +kernel
theorem dL_law_1257 : decode cL_law 1257 = .ok (.iconst 4, 1) := by decide +kernel
theorem dL_law_1258 : decode cL_law 1258 = .ok (.iadd, 1) := by decide +kernel
theorem dL_law_1259 : decode cL_law 1259 = .ok (.iaload, 1) := by decide +kernel
theorem dL_law_1260 : decode cL_law 1260 = .ok (.aload_n 0, 1) := by decide +kernel
theorem dL_law_1261 : decode cL_law 1261 = .ok (.iload_n 3, 1) := by decide +kernel
theorem dL_law_1262 : decode cL_law 1262 = .ok (.iconst 5, 1) := by decide +kernel
theorem dL_law_1263 : decode cL_law 1263 = .ok (.iadd, 1) := by decide +kernel
theorem dL_law_1264 : decode cL_law 1264 = .ok (.iaload, 1) := by decide +kernel
theorem dL_law_1265 : decode cL_law 1265 = .ok (.invokevirtual 150, 3) := by decide +kernel
theorem dL_law_1268 : decode cL_law 1268 = .ok (.aload_n 2, 1) := by decide +kernel
theorem dL_law_1269 : decode cL_law 1269 = .ok (.aload_n 0, 1) := by decide +kernel
theorem dL_law_1270 : decode cL_law 1270 = .ok (.iload_n 3, 1) := by decide +kernel
theorem dL_law_1271 : decode cL_law 1271 = .ok (.iconst 1, 1) := by decide +kernel
theorem dL_law_1272 : decode cL_law 1272 = .ok (.iadd, 1) := by decide +kernel
theorem dL_law_1273 : decode cL_law 1273 = .ok (.iaload, 1) := by decide +kernel
theorem dL_law_1274 : decode cL_law 1274 = .ok (.aload_n 0, 1) := by decide +kernel
theorem dL_law_1275 : decode cL_law 1275 = .ok (.iload_n 3, 1) := by decide +kernel
