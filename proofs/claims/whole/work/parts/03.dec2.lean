theorem dX6_mark_43 : decode cX6_mark 43 = .ok (.aload 4, 2) := by decide +kernel
theorem dX6_mark_45 : decode cX6_mark 45 = .ok (.getfield 218, 3) := by decide +kernel
theorem dX6_mark_48 : decode cX6_mark 48 = .ok (.ifCond .ne 23, 3) := by decide +kernel
theorem dX6_mark_51 : decode cX6_mark 51 = .ok (.iload_n 3, 1) := by decide +kernel
theorem dX6_mark_52 : decode cX6_mark 52 = .ok (.ldc 184, 2) := by decide +kernel
theorem dX6_mark_54 : decode cX6_mark 54 = .ok (.if_icmp .ne 6, 3) := by decide +kernel
theorem dX6_mark_57 : decode cX6_mark 57 = .ok (.ldc 127, 2) := by decide +kernel
theorem dX6_mark_59 : decode cX6_mark 59 = .ok (.ireturn, 1) := by decide +kernel
theorem dX6_mark_60 : decode cX6_mark 60 = .ok (.aload 4, 2) := by decide +kernel
theorem dX6_mark_62 : decode cX6_mark 62 = .ok (.getfield 274, 3) := by decide +kernel
theorem dX6_mark_65 : decode cX6_mark 65 = .ok (.iload_n 2, 1) := by decide +kernel
theorem dX6_mark_66 : decode cX6_mark 66 = .ok (.iload_n 3, 1) := by decide +kernel
theorem dX6_mark_67 : decode cX6_mark 67 = .ok (.i2s, 1) := by decide +kernel
theorem dX6_mark_68 : decode cX6_mark 68 = .ok (.iastore, 1) := by decide +kernel
theorem dX6_mark_69 : decode cX6_mark 69 = .ok (.iconst 1, 1) := by decide +kernel
theorem dX6_mark_70 : decode cX6_mark 70 = .ok (.ireturn, 1) := by decide +kernel
theorem dX6_mark_71 : decode cX6_mark 71 = .ok (.iload_n 3, 1) := by decide +kernel
theorem dX6_mark_72 : decode cX6_mark 72 = .ok (.ldc 184, 2) := by decide +kernel
theorem dX6_mark_74 : decode cX6_mark 74 = .ok (.if_icmp .eq 19, 3) := by decide +kernel
theorem dX6_mark_77 : decode cX6_mark 77 = .ok (.iload_n 3, 1) := by decide +kernel
theorem dX6_mark_78 : decode cX6_mark 78 = .ok (.ldc_w 277, 3) := by decide +kernel
theorem dX6_mark_81 : decode cX6_mark 81 = .ok (.ldc_w 278, 3) := by decide +kernel
theorem dX6_mark_84 : decode cX6_mark 84 = .ok (.invokestatic 78, 3) := by decide +kernel
theorem dX6_mark_87 : decode cX6_mark 87 = .ok (.ifCond .ne 6, 3) := by decide +kernel
theorem dX6_mark_90 : decode cX6_mark 90 = .ok (.ldc 85, 2) := by decide +kernel
theorem dX6_mark_92 : decode cX6_mark 92 = .ok (.ireturn, 1) := by decide +kernel
theorem dX6_mark_93 : decode cX6_mark 93 = .ok (.aload 4, 2) := by decide +kernel
theorem dX6_mark_95 : decode cX6_mark 95 = .ok (.getfield 274, 3) := by decide +kernel
theorem dX6_mark_98 : decode cX6_mark 98 = .ok (.iload_n 2, 1) := by decide +kernel
theorem dX6_mark_99 : decode cX6_mark 99 = .ok (.iload_n 3, 1) := by decide +kernel
theorem dX6_mark_100 : decode cX6_mark 100 = .ok (.iastore, 1) := by decide +kernel
theorem dX6_mark_101 : decode cX6_mark 101 = .ok (.iconst 1, 1) := by decide +kernel
theorem dX6_mark_102 : decode cX6_mark 102 = .ok (.ireturn, 1) := by decide +kernel
theorem dX6_pour_0 : decode cX6_pour 0 = .ok (.iload_n 1, 1) := by decide +kernel
theorem dX6_pour_1 : decode cX6_pour 1 = .ok (.invokestatic 215, 3) := by decide +kernel
theorem dX6_pour_4 : decode cX6_pour 4 = .ok (.ifCond .ne 6, 3) := by decide +kernel
theorem dX6_pour_7 : decode cX6_pour 7 = .ok (.ldc 85, 2) := by decide +kernel
theorem dX6_pour_9 : decode cX6_pour 9 = .ok (.ireturn, 1) := by decide +kernel
theorem dX6_pour_10 : decode cX6_pour 10 = .ok (.aload_n 0, 1) := by decide +kernel
theorem dX6_pour_11 : decode cX6_pour 11 = .ok (.getfield 51, 3) := by decide +kernel
theorem dX6_pour_14 : decode cX6_pour 14 = .ok (.iload_n 1, 1) := by decide +kernel
theorem dX6_pour_15 : decode cX6_pour 15 = .ok (.aaload, 1) := by decide +kernel
theorem dX6_pour_16 : decode cX6_pour 16 = .ok (.astore_n 2, 1) := by decide +kernel
theorem dX6_pour_17 : decode cX6_pour 17 = .ok (.aload_n 2, 1) := by decide +kernel
theorem dX6_pour_18 : decode cX6_pour 18 = .ok (.getfield 218, 3) := by decide +kernel
theorem dX6_pour_21 : decode cX6_pour 21 = .ok (.iconst (-1), 1) := by decide +kernel
theorem dX6_pour_22 : decode cX6_pour 22 = .ok (.if_icmp .ne 6, 3) := by decide +kernel
theorem dX6_pour_25 : decode cX6_pour 25 = .ok (.ldc 221, 2) := by decide +kernel
theorem dX6_pour_27 : decode cX6_pour 27 = .ok (.ireturn, 1) := by decide +kernel
theorem dX6_pour_28 : decode cX6_pour 28 = .ok (.iconst 0, 1) := by decide +kernel
theorem dX6_pour_29 : decode cX6_pour 29 = .ok (.istore_n 3, 1) := by decide +kernel
theorem dX6_pour_30 : decode cX6_pour 30 = .ok (.iconst 0, 1) := by decide +kernel
theorem dX6_pour_31 : decode cX6_pour 31 = .ok (.istore 4, 2) := by decide +kernel
theorem dX6_pour_33 : decode cX6_pour 33 = .ok (.iload 4, 2) := by decide +kernel
theorem dX6_pour_35 : decode cX6_pour 35 = .ok (.bipush 6, 2) := by decide +kernel
theorem dX6_pour_37 : decode cX6_pour 37 = .ok (.if_icmp .ge 78, 3) := by decide +kernel
theorem dX6_pour_40 : decode cX6_pour 40 = .ok (.iload 4, 2) := by decide +kernel
theorem dX6_pour_42 : decode cX6_pour 42 = .ok (.aload_n 2, 1) := by decide +kernel
theorem dX6_pour_43 : decode cX6_pour 43 = .ok (.getfield 279, 3) := by decide +kernel
theorem dX6_pour_46 : decode cX6_pour 46 = .ok (.if_icmp .ge 69, 3) := by decide +kernel
theorem dX6_pour_49 : decode cX6_pour 49 = .ok (.aload_n 2, 1) := by decide +kernel
theorem dX6_pour_50 : decode cX6_pour 50 = .ok (.iload 4, 2) := by decide +kernel
theorem dX6_pour_52 : decode cX6_pour 52 = .ok (.invokevirtual 280, 3) := by decide +kernel
theorem dX6_pour_55 : decode cX6_pour 55 = .ok (.ifCond .eq 54, 3) := by decide +kernel
theorem dX6_pour_58 : decode cX6_pour 58 = .ok (.aload_n 2, 1) := by decide +kernel
theorem dX6_pour_59 : decode cX6_pour 59 = .ok (.getfield 274, 3) := by decide +kernel
theorem dX6_pour_62 : decode cX6_pour 62 = .ok (.iload 4, 2) := by decide +kernel
theorem dX6_pour_64 : decode cX6_pour 64 = .ok (.iaload, 1) := by decide +kernel
theorem dX6_pour_65 : decode cX6_pour 65 = .ok (.iconst 0, 1) := by decide +kernel
theorem dX6_pour_66 : decode cX6_pour 66 = .ok (.sipush 9999, 3) := by decide +kernel
theorem dX6_pour_69 : decode cX6_pour 69 = .ok (.invokestatic 283, 3) := by decide +kernel
theorem dX6_pour_72 : decode cX6_pour 72 = .ok (.istore 5, 2) := by decide +kernel
theorem dX6_pour_74 : decode cX6_pour 74 = .ok (.iload_n 3, 1) := by decide +kernel
theorem dX6_pour_75 : decode cX6_pour 75 = .ok (.iload 5, 2) := by decide +kernel
theorem dX6_pour_77 : decode cX6_pour 77 = .ok (.aload_n 0, 1) := by decide +kernel
theorem dX6_pour_78 : decode cX6_pour 78 = .ok (.getfield 28, 3) := by decide +kernel
theorem dX6_pour_81 : decode cX6_pour 81 = .ok (.getfield 132, 3) := by decide +kernel
theorem dX6_pour_84 : decode cX6_pour 84 = .ok (.iload 4, 2) := by decide +kernel
theorem dX6_pour_86 : decode cX6_pour 86 = .ok (.iaload, 1) := by decide +kernel
theorem dX6_pour_87 : decode cX6_pour 87 = .ok (.if_icmp .ne 7, 3) := by decide +kernel
theorem dX6_pour_90 : decode cX6_pour 90 = .ok (.iconst 0, 1) := by decide +kernel
theorem dX6_pour_91 : decode cX6_pour 91 = .ok (.goto 4, 3) := by decide +kernel
theorem dX6_pour_94 : decode cX6_pour 94 = .ok (.iconst 1, 1) := by decide +kernel
theorem dX6_pour_95 : decode cX6_pour 95 = .ok (.iadd, 1) := by decide +kernel
theorem dX6_pour_96 : decode cX6_pour 96 = .ok (.istore_n 3, 1) := by decide +kernel
theorem dX6_pour_97 : decode cX6_pour 97 = .ok (.aload_n 0, 1) := by decide +kernel
theorem dX6_pour_98 : decode cX6_pour 98 = .ok (.getfield 28, 3) := by decide +kernel
theorem dX6_pour_101 : decode cX6_pour 101 = .ok (.getfield 132, 3) := by decide +kernel
theorem dX6_pour_104 : decode cX6_pour 104 = .ok (.iload 4, 2) := by decide +kernel
theorem dX6_pour_106 : decode cX6_pour 106 = .ok (.iload 5, 2) := by decide +kernel
theorem dX6_pour_108 : decode cX6_pour 108 = .ok (.iastore, 1) := by decide +kernel
theorem dX6_pour_109 : decode cX6_pour 109 = .ok (.iinc 4 1, 3) := by decide +kernel
theorem dX6_pour_112 : decode cX6_pour 112 = .ok (.goto (-79), 3) := by decide +kernel
theorem dX6_pour_115 : decode cX6_pour 115 = .ok (.iload_n 3, 1) := by decide +kernel
theorem dX6_pour_116 : decode cX6_pour 116 = .ok (.ireturn, 1) := by decide +kernel
theorem dX6_reads_0 : decode cX6_reads 0 = .ok (.iload_n 1, 1) := by decide +kernel
theorem dX6_reads_1 : decode cX6_reads 1 = .ok (.invokestatic 215, 3) := by decide +kernel
theorem dX6_reads_4 : decode cX6_reads 4 = .ok (.ifCond .ne 6, 3) := by decide +kernel
theorem dX6_reads_7 : decode cX6_reads 7 = .ok (.ldc 85, 2) := by decide +kernel
theorem dX6_reads_9 : decode cX6_reads 9 = .ok (.ireturn, 1) := by decide +kernel
theorem dX6_reads_10 : decode cX6_reads 10 = .ok (.aload_n 0, 1) := by decide +kernel
theorem dX6_reads_11 : decode cX6_reads 11 = .ok (.getfield 51, 3) := by decide +kernel
theorem dX6_reads_14 : decode cX6_reads 14 = .ok (.iload_n 1, 1) := by decide +kernel
theorem dX6_reads_15 : decode cX6_reads 15 = .ok (.aaload, 1) := by decide +kernel
theorem dX6_reads_16 : decode cX6_reads 16 = .ok (.astore_n 2, 1) := by decide +kernel
theorem dX6_reads_17 : decode cX6_reads 17 = .ok (.aload_n 2, 1) := by decide +kernel
theorem dX6_reads_18 : decode cX6_reads 18 = .ok (.getfield 218, 3) := by decide +kernel
theorem dX6_reads_21 : decode cX6_reads 21 = .ok (.iconst (-1), 1) := by decide +kernel
theorem dX6_reads_22 : decode cX6_reads 22 = .ok (.if_icmp .ne 6, 3) := by decide +kernel
theorem dX6_reads_25 : decode cX6_reads 25 = .ok (.ldc 221, 2) := by decide +kernel
theorem dX6_reads_27 : decode cX6_reads 27 = .ok (.ireturn, 1) := by decide +kernel
theorem dX6_reads_28 : decode cX6_reads 28 = .ok (.iconst 0, 1) := by decide +kernel
theorem dX6_reads_29 : decode cX6_reads 29 = .ok (.istore_n 3, 1) := by decide +kernel
theorem dX6_reads_30 : decode cX6_reads 30 = .ok (.iload_n 3, 1) := by decide +kernel
theorem dX6_reads_31 : decode cX6_reads 31 = .ok (.aload_n 2, 1) := by decide +kernel
theorem dX6_reads_32 : decode cX6_reads 32 = .ok (.getfield 279, 3) := by decide +kernel
theorem dX6_reads_35 : decode cX6_reads 35 = .ok (.if_icmp .ge 45, 3) := by decide +kernel
theorem dX6_reads_38 : decode cX6_reads 38 = .ok (.aload_n 2, 1) := by decide +kernel
theorem dX6_reads_39 : decode cX6_reads 39 = .ok (.iload_n 3, 1) := by decide +kernel
theorem dX6_reads_40 : decode cX6_reads 40 = .ok (.invokevirtual 280, 3) := by decide +kernel
theorem dX6_reads_43 : decode cX6_reads 43 = .ok (.ifCond .eq 31, 3) := by decide +kernel
theorem dX6_reads_46 : decode cX6_reads 46 = .ok (.aload_n 0, 1) := by decide +kernel
theorem dX6_reads_47 : decode cX6_reads 47 = .ok (.iload_n 3, 1) := by decide +kernel
theorem dX6_reads_48 : decode cX6_reads 48 = .ok (.invokevirtual 94, 3) := by decide +kernel
theorem dX6_reads_51 : decode cX6_reads 51 = .ok (.ifCond .eq 21, 3) := by decide +kernel
theorem dX6_reads_54 : decode cX6_reads 54 = .ok (.aload_n 2, 1) := by decide +kernel
theorem dX6_reads_55 : decode cX6_reads 55 = .ok (.getfield 274, 3) := by decide +kernel
theorem dX6_reads_58 : decode cX6_reads 58 = .ok (.iload_n 3, 1) := by decide +kernel
theorem dX6_reads_59 : decode cX6_reads 59 = .ok (.iaload, 1) := by decide +kernel
theorem dX6_reads_60 : decode cX6_reads 60 = .ok (.aload_n 0, 1) := by decide +kernel
theorem dX6_reads_61 : decode cX6_reads 61 = .ok (.getfield 28, 3) := by decide +kernel
theorem dX6_reads_64 : decode cX6_reads 64 = .ok (.getfield 106, 3) := by decide +kernel
theorem dX6_reads_67 : decode cX6_reads 67 = .ok (.iload_n 3, 1) := by decide +kernel
theorem dX6_reads_68 : decode cX6_reads 68 = .ok (.iaload, 1) := by decide +kernel
theorem dX6_reads_69 : decode cX6_reads 69 = .ok (.if_icmp .eq 5, 3) := by decide +kernel
theorem dX6_reads_72 : decode cX6_reads 72 = .ok (.iload_n 3, 1) := by decide +kernel
theorem dX6_reads_73 : decode cX6_reads 73 = .ok (.ireturn, 1) := by decide +kernel
theorem dX6_reads_74 : decode cX6_reads 74 = .ok (.iinc 3 1, 3) := by decide +kernel
theorem dX6_reads_77 : decode cX6_reads 77 = .ok (.goto (-47), 3) := by decide +kernel
theorem dX6_reads_80 : decode cX6_reads 80 = .ok (.ldc 184, 2) := by decide +kernel
theorem dX6_reads_82 : decode cX6_reads 82 = .ok (.ireturn, 1) := by decide +kernel
theorem dX6_copy_0 : decode cX6_copy 0 = .ok (.iload_n 1, 1) := by decide +kernel
theorem dX6_copy_1 : decode cX6_copy 1 = .ok (.invokestatic 215, 3) := by decide +kernel
theorem dX6_copy_4 : decode cX6_copy 4 = .ok (.ifCond .eq 10, 3) := by decide +kernel
theorem dX6_copy_7 : decode cX6_copy 7 = .ok (.iload_n 3, 1) := by decide +kernel
theorem dX6_copy_8 : decode cX6_copy 8 = .ok (.invokestatic 215, 3) := by decide +kernel
theorem dX6_copy_11 : decode cX6_copy 11 = .ok (.ifCond .ne 6, 3) := by decide +kernel
theorem dX6_copy_14 : decode cX6_copy 14 = .ok (.ldc 85, 2) := by decide +kernel
theorem dX6_copy_16 : decode cX6_copy 16 = .ok (.ireturn, 1) := by decide +kernel
theorem dX6_copy_17 : decode cX6_copy 17 = .ok (.aload_n 0, 1) := by decide +kernel
theorem dX6_copy_18 : decode cX6_copy 18 = .ok (.getfield 51, 3) := by decide +kernel
theorem dX6_copy_21 : decode cX6_copy 21 = .ok (.iload_n 1, 1) := by decide +kernel
theorem dX6_copy_22 : decode cX6_copy 22 = .ok (.aaload, 1) := by decide +kernel
theorem dX6_copy_23 : decode cX6_copy 23 = .ok (.astore 6, 2) := by decide +kernel
theorem dX6_copy_25 : decode cX6_copy 25 = .ok (.aload_n 0, 1) := by decide +kernel
theorem dX6_copy_26 : decode cX6_copy 26 = .ok (.getfield 51, 3) := by decide +kernel
theorem dX6_copy_29 : decode cX6_copy 29 = .ok (.iload_n 3, 1) := by decide +kernel
theorem dX6_copy_30 : decode cX6_copy 30 = .ok (.aaload, 1) := by decide +kernel
theorem dX6_copy_31 : decode cX6_copy 31 = .ok (.astore 7, 2) := by decide +kernel
theorem dX6_copy_33 : decode cX6_copy 33 = .ok (.aload 6, 2) := by decide +kernel
theorem dX6_copy_35 : decode cX6_copy 35 = .ok (.getfield 218, 3) := by decide +kernel
theorem dX6_copy_38 : decode cX6_copy 38 = .ok (.iconst (-1), 1) := by decide +kernel
theorem dX6_copy_39 : decode cX6_copy 39 = .ok (.if_icmp .eq 12, 3) := by decide +kernel
theorem dX6_copy_42 : decode cX6_copy 42 = .ok (.aload 7, 2) := by decide +kernel
theorem dX6_copy_44 : decode cX6_copy 44 = .ok (.getfield 218, 3) := by decide +kernel
theorem dX6_copy_47 : decode cX6_copy 47 = .ok (.iconst (-1), 1) := by decide +kernel
theorem dX6_copy_48 : decode cX6_copy 48 = .ok (.if_icmp .ne 6, 3) := by decide +kernel
theorem dX6_copy_51 : decode cX6_copy 51 = .ok (.ldc 221, 2) := by decide +kernel
theorem dX6_copy_53 : decode cX6_copy 53 = .ok (.ireturn, 1) := by decide +kernel
theorem dX6_copy_54 : decode cX6_copy 54 = .ok (.aload 6, 2) := by decide +kernel
theorem dX6_copy_56 : decode cX6_copy 56 = .ok (.getfield 218, 3) := by decide +kernel
theorem dX6_copy_59 : decode cX6_copy 59 = .ok (.aload 7, 2) := by decide +kernel
theorem dX6_copy_61 : decode cX6_copy 61 = .ok (.getfield 218, 3) := by decide +kernel
theorem dX6_copy_64 : decode cX6_copy 64 = .ok (.if_icmp .eq 6, 3) := by decide +kernel
theorem dX6_copy_67 : decode cX6_copy 67 = .ok (.ldc 127, 2) := by decide +kernel
theorem dX6_copy_69 : decode cX6_copy 69 = .ok (.ireturn, 1) := by decide +kernel
theorem dX6_copy_70 : decode cX6_copy 70 = .ok (.aload 6, 2) := by decide +kernel
theorem dX6_copy_72 : decode cX6_copy 72 = .ok (.iload_n 2, 1) := by decide +kernel
theorem dX6_copy_73 : decode cX6_copy 73 = .ok (.iload 5, 2) := by decide +kernel
theorem dX6_copy_75 : decode cX6_copy 75 = .ok (.invokevirtual 286, 3) := by decide +kernel
theorem dX6_copy_78 : decode cX6_copy 78 = .ok (.ifCond .eq 15, 3) := by decide +kernel
theorem dX6_copy_81 : decode cX6_copy 81 = .ok (.aload 7, 2) := by decide +kernel
theorem dX6_copy_83 : decode cX6_copy 83 = .ok (.iload 4, 2) := by decide +kernel
theorem dX6_copy_85 : decode cX6_copy 85 = .ok (.iload 5, 2) := by decide +kernel
theorem dX6_copy_87 : decode cX6_copy 87 = .ok (.invokevirtual 286, 3) := by decide +kernel
theorem dX6_copy_90 : decode cX6_copy 90 = .ok (.ifCond .ne 7, 3) := by decide +kernel
theorem dX6_copy_93 : decode cX6_copy 93 = .ok (.ldc_w 273, 3) := by decide +kernel
theorem dX6_copy_96 : decode cX6_copy 96 = .ok (.ireturn, 1) := by decide +kernel
theorem dX6_copy_97 : decode cX6_copy 97 = .ok (.aload 6, 2) := by decide +kernel
theorem dX6_copy_99 : decode cX6_copy 99 = .ok (.getfield 274, 3) := by decide +kernel
theorem dX6_copy_102 : decode cX6_copy 102 = .ok (.iload_n 2, 1) := by decide +kernel
theorem dX6_copy_103 : decode cX6_copy 103 = .ok (.aload 7, 2) := by decide +kernel
theorem dX6_copy_105 : decode cX6_copy 105 = .ok (.getfield 274, 3) := by decide +kernel
theorem dX6_copy_108 : decode cX6_copy 108 = .ok (.iload 4, 2) := by decide +kernel
theorem dX6_copy_110 : decode cX6_copy 110 = .ok (.iload 5, 2) := by decide +kernel
theorem dX6_copy_112 : decode cX6_copy 112 = .ok (.invokestatic 289, 3) := by decide +kernel
theorem dX6_copy_115 : decode cX6_copy 115 = .ok (.iload 5, 2) := by decide +kernel
theorem dX6_copy_117 : decode cX6_copy 117 = .ok (.ireturn, 1) := by decide +kernel
theorem dX6_lay_0 : decode cX6_lay 0 = .ok (.iload_n 1, 1) := by decide +kernel
theorem dX6_lay_1 : decode cX6_lay 1 = .ok (.invokestatic 295, 3) := by decide +kernel
theorem dX6_lay_4 : decode cX6_lay 4 = .ok (.ifCond .eq 12, 3) := by decide +kernel
theorem dX6_lay_7 : decode cX6_lay 7 = .ok (.iload_n 2, 1) := by decide +kernel
theorem dX6_lay_8 : decode cX6_lay 8 = .ok (.iconst 0, 1) := by decide +kernel
theorem dX6_lay_9 : decode cX6_lay 9 = .ok (.iconst 3, 1) := by decide +kernel
theorem dX6_lay_10 : decode cX6_lay 10 = .ok (.invokestatic 78, 3) := by decide +kernel
theorem dX6_lay_13 : decode cX6_lay 13 = .ok (.ifCond .ne 6, 3) := by decide +kernel
theorem dX6_lay_16 : decode cX6_lay 16 = .ok (.ldc 85, 2) := by decide +kernel
theorem dX6_lay_18 : decode cX6_lay 18 = .ok (.ireturn, 1) := by decide +kernel
theorem dX6_lay_19 : decode cX6_lay 19 = .ok (.iload_n 2, 1) := by decide +kernel
theorem dX6_lay_20 : decode cX6_lay 20 = .ok (.iconst 1, 1) := by decide +kernel
theorem dX6_lay_21 : decode cX6_lay 21 = .ok (.if_icmp .ne 11, 3) := by decide +kernel
theorem dX6_lay_24 : decode cX6_lay 24 = .ok (.aload_n 0, 1) := by decide +kernel
theorem dX6_lay_25 : decode cX6_lay 25 = .ok (.iload_n 3, 1) := by decide +kernel
theorem dX6_lay_26 : decode cX6_lay 26 = .ok (.invokevirtual 94, 3) := by decide +kernel
theorem dX6_lay_29 : decode cX6_lay 29 = .ok (.ifCond .eq 15, 3) := by decide +kernel
theorem dX6_lay_32 : decode cX6_lay 32 = .ok (.iload_n 2, 1) := by decide +kernel
theorem dX6_lay_33 : decode cX6_lay 33 = .ok (.iconst 2, 1) := by decide +kernel
theorem dX6_lay_34 : decode cX6_lay 34 = .ok (.if_icmp .ne 13, 3) := by decide +kernel
theorem dX6_lay_37 : decode cX6_lay 37 = .ok (.iload_n 3, 1) := by decide +kernel
theorem dX6_lay_38 : decode cX6_lay 38 = .ok (.invokestatic 215, 3) := by decide +kernel
theorem dX6_lay_41 : decode cX6_lay 41 = .ok (.ifCond .ne 6, 3) := by decide +kernel
theorem dX6_lay_44 : decode cX6_lay 44 = .ok (.ldc 85, 2) := by decide +kernel
theorem dX6_lay_46 : decode cX6_lay 46 = .ok (.ireturn, 1) := by decide +kernel
theorem dX6_lay_47 : decode cX6_lay 47 = .ok (.iload_n 2, 1) := by decide +kernel
theorem dX6_lay_48 : decode cX6_lay 48 = .ok (.iconst 2, 1) := by decide +kernel
theorem dX6_lay_49 : decode cX6_lay 49 = .ok (.if_icmp .ne 19, 3) := by decide +kernel
theorem dX6_lay_52 : decode cX6_lay 52 = .ok (.aload_n 0, 1) := by decide +kernel
theorem dX6_lay_53 : decode cX6_lay 53 = .ok (.getfield 51, 3) := by decide +kernel
theorem dX6_lay_56 : decode cX6_lay 56 = .ok (.iload_n 3, 1) := by decide +kernel
theorem dX6_lay_57 : decode cX6_lay 57 = .ok (.aaload, 1) := by decide +kernel
theorem dX6_lay_58 : decode cX6_lay 58 = .ok (.getfield 218, 3) := by decide +kernel
theorem dX6_lay_61 : decode cX6_lay 61 = .ok (.iconst (-1), 1) := by decide +kernel
theorem dX6_lay_62 : decode cX6_lay 62 = .ok (.if_icmp .ne 6, 3) := by decide +kernel
theorem dX6_lay_65 : decode cX6_lay 65 = .ok (.ldc 221, 2) := by decide +kernel
theorem dX6_lay_67 : decode cX6_lay 67 = .ok (.ireturn, 1) := by decide +kernel
theorem dX6_lay_68 : decode cX6_lay 68 = .ok (.aload_n 0, 1) := by decide +kernel
theorem dX6_lay_69 : decode cX6_lay 69 = .ok (.getfield 58, 3) := by decide +kernel
theorem dX6_lay_72 : decode cX6_lay 72 = .ok (.iload_n 1, 1) := by decide +kernel
theorem dX6_lay_73 : decode cX6_lay 73 = .ok (.aaload, 1) := by decide +kernel
theorem dX6_lay_74 : decode cX6_lay 74 = .ok (.astore 4, 2) := by decide +kernel
theorem dX6_lay_76 : decode cX6_lay 76 = .ok (.aload 4, 2) := by decide +kernel
theorem dX6_lay_78 : decode cX6_lay 78 = .ok (.getfield 298, 3) := by decide +kernel
theorem dX6_lay_81 : decode cX6_lay 81 = .ok (.istore 5, 2) := by decide +kernel
theorem dX6_lay_83 : decode cX6_lay 83 = .ok (.aload 4, 2) := by decide +kernel
theorem dX6_lay_85 : decode cX6_lay 85 = .ok (.iload_n 2, 1) := by decide +kernel
theorem dX6_lay_86 : decode cX6_lay 86 = .ok (.putfield 298, 3) := by decide +kernel
theorem dX6_lay_89 : decode cX6_lay 89 = .ok (.iload_n 2, 1) := by decide +kernel
theorem dX6_lay_90 : decode cX6_lay 90 = .ok (.iconst 1, 1) := by decide +kernel
theorem dX6_lay_91 : decode cX6_lay 91 = .ok (.if_icmp .ne 34, 3) := by decide +kernel
theorem dX6_lay_94 : decode cX6_lay 94 = .ok (.aload 4, 2) := by decide +kernel
theorem dX6_lay_96 : decode cX6_lay 96 = .ok (.aload_n 0, 1) := by decide +kernel
theorem dX6_lay_97 : decode cX6_lay 97 = .ok (.getfield 28, 3) := by decide +kernel
theorem dX6_lay_100 : decode cX6_lay 100 = .ok (.getfield 97, 3) := by decide +kernel
theorem dX6_lay_103 : decode cX6_lay 103 = .ok (.iload_n 3, 1) := by decide +kernel
theorem dX6_lay_104 : decode cX6_lay 104 = .ok (.iaload, 1) := by decide +kernel
theorem dX6_lay_105 : decode cX6_lay 105 = .ok (.putfield 301, 3) := by decide +kernel
theorem dX6_lay_108 : decode cX6_lay 108 = .ok (.aload 4, 2) := by decide +kernel
theorem dX6_lay_110 : decode cX6_lay 110 = .ok (.aload_n 0, 1) := by decide +kernel
theorem dX6_lay_111 : decode cX6_lay 111 = .ok (.getfield 28, 3) := by decide +kernel
theorem dX6_lay_114 : decode cX6_lay 114 = .ok (.getfield 100, 3) := by decide +kernel
theorem dX6_lay_117 : decode cX6_lay 117 = .ok (.iload_n 3, 1) := by decide +kernel
theorem dX6_lay_118 : decode cX6_lay 118 = .ok (.iaload, 1) := by decide +kernel
theorem dX6_lay_119 : decode cX6_lay 119 = .ok (.putfield 303, 3) := by decide +kernel
theorem dX6_lay_122 : decode cX6_lay 122 = .ok (.goto 31, 3) := by decide +kernel
theorem dX6_lay_125 : decode cX6_lay 125 = .ok (.iload_n 2, 1) := by decide +kernel
theorem dX6_lay_126 : decode cX6_lay 126 = .ok (.iconst 2, 1) := by decide +kernel
theorem dX6_lay_127 : decode cX6_lay 127 = .ok (.if_icmp .ne 20, 3) := by decide +kernel
theorem dX6_lay_130 : decode cX6_lay 130 = .ok (.aload 4, 2) := by decide +kernel
theorem dX6_lay_132 : decode cX6_lay 132 = .ok (.getfield 305, 3) := by decide +kernel
theorem dX6_lay_135 : decode cX6_lay 135 = .ok (.aload_n 0, 1) := by decide +kernel
theorem dX6_lay_136 : decode cX6_lay 136 = .ok (.getfield 51, 3) := by decide +kernel
theorem dX6_lay_139 : decode cX6_lay 139 = .ok (.iload_n 3, 1) := by decide +kernel
theorem dX6_lay_140 : decode cX6_lay 140 = .ok (.aaload, 1) := by decide +kernel
theorem dX6_lay_141 : decode cX6_lay 141 = .ok (.invokevirtual 309, 3) := by decide +kernel
theorem dX6_lay_144 : decode cX6_lay 144 = .ok (.goto 9, 3) := by decide +kernel
theorem dX6_lay_147 : decode cX6_lay 147 = .ok (.aload 4, 2) := by decide +kernel
theorem dX6_lay_149 : decode cX6_lay 149 = .ok (.iload_n 3, 1) := by decide +kernel
theorem dX6_lay_150 : decode cX6_lay 150 = .ok (.putfield 311, 3) := by decide +kernel
theorem dX6_lay_153 : decode cX6_lay 153 = .ok (.iload 5, 2) := by decide +kernel
theorem dX6_lay_155 : decode cX6_lay 155 = .ok (.ireturn, 1) := by decide +kernel
theorem dX6_ask_0 : decode cX6_ask 0 = .ok (.iload_n 1, 1) := by decide +kernel
theorem dX6_ask_1 : decode cX6_ask 1 = .ok (.invokestatic 295, 3) := by decide +kernel
theorem dX6_ask_4 : decode cX6_ask 4 = .ok (.ifCond .eq 10, 3) := by decide +kernel
theorem dX6_ask_7 : decode cX6_ask 7 = .ok (.iload_n 2, 1) := by decide +kernel
theorem dX6_ask_8 : decode cX6_ask 8 = .ok (.invokestatic 74, 3) := by decide +kernel
theorem dX6_ask_11 : decode cX6_ask 11 = .ok (.ifCond .ne 6, 3) := by decide +kernel
theorem dX6_ask_14 : decode cX6_ask 14 = .ok (.ldc 85, 2) := by decide +kernel
theorem dX6_ask_16 : decode cX6_ask 16 = .ok (.ireturn, 1) := by decide +kernel
theorem dX6_ask_17 : decode cX6_ask 17 = .ok (.aload_n 0, 1) := by decide +kernel
theorem dX6_ask_18 : decode cX6_ask 18 = .ok (.getfield 58, 3) := by decide +kernel
theorem dX6_ask_21 : decode cX6_ask 21 = .ok (.iload_n 1, 1) := by decide +kernel
theorem dX6_ask_22 : decode cX6_ask 22 = .ok (.aaload, 1) := by decide +kernel
theorem dX6_ask_23 : decode cX6_ask 23 = .ok (.astore_n 3, 1) := by decide +kernel
theorem dX6_ask_24 : decode cX6_ask 24 = .ok (.aload_n 3, 1) := by decide +kernel
theorem dX6_ask_25 : decode cX6_ask 25 = .ok (.getfield 298, 3) := by decide +kernel
theorem dX6_ask_28 : decode cX6_ask 28 = .ok (.ifCond .ne 6, 3) := by decide +kernel
theorem dX6_ask_31 : decode cX6_ask 31 = .ok (.ldc 221, 2) := by decide +kernel
theorem dX6_ask_33 : decode cX6_ask 33 = .ok (.ireturn, 1) := by decide +kernel
theorem dX6_ask_34 : decode cX6_ask 34 = .ok (.aload_n 3, 1) := by decide +kernel
theorem dX6_ask_35 : decode cX6_ask 35 = .ok (.getfield 298, 3) := by decide +kernel
theorem dX6_ask_38 : decode cX6_ask 38 = .ok (.iconst 1, 1) := by decide +kernel
theorem dX6_ask_39 : decode cX6_ask 39 = .ok (.if_icmp .ne 14, 3) := by decide +kernel
theorem dX6_ask_42 : decode cX6_ask 42 = .ok (.aload_n 3, 1) := by decide +kernel
theorem dX6_ask_43 : decode cX6_ask 43 = .ok (.getfield 301, 3) := by decide +kernel
theorem dX6_ask_46 : decode cX6_ask 46 = .ok (.iload_n 2, 1) := by decide +kernel
theorem dX6_ask_47 : decode cX6_ask 47 = .ok (.invokestatic 123, 3) := by decide +kernel
theorem dX6_ask_50 : decode cX6_ask 50 = .ok (.ifCond .ne 6, 3) := by decide +kernel
theorem dX6_ask_53 : decode cX6_ask 53 = .ok (.ldc 127, 2) := by decide +kernel
theorem dX6_ask_55 : decode cX6_ask 55 = .ok (.ireturn, 1) := by decide +kernel
theorem dX6_ask_56 : decode cX6_ask 56 = .ok (.aload_n 3, 1) := by decide +kernel
theorem dX6_ask_57 : decode cX6_ask 57 = .ok (.getfield 301, 3) := by decide +kernel
theorem dX6_ask_60 : decode cX6_ask 60 = .ok (.aload_n 3, 1) := by decide +kernel
theorem dX6_ask_61 : decode cX6_ask 61 = .ok (.getfield 303, 3) := by decide +kernel
theorem dX6_ask_64 : decode cX6_ask 64 = .ok (.invokestatic 119, 3) := by decide +kernel
theorem dX6_ask_67 : decode cX6_ask 67 = .ok (.ireturn, 1) := by decide +kernel
theorem dX6_item_0 : decode cX6_item 0 = .ok (.iload_n 1, 1) := by decide +kernel
theorem dX6_item_1 : decode cX6_item 1 = .ok (.invokestatic 295, 3) := by decide +kernel
theorem dX6_item_4 : decode cX6_item 4 = .ok (.ifCond .ne 6, 3) := by decide +kernel
theorem dX6_item_7 : decode cX6_item 7 = .ok (.ldc 85, 2) := by decide +kernel
theorem dX6_item_9 : decode cX6_item 9 = .ok (.ireturn, 1) := by decide +kernel
theorem dX6_item_10 : decode cX6_item 10 = .ok (.aload_n 0, 1) := by decide +kernel
theorem dX6_item_11 : decode cX6_item 11 = .ok (.getfield 58, 3) := by decide +kernel
theorem dX6_item_14 : decode cX6_item 14 = .ok (.iload_n 1, 1) := by decide +kernel
theorem dX6_item_15 : decode cX6_item 15 = .ok (.aaload, 1) := by decide +kernel
theorem dX6_item_16 : decode cX6_item 16 = .ok (.astore_n 3, 1) := by decide +kernel
theorem dX6_item_17 : decode cX6_item 17 = .ok (.aload_n 3, 1) := by decide +kernel
theorem dX6_item_18 : decode cX6_item 18 = .ok (.getfield 298, 3) := by decide +kernel
theorem dX6_item_21 : decode cX6_item 21 = .ok (.ifCond .ne 6, 3) := by decide +kernel
theorem dX6_item_24 : decode cX6_item 24 = .ok (.ldc 221, 2) := by decide +kernel
theorem dX6_item_26 : decode cX6_item 26 = .ok (.ireturn, 1) := by decide +kernel
theorem dX6_item_27 : decode cX6_item 27 = .ok (.aload_n 3, 1) := by decide +kernel
theorem dX6_item_28 : decode cX6_item 28 = .ok (.getfield 298, 3) := by decide +kernel
theorem dX6_item_31 : decode cX6_item 31 = .ok (.iconst 2, 1) := by decide +kernel
theorem dX6_item_32 : decode cX6_item 32 = .ok (.if_icmp .eq 6, 3) := by decide +kernel
theorem dX6_item_35 : decode cX6_item 35 = .ok (.ldc 127, 2) := by decide +kernel
theorem dX6_item_37 : decode cX6_item 37 = .ok (.ireturn, 1) := by decide +kernel
theorem dX6_item_38 : decode cX6_item 38 = .ok (.aload_n 3, 1) := by decide +kernel
theorem dX6_item_39 : decode cX6_item 39 = .ok (.getfield 305, 3) := by decide +kernel
theorem dX6_item_42 : decode cX6_item 42 = .ok (.iload_n 2, 1) := by decide +kernel
theorem dX6_item_43 : decode cX6_item 43 = .ok (.invokevirtual 270, 3) := by decide +kernel
theorem dX6_item_46 : decode cX6_item 46 = .ok (.ifCond .ne 7, 3) := by decide +kernel
theorem dX6_item_49 : decode cX6_item 49 = .ok (.ldc_w 273, 3) := by decide +kernel
theorem dX6_item_52 : decode cX6_item 52 = .ok (.ireturn, 1) := by decide +kernel
theorem dX6_item_53 : decode cX6_item 53 = .ok (.aload_n 3, 1) := by decide +kernel
theorem dX6_item_54 : decode cX6_item 54 = .ok (.getfield 305, 3) := by decide +kernel
theorem dX6_item_57 : decode cX6_item 57 = .ok (.iload_n 2, 1) := by decide +kernel
theorem dX6_item_58 : decode cX6_item 58 = .ok (.invokevirtual 280, 3) := by decide +kernel
theorem dX6_item_61 : decode cX6_item 61 = .ok (.ifCond .eq 15, 3) := by decide +kernel
theorem dX6_item_64 : decode cX6_item 64 = .ok (.aload_n 3, 1) := by decide +kernel
theorem dX6_item_65 : decode cX6_item 65 = .ok (.getfield 305, 3) := by decide +kernel
theorem dX6_item_68 : decode cX6_item 68 = .ok (.getfield 274, 3) := by decide +kernel
theorem dX6_item_71 : decode cX6_item 71 = .ok (.iload_n 2, 1) := by decide +kernel
theorem dX6_item_72 : decode cX6_item 72 = .ok (.iaload, 1) := by decide +kernel
theorem dX6_item_73 : decode cX6_item 73 = .ok (.goto 5, 3) := by decide +kernel
theorem dX6_item_76 : decode cX6_item 76 = .ok (.ldc 127, 2) := by decide +kernel
theorem dX6_item_78 : decode cX6_item 78 = .ok (.ireturn, 1) := by decide +kernel
theorem dX6_rest_0 : decode cX6_rest 0 = .ok (.iload_n 1, 1) := by decide +kernel
theorem dX6_rest_1 : decode cX6_rest 1 = .ok (.invokestatic 295, 3) := by decide +kernel
theorem dX6_rest_4 : decode cX6_rest 4 = .ok (.ifCond .ne 6, 3) := by decide +kernel
theorem dX6_rest_7 : decode cX6_rest 7 = .ok (.ldc 85, 2) := by decide +kernel
theorem dX6_rest_9 : decode cX6_rest 9 = .ok (.ireturn, 1) := by decide +kernel
theorem dX6_rest_10 : decode cX6_rest 10 = .ok (.aload_n 0, 1) := by decide +kernel
theorem dX6_rest_11 : decode cX6_rest 11 = .ok (.getfield 58, 3) := by decide +kernel
theorem dX6_rest_14 : decode cX6_rest 14 = .ok (.iload_n 1, 1) := by decide +kernel
theorem dX6_rest_15 : decode cX6_rest 15 = .ok (.aaload, 1) := by decide +kernel
theorem dX6_rest_16 : decode cX6_rest 16 = .ok (.astore_n 3, 1) := by decide +kernel
theorem dX6_rest_17 : decode cX6_rest 17 = .ok (.aload_n 3, 1) := by decide +kernel
theorem dX6_rest_18 : decode cX6_rest 18 = .ok (.getfield 298, 3) := by decide +kernel
theorem dX6_rest_21 : decode cX6_rest 21 = .ok (.ifCond .ne 6, 3) := by decide +kernel
theorem dX6_rest_24 : decode cX6_rest 24 = .ok (.ldc 221, 2) := by decide +kernel
theorem dX6_rest_26 : decode cX6_rest 26 = .ok (.ireturn, 1) := by decide +kernel
theorem dX6_rest_27 : decode cX6_rest 27 = .ok (.aload_n 3, 1) := by decide +kernel
theorem dX6_rest_28 : decode cX6_rest 28 = .ok (.getfield 298, 3) := by decide +kernel
theorem dX6_rest_31 : decode cX6_rest 31 = .ok (.iconst 3, 1) := by decide +kernel
theorem dX6_rest_32 : decode cX6_rest 32 = .ok (.if_icmp .eq 6, 3) := by decide +kernel
theorem dX6_rest_35 : decode cX6_rest 35 = .ok (.ldc 127, 2) := by decide +kernel
theorem dX6_rest_37 : decode cX6_rest 37 = .ok (.ireturn, 1) := by decide +kernel
theorem dX6_rest_38 : decode cX6_rest 38 = .ok (.iload_n 2, 1) := by decide +kernel
theorem dX6_rest_39 : decode cX6_rest 39 = .ok (.ifCond .ne 8, 3) := by decide +kernel
theorem dX6_rest_42 : decode cX6_rest 42 = .ok (.ldc 156, 2) := by decide +kernel
theorem dX6_rest_44 : decode cX6_rest 44 = .ok (.goto 9, 3) := by decide +kernel
theorem dX6_rest_47 : decode cX6_rest 47 = .ok (.aload_n 3, 1) := by decide +kernel
theorem dX6_rest_48 : decode cX6_rest 48 = .ok (.getfield 311, 3) := by decide +kernel
theorem dX6_rest_51 : decode cX6_rest 51 = .ok (.iload_n 2, 1) := by decide +kernel
theorem dX6_rest_52 : decode cX6_rest 52 = .ok (.irem, 1) := by decide +kernel
theorem dX6_rest_53 : decode cX6_rest 53 = .ok (.ireturn, 1) := by decide +kernel
theorem dX6_tell_0 : decode cX6_tell 0 = .ok (.aload_n 0, 1) := by decide +kernel
theorem dX6_tell_1 : decode cX6_tell 1 = .ok (.getfield 66, 3) := by decide +kernel
theorem dX6_tell_4 : decode cX6_tell 4 = .ok (.bipush 60, 2) := by decide +kernel
theorem dX6_tell_6 : decode cX6_tell 6 = .ok (.if_icmp .lt 6, 3) := by decide +kernel
theorem dX6_tell_9 : decode cX6_tell 9 = .ok (.ldc 89, 2) := by decide +kernel
theorem dX6_tell_11 : decode cX6_tell 11 = .ok (.ireturn, 1) := by decide +kernel
theorem dX6_tell_12 : decode cX6_tell 12 = .ok (.aload_n 0, 1) := by decide +kernel
theorem dX6_tell_13 : decode cX6_tell 13 = .ok (.getfield 63, 3) := by decide +kernel
theorem dX6_tell_16 : decode cX6_tell 16 = .ok (.aload_n 0, 1) := by decide +kernel
theorem dX6_tell_17 : decode cX6_tell 17 = .ok (.getfield 66, 3) := by decide +kernel
theorem dX6_tell_20 : decode cX6_tell 20 = .ok (.iload_n 1, 1) := by decide +kernel
theorem dX6_tell_21 : decode cX6_tell 21 = .ok (.iastore, 1) := by decide +kernel
theorem dX6_tell_22 : decode cX6_tell 22 = .ok (.aload_n 0, 1) := by decide +kernel
theorem dX6_tell_23 : decode cX6_tell 23 = .ok (.dup, 1) := by decide +kernel
theorem dX6_tell_24 : decode cX6_tell 24 = .ok (.getfield 66, 3) := by decide +kernel
theorem dX6_tell_27 : decode cX6_tell 27 = .ok (.iconst 1, 1) := by decide +kernel
theorem dX6_tell_28 : decode cX6_tell 28 = .ok (.iadd, 1) := by decide +kernel
theorem dX6_tell_29 : decode cX6_tell 29 = .ok (.putfield 66, 3) := by decide +kernel
theorem dX6_tell_32 : decode cX6_tell 32 = .ok (.aload_n 0, 1) := by decide +kernel
theorem dX6_tell_33 : decode cX6_tell 33 = .ok (.getfield 66, 3) := by decide +kernel
theorem dX6_tell_36 : decode cX6_tell 36 = .ok (.ireturn, 1) := by decide +kernel
theorem dX6_check_0 : decode cX6_check 0 = .ok (.aload_n 0, 1) := by decide +kernel
theorem dX6_check_1 : decode cX6_check 1 = .ok (.getfield 66, 3) := by decide +kernel
theorem dX6_check_4 : decode cX6_check 4 = .ok (.istore_n 2, 1) := by decide +kernel
theorem dX6_check_5 : decode cX6_check 5 = .ok (.aload_n 0, 1) := by decide +kernel
theorem dX6_check_6 : decode cX6_check 6 = .ok (.iconst 0, 1) := by decide +kernel
theorem dX6_check_7 : decode cX6_check 7 = .ok (.putfield 66, 3) := by decide +kernel
theorem dX6_check_10 : decode cX6_check 10 = .ok (.iload_n 1, 1) := by decide +kernel
theorem dX6_check_11 : decode cX6_check 11 = .ok (.iconst 1, 1) := by decide +kernel
theorem dX6_check_12 : decode cX6_check 12 = .ok (.bipush 30, 2) := by decide +kernel
theorem dX6_check_14 : decode cX6_check 14 = .ok (.invokestatic 78, 3) := by decide +kernel
theorem dX6_check_17 : decode cX6_check 17 = .ok (.ifCond .ne 6, 3) := by decide +kernel
theorem dX6_check_20 : decode cX6_check 20 = .ok (.ldc 85, 2) := by decide +kernel
theorem dX6_check_22 : decode cX6_check 22 = .ok (.ireturn, 1) := by decide +kernel
theorem dX6_check_23 : decode cX6_check 23 = .ok (.aload_n 0, 1) := by decide +kernel
theorem dX6_check_24 : decode cX6_check 24 = .ok (.getfield 70, 3) := by decide +kernel
theorem dX6_check_27 : decode cX6_check 27 = .ok (.ifCond .ne 6, 3) := by decide +kernel
theorem dX6_check_30 : decode cX6_check 30 = .ok (.ldc 156, 2) := by decide +kernel
theorem dX6_check_32 : decode cX6_check 32 = .ok (.ireturn, 1) := by decide +kernel
theorem dX6_check_33 : decode cX6_check 33 = .ok (.aload_n 0, 1) := by decide +kernel
theorem dX6_check_34 : decode cX6_check 34 = .ok (.getfield 35, 3) := by decide +kernel
theorem dX6_check_37 : decode cX6_check 37 = .ok (.aload_n 0, 1) := by decide +kernel
theorem dX6_check_38 : decode cX6_check 38 = .ok (.getfield 32, 3) := by decide +kernel
theorem dX6_check_41 : decode cX6_check 41 = .ok (.invokevirtual 205, 3) := by decide +kernel
theorem dX6_check_44 : decode cX6_check 44 = .ok (.iconst 2, 1) := by decide +kernel
theorem dX6_check_45 : decode cX6_check 45 = .ok (.aload_n 0, 1) := by decide +kernel
theorem dX6_check_46 : decode cX6_check 46 = .ok (.getfield 32, 3) := by decide +kernel
theorem dX6_check_49 : decode cX6_check 49 = .ok (.iload_n 1, 1) := by decide +kernel
theorem dX6_check_50 : decode cX6_check 50 = .ok (.invokevirtual 164, 3) := by decide +kernel
theorem dX6_check_53 : decode cX6_check 53 = .ok (.imul, 1) := by decide +kernel
theorem dX6_check_54 : decode cX6_check 54 = .ok (.istore_n 3, 1) := by decide +kernel
theorem dX6_check_55 : decode cX6_check 55 = .ok (.iconst 0, 1) := by decide +kernel
theorem dX6_check_56 : decode cX6_check 56 = .ok (.istore 4, 2) := by decide +kernel
theorem dX6_check_58 : decode cX6_check 58 = .ok (.iload 4, 2) := by decide +kernel
theorem dX6_check_60 : decode cX6_check 60 = .ok (.iload_n 3, 1) := by decide +kernel
theorem dX6_check_61 : decode cX6_check 61 = .ok (.if_icmp .ge 83, 3) := by decide +kernel
theorem dX6_check_64 : decode cX6_check 64 = .ok (.iload 4, 2) := by decide +kernel
theorem dX6_check_66 : decode cX6_check 66 = .ok (.iconst 2, 1) := by decide +kernel
theorem dX6_check_67 : decode cX6_check 67 = .ok (.irem, 1) := by decide +kernel
theorem dX6_check_68 : decode cX6_check 68 = .ok (.ifCond .ne 7, 3) := by decide +kernel
theorem dX6_check_71 : decode cX6_check 71 = .ok (.iconst 1, 1) := by decide +kernel
theorem dX6_check_72 : decode cX6_check 72 = .ok (.goto 4, 3) := by decide +kernel
theorem dX6_check_75 : decode cX6_check 75 = .ok (.iconst 0, 1) := by decide +kernel
theorem dX6_check_76 : decode cX6_check 76 = .ok (.istore 5, 2) := by decide +kernel
theorem dX6_check_78 : decode cX6_check 78 = .ok (.iload 5, 2) := by decide +kernel
theorem dX6_check_80 : decode cX6_check 80 = .ok (.ifCond .eq 11, 3) := by decide +kernel
theorem dX6_check_83 : decode cX6_check 83 = .ok (.aload_n 0, 1) := by decide +kernel
theorem dX6_check_84 : decode cX6_check 84 = .ok (.getfield 35, 3) := by decide +kernel
theorem dX6_check_87 : decode cX6_check 87 = .ok (.iconst 1, 1) := by decide +kernel
theorem dX6_check_88 : decode cX6_check 88 = .ok (.invokevirtual 167, 3) := by decide +kernel
theorem dX6_check_91 : decode cX6_check 91 = .ok (.iload 5, 2) := by decide +kernel
theorem dX6_check_93 : decode cX6_check 93 = .ok (.ifCond .eq 13, 3) := by decide +kernel
theorem dX6_check_96 : decode cX6_check 96 = .ok (.aload_n 0, 1) := by decide +kernel
theorem dX6_check_97 : decode cX6_check 97 = .ok (.getfield 35, 3) := by decide +kernel
theorem dX6_check_100 : decode cX6_check 100 = .ok (.getfield 161, 3) := by decide +kernel
theorem dX6_check_103 : decode cX6_check 103 = .ok (.goto 10, 3) := by decide +kernel
theorem dX6_check_106 : decode cX6_check 106 = .ok (.aload_n 0, 1) := by decide +kernel
theorem dX6_check_107 : decode cX6_check 107 = .ok (.getfield 35, 3) := by decide +kernel
theorem dX6_check_110 : decode cX6_check 110 = .ok (.invokevirtual 314, 3) := by decide +kernel
theorem dX6_check_113 : decode cX6_check 113 = .ok (.istore 6, 2) := by decide +kernel
theorem dX6_check_115 : decode cX6_check 115 = .ok (.iload 4, 2) := by decide +kernel
theorem dX6_check_117 : decode cX6_check 117 = .ok (.iload_n 2, 1) := by decide +kernel
theorem dX6_check_118 : decode cX6_check 118 = .ok (.if_icmp .ge 15, 3) := by decide +kernel
theorem dX6_check_121 : decode cX6_check 121 = .ok (.aload_n 0, 1) := by decide +kernel
theorem dX6_check_122 : decode cX6_check 122 = .ok (.getfield 63, 3) := by decide +kernel
theorem dX6_check_125 : decode cX6_check 125 = .ok (.iload 4, 2) := by decide +kernel
theorem dX6_check_127 : decode cX6_check 127 = .ok (.iaload, 1) := by decide +kernel
theorem dX6_check_128 : decode cX6_check 128 = .ok (.iload 6, 2) := by decide +kernel
theorem dX6_check_130 : decode cX6_check 130 = .ok (.if_icmp .eq 8, 3) := by decide +kernel
theorem dX6_check_133 : decode cX6_check 133 = .ok (.iconst 1, 1) := by decide +kernel
theorem dX6_check_134 : decode cX6_check 134 = .ok (.iload 4, 2) := by decide +kernel
theorem dX6_check_136 : decode cX6_check 136 = .ok (.iadd, 1) := by decide +kernel
theorem dX6_check_137 : decode cX6_check 137 = .ok (.ireturn, 1) := by decide +kernel
theorem dX6_check_138 : decode cX6_check 138 = .ok (.iinc 4 1, 3) := by decide +kernel
theorem dX6_check_141 : decode cX6_check 141 = .ok (.goto (-83), 3) := by decide +kernel
theorem dX6_check_144 : decode cX6_check 144 = .ok (.iload_n 2, 1) := by decide +kernel
theorem dX6_check_145 : decode cX6_check 145 = .ok (.iload_n 3, 1) := by decide +kernel
theorem dX6_check_146 : decode cX6_check 146 = .ok (.if_icmp .le 9, 3) := by decide +kernel
theorem dX6_check_149 : decode cX6_check 149 = .ok (.iconst 1, 1) := by decide +kernel
theorem dX6_check_150 : decode cX6_check 150 = .ok (.iload_n 3, 1) := by decide +kernel
theorem dX6_check_151 : decode cX6_check 151 = .ok (.iadd, 1) := by decide +kernel
theorem dX6_check_152 : decode cX6_check 152 = .ok (.goto 4, 3) := by decide +kernel
theorem dX6_check_155 : decode cX6_check 155 = .ok (.iconst 0, 1) := by decide +kernel
theorem dX6_check_156 : decode cX6_check 156 = .ok (.ireturn, 1) := by decide +kernel
theorem dX6_keep_0 : decode cX6_keep 0 = .ok (.aload_n 0, 1) := by decide +kernel
theorem dX6_keep_1 : decode cX6_keep 1 = .ok (.getfield 32, 3) := by decide +kernel
theorem dX6_keep_4 : decode cX6_keep 4 = .ok (.aload_n 0, 1) := by decide +kernel
theorem dX6_keep_5 : decode cX6_keep 5 = .ok (.getfield 28, 3) := by decide +kernel
theorem dX6_keep_8 : decode cX6_keep 8 = .ok (.invokevirtual 205, 3) := by decide +kernel
theorem dX6_keep_11 : decode cX6_keep 11 = .ok (.aload_n 0, 1) := by decide +kernel
theorem dX6_keep_12 : decode cX6_keep 12 = .ok (.iconst 1, 1) := by decide +kernel
theorem dX6_keep_13 : decode cX6_keep 13 = .ok (.putfield 70, 3) := by decide +kernel
theorem dX6_keep_16 : decode cX6_keep 16 = .ok (.aload_n 0, 1) := by decide +kernel
theorem dX6_keep_17 : decode cX6_keep 17 = .ok (.getfield 28, 3) := by decide +kernel
theorem dX6_keep_20 : decode cX6_keep 20 = .ok (.getfield 86, 3) := by decide +kernel
theorem dX6_keep_23 : decode cX6_keep 23 = .ok (.ireturn, 1) := by decide +kernel
theorem dX6_back_0 : decode cX6_back 0 = .ok (.aload_n 0, 1) := by decide +kernel
theorem dX6_back_1 : decode cX6_back 1 = .ok (.getfield 70, 3) := by decide +kernel
theorem dX6_back_4 : decode cX6_back 4 = .ok (.ifCond .ne 6, 3) := by decide +kernel
theorem dX6_back_7 : decode cX6_back 7 = .ok (.ldc 156, 2) := by decide +kernel
theorem dX6_back_9 : decode cX6_back 9 = .ok (.ireturn, 1) := by decide +kernel
theorem dX6_back_10 : decode cX6_back 10 = .ok (.aload_n 0, 1) := by decide +kernel
theorem dX6_back_11 : decode cX6_back 11 = .ok (.getfield 28, 3) := by decide +kernel
theorem dX6_back_14 : decode cX6_back 14 = .ok (.aload_n 0, 1) := by decide +kernel
theorem dX6_back_15 : decode cX6_back 15 = .ok (.getfield 32, 3) := by decide +kernel
theorem dX6_back_18 : decode cX6_back 18 = .ok (.invokevirtual 205, 3) := by decide +kernel
theorem dX6_back_21 : decode cX6_back 21 = .ok (.aload_n 0, 1) := by decide +kernel
theorem dX6_back_22 : decode cX6_back 22 = .ok (.getfield 28, 3) := by decide +kernel
theorem dX6_back_25 : decode cX6_back 25 = .ok (.getfield 86, 3) := by decide +kernel
theorem dX6_back_28 : decode cX6_back 28 = .ok (.ireturn, 1) := by decide +kernel
theorem dX6_count_0 : decode cX6_count 0 = .ok (.iload_n 1, 1) := by decide +kernel
theorem dX6_count_1 : decode cX6_count 1 = .ok (.tableswitch 108 0 7 #[47, 55, 63, 71, 79, 87, 92, 100], 47) := by decide +kernel
theorem dX6_count_48 : decode cX6_count 48 = .ok (.aload_n 0, 1) := by decide +kernel
theorem dX6_count_49 : decode cX6_count 49 = .ok (.getfield 28, 3) := by decide +kernel
theorem dX6_count_52 : decode cX6_count 52 = .ok (.getfield 86, 3) := by decide +kernel
theorem dX6_count_55 : decode cX6_count 55 = .ok (.ireturn, 1) := by decide +kernel
theorem dX6_count_56 : decode cX6_count 56 = .ok (.aload_n 0, 1) := by decide +kernel
theorem dX6_count_57 : decode cX6_count 57 = .ok (.getfield 28, 3) := by decide +kernel
theorem dX6_count_60 : decode cX6_count 60 = .ok (.getfield 317, 3) := by decide +kernel
theorem dX6_count_63 : decode cX6_count 63 = .ok (.ireturn, 1) := by decide +kernel
theorem dX6_count_64 : decode cX6_count 64 = .ok (.aload_n 0, 1) := by decide +kernel
theorem dX6_count_65 : decode cX6_count 65 = .ok (.getfield 28, 3) := by decide +kernel
theorem dX6_count_68 : decode cX6_count 68 = .ok (.invokevirtual 314, 3) := by decide +kernel
theorem dX6_count_71 : decode cX6_count 71 = .ok (.ireturn, 1) := by decide +kernel
theorem dX6_count_72 : decode cX6_count 72 = .ok (.aload_n 0, 1) := by decide +kernel
theorem dX6_count_73 : decode cX6_count 73 = .ok (.getfield 28, 3) := by decide +kernel
theorem dX6_count_76 : decode cX6_count 76 = .ok (.invokevirtual 212, 3) := by decide +kernel
theorem dX6_count_79 : decode cX6_count 79 = .ok (.ireturn, 1) := by decide +kernel
theorem dX6_count_80 : decode cX6_count 80 = .ok (.aload_n 0, 1) := by decide +kernel
theorem dX6_count_81 : decode cX6_count 81 = .ok (.getfield 28, 3) := by decide +kernel
theorem dX6_count_84 : decode cX6_count 84 = .ok (.getfield 250, 3) := by decide +kernel
theorem dX6_count_87 : decode cX6_count 87 = .ok (.ireturn, 1) := by decide +kernel
theorem dX6_count_88 : decode cX6_count 88 = .ok (.aload_n 0, 1) := by decide +kernel
theorem dX6_count_89 : decode cX6_count 89 = .ok (.getfield 66, 3) := by decide +kernel
theorem dX6_count_92 : decode cX6_count 92 = .ok (.ireturn, 1) := by decide +kernel
theorem dX6_count_93 : decode cX6_count 93 = .ok (.aload_n 0, 1) := by decide +kernel
theorem dX6_count_94 : decode cX6_count 94 = .ok (.getfield 19, 3) := by decide +kernel
theorem dX6_count_97 : decode cX6_count 97 = .ok (.getfield 237, 3) := by decide +kernel
theorem dX6_count_100 : decode cX6_count 100 = .ok (.ireturn, 1) := by decide +kernel
theorem dX6_count_101 : decode cX6_count 101 = .ok (.aload_n 0, 1) := by decide +kernel
theorem dX6_count_102 : decode cX6_count 102 = .ok (.getfield 28, 3) := by decide +kernel
theorem dX6_count_105 : decode cX6_count 105 = .ok (.getfield 153, 3) := by decide +kernel
theorem dX6_count_108 : decode cX6_count 108 = .ok (.ireturn, 1) := by decide +kernel
theorem dX6_count_109 : decode cX6_count 109 = .ok (.ldc 85, 2) := by decide +kernel
theorem dX6_count_111 : decode cX6_count 111 = .ok (.ireturn, 1) := by decide +kernel
theorem dX6_isDay_0 : decode cX6_isDay 0 = .ok (.iload_n 1, 1) := by decide +kernel
theorem dX6_isDay_1 : decode cX6_isDay 1 = .ok (.iconst 0, 1) := by decide +kernel
theorem dX6_isDay_2 : decode cX6_isDay 2 = .ok (.aload_n 0, 1) := by decide +kernel
theorem dX6_isDay_3 : decode cX6_isDay 3 = .ok (.getfield 28, 3) := by decide +kernel
theorem dX6_isDay_6 : decode cX6_isDay 6 = .ok (.getfield 86, 3) := by decide +kernel
theorem dX6_isDay_9 : decode cX6_isDay 9 = .ok (.iconst 1, 1) := by decide +kernel
theorem dX6_isDay_10 : decode cX6_isDay 10 = .ok (.isub, 1) := by decide +kernel
theorem dX6_isDay_11 : decode cX6_isDay 11 = .ok (.invokestatic 78, 3) := by decide +kernel
theorem dX6_isDay_14 : decode cX6_isDay 14 = .ok (.ireturn, 1) := by decide +kernel
theorem dX6_isOne_0 : decode cX6_isOne 0 = .ok (.iload_n 0, 1) := by decide +kernel
theorem dX6_isOne_1 : decode cX6_isOne 1 = .ok (.iconst 0, 1) := by decide +kernel
theorem dX6_isOne_2 : decode cX6_isOne 2 = .ok (.iconst 5, 1) := by decide +kernel
theorem dX6_isOne_3 : decode cX6_isOne 3 = .ok (.invokestatic 78, 3) := by decide +kernel
theorem dX6_isOne_6 : decode cX6_isOne 6 = .ok (.ireturn, 1) := by decide +kernel
theorem dX6_isKind_0 : decode cX6_isKind 0 = .ok (.iload_n 0, 1) := by decide +kernel
theorem dX6_isKind_1 : decode cX6_isKind 1 = .ok (.iconst 0, 1) := by decide +kernel
theorem dX6_isKind_2 : decode cX6_isKind 2 = .ok (.iconst 5, 1) := by decide +kernel
theorem dX6_isKind_3 : decode cX6_isKind 3 = .ok (.invokestatic 78, 3) := by decide +kernel
theorem dX6_isKind_6 : decode cX6_isKind 6 = .ok (.ireturn, 1) := by decide +kernel
theorem dX6_isSheet_0 : decode cX6_isSheet 0 = .ok (.iload_n 0, 1) := by decide +kernel
theorem dX6_isSheet_1 : decode cX6_isSheet 1 = .ok (.iconst 0, 1) := by decide +kernel
theorem dX6_isSheet_2 : decode cX6_isSheet 2 = .ok (.iconst 3, 1) := by decide +kernel
theorem dX6_isSheet_3 : decode cX6_isSheet 3 = .ok (.invokestatic 78, 3) := by decide +kernel
theorem dX6_isSheet_6 : decode cX6_isSheet 6 = .ok (.ireturn, 1) := by decide +kernel
theorem dX6_isSlot_0 : decode cX6_isSlot 0 = .ok (.iload_n 0, 1) := by decide +kernel
theorem dX6_isSlot_1 : decode cX6_isSlot 1 = .ok (.iconst 0, 1) := by decide +kernel
theorem dX6_isSlot_2 : decode cX6_isSlot 2 = .ok (.iconst 4, 1) := by decide +kernel
theorem dX6_isSlot_3 : decode cX6_isSlot 3 = .ok (.invokestatic 78, 3) := by decide +kernel
theorem dX6_isSlot_6 : decode cX6_isSlot 6 = .ok (.ireturn, 1) := by decide +kernel
theorem dX6_within_0 : decode cX6_within 0 = .ok (.iload_n 0, 1) := by decide +kernel
theorem dX6_within_1 : decode cX6_within 1 = .ok (.iload_n 1, 1) := by decide +kernel
theorem dX6_within_2 : decode cX6_within 2 = .ok (.if_icmp .lt 12, 3) := by decide +kernel
theorem dX6_within_5 : decode cX6_within 5 = .ok (.iload_n 0, 1) := by decide +kernel
theorem dX6_within_6 : decode cX6_within 6 = .ok (.iload_n 2, 1) := by decide +kernel
theorem dX6_within_7 : decode cX6_within 7 = .ok (.if_icmp .gt 7, 3) := by decide +kernel
theorem dX6_within_10 : decode cX6_within 10 = .ok (.iconst 1, 1) := by decide +kernel
theorem dX6_within_11 : decode cX6_within 11 = .ok (.goto 4, 3) := by decide +kernel
theorem dX6_within_14 : decode cX6_within 14 = .ok (.iconst 0, 1) := by decide +kernel
theorem dX6_within_15 : decode cX6_within 15 = .ok (.ireturn, 1) := by decide +kernel
theorem dX6_held_0 : decode cX6_held 0 = .ok (.iload_n 1, 1) := by decide +kernel
theorem dX6_held_1 : decode cX6_held 1 = .ok (.iload_n 2, 1) := by decide +kernel
theorem dX6_held_2 : decode cX6_held 2 = .ok (.iload_n 0, 1) := by decide +kernel
theorem dX6_held_3 : decode cX6_held 3 = .ok (.invokestatic 145, 3) := by decide +kernel
theorem dX6_held_6 : decode cX6_held 6 = .ok (.invokestatic 320, 3) := by decide +kernel
theorem dX6_held_9 : decode cX6_held 9 = .ok (.ireturn, 1) := by decide +kernel
theorem dX6_exchange_0 : decode cX6_exchange 0 = .ok (.aload_n 0, 1) := by decide +kernel
theorem dX6_exchange_1 : decode cX6_exchange 1 = .ok (.iload_n 1, 1) := by decide +kernel
theorem dX6_exchange_2 : decode cX6_exchange 2 = .ok (.iaload, 1) := by decide +kernel
theorem dX6_exchange_3 : decode cX6_exchange 3 = .ok (.istore_n 3, 1) := by decide +kernel
theorem dX6_exchange_4 : decode cX6_exchange 4 = .ok (.aload_n 0, 1) := by decide +kernel
theorem dX6_exchange_5 : decode cX6_exchange 5 = .ok (.iload_n 1, 1) := by decide +kernel
theorem dX6_exchange_6 : decode cX6_exchange 6 = .ok (.iload_n 2, 1) := by decide +kernel
theorem dX6_exchange_7 : decode cX6_exchange 7 = .ok (.iastore, 1) := by decide +kernel
theorem dX6_exchange_8 : decode cX6_exchange 8 = .ok (.iload_n 3, 1) := by decide +kernel
theorem dX6_exchange_9 : decode cX6_exchange 9 = .ok (.ireturn, 1) := by decide +kernel
theorem dX6_sumOver_0 : decode cX6_sumOver 0 = .ok (.iconst 0, 1) := by decide +kernel
theorem dX6_sumOver_1 : decode cX6_sumOver 1 = .ok (.istore_n 2, 1) := by decide +kernel
theorem dX6_sumOver_2 : decode cX6_sumOver 2 = .ok (.iconst 0, 1) := by decide +kernel
theorem dX6_sumOver_3 : decode cX6_sumOver 3 = .ok (.istore_n 3, 1) := by decide +kernel
theorem dX6_sumOver_4 : decode cX6_sumOver 4 = .ok (.iload_n 3, 1) := by decide +kernel
theorem dX6_sumOver_5 : decode cX6_sumOver 5 = .ok (.aload_n 0, 1) := by decide +kernel
theorem dX6_sumOver_6 : decode cX6_sumOver 6 = .ok (.arraylength, 1) := by decide +kernel
theorem dX6_sumOver_7 : decode cX6_sumOver 7 = .ok (.if_icmp .ge 23, 3) := by decide +kernel
theorem dX6_sumOver_10 : decode cX6_sumOver 10 = .ok (.iload_n 1, 1) := by decide +kernel
theorem dX6_sumOver_11 : decode cX6_sumOver 11 = .ok (.iload_n 3, 1) := by decide +kernel
theorem dX6_sumOver_12 : decode cX6_sumOver 12 = .ok (.ishr, 1) := by decide +kernel
theorem dX6_sumOver_13 : decode cX6_sumOver 13 = .ok (.iconst 1, 1) := by decide +kernel
theorem dX6_sumOver_14 : decode cX6_sumOver 14 = .ok (.iand, 1) := by decide +kernel
theorem dX6_sumOver_15 : decode cX6_sumOver 15 = .ok (.ifCond .eq 9, 3) := by decide +kernel
theorem dX6_sumOver_18 : decode cX6_sumOver 18 = .ok (.iload_n 2, 1) := by decide +kernel
theorem dX6_sumOver_19 : decode cX6_sumOver 19 = .ok (.aload_n 0, 1) := by decide +kernel
theorem dX6_sumOver_20 : decode cX6_sumOver 20 = .ok (.iload_n 3, 1) := by decide +kernel
theorem dX6_sumOver_21 : decode cX6_sumOver 21 = .ok (.iaload, 1) := by decide +kernel
theorem dX6_sumOver_22 : decode cX6_sumOver 22 = .ok (.iadd, 1) := by decide +kernel
theorem dX6_sumOver_23 : decode cX6_sumOver 23 = .ok (.istore_n 2, 1) := by decide +kernel
theorem dX6_sumOver_24 : decode cX6_sumOver 24 = .ok (.iinc 3 1, 3) := by decide +kernel
theorem dX6_sumOver_27 : decode cX6_sumOver 27 = .ok (.goto (-23), 3) := by decide +kernel
theorem dX6_sumOver_30 : decode cX6_sumOver 30 = .ok (.iload_n 2, 1) := by decide +kernel
theorem dX6_sumOver_31 : decode cX6_sumOver 31 = .ok (.ireturn, 1) := by decide +kernel
theorem dX6_isUnder_0 : decode cX6_isUnder 0 = .ok (.iload_n 0, 1) := by decide +kernel
theorem dX6_isUnder_1 : decode cX6_isUnder 1 = .ok (.istore_n 2, 1) := by decide +kernel
theorem dX6_isUnder_2 : decode cX6_isUnder 2 = .ok (.iconst 0, 1) := by decide +kernel
theorem dX6_isUnder_3 : decode cX6_isUnder 3 = .ok (.istore_n 3, 1) := by decide +kernel
theorem dX6_isUnder_4 : decode cX6_isUnder 4 = .ok (.iload_n 3, 1) := by decide +kernel
theorem dX6_isUnder_5 : decode cX6_isUnder 5 = .ok (.bipush 6, 2) := by decide +kernel
theorem dX6_isUnder_7 : decode cX6_isUnder 7 = .ok (.if_icmp .ge 26, 3) := by decide +kernel
theorem dX6_isUnder_10 : decode cX6_isUnder 10 = .ok (.iload_n 2, 1) := by decide +kernel
theorem dX6_isUnder_11 : decode cX6_isUnder 11 = .ok (.ifCond .lt 22, 3) := by decide +kernel
theorem dX6_isUnder_14 : decode cX6_isUnder 14 = .ok (.iload_n 2, 1) := by decide +kernel
theorem dX6_isUnder_15 : decode cX6_isUnder 15 = .ok (.iload_n 1, 1) := by decide +kernel
theorem dX6_isUnder_16 : decode cX6_isUnder 16 = .ok (.if_icmp .ne 5, 3) := by decide +kernel
theorem dX6_isUnder_19 : decode cX6_isUnder 19 = .ok (.iconst 1, 1) := by decide +kernel
theorem dX6_isUnder_20 : decode cX6_isUnder 20 = .ok (.ireturn, 1) := by decide +kernel
theorem dX6_isUnder_21 : decode cX6_isUnder 21 = .ok (.getstatic 323, 3) := by decide +kernel
theorem dX6_isUnder_24 : decode cX6_isUnder 24 = .ok (.iload_n 2, 1) := by decide +kernel
theorem dX6_isUnder_25 : decode cX6_isUnder 25 = .ok (.iaload, 1) := by decide +kernel
theorem dX6_isUnder_26 : decode cX6_isUnder 26 = .ok (.istore_n 2, 1) := by decide +kernel
theorem dX6_isUnder_27 : decode cX6_isUnder 27 = .ok (.iinc 3 1, 3) := by decide +kernel
theorem dX6_isUnder_30 : decode cX6_isUnder 30 = .ok (.goto (-26), 3) := by decide +kernel
theorem dX6_isUnder_33 : decode cX6_isUnder 33 = .ok (.iconst 0, 1) := by decide +kernel
theorem dX6_isUnder_34 : decode cX6_isUnder 34 = .ok (.ireturn, 1) := by decide +kernel
theorem dX6_worthOf_0 : decode cX6_worthOf 0 = .ok (.iload_n 0, 1) := by decide +kernel
theorem dX6_worthOf_1 : decode cX6_worthOf 1 = .ok (.tableswitch 62 1 5 #[35, 47, 40, 52, 59], 35) := by decide +kernel
theorem dX6_worthOf_36 : decode cX6_worthOf 36 = .ok (.iload_n 1, 1) := by decide +kernel
theorem dX6_worthOf_37 : decode cX6_worthOf 37 = .ok (.bipush 7, 2) := by decide +kernel
theorem dX6_worthOf_39 : decode cX6_worthOf 39 = .ok (.iadd, 1) := by decide +kernel
theorem dX6_worthOf_40 : decode cX6_worthOf 40 = .ok (.ireturn, 1) := by decide +kernel
theorem dX6_worthOf_41 : decode cX6_worthOf 41 = .ok (.iconst 2, 1) := by decide +kernel
theorem dX6_worthOf_42 : decode cX6_worthOf 42 = .ok (.iload_n 1, 1) := by decide +kernel
theorem dX6_worthOf_43 : decode cX6_worthOf 43 = .ok (.bipush 7, 2) := by decide +kernel
theorem dX6_worthOf_45 : decode cX6_worthOf 45 = .ok (.iadd, 1) := by decide +kernel
theorem dX6_worthOf_46 : decode cX6_worthOf 46 = .ok (.imul, 1) := by decide +kernel
theorem dX6_worthOf_47 : decode cX6_worthOf 47 = .ok (.ireturn, 1) := by decide +kernel
theorem dX6_worthOf_48 : decode cX6_worthOf 48 = .ok (.bipush 99, 2) := by decide +kernel
theorem dX6_worthOf_50 : decode cX6_worthOf 50 = .ok (.iload_n 1, 1) := by decide +kernel
theorem dX6_worthOf_51 : decode cX6_worthOf 51 = .ok (.isub, 1) := by decide +kernel
theorem dX6_worthOf_52 : decode cX6_worthOf 52 = .ok (.ireturn, 1) := by decide +kernel
theorem dX6_worthOf_53 : decode cX6_worthOf 53 = .ok (.bipush 99, 2) := by decide +kernel
theorem dX6_worthOf_55 : decode cX6_worthOf 55 = .ok (.iload_n 1, 1) := by decide +kernel
theorem dX6_worthOf_56 : decode cX6_worthOf 56 = .ok (.isub, 1) := by decide +kernel
theorem dX6_worthOf_57 : decode cX6_worthOf 57 = .ok (.iconst 3, 1) := by decide +kernel
theorem dX6_worthOf_58 : decode cX6_worthOf 58 = .ok (.isub, 1) := by decide +kernel
theorem dX6_worthOf_59 : decode cX6_worthOf 59 = .ok (.ireturn, 1) := by decide +kernel
theorem dX6_worthOf_60 : decode cX6_worthOf 60 = .ok (.bipush 6, 2) := by decide +kernel
theorem dX6_worthOf_62 : decode cX6_worthOf 62 = .ok (.ireturn, 1) := by decide +kernel
theorem dX6_worthOf_63 : decode cX6_worthOf 63 = .ok (.iload_n 1, 1) := by decide +kernel
theorem dX6_worthOf_64 : decode cX6_worthOf 64 = .ok (.ireturn, 1) := by decide +kernel
theorem dX6_compareWear_0 : decode cX6_compareWear 0 = .ok (.iconst 0, 1) := by decide +kernel
theorem dX6_compareWear_1 : decode cX6_compareWear 1 = .ok (.istore_n 2, 1) := by decide +kernel
theorem dX6_compareWear_2 : decode cX6_compareWear 2 = .ok (.iload_n 2, 1) := by decide +kernel
theorem dX6_compareWear_3 : decode cX6_compareWear 3 = .ok (.bipush 10, 2) := by decide +kernel
theorem dX6_compareWear_5 : decode cX6_compareWear 5 = .ok (.if_icmp .ge 16, 3) := by decide +kernel
theorem dX6_compareWear_8 : decode cX6_compareWear 8 = .ok (.aload_n 0, 1) := by decide +kernel
theorem dX6_compareWear_9 : decode cX6_compareWear 9 = .ok (.getfield 45, 3) := by decide +kernel
theorem dX6_compareWear_12 : decode cX6_compareWear 12 = .ok (.iload_n 2, 1) := by decide +kernel
theorem dX6_compareWear_13 : decode cX6_compareWear 13 = .ok (.iconst 0, 1) := by decide +kernel
theorem dX6_compareWear_14 : decode cX6_compareWear 14 = .ok (.iastore, 1) := by decide +kernel
theorem dX6_compareWear_15 : decode cX6_compareWear 15 = .ok (.iinc 2 1, 3) := by decide +kernel
theorem dX6_compareWear_18 : decode cX6_compareWear 18 = .ok (.goto (-16), 3) := by decide +kernel
theorem dX6_compareWear_21 : decode cX6_compareWear 21 = .ok (.aload_n 0, 1) := by decide +kernel
theorem dX6_compareWear_22 : decode cX6_compareWear 22 = .ok (.getfield 35, 3) := by decide +kernel
theorem dX6_compareWear_25 : decode cX6_compareWear 25 = .ok (.aload_n 0, 1) := by decide +kernel
theorem dX6_compareWear_26 : decode cX6_compareWear 26 = .ok (.getfield 28, 3) := by decide +kernel
theorem dX6_compareWear_29 : decode cX6_compareWear 29 = .ok (.invokevirtual 205, 3) := by decide +kernel
theorem dX6_compareWear_32 : decode cX6_compareWear 32 = .ok (.iconst 0, 1) := by decide +kernel
theorem dX6_compareWear_33 : decode cX6_compareWear 33 = .ok (.istore_n 2, 1) := by decide +kernel
theorem dX6_compareWear_34 : decode cX6_compareWear 34 = .ok (.iload_n 2, 1) := by decide +kernel
theorem dX6_compareWear_35 : decode cX6_compareWear 35 = .ok (.aload_n 1, 1) := by decide +kernel
theorem dX6_compareWear_36 : decode cX6_compareWear 36 = .ok (.getfield 279, 3) := by decide +kernel
theorem dX6_compareWear_39 : decode cX6_compareWear 39 = .ok (.if_icmp .ge 72, 3) := by decide +kernel
theorem dX6_compareWear_42 : decode cX6_compareWear 42 = .ok (.aload_n 1, 1) := by decide +kernel
theorem dX6_compareWear_43 : decode cX6_compareWear 43 = .ok (.iload_n 2, 1) := by decide +kernel
theorem dX6_compareWear_44 : decode cX6_compareWear 44 = .ok (.invokevirtual 280, 3) := by decide +kernel
theorem dX6_compareWear_47 : decode cX6_compareWear 47 = .ok (.ifCond .eq 50, 3) := by decide +kernel
theorem dX6_compareWear_50 : decode cX6_compareWear 50 = .ok (.iconst 0, 1) := by decide +kernel
theorem dX6_compareWear_51 : decode cX6_compareWear 51 = .ok (.istore_n 3, 1) := by decide +kernel
theorem dX6_compareWear_52 : decode cX6_compareWear 52 = .ok (.iload_n 3, 1) := by decide +kernel
theorem dX6_compareWear_53 : decode cX6_compareWear 53 = .ok (.aload_n 0, 1) := by decide +kernel
theorem dX6_compareWear_54 : decode cX6_compareWear 54 = .ok (.getfield 35, 3) := by decide +kernel
theorem dX6_compareWear_57 : decode cX6_compareWear 57 = .ok (.getfield 86, 3) := by decide +kernel
theorem dX6_compareWear_60 : decode cX6_compareWear 60 = .ok (.if_icmp .ge 37, 3) := by decide +kernel
theorem dX6_compareWear_63 : decode cX6_compareWear 63 = .ok (.aload_n 0, 1) := by decide +kernel
theorem dX6_compareWear_64 : decode cX6_compareWear 64 = .ok (.getfield 45, 3) := by decide +kernel
theorem dX6_compareWear_67 : decode cX6_compareWear 67 = .ok (.iload_n 3, 1) := by decide +kernel
theorem dX6_compareWear_68 : decode cX6_compareWear 68 = .ok (.dup2, 1) := by decide +kernel
theorem dX6_compareWear_69 : decode cX6_compareWear 69 = .ok (.iaload, 1) := by decide +kernel
theorem dX6_compareWear_70 : decode cX6_compareWear 70 = .ok (.aload_n 0, 1) := by decide +kernel
theorem dX6_compareWear_71 : decode cX6_compareWear 71 = .ok (.getfield 35, 3) := by decide +kernel
theorem dX6_compareWear_74 : decode cX6_compareWear 74 = .ok (.getfield 106, 3) := by decide +kernel
theorem dX6_compareWear_77 : decode cX6_compareWear 77 = .ok (.iload_n 3, 1) := by decide +kernel
theorem dX6_compareWear_78 : decode cX6_compareWear 78 = .ok (.iaload, 1) := by decide +kernel
theorem dX6_compareWear_79 : decode cX6_compareWear 79 = .ok (.aload_n 1, 1) := by decide +kernel
theorem dX6_compareWear_80 : decode cX6_compareWear 80 = .ok (.getfield 274, 3) := by decide +kernel
theorem dX6_compareWear_83 : decode cX6_compareWear 83 = .ok (.iload_n 2, 1) := by decide +kernel
theorem dX6_compareWear_84 : decode cX6_compareWear 84 = .ok (.iaload, 1) := by decide +kernel
theorem dX6_compareWear_85 : decode cX6_compareWear 85 = .ok (.isub, 1) := by decide +kernel
theorem dX6_compareWear_86 : decode cX6_compareWear 86 = .ok (.invokestatic 326, 3) := by decide +kernel
theorem dX6_compareWear_89 : decode cX6_compareWear 89 = .ok (.iadd, 1) := by decide +kernel
theorem dX6_compareWear_90 : decode cX6_compareWear 90 = .ok (.iastore, 1) := by decide +kernel
theorem dX6_compareWear_91 : decode cX6_compareWear 91 = .ok (.iinc 3 1, 3) := by decide +kernel
theorem dX6_compareWear_94 : decode cX6_compareWear 94 = .ok (.goto (-42), 3) := by decide +kernel
theorem dX6_compareWear_97 : decode cX6_compareWear 97 = .ok (.aload_n 0, 1) := by decide +kernel
theorem dX6_compareWear_98 : decode cX6_compareWear 98 = .ok (.getfield 35, 3) := by decide +kernel
theorem dX6_compareWear_101 : decode cX6_compareWear 101 = .ok (.iconst 1, 1) := by decide +kernel
theorem dX6_compareWear_102 : decode cX6_compareWear 102 = .ok (.invokevirtual 167, 3) := by decide +kernel
theorem dX6_compareWear_105 : decode cX6_compareWear 105 = .ok (.iinc 2 1, 3) := by decide +kernel
theorem dX6_compareWear_108 : decode cX6_compareWear 108 = .ok (.goto (-74), 3) := by decide +kernel
theorem dX6_compareWear_111 : decode cX6_compareWear 111 = .ok (.return_, 1) := by decide +kernel
theorem dX7_init_0 : decode cX7_init 0 = .ok (.aload_n 0, 1) := by decide +kernel
theorem dX7_init_1 : decode cX7_init 1 = .ok (.invokespecial 1, 3) := by decide +kernel
theorem dX7_init_4 : decode cX7_init 4 = .ok (.aload_n 0, 1) := by decide +kernel
theorem dX7_init_5 : decode cX7_init 5 = .ok (.sipush 3078, 3) := by decide +kernel
theorem dX7_init_8 : decode cX7_init 8 = .ok (.newarray .int, 2) := by decide +kernel
theorem dX7_init_10 : decode cX7_init 10 = .ok (.putfield 7, 3) := by decide +kernel
theorem dX7_init_13 : decode cX7_init 13 = .ok (.aload_n 0, 1) := by decide +kernel
theorem dX7_init_14 : decode cX7_init 14 = .ok (.sipush 3078, 3) := by decide +kernel
theorem dX7_init_17 : decode cX7_init 17 = .ok (.newarray .int, 2) := by decide +kernel
theorem dX7_init_19 : decode cX7_init 19 = .ok (.putfield 13, 3) := by decide +kernel
theorem dX7_init_22 : decode cX7_init 22 = .ok (.aload_n 0, 1) := by decide +kernel
theorem dX7_init_23 : decode cX7_init 23 = .ok (.sipush 3078, 3) := by decide +kernel
theorem dX7_init_26 : decode cX7_init 26 = .ok (.newarray .int, 2) := by decide +kernel
theorem dX7_init_28 : decode cX7_init 28 = .ok (.putfield 16, 3) := by decide +kernel
theorem dX7_init_31 : decode cX7_init 31 = .ok (.aload_n 0, 1) := by decide +kernel
theorem dX7_init_32 : decode cX7_init 32 = .ok (.iconst 4, 1) := by decide +kernel
theorem dX7_init_33 : decode cX7_init 33 = .ok (.newarray .int, 2) := by decide +kernel
theorem dX7_init_35 : decode cX7_init 35 = .ok (.putfield 19, 3) := by decide +kernel
theorem dX7_init_38 : decode cX7_init 38 = .ok (.aload_n 0, 1) := by decide +kernel
theorem dX7_init_39 : decode cX7_init 39 = .ok (.iconst 4, 1) := by decide +kernel
theorem dX7_init_40 : decode cX7_init 40 = .ok (.newarray .int, 2) := by decide +kernel
theorem dX7_init_42 : decode cX7_init 42 = .ok (.putfield 22, 3) := by decide +kernel
theorem dX7_init_45 : decode cX7_init 45 = .ok (.aload_n 0, 1) := by decide +kernel
theorem dX7_init_46 : decode cX7_init 46 = .ok (.bipush 96, 2) := by decide +kernel
theorem dX7_init_48 : decode cX7_init 48 = .ok (.newarray .int, 2) := by decide +kernel
theorem dX7_init_50 : decode cX7_init 50 = .ok (.putfield 25, 3) := by decide +kernel
theorem dX7_init_53 : decode cX7_init 53 = .ok (.aload_n 0, 1) := by decide +kernel
theorem dX7_init_54 : decode cX7_init 54 = .ok (.iconst 5, 1) := by decide +kernel
theorem dX7_init_55 : decode cX7_init 55 = .ok (.newarray .int, 2) := by decide +kernel
theorem dX7_init_57 : decode cX7_init 57 = .ok (.putfield 28, 3) := by decide +kernel
theorem dX7_init_60 : decode cX7_init 60 = .ok (.aload_n 0, 1) := by decide +kernel
theorem dX7_init_61 : decode cX7_init 61 = .ok (.iconst 5, 1) := by decide +kernel
theorem dX7_init_62 : decode cX7_init 62 = .ok (.newarray .int, 2) := by decide +kernel
theorem dX7_init_64 : decode cX7_init 64 = .ok (.putfield 31, 3) := by decide +kernel
theorem dX7_init_67 : decode cX7_init 67 = .ok (.aload_n 0, 1) := by decide +kernel
theorem dX7_init_68 : decode cX7_init 68 = .ok (.iconst 5, 1) := by decide +kernel
theorem dX7_init_69 : decode cX7_init 69 = .ok (.newarray .int, 2) := by decide +kernel
theorem dX7_init_71 : decode cX7_init 71 = .ok (.putfield 34, 3) := by decide +kernel
theorem dX7_init_74 : decode cX7_init 74 = .ok (.aload_n 0, 1) := by decide +kernel
theorem dX7_init_75 : decode cX7_init 75 = .ok (.iconst 5, 1) := by decide +kernel
theorem dX7_init_76 : decode cX7_init 76 = .ok (.newarray .int, 2) := by decide +kernel
theorem dX7_init_78 : decode cX7_init 78 = .ok (.putfield 37, 3) := by decide +kernel
theorem dX7_init_81 : decode cX7_init 81 = .ok (.aload_n 0, 1) := by decide +kernel
theorem dX7_init_82 : decode cX7_init 82 = .ok (.bipush 120, 2) := by decide +kernel
theorem dX7_init_84 : decode cX7_init 84 = .ok (.newarray .int, 2) := by decide +kernel
theorem dX7_init_86 : decode cX7_init 86 = .ok (.putfield 40, 3) := by decide +kernel
theorem dX7_init_89 : decode cX7_init 89 = .ok (.aload_n 0, 1) := by decide +kernel
theorem dX7_init_90 : decode cX7_init 90 = .ok (.bipush 10, 2) := by decide +kernel
theorem dX7_init_92 : decode cX7_init 92 = .ok (.newarray .int, 2) := by decide +kernel
theorem dX7_init_94 : decode cX7_init 94 = .ok (.putfield 43, 3) := by decide +kernel
theorem dX7_init_97 : decode cX7_init 97 = .ok (.aload_n 0, 1) := by decide +kernel
theorem dX7_init_98 : decode cX7_init 98 = .ok (.bipush 78, 2) := by decide +kernel
theorem dX7_init_100 : decode cX7_init 100 = .ok (.newarray .int, 2) := by decide +kernel
theorem dX7_init_102 : decode cX7_init 102 = .ok (.putfield 46, 3) := by decide +kernel
theorem dX7_init_105 : decode cX7_init 105 = .ok (.aload_n 0, 1) := by decide +kernel
theorem dX7_init_106 : decode cX7_init 106 = .ok (.bipush 96, 2) := by decide +kernel
theorem dX7_init_108 : decode cX7_init 108 = .ok (.newarray .int, 2) := by decide +kernel
theorem dX7_init_110 : decode cX7_init 110 = .ok (.putfield 49, 3) := by decide +kernel
theorem dX7_init_113 : decode cX7_init 113 = .ok (.aload_n 0, 1) := by decide +kernel
theorem dX7_init_114 : decode cX7_init 114 = .ok (.sipush 128, 3) := by decide +kernel
theorem dX7_init_117 : decode cX7_init 117 = .ok (.newarray .int, 2) := by decide +kernel
theorem dX7_init_119 : decode cX7_init 119 = .ok (.putfield 52, 3) := by decide +kernel
theorem dX7_init_122 : decode cX7_init 122 = .ok (.aload_n 0, 1) := by decide +kernel
theorem dX7_init_123 : decode cX7_init 123 = .ok (.bipush 100, 2) := by decide +kernel
theorem dX7_init_125 : decode cX7_init 125 = .ok (.newarray .int, 2) := by decide +kernel
theorem dX7_init_127 : decode cX7_init 127 = .ok (.putfield 55, 3) := by decide +kernel
theorem dX7_init_130 : decode cX7_init 130 = .ok (.aload_n 0, 1) := by decide +kernel
theorem dX7_init_131 : decode cX7_init 131 = .ok (.bipush 24, 2) := by decide +kernel
theorem dX7_init_133 : decode cX7_init 133 = .ok (.newarray .int, 2) := by decide +kernel
theorem dX7_init_135 : decode cX7_init 135 = .ok (.putfield 58, 3) := by decide +kernel
theorem dX7_init_138 : decode cX7_init 138 = .ok (.aload_n 0, 1) := by decide +kernel
theorem dX7_init_139 : decode cX7_init 139 = .ok (.bipush 60, 2) := by decide +kernel
theorem dX7_init_141 : decode cX7_init 141 = .ok (.newarray .int, 2) := by decide +kernel
theorem dX7_init_143 : decode cX7_init 143 = .ok (.putfield 61, 3) := by decide +kernel
theorem dX7_init_146 : decode cX7_init 146 = .ok (.aload_n 0, 1) := by decide +kernel
theorem dX7_init_147 : decode cX7_init 147 = .ok (.bipush 60, 2) := by decide +kernel
theorem dX7_init_149 : decode cX7_init 149 = .ok (.newarray .int, 2) := by decide +kernel
theorem dX7_init_151 : decode cX7_init 151 = .ok (.putfield 64, 3) := by decide +kernel
theorem dX7_init_154 : decode cX7_init 154 = .ok (.aload_n 0, 1) := by decide +kernel
theorem dX7_init_155 : decode cX7_init 155 = .ok (.getfield 7, 3) := by decide +kernel
theorem dX7_init_158 : decode cX7_init 158 = .ok (.iconst 5, 1) := by decide +kernel
theorem dX7_init_159 : decode cX7_init 159 = .ok (.iconst 1, 1) := by decide +kernel
theorem dX7_init_160 : decode cX7_init 160 = .ok (.iastore, 1) := by decide +kernel
theorem dX7_init_161 : decode cX7_init 161 = .ok (.iconst 0, 1) := by decide +kernel
theorem dX7_init_162 : decode cX7_init 162 = .ok (.istore_n 1, 1) := by decide +kernel
theorem dX7_init_163 : decode cX7_init 163 = .ok (.iload_n 1, 1) := by decide +kernel
theorem dX7_init_164 : decode cX7_init 164 = .ok (.bipush 6, 2) := by decide +kernel
theorem dX7_init_166 : decode cX7_init 166 = .ok (.if_icmp .ge 30, 3) := by decide +kernel
theorem dX7_init_169 : decode cX7_init 169 = .ok (.aload_n 0, 1) := by decide +kernel
theorem dX7_init_170 : decode cX7_init 170 = .ok (.getfield 7, 3) := by decide +kernel
theorem dX7_init_173 : decode cX7_init 173 = .ok (.bipush 6, 2) := by decide +kernel
theorem dX7_init_175 : decode cX7_init 175 = .ok (.iload_n 1, 1) := by decide +kernel
theorem dX7_init_176 : decode cX7_init 176 = .ok (.iadd, 1) := by decide +kernel
theorem dX7_init_177 : decode cX7_init 177 = .ok (.bipush 100, 2) := by decide +kernel
theorem dX7_init_179 : decode cX7_init 179 = .ok (.iastore, 1) := by decide +kernel
theorem dX7_init_180 : decode cX7_init 180 = .ok (.aload_n 0, 1) := by decide +kernel
theorem dX7_init_181 : decode cX7_init 181 = .ok (.getfield 7, 3) := by decide +kernel
theorem dX7_init_184 : decode cX7_init 184 = .ok (.bipush 12, 2) := by decide +kernel
theorem dX7_init_186 : decode cX7_init 186 = .ok (.iload_n 1, 1) := by decide +kernel
theorem dX7_init_187 : decode cX7_init 187 = .ok (.iadd, 1) := by decide +kernel
theorem dX7_init_188 : decode cX7_init 188 = .ok (.iload_n 1, 1) := by decide +kernel
theorem dX7_init_189 : decode cX7_init 189 = .ok (.iastore, 1) := by decide +kernel
theorem dX7_init_190 : decode cX7_init 190 = .ok (.iinc 1 1, 3) := by decide +kernel
theorem dX7_init_193 : decode cX7_init 193 = .ok (.goto (-30), 3) := by decide +kernel
theorem dX7_init_196 : decode cX7_init 196 = .ok (.iconst 0, 1) := by decide +kernel
theorem dX7_init_197 : decode cX7_init 197 = .ok (.istore_n 1, 1) := by decide +kernel
theorem dX7_init_198 : decode cX7_init 198 = .ok (.iload_n 1, 1) := by decide +kernel
theorem dX7_init_199 : decode cX7_init 199 = .ok (.iconst 4, 1) := by decide +kernel
theorem dX7_init_200 : decode cX7_init 200 = .ok (.if_icmp .ge 16, 3) := by decide +kernel
theorem dX7_init_203 : decode cX7_init 203 = .ok (.aload_n 0, 1) := by decide +kernel
theorem dX7_init_204 : decode cX7_init 204 = .ok (.getfield 19, 3) := by decide +kernel
theorem dX7_init_207 : decode cX7_init 207 = .ok (.iload_n 1, 1) := by decide +kernel
theorem dX7_init_208 : decode cX7_init 208 = .ok (.iconst (-1), 1) := by decide +kernel
theorem dX7_init_209 : decode cX7_init 209 = .ok (.iastore, 1) := by decide +kernel
theorem dX7_init_210 : decode cX7_init 210 = .ok (.iinc 1 1, 3) := by decide +kernel
theorem dX7_init_213 : decode cX7_init 213 = .ok (.goto (-15), 3) := by decide +kernel
theorem dX7_init_216 : decode cX7_init 216 = .ok (.return_, 1) := by decide +kernel
theorem dX7_isIn_0 : decode cX7_isIn 0 = .ok (.lload_n 0, 1) := by decide +kernel
theorem dX7_isIn_1 : decode cX7_isIn 1 = .ok (.lload_n 2, 1) := by decide +kernel
theorem dX7_isIn_2 : decode cX7_isIn 2 = .ok (.lcmp, 1) := by decide +kernel
theorem dX7_isIn_3 : decode cX7_isIn 3 = .ok (.ifCond .lt 14, 3) := by decide +kernel
theorem dX7_isIn_6 : decode cX7_isIn 6 = .ok (.lload_n 0, 1) := by decide +kernel
theorem dX7_isIn_7 : decode cX7_isIn 7 = .ok (.lload 4, 2) := by decide +kernel
theorem dX7_isIn_9 : decode cX7_isIn 9 = .ok (.lcmp, 1) := by decide +kernel
theorem dX7_isIn_10 : decode cX7_isIn 10 = .ok (.ifCond .gt 7, 3) := by decide +kernel
theorem dX7_isIn_13 : decode cX7_isIn 13 = .ok (.iconst 1, 1) := by decide +kernel
theorem dX7_isIn_14 : decode cX7_isIn 14 = .ok (.goto 4, 3) := by decide +kernel
theorem dX7_isIn_17 : decode cX7_isIn 17 = .ok (.iconst 0, 1) := by decide +kernel
theorem dX7_isIn_18 : decode cX7_isIn 18 = .ok (.ireturn, 1) := by decide +kernel
theorem dX7_orNone_0 : decode cX7_orNone 0 = .ok (.iload_n 0, 1) := by decide +kernel
theorem dX7_orNone_1 : decode cX7_orNone 1 = .ok (.ifCond .ge 8, 3) := by decide +kernel
theorem dX7_orNone_4 : decode cX7_orNone 4 = .ok (.ldc 67, 2) := by decide +kernel
theorem dX7_orNone_6 : decode cX7_orNone 6 = .ok (.goto 4, 3) := by decide +kernel
theorem dX7_orNone_9 : decode cX7_orNone 9 = .ok (.iload_n 0, 1) := by decide +kernel
theorem dX7_orNone_10 : decode cX7_orNone 10 = .ok (.ireturn, 1) := by decide +kernel
theorem dX7_within_0 : decode cX7_within 0 = .ok (.iload_n 0, 1) := by decide +kernel
theorem dX7_within_1 : decode cX7_within 1 = .ok (.ifCond .ge 7, 3) := by decide +kernel
theorem dX7_within_4 : decode cX7_within 4 = .ok (.iconst 0, 1) := by decide +kernel
theorem dX7_within_5 : decode cX7_within 5 = .ok (.goto 13, 3) := by decide +kernel
theorem dX7_within_8 : decode cX7_within 8 = .ok (.iload_n 0, 1) := by decide +kernel
theorem dX7_within_9 : decode cX7_within 9 = .ok (.iload_n 1, 1) := by decide +kernel
theorem dX7_within_10 : decode cX7_within 10 = .ok (.if_icmp .le 7, 3) := by decide +kernel
theorem dX7_within_13 : decode cX7_within 13 = .ok (.iload_n 1, 1) := by decide +kernel
theorem dX7_within_14 : decode cX7_within 14 = .ok (.goto 4, 3) := by decide +kernel
theorem dX7_within_17 : decode cX7_within 17 = .ok (.iload_n 0, 1) := by decide +kernel
theorem dX7_within_18 : decode cX7_within 18 = .ok (.ireturn, 1) := by decide +kernel
theorem dX7_off_0 : decode cX7_off 0 = .ok (.iload_n 0, 1) := by decide +kernel
theorem dX7_off_1 : decode cX7_off 1 = .ok (.iload_n 1, 1) := by decide +kernel
theorem dX7_off_2 : decode cX7_off 2 = .ok (.if_icmp .ge 9, 3) := by decide +kernel
theorem dX7_off_5 : decode cX7_off 5 = .ok (.iload_n 1, 1) := by decide +kernel
theorem dX7_off_6 : decode cX7_off 6 = .ok (.iload_n 0, 1) := by decide +kernel
theorem dX7_off_7 : decode cX7_off 7 = .ok (.isub, 1) := by decide +kernel
theorem dX7_off_8 : decode cX7_off 8 = .ok (.goto 6, 3) := by decide +kernel
theorem dX7_off_11 : decode cX7_off 11 = .ok (.iload_n 0, 1) := by decide +kernel
theorem dX7_off_12 : decode cX7_off 12 = .ok (.iload_n 1, 1) := by decide +kernel
theorem dX7_off_13 : decode cX7_off 13 = .ok (.isub, 1) := by decide +kernel
theorem dX7_off_14 : decode cX7_off 14 = .ok (.ireturn, 1) := by decide +kernel
theorem dX7_becomes_0 : decode cX7_becomes 0 = .ok (.aload_n 0, 1) := by decide +kernel
theorem dX7_becomes_1 : decode cX7_becomes 1 = .ok (.getfield 7, 3) := by decide +kernel
theorem dX7_becomes_4 : decode cX7_becomes 4 = .ok (.iload_n 1, 1) := by decide +kernel
theorem dX7_becomes_5 : decode cX7_becomes 5 = .ok (.iaload, 1) := by decide +kernel
theorem dX7_becomes_6 : decode cX7_becomes 6 = .ok (.istore_n 3, 1) := by decide +kernel
theorem dX7_becomes_7 : decode cX7_becomes 7 = .ok (.aload_n 0, 1) := by decide +kernel
theorem dX7_becomes_8 : decode cX7_becomes 8 = .ok (.getfield 7, 3) := by decide +kernel
theorem dX7_becomes_11 : decode cX7_becomes 11 = .ok (.iload_n 1, 1) := by decide +kernel
theorem dX7_becomes_12 : decode cX7_becomes 12 = .ok (.iload_n 2, 1) := by decide +kernel
theorem dX7_becomes_13 : decode cX7_becomes 13 = .ok (.iastore, 1) := by decide +kernel
theorem dX7_becomes_14 : decode cX7_becomes 14 = .ok (.iload_n 3, 1) := by decide +kernel
theorem dX7_becomes_15 : decode cX7_becomes 15 = .ok (.ireturn, 1) := by decide +kernel
theorem dX7_textAt_0 : decode cX7_textAt 0 = .ok (.bipush 78, 2) := by decide +kernel
theorem dX7_textAt_2 : decode cX7_textAt 2 = .ok (.sipush 200, 3) := by decide +kernel
theorem dX7_textAt_5 : decode cX7_textAt 5 = .ok (.iload_n 1, 1) := by decide +kernel
theorem dX7_textAt_6 : decode cX7_textAt 6 = .ok (.imul, 1) := by decide +kernel
theorem dX7_textAt_7 : decode cX7_textAt 7 = .ok (.iadd, 1) := by decide +kernel
theorem dX7_textAt_8 : decode cX7_textAt 8 = .ok (.ireturn, 1) := by decide +kernel
theorem dX7_of_0 : decode cX7_of 0 = .ok (.aload_n 0, 1) := by decide +kernel
theorem dX7_of_1 : decode cX7_of 1 = .ok (.getfield 7, 3) := by decide +kernel
theorem dX7_of_4 : decode cX7_of 4 = .ok (.bipush 18, 2) := by decide +kernel
theorem dX7_of_6 : decode cX7_of 6 = .ok (.bipush 6, 2) := by decide +kernel
theorem dX7_of_8 : decode cX7_of 8 = .ok (.iload_n 1, 1) := by decide +kernel
theorem dX7_of_9 : decode cX7_of 9 = .ok (.imul, 1) := by decide +kernel
theorem dX7_of_10 : decode cX7_of 10 = .ok (.iadd, 1) := by decide +kernel
theorem dX7_of_11 : decode cX7_of 11 = .ok (.iload_n 2, 1) := by decide +kernel
theorem dX7_of_12 : decode cX7_of 12 = .ok (.iadd, 1) := by decide +kernel
theorem dX7_of_13 : decode cX7_of 13 = .ok (.iaload, 1) := by decide +kernel
theorem dX7_of_14 : decode cX7_of 14 = .ok (.ireturn, 1) := by decide +kernel
theorem dX7_sets_0 : decode cX7_sets 0 = .ok (.aload_n 0, 1) := by decide +kernel
theorem dX7_sets_1 : decode cX7_sets 1 = .ok (.getfield 7, 3) := by decide +kernel
theorem dX7_sets_4 : decode cX7_sets 4 = .ok (.bipush 18, 2) := by decide +kernel
theorem dX7_sets_6 : decode cX7_sets 6 = .ok (.bipush 6, 2) := by decide +kernel
theorem dX7_sets_8 : decode cX7_sets 8 = .ok (.iload_n 1, 1) := by decide +kernel
theorem dX7_sets_9 : decode cX7_sets 9 = .ok (.imul, 1) := by decide +kernel
theorem dX7_sets_10 : decode cX7_sets 10 = .ok (.iadd, 1) := by decide +kernel
theorem dX7_sets_11 : decode cX7_sets 11 = .ok (.iload_n 2, 1) := by decide +kernel
theorem dX7_sets_12 : decode cX7_sets 12 = .ok (.iadd, 1) := by decide +kernel
theorem dX7_sets_13 : decode cX7_sets 13 = .ok (.iload_n 3, 1) := by decide +kernel
theorem dX7_sets_14 : decode cX7_sets 14 = .ok (.iastore, 1) := by decide +kernel
theorem dX7_sets_15 : decode cX7_sets 15 = .ok (.return_, 1) := by decide +kernel
theorem dX7_isDay_0 : decode cX7_isDay 0 = .ok (.iload_n 1, 1) := by decide +kernel
theorem dX7_isDay_1 : decode cX7_isDay 1 = .ok (.i2l, 1) := by decide +kernel
theorem dX7_isDay_2 : decode cX7_isDay 2 = .ok (.lconst 0, 1) := by decide +kernel
theorem dX7_isDay_3 : decode cX7_isDay 3 = .ok (.aload_n 0, 1) := by decide +kernel
theorem dX7_isDay_4 : decode cX7_isDay 4 = .ok (.getfield 7, 3) := by decide +kernel
theorem dX7_isDay_7 : decode cX7_isDay 7 = .ok (.iconst 0, 1) := by decide +kernel
theorem dX7_isDay_8 : decode cX7_isDay 8 = .ok (.iaload, 1) := by decide +kernel
theorem dX7_isDay_9 : decode cX7_isDay 9 = .ok (.iconst 1, 1) := by decide +kernel
theorem dX7_isDay_10 : decode cX7_isDay 10 = .ok (.isub, 1) := by decide +kernel
theorem dX7_isDay_11 : decode cX7_isDay 11 = .ok (.i2l, 1) := by decide +kernel
theorem dX7_isDay_12 : decode cX7_isDay 12 = .ok (.invokestatic 68, 3) := by decide +kernel
theorem dX7_isDay_15 : decode cX7_isDay 15 = .ok (.ireturn, 1) := by decide +kernel
theorem dX7_isOne_0 : decode cX7_isOne 0 = .ok (.iload_n 0, 1) := by decide +kernel
theorem dX7_isOne_1 : decode cX7_isOne 1 = .ok (.ifCond .lt 13, 3) := by decide +kernel
theorem dX7_isOne_4 : decode cX7_isOne 4 = .ok (.iload_n 0, 1) := by decide +kernel
theorem dX7_isOne_5 : decode cX7_isOne 5 = .ok (.bipush 6, 2) := by decide +kernel
theorem dX7_isOne_7 : decode cX7_isOne 7 = .ok (.if_icmp .ge 7, 3) := by decide +kernel
theorem dX7_isOne_10 : decode cX7_isOne 10 = .ok (.iconst 1, 1) := by decide +kernel
theorem dX7_isOne_11 : decode cX7_isOne 11 = .ok (.goto 4, 3) := by decide +kernel
theorem dX7_isOne_14 : decode cX7_isOne 14 = .ok (.iconst 0, 1) := by decide +kernel
theorem dX7_isOne_15 : decode cX7_isOne 15 = .ok (.ireturn, 1) := by decide +kernel
theorem dX7_isText_0 : decode cX7_isText 0 = .ok (.iload_n 1, 1) := by decide +kernel
theorem dX7_isText_1 : decode cX7_isText 1 = .ok (.i2l, 1) := by decide +kernel
theorem dX7_isText_2 : decode cX7_isText 2 = .ok (.lconst 0, 1) := by decide +kernel
theorem dX7_isText_3 : decode cX7_isText 3 = .ok (.aload_n 0, 1) := by decide +kernel
theorem dX7_isText_4 : decode cX7_isText 4 = .ok (.getfield 7, 3) := by decide +kernel
theorem dX7_isText_7 : decode cX7_isText 7 = .ok (.iconst 1, 1) := by decide +kernel
theorem dX7_isText_8 : decode cX7_isText 8 = .ok (.iaload, 1) := by decide +kernel
theorem dX7_isText_9 : decode cX7_isText 9 = .ok (.iconst 1, 1) := by decide +kernel
theorem dX7_isText_10 : decode cX7_isText 10 = .ok (.isub, 1) := by decide +kernel
theorem dX7_isText_11 : decode cX7_isText 11 = .ok (.i2l, 1) := by decide +kernel
theorem dX7_isText_12 : decode cX7_isText 12 = .ok (.invokestatic 68, 3) := by decide +kernel
theorem dX7_isText_15 : decode cX7_isText 15 = .ok (.ireturn, 1) := by decide +kernel
theorem dX7_drawn_0 : decode cX7_drawn 0 = .ok (.aload_n 0, 1) := by decide +kernel
theorem dX7_drawn_1 : decode cX7_drawn 1 = .ok (.getfield 7, 3) := by decide +kernel
theorem dX7_drawn_4 : decode cX7_drawn 4 = .ok (.iconst 5, 1) := by decide +kernel
theorem dX7_drawn_5 : decode cX7_drawn 5 = .ok (.aload_n 0, 1) := by decide +kernel
theorem dX7_drawn_6 : decode cX7_drawn 6 = .ok (.getfield 7, 3) := by decide +kernel
theorem dX7_drawn_9 : decode cX7_drawn 9 = .ok (.iconst 5, 1) := by decide +kernel
theorem dX7_drawn_10 : decode cX7_drawn 10 = .ok (.iaload, 1) := by decide +kernel
theorem dX7_drawn_11 : decode cX7_drawn 11 = .ok (.ldc 72, 2) := by decide +kernel
theorem dX7_drawn_13 : decode cX7_drawn 13 = .ok (.imul, 1) := by decide +kernel
theorem dX7_drawn_14 : decode cX7_drawn 14 = .ok (.sipush 12345, 3) := by decide +kernel
theorem dX7_drawn_17 : decode cX7_drawn 17 = .ok (.iadd, 1) := by decide +kernel
theorem dX7_drawn_18 : decode cX7_drawn 18 = .ok (.iastore, 1) := by decide +kernel
theorem dX7_drawn_19 : decode cX7_drawn 19 = .ok (.aload_n 0, 1) := by decide +kernel
theorem dX7_drawn_20 : decode cX7_drawn 20 = .ok (.getfield 7, 3) := by decide +kernel
theorem dX7_drawn_23 : decode cX7_drawn 23 = .ok (.iconst 5, 1) := by decide +kernel
theorem dX7_drawn_24 : decode cX7_drawn 24 = .ok (.iaload, 1) := by decide +kernel
theorem dX7_drawn_25 : decode cX7_drawn 25 = .ok (.bipush 8, 2) := by decide +kernel
theorem dX7_drawn_27 : decode cX7_drawn 27 = .ok (.iushr, 1) := by decide +kernel
theorem dX7_drawn_28 : decode cX7_drawn 28 = .ok (.ireturn, 1) := by decide +kernel
theorem dX7_comes_0 : decode cX7_comes 0 = .ok (.aload_n 0, 1) := by decide +kernel
theorem dX7_comes_1 : decode cX7_comes 1 = .ok (.getfield 7, 3) := by decide +kernel
theorem dX7_comes_4 : decode cX7_comes 4 = .ok (.iconst 0, 1) := by decide +kernel
theorem dX7_comes_5 : decode cX7_comes 5 = .ok (.iaload, 1) := by decide +kernel
theorem dX7_comes_6 : decode cX7_comes 6 = .ok (.istore 5, 2) := by decide +kernel
theorem dX7_comes_8 : decode cX7_comes 8 = .ok (.aload_n 0, 1) := by decide +kernel
theorem dX7_comes_9 : decode cX7_comes 9 = .ok (.getfield 7, 3) := by decide +kernel
theorem dX7_comes_12 : decode cX7_comes 12 = .ok (.iconst 0, 1) := by decide +kernel
theorem dX7_comes_13 : decode cX7_comes 13 = .ok (.dup2, 1) := by decide +kernel
theorem dX7_comes_14 : decode cX7_comes 14 = .ok (.iaload, 1) := by decide +kernel
theorem dX7_comes_15 : decode cX7_comes 15 = .ok (.iconst 1, 1) := by decide +kernel
theorem dX7_comes_16 : decode cX7_comes 16 = .ok (.iadd, 1) := by decide +kernel
theorem dX7_comes_17 : decode cX7_comes 17 = .ok (.iastore, 1) := by decide +kernel
theorem dX7_comes_18 : decode cX7_comes 18 = .ok (.aload_n 0, 1) := by decide +kernel
theorem dX7_comes_19 : decode cX7_comes 19 = .ok (.iload 5, 2) := by decide +kernel
theorem dX7_comes_21 : decode cX7_comes 21 = .ok (.iconst 0, 1) := by decide +kernel
theorem dX7_comes_22 : decode cX7_comes 22 = .ok (.iload_n 1, 1) := by decide +kernel
theorem dX7_comes_23 : decode cX7_comes 23 = .ok (.invokevirtual 73, 3) := by decide +kernel
theorem dX7_comes_26 : decode cX7_comes 26 = .ok (.aload_n 0, 1) := by decide +kernel
theorem dX7_comes_27 : decode cX7_comes 27 = .ok (.iload 5, 2) := by decide +kernel
theorem dX7_comes_29 : decode cX7_comes 29 = .ok (.iconst 1, 1) := by decide +kernel
theorem dX7_comes_30 : decode cX7_comes 30 = .ok (.iload_n 2, 1) := by decide +kernel
theorem dX7_comes_31 : decode cX7_comes 31 = .ok (.invokevirtual 73, 3) := by decide +kernel
theorem dX7_comes_34 : decode cX7_comes 34 = .ok (.aload_n 0, 1) := by decide +kernel
theorem dX7_comes_35 : decode cX7_comes 35 = .ok (.iload 5, 2) := by decide +kernel
theorem dX7_comes_37 : decode cX7_comes 37 = .ok (.iconst 2, 1) := by decide +kernel
theorem dX7_comes_38 : decode cX7_comes 38 = .ok (.iload_n 3, 1) := by decide +kernel
theorem dX7_comes_39 : decode cX7_comes 39 = .ok (.invokevirtual 73, 3) := by decide +kernel
theorem dX7_comes_42 : decode cX7_comes 42 = .ok (.aload_n 0, 1) := by decide +kernel
theorem dX7_comes_43 : decode cX7_comes 43 = .ok (.iload 5, 2) := by decide +kernel
theorem dX7_comes_45 : decode cX7_comes 45 = .ok (.iconst 3, 1) := by decide +kernel
theorem dX7_comes_46 : decode cX7_comes 46 = .ok (.iconst 0, 1) := by decide +kernel
theorem dX7_comes_47 : decode cX7_comes 47 = .ok (.invokevirtual 73, 3) := by decide +kernel
theorem dX7_comes_50 : decode cX7_comes 50 = .ok (.aload_n 0, 1) := by decide +kernel
theorem dX7_comes_51 : decode cX7_comes 51 = .ok (.iload 5, 2) := by decide +kernel
theorem dX7_comes_53 : decode cX7_comes 53 = .ok (.iconst 4, 1) := by decide +kernel
theorem dX7_comes_54 : decode cX7_comes 54 = .ok (.iload 4, 2) := by decide +kernel
theorem dX7_comes_56 : decode cX7_comes 56 = .ok (.invokevirtual 73, 3) := by decide +kernel
theorem dX7_comes_59 : decode cX7_comes 59 = .ok (.aload_n 0, 1) := by decide +kernel
theorem dX7_comes_60 : decode cX7_comes 60 = .ok (.iload 5, 2) := by decide +kernel
theorem dX7_comes_62 : decode cX7_comes 62 = .ok (.iconst 5, 1) := by decide +kernel
theorem dX7_comes_63 : decode cX7_comes 63 = .ok (.iconst 1, 1) := by decide +kernel
theorem dX7_comes_64 : decode cX7_comes 64 = .ok (.iload 4, 2) := by decide +kernel
theorem dX7_comes_66 : decode cX7_comes 66 = .ok (.ishl, 1) := by decide +kernel
theorem dX7_comes_67 : decode cX7_comes 67 = .ok (.invokevirtual 73, 3) := by decide +kernel
theorem dX7_comes_70 : decode cX7_comes 70 = .ok (.return_, 1) := by decide +kernel
theorem dX7_day_0 : decode cX7_day 0 = .ok (.iload_n 1, 1) := by decide +kernel
theorem dX7_day_1 : decode cX7_day 1 = .ok (.i2l, 1) := by decide +kernel
theorem dX7_day_2 : decode cX7_day 2 = .ok (.lconst 0, 1) := by decide +kernel
theorem dX7_day_3 : decode cX7_day 3 = .ok (.ldc2_w 77, 3) := by decide +kernel
theorem dX7_day_6 : decode cX7_day 6 = .ok (.invokestatic 68, 3) := by decide +kernel
theorem dX7_day_9 : decode cX7_day 9 = .ok (.ifCond .eq 35, 3) := by decide +kernel
theorem dX7_day_12 : decode cX7_day 12 = .ok (.iload_n 2, 1) := by decide +kernel
theorem dX7_day_13 : decode cX7_day 13 = .ok (.i2l, 1) := by decide +kernel
theorem dX7_day_14 : decode cX7_day 14 = .ok (.lconst 0, 1) := by decide +kernel
theorem dX7_day_15 : decode cX7_day 15 = .ok (.ldc2_w 79, 3) := by decide +kernel
theorem dX7_day_18 : decode cX7_day 18 = .ok (.invokestatic 68, 3) := by decide +kernel
theorem dX7_day_21 : decode cX7_day 21 = .ok (.ifCond .eq 23, 3) := by decide +kernel
theorem dX7_day_24 : decode cX7_day 24 = .ok (.iload_n 3, 1) := by decide +kernel
theorem dX7_day_25 : decode cX7_day 25 = .ok (.i2l, 1) := by decide +kernel
theorem dX7_day_26 : decode cX7_day 26 = .ok (.lconst 0, 1) := by decide +kernel
theorem dX7_day_27 : decode cX7_day 27 = .ok (.ldc2_w 81, 3) := by decide +kernel
theorem dX7_day_30 : decode cX7_day 30 = .ok (.invokestatic 68, 3) := by decide +kernel
theorem dX7_day_33 : decode cX7_day 33 = .ok (.ifCond .eq 11, 3) := by decide +kernel
theorem dX7_day_36 : decode cX7_day 36 = .ok (.iload 4, 2) := by decide +kernel
theorem dX7_day_38 : decode cX7_day 38 = .ok (.invokestatic 83, 3) := by decide +kernel
theorem dX7_day_41 : decode cX7_day 41 = .ok (.ifCond .ne 6, 3) := by decide +kernel
theorem dX7_day_44 : decode cX7_day 44 = .ok (.ldc 87, 2) := by decide +kernel
theorem dX7_day_46 : decode cX7_day 46 = .ok (.ireturn, 1) := by decide +kernel
theorem dX7_day_47 : decode cX7_day 47 = .ok (.aload_n 0, 1) := by decide +kernel
theorem dX7_day_48 : decode cX7_day 48 = .ok (.getfield 7, 3) := by decide +kernel
theorem dX7_day_51 : decode cX7_day 51 = .ok (.iconst 0, 1) := by decide +kernel
theorem dX7_day_52 : decode cX7_day 52 = .ok (.iaload, 1) := by decide +kernel
theorem dX7_day_53 : decode cX7_day 53 = .ok (.bipush 10, 2) := by decide +kernel
theorem dX7_day_55 : decode cX7_day 55 = .ok (.if_icmp .ne 6, 3) := by decide +kernel
theorem dX7_day_58 : decode cX7_day 58 = .ok (.ldc 88, 2) := by decide +kernel
theorem dX7_day_60 : decode cX7_day 60 = .ok (.ireturn, 1) := by decide +kernel
theorem dX7_day_61 : decode cX7_day 61 = .ok (.aload_n 0, 1) := by decide +kernel
theorem dX7_day_62 : decode cX7_day 62 = .ok (.iload_n 1, 1) := by decide +kernel
theorem dX7_day_63 : decode cX7_day 63 = .ok (.iload_n 2, 1) := by decide +kernel
theorem dX7_day_64 : decode cX7_day 64 = .ok (.iload_n 3, 1) := by decide +kernel
theorem dX7_day_65 : decode cX7_day 65 = .ok (.iload 4, 2) := by decide +kernel
theorem dX7_day_67 : decode cX7_day 67 = .ok (.invokevirtual 89, 3) := by decide +kernel
theorem dX7_day_70 : decode cX7_day 70 = .ok (.aload_n 0, 1) := by decide +kernel
theorem dX7_day_71 : decode cX7_day 71 = .ok (.getfield 7, 3) := by decide +kernel
theorem dX7_day_74 : decode cX7_day 74 = .ok (.iconst 0, 1) := by decide +kernel
theorem dX7_day_75 : decode cX7_day 75 = .ok (.iaload, 1) := by decide +kernel
theorem dX7_day_76 : decode cX7_day 76 = .ok (.iconst 1, 1) := by decide +kernel
theorem dX7_day_77 : decode cX7_day 77 = .ok (.isub, 1) := by decide +kernel
theorem dX7_day_78 : decode cX7_day 78 = .ok (.ireturn, 1) := by decide +kernel
theorem dX7_priceBy_0 : decode cX7_priceBy 0 = .ok (.aload_n 0, 1) := by decide +kernel
theorem dX7_priceBy_1 : decode cX7_priceBy 1 = .ok (.iconst 0, 1) := by decide +kernel
theorem dX7_priceBy_2 : decode cX7_priceBy 2 = .ok (.invokevirtual 93, 3) := by decide +kernel
theorem dX7_priceBy_5 : decode cX7_priceBy 5 = .ok (.istore_n 3, 1) := by decide +kernel
theorem dX7_priceBy_6 : decode cX7_priceBy 6 = .ok (.iload_n 3, 1) := by decide +kernel
theorem dX7_priceBy_7 : decode cX7_priceBy 7 = .ok (.ifCond .ge 21, 3) := by decide +kernel
theorem dX7_priceBy_10 : decode cX7_priceBy 10 = .ok (.bipush 10, 2) := by decide +kernel
theorem dX7_priceBy_12 : decode cX7_priceBy 12 = .ok (.iload_n 2, 1) := by decide +kernel
theorem dX7_priceBy_13 : decode cX7_priceBy 13 = .ok (.imul, 1) := by decide +kernel
theorem dX7_priceBy_14 : decode cX7_priceBy 14 = .ok (.aload_n 0, 1) := by decide +kernel
theorem dX7_priceBy_15 : decode cX7_priceBy 15 = .ok (.iload_n 1, 1) := by decide +kernel
theorem dX7_priceBy_16 : decode cX7_priceBy 16 = .ok (.iconst 3, 1) := by decide +kernel
theorem dX7_priceBy_17 : decode cX7_priceBy 17 = .ok (.invokevirtual 97, 3) := by decide +kernel
theorem dX7_priceBy_20 : decode cX7_priceBy 20 = .ok (.isub, 1) := by decide +kernel
theorem dX7_priceBy_21 : decode cX7_priceBy 21 = .ok (.sipush 999, 3) := by decide +kernel
theorem dX7_priceBy_24 : decode cX7_priceBy 24 = .ok (.invokestatic 101, 3) := by decide +kernel
theorem dX7_priceBy_27 : decode cX7_priceBy 27 = .ok (.ireturn, 1) := by decide +kernel
theorem dX7_priceBy_28 : decode cX7_priceBy 28 = .ok (.aload_n 0, 1) := by decide +kernel
theorem dX7_priceBy_29 : decode cX7_priceBy 29 = .ok (.getfield 52, 3) := by decide +kernel
theorem dX7_priceBy_32 : decode cX7_priceBy 32 = .ok (.bipush 116, 2) := by decide +kernel
theorem dX7_priceBy_34 : decode cX7_priceBy 34 = .ok (.iload_n 2, 1) := by decide +kernel
theorem dX7_priceBy_35 : decode cX7_priceBy 35 = .ok (.iastore, 1) := by decide +kernel
theorem dX7_priceBy_36 : decode cX7_priceBy 36 = .ok (.aload_n 0, 1) := by decide +kernel
theorem dX7_priceBy_37 : decode cX7_priceBy 37 = .ok (.getfield 52, 3) := by decide +kernel
theorem dX7_priceBy_40 : decode cX7_priceBy 40 = .ok (.bipush 119, 2) := by decide +kernel
theorem dX7_priceBy_42 : decode cX7_priceBy 42 = .ok (.aload_n 0, 1) := by decide +kernel
theorem dX7_priceBy_43 : decode cX7_priceBy 43 = .ok (.iload_n 1, 1) := by decide +kernel
theorem dX7_priceBy_44 : decode cX7_priceBy 44 = .ok (.iconst 3, 1) := by decide +kernel
theorem dX7_priceBy_45 : decode cX7_priceBy 45 = .ok (.invokevirtual 97, 3) := by decide +kernel
theorem dX7_priceBy_48 : decode cX7_priceBy 48 = .ok (.iastore, 1) := by decide +kernel
theorem dX7_priceBy_49 : decode cX7_priceBy 49 = .ok (.aload_n 0, 1) := by decide +kernel
theorem dX7_priceBy_50 : decode cX7_priceBy 50 = .ok (.getfield 52, 3) := by decide +kernel
theorem dX7_priceBy_53 : decode cX7_priceBy 53 = .ok (.bipush 100, 2) := by decide +kernel
theorem dX7_priceBy_55 : decode cX7_priceBy 55 = .ok (.aload_n 0, 1) := by decide +kernel
theorem dX7_priceBy_56 : decode cX7_priceBy 56 = .ok (.iload_n 1, 1) := by decide +kernel
theorem dX7_priceBy_57 : decode cX7_priceBy 57 = .ok (.iconst 1, 1) := by decide +kernel
theorem dX7_priceBy_58 : decode cX7_priceBy 58 = .ok (.invokevirtual 97, 3) := by decide +kernel
theorem dX7_priceBy_61 : decode cX7_priceBy 61 = .ok (.iastore, 1) := by decide +kernel
theorem dX7_priceBy_62 : decode cX7_priceBy 62 = .ok (.aload_n 0, 1) := by decide +kernel
theorem dX7_priceBy_63 : decode cX7_priceBy 63 = .ok (.iload_n 3, 1) := by decide +kernel
theorem dX7_priceBy_64 : decode cX7_priceBy 64 = .ok (.invokevirtual 104, 3) := by decide +kernel
theorem dX7_priceBy_67 : decode cX7_priceBy 67 = .ok (.sipush 999, 3) := by decide +kernel
theorem dX7_priceBy_70 : decode cX7_priceBy 70 = .ok (.invokestatic 101, 3) := by decide +kernel
theorem dX7_priceBy_73 : decode cX7_priceBy 73 = .ok (.ireturn, 1) := by decide +kernel
theorem dX7_valueOf_0 : decode cX7_valueOf 0 = .ok (.aload_n 0, 1) := by decide +kernel
theorem dX7_valueOf_1 : decode cX7_valueOf 1 = .ok (.iload_n 1, 1) := by decide +kernel
theorem dX7_valueOf_2 : decode cX7_valueOf 2 = .ok (.iconst 2, 1) := by decide +kernel
theorem dX7_valueOf_3 : decode cX7_valueOf 3 = .ok (.invokevirtual 97, 3) := by decide +kernel
theorem dX7_valueOf_6 : decode cX7_valueOf 6 = .ok (.istore_n 2, 1) := by decide +kernel
theorem dX7_valueOf_7 : decode cX7_valueOf 7 = .ok (.aload_n 0, 1) := by decide +kernel
theorem dX7_valueOf_8 : decode cX7_valueOf 8 = .ok (.iload_n 1, 1) := by decide +kernel
theorem dX7_valueOf_9 : decode cX7_valueOf 9 = .ok (.iconst 0, 1) := by decide +kernel
theorem dX7_valueOf_10 : decode cX7_valueOf 10 = .ok (.invokevirtual 97, 3) := by decide +kernel
theorem dX7_valueOf_13 : decode cX7_valueOf 13 = .ok (.tableswitch 92 1 5 #[35, 45, 55, 67, 90], 35) := by decide +kernel
theorem dX7_valueOf_48 : decode cX7_valueOf 48 = .ok (.aload_n 0, 1) := by decide +kernel
theorem dX7_valueOf_49 : decode cX7_valueOf 49 = .ok (.iload_n 1, 1) := by decide +kernel
theorem dX7_valueOf_50 : decode cX7_valueOf 50 = .ok (.iload_n 2, 1) := by decide +kernel
theorem dX7_valueOf_51 : decode cX7_valueOf 51 = .ok (.invokevirtual 107, 3) := by decide +kernel
theorem dX7_valueOf_54 : decode cX7_valueOf 54 = .ok (.bipush 20, 2) := by decide +kernel
theorem dX7_valueOf_56 : decode cX7_valueOf 56 = .ok (.iadd, 1) := by decide +kernel
theorem dX7_valueOf_57 : decode cX7_valueOf 57 = .ok (.ireturn, 1) := by decide +kernel
theorem dX7_valueOf_58 : decode cX7_valueOf 58 = .ok (.aload_n 0, 1) := by decide +kernel
theorem dX7_valueOf_59 : decode cX7_valueOf 59 = .ok (.iload_n 1, 1) := by decide +kernel
theorem dX7_valueOf_60 : decode cX7_valueOf 60 = .ok (.bipush 9, 2) := by decide +kernel
theorem dX7_valueOf_62 : decode cX7_valueOf 62 = .ok (.iload_n 2, 1) := by decide +kernel
theorem dX7_valueOf_63 : decode cX7_valueOf 63 = .ok (.isub, 1) := by decide +kernel
theorem dX7_valueOf_64 : decode cX7_valueOf 64 = .ok (.invokevirtual 107, 3) := by decide +kernel
theorem dX7_valueOf_67 : decode cX7_valueOf 67 = .ok (.ireturn, 1) := by decide +kernel
theorem dX7_valueOf_68 : decode cX7_valueOf 68 = .ok (.aload_n 0, 1) := by decide +kernel
theorem dX7_valueOf_69 : decode cX7_valueOf 69 = .ok (.iload_n 1, 1) := by decide +kernel
theorem dX7_valueOf_70 : decode cX7_valueOf 70 = .ok (.iload_n 2, 1) := by decide +kernel
theorem dX7_valueOf_71 : decode cX7_valueOf 71 = .ok (.invokevirtual 107, 3) := by decide +kernel
theorem dX7_valueOf_74 : decode cX7_valueOf 74 = .ok (.bipush 20, 2) := by decide +kernel
theorem dX7_valueOf_76 : decode cX7_valueOf 76 = .ok (.iadd, 1) := by decide +kernel
theorem dX7_valueOf_77 : decode cX7_valueOf 77 = .ok (.iconst 2, 1) := by decide +kernel
theorem dX7_valueOf_78 : decode cX7_valueOf 78 = .ok (.idiv, 1) := by decide +kernel
theorem dX7_valueOf_79 : decode cX7_valueOf 79 = .ok (.ireturn, 1) := by decide +kernel
theorem dX7_valueOf_80 : decode cX7_valueOf 80 = .ok (.aload_n 0, 1) := by decide +kernel
theorem dX7_valueOf_81 : decode cX7_valueOf 81 = .ok (.iload_n 1, 1) := by decide +kernel
theorem dX7_valueOf_82 : decode cX7_valueOf 82 = .ok (.bipush 9, 2) := by decide +kernel
theorem dX7_valueOf_84 : decode cX7_valueOf 84 = .ok (.iload_n 2, 1) := by decide +kernel
theorem dX7_valueOf_85 : decode cX7_valueOf 85 = .ok (.isub, 1) := by decide +kernel
theorem dX7_valueOf_86 : decode cX7_valueOf 86 = .ok (.invokevirtual 107, 3) := by decide +kernel
theorem dX7_valueOf_89 : decode cX7_valueOf 89 = .ok (.aload_n 0, 1) := by decide +kernel
theorem dX7_valueOf_90 : decode cX7_valueOf 90 = .ok (.iload_n 1, 1) := by decide +kernel
theorem dX7_valueOf_91 : decode cX7_valueOf 91 = .ok (.iconst 3, 1) := by decide +kernel
theorem dX7_valueOf_92 : decode cX7_valueOf 92 = .ok (.invokevirtual 97, 3) := by decide +kernel
theorem dX7_valueOf_95 : decode cX7_valueOf 95 = .ok (.isub, 1) := by decide +kernel
theorem dX7_valueOf_96 : decode cX7_valueOf 96 = .ok (.sipush 999, 3) := by decide +kernel
theorem dX7_valueOf_99 : decode cX7_valueOf 99 = .ok (.invokestatic 101, 3) := by decide +kernel
theorem dX7_valueOf_102 : decode cX7_valueOf 102 = .ok (.ireturn, 1) := by decide +kernel
theorem dX7_valueOf_103 : decode cX7_valueOf 103 = .ok (.iconst 5, 1) := by decide +kernel
theorem dX7_valueOf_104 : decode cX7_valueOf 104 = .ok (.ireturn, 1) := by decide +kernel
theorem dX7_valueOf_105 : decode cX7_valueOf 105 = .ok (.aload_n 0, 1) := by decide +kernel
theorem dX7_valueOf_106 : decode cX7_valueOf 106 = .ok (.iload_n 1, 1) := by decide +kernel
theorem dX7_valueOf_107 : decode cX7_valueOf 107 = .ok (.iload_n 2, 1) := by decide +kernel
theorem dX7_valueOf_108 : decode cX7_valueOf 108 = .ok (.invokevirtual 107, 3) := by decide +kernel
theorem dX7_valueOf_111 : decode cX7_valueOf 111 = .ok (.ireturn, 1) := by decide +kernel
theorem dX7_worth_0 : decode cX7_worth 0 = .ok (.aload_n 0, 1) := by decide +kernel
theorem dX7_worth_1 : decode cX7_worth 1 = .ok (.iload_n 1, 1) := by decide +kernel
theorem dX7_worth_2 : decode cX7_worth 2 = .ok (.iconst 1, 1) := by decide +kernel
theorem dX7_worth_3 : decode cX7_worth 3 = .ok (.invokevirtual 97, 3) := by decide +kernel
theorem dX7_worth_6 : decode cX7_worth 6 = .ok (.istore_n 2, 1) := by decide +kernel
theorem dX7_worth_7 : decode cX7_worth 7 = .ok (.aload_n 0, 1) := by decide +kernel
theorem dX7_worth_8 : decode cX7_worth 8 = .ok (.iload_n 1, 1) := by decide +kernel
theorem dX7_worth_9 : decode cX7_worth 9 = .ok (.iconst 0, 1) := by decide +kernel
theorem dX7_worth_10 : decode cX7_worth 10 = .ok (.invokevirtual 97, 3) := by decide +kernel
theorem dX7_worth_13 : decode cX7_worth 13 = .ok (.tableswitch 60 1 5 #[35, 40, 45, 52, 57], 35) := by decide +kernel
theorem dX7_worth_48 : decode cX7_worth 48 = .ok (.iload_n 2, 1) := by decide +kernel
theorem dX7_worth_49 : decode cX7_worth 49 = .ok (.bipush 7, 2) := by decide +kernel
theorem dX7_worth_51 : decode cX7_worth 51 = .ok (.iadd, 1) := by decide +kernel
theorem dX7_worth_52 : decode cX7_worth 52 = .ok (.ireturn, 1) := by decide +kernel
theorem dX7_worth_53 : decode cX7_worth 53 = .ok (.bipush 99, 2) := by decide +kernel
theorem dX7_worth_55 : decode cX7_worth 55 = .ok (.iload_n 2, 1) := by decide +kernel
theorem dX7_worth_56 : decode cX7_worth 56 = .ok (.isub, 1) := by decide +kernel
theorem dX7_worth_57 : decode cX7_worth 57 = .ok (.ireturn, 1) := by decide +kernel
theorem dX7_worth_58 : decode cX7_worth 58 = .ok (.iconst 2, 1) := by decide +kernel
theorem dX7_worth_59 : decode cX7_worth 59 = .ok (.iload_n 2, 1) := by decide +kernel
theorem dX7_worth_60 : decode cX7_worth 60 = .ok (.bipush 7, 2) := by decide +kernel
theorem dX7_worth_62 : decode cX7_worth 62 = .ok (.iadd, 1) := by decide +kernel
theorem dX7_worth_63 : decode cX7_worth 63 = .ok (.imul, 1) := by decide +kernel
theorem dX7_worth_64 : decode cX7_worth 64 = .ok (.ireturn, 1) := by decide +kernel
theorem dX7_worth_65 : decode cX7_worth 65 = .ok (.bipush 96, 2) := by decide +kernel
theorem dX7_worth_67 : decode cX7_worth 67 = .ok (.iload_n 2, 1) := by decide +kernel
theorem dX7_worth_68 : decode cX7_worth 68 = .ok (.isub, 1) := by decide +kernel
theorem dX7_worth_69 : decode cX7_worth 69 = .ok (.ireturn, 1) := by decide +kernel
theorem dX7_worth_70 : decode cX7_worth 70 = .ok (.bipush 6, 2) := by decide +kernel
theorem dX7_worth_72 : decode cX7_worth 72 = .ok (.ireturn, 1) := by decide +kernel
theorem dX7_worth_73 : decode cX7_worth 73 = .ok (.iload_n 2, 1) := by decide +kernel
theorem dX7_worth_74 : decode cX7_worth 74 = .ok (.ireturn, 1) := by decide +kernel
theorem dX7_offerOf_0 : decode cX7_offerOf 0 = .ok (.aload_n 0, 1) := by decide +kernel
theorem dX7_offerOf_1 : decode cX7_offerOf 1 = .ok (.iload_n 2, 1) := by decide +kernel
theorem dX7_offerOf_2 : decode cX7_offerOf 2 = .ok (.invokevirtual 110, 3) := by decide +kernel
theorem dX7_offerOf_5 : decode cX7_offerOf 5 = .ok (.iconst 5, 1) := by decide +kernel
theorem dX7_offerOf_6 : decode cX7_offerOf 6 = .ok (.aload_n 0, 1) := by decide +kernel
theorem dX7_offerOf_7 : decode cX7_offerOf 7 = .ok (.iload_n 2, 1) := by decide +kernel
theorem dX7_offerOf_8 : decode cX7_offerOf 8 = .ok (.iconst 2, 1) := by decide +kernel
theorem dX7_offerOf_9 : decode cX7_offerOf 9 = .ok (.invokevirtual 97, 3) := by decide +kernel
theorem dX7_offerOf_12 : decode cX7_offerOf 12 = .ok (.aload_n 0, 1) := by decide +kernel
theorem dX7_offerOf_13 : decode cX7_offerOf 13 = .ok (.getfield 7, 3) := by decide +kernel
theorem dX7_offerOf_16 : decode cX7_offerOf 16 = .ok (.bipush 12, 2) := by decide +kernel
theorem dX7_offerOf_18 : decode cX7_offerOf 18 = .ok (.iload_n 1, 1) := by decide +kernel
theorem dX7_offerOf_19 : decode cX7_offerOf 19 = .ok (.iadd, 1) := by decide +kernel
theorem dX7_offerOf_20 : decode cX7_offerOf 20 = .ok (.iaload, 1) := by decide +kernel
theorem dX7_offerOf_21 : decode cX7_offerOf 21 = .ok (.invokestatic 113, 3) := by decide +kernel
theorem dX7_offerOf_24 : decode cX7_offerOf 24 = .ok (.imul, 1) := by decide +kernel
theorem dX7_offerOf_25 : decode cX7_offerOf 25 = .ok (.isub, 1) := by decide +kernel
theorem dX7_offerOf_26 : decode cX7_offerOf 26 = .ok (.istore_n 3, 1) := by decide +kernel
theorem dX7_offerOf_27 : decode cX7_offerOf 27 = .ok (.aload_n 0, 1) := by decide +kernel
theorem dX7_offerOf_28 : decode cX7_offerOf 28 = .ok (.iload_n 2, 1) := by decide +kernel
theorem dX7_offerOf_29 : decode cX7_offerOf 29 = .ok (.iconst 4, 1) := by decide +kernel
theorem dX7_offerOf_30 : decode cX7_offerOf 30 = .ok (.invokevirtual 97, 3) := by decide +kernel
theorem dX7_offerOf_33 : decode cX7_offerOf 33 = .ok (.iload_n 1, 1) := by decide +kernel
theorem dX7_offerOf_34 : decode cX7_offerOf 34 = .ok (.if_icmp .ne 8, 3) := by decide +kernel
theorem dX7_offerOf_37 : decode cX7_offerOf 37 = .ok (.ldc 116, 2) := by decide +kernel
theorem dX7_offerOf_39 : decode cX7_offerOf 39 = .ok (.goto 12, 3) := by decide +kernel
theorem dX7_offerOf_42 : decode cX7_offerOf 42 = .ok (.aload_n 0, 1) := by decide +kernel
theorem dX7_offerOf_43 : decode cX7_offerOf 43 = .ok (.getfield 7, 3) := by decide +kernel
theorem dX7_offerOf_46 : decode cX7_offerOf 46 = .ok (.bipush 6, 2) := by decide +kernel
theorem dX7_offerOf_48 : decode cX7_offerOf 48 = .ok (.iload_n 1, 1) := by decide +kernel
theorem dX7_offerOf_49 : decode cX7_offerOf 49 = .ok (.iadd, 1) := by decide +kernel
theorem dX7_offerOf_50 : decode cX7_offerOf 50 = .ok (.iaload, 1) := by decide +kernel
theorem dX7_offerOf_51 : decode cX7_offerOf 51 = .ok (.istore 4, 2) := by decide +kernel
theorem dX7_offerOf_53 : decode cX7_offerOf 53 = .ok (.iload_n 3, 1) := by decide +kernel
theorem dX7_offerOf_54 : decode cX7_offerOf 54 = .ok (.iload 4, 2) := by decide +kernel
theorem dX7_offerOf_56 : decode cX7_offerOf 56 = .ok (.invokestatic 101, 3) := by decide +kernel
theorem dX7_offerOf_59 : decode cX7_offerOf 59 = .ok (.ireturn, 1) := by decide +kernel
theorem dX7_told_0 : decode cX7_told 0 = .ok (.aload_n 0, 1) := by decide +kernel
theorem dX7_told_1 : decode cX7_told 1 = .ok (.iload_n 1, 1) := by decide +kernel
theorem dX7_told_2 : decode cX7_told 2 = .ok (.invokevirtual 117, 3) := by decide +kernel
theorem dX7_told_5 : decode cX7_told 5 = .ok (.ifCond .eq 15, 3) := by decide +kernel
theorem dX7_told_8 : decode cX7_told 8 = .ok (.iload_n 2, 1) := by decide +kernel
theorem dX7_told_9 : decode cX7_told 9 = .ok (.i2l, 1) := by decide +kernel
theorem dX7_told_10 : decode cX7_told 10 = .ok (.lconst 0, 1) := by decide +kernel
theorem dX7_told_11 : decode cX7_told 11 = .ok (.ldc2_w 120, 3) := by decide +kernel
theorem dX7_told_14 : decode cX7_told 14 = .ok (.invokestatic 68, 3) := by decide +kernel
theorem dX7_told_17 : decode cX7_told 17 = .ok (.ifCond .ne 6, 3) := by decide +kernel
theorem dX7_told_20 : decode cX7_told 20 = .ok (.ldc 87, 2) := by decide +kernel
theorem dX7_told_22 : decode cX7_told 22 = .ok (.ireturn, 1) := by decide +kernel
theorem dX7_told_23 : decode cX7_told 23 = .ok (.iload_n 2, 1) := by decide +kernel
theorem dX7_told_24 : decode cX7_told 24 = .ok (.bipush 6, 2) := by decide +kernel
theorem dX7_told_26 : decode cX7_told 26 = .ok (.if_icmp .ge 12, 3) := by decide +kernel
theorem dX7_told_29 : decode cX7_told 29 = .ok (.aload_n 0, 1) := by decide +kernel
theorem dX7_told_30 : decode cX7_told 30 = .ok (.iload_n 1, 1) := by decide +kernel
theorem dX7_told_31 : decode cX7_told 31 = .ok (.iload_n 2, 1) := by decide +kernel
theorem dX7_told_32 : decode cX7_told 32 = .ok (.invokevirtual 97, 3) := by decide +kernel
theorem dX7_told_35 : decode cX7_told 35 = .ok (.goto 22, 3) := by decide +kernel
theorem dX7_told_38 : decode cX7_told 38 = .ok (.iload_n 2, 1) := by decide +kernel
theorem dX7_told_39 : decode cX7_told 39 = .ok (.bipush 6, 2) := by decide +kernel
theorem dX7_told_41 : decode cX7_told 41 = .ok (.if_icmp .ne 11, 3) := by decide +kernel
theorem dX7_told_44 : decode cX7_told 44 = .ok (.aload_n 0, 1) := by decide +kernel
theorem dX7_told_45 : decode cX7_told 45 = .ok (.iload_n 1, 1) := by decide +kernel
theorem dX7_told_46 : decode cX7_told 46 = .ok (.invokevirtual 110, 3) := by decide +kernel
theorem dX7_told_49 : decode cX7_told 49 = .ok (.goto 8, 3) := by decide +kernel
theorem dX7_told_52 : decode cX7_told 52 = .ok (.aload_n 0, 1) := by decide +kernel
theorem dX7_told_53 : decode cX7_told 53 = .ok (.iload_n 1, 1) := by decide +kernel
theorem dX7_told_54 : decode cX7_told 54 = .ok (.invokevirtual 122, 3) := by decide +kernel
theorem dX7_told_57 : decode cX7_told 57 = .ok (.ireturn, 1) := by decide +kernel
theorem dX7_isOf_0 : decode cX7_isOf 0 = .ok (.iload_n 0, 1) := by decide +kernel
theorem dX7_isOf_1 : decode cX7_isOf 1 = .ok (.iload_n 1, 1) := by decide +kernel
theorem dX7_isOf_2 : decode cX7_isOf 2 = .ok (.if_icmp .eq 27, 3) := by decide +kernel
theorem dX7_isOf_5 : decode cX7_isOf 5 = .ok (.iload_n 1, 1) := by decide +kernel
theorem dX7_isOf_6 : decode cX7_isOf 6 = .ok (.ifCond .eq 23, 3) := by decide +kernel
theorem dX7_isOf_9 : decode cX7_isOf 9 = .ok (.iload_n 1, 1) := by decide +kernel
theorem dX7_isOf_10 : decode cX7_isOf 10 = .ok (.iconst 1, 1) := by decide +kernel
theorem dX7_isOf_11 : decode cX7_isOf 11 = .ok (.if_icmp .ne 8, 3) := by decide +kernel
theorem dX7_isOf_14 : decode cX7_isOf 14 = .ok (.iload_n 0, 1) := by decide +kernel
theorem dX7_isOf_15 : decode cX7_isOf 15 = .ok (.iconst 3, 1) := by decide +kernel
theorem dX7_isOf_16 : decode cX7_isOf 16 = .ok (.if_icmp .eq 13, 3) := by decide +kernel
theorem dX7_isOf_19 : decode cX7_isOf 19 = .ok (.iload_n 1, 1) := by decide +kernel
theorem dX7_isOf_20 : decode cX7_isOf 20 = .ok (.iconst 2, 1) := by decide +kernel
theorem dX7_isOf_21 : decode cX7_isOf 21 = .ok (.if_icmp .ne 12, 3) := by decide +kernel
theorem dX7_isOf_24 : decode cX7_isOf 24 = .ok (.iload_n 0, 1) := by decide +kernel
theorem dX7_isOf_25 : decode cX7_isOf 25 = .ok (.iconst 4, 1) := by decide +kernel
theorem dX7_isOf_26 : decode cX7_isOf 26 = .ok (.if_icmp .ne 7, 3) := by decide +kernel
theorem dX7_isOf_29 : decode cX7_isOf 29 = .ok (.iconst 1, 1) := by decide +kernel
theorem dX7_isOf_30 : decode cX7_isOf 30 = .ok (.goto 4, 3) := by decide +kernel
theorem dX7_isOf_33 : decode cX7_isOf 33 = .ok (.iconst 0, 1) := by decide +kernel
theorem dX7_isOf_34 : decode cX7_isOf 34 = .ok (.ireturn, 1) := by decide +kernel
theorem dX7_as_0 : decode cX7_as 0 = .ok (.aload_n 0, 1) := by decide +kernel
theorem dX7_as_1 : decode cX7_as 1 = .ok (.iload_n 1, 1) := by decide +kernel
theorem dX7_as_2 : decode cX7_as 2 = .ok (.invokevirtual 117, 3) := by decide +kernel
theorem dX7_as_5 : decode cX7_as 5 = .ok (.ifCond .eq 15, 3) := by decide +kernel
theorem dX7_as_8 : decode cX7_as 8 = .ok (.iload_n 2, 1) := by decide +kernel
theorem dX7_as_9 : decode cX7_as 9 = .ok (.i2l, 1) := by decide +kernel
theorem dX7_as_10 : decode cX7_as 10 = .ok (.lconst 0, 1) := by decide +kernel
theorem dX7_as_11 : decode cX7_as 11 = .ok (.ldc2_w 77, 3) := by decide +kernel
theorem dX7_as_14 : decode cX7_as 14 = .ok (.invokestatic 68, 3) := by decide +kernel
theorem dX7_as_17 : decode cX7_as 17 = .ok (.ifCond .ne 6, 3) := by decide +kernel
theorem dX7_as_20 : decode cX7_as 20 = .ok (.ldc 87, 2) := by decide +kernel
theorem dX7_as_22 : decode cX7_as 22 = .ok (.ireturn, 1) := by decide +kernel
theorem dX7_as_23 : decode cX7_as 23 = .ok (.aload_n 0, 1) := by decide +kernel
theorem dX7_as_24 : decode cX7_as 24 = .ok (.iload_n 1, 1) := by decide +kernel
theorem dX7_as_25 : decode cX7_as 25 = .ok (.iconst 0, 1) := by decide +kernel
theorem dX7_as_26 : decode cX7_as 26 = .ok (.invokevirtual 97, 3) := by decide +kernel
theorem dX7_as_29 : decode cX7_as 29 = .ok (.iload_n 2, 1) := by decide +kernel
theorem dX7_as_30 : decode cX7_as 30 = .ok (.invokestatic 125, 3) := by decide +kernel
theorem dX7_as_33 : decode cX7_as 33 = .ok (.ifCond .eq 12, 3) := by decide +kernel
theorem dX7_as_36 : decode cX7_as 36 = .ok (.aload_n 0, 1) := by decide +kernel
theorem dX7_as_37 : decode cX7_as 37 = .ok (.iload_n 1, 1) := by decide +kernel
theorem dX7_as_38 : decode cX7_as 38 = .ok (.iconst 1, 1) := by decide +kernel
theorem dX7_as_39 : decode cX7_as 39 = .ok (.invokevirtual 97, 3) := by decide +kernel
theorem dX7_as_42 : decode cX7_as 42 = .ok (.goto 5, 3) := by decide +kernel
theorem dX7_as_45 : decode cX7_as 45 = .ok (.ldc 129, 2) := by decide +kernel
theorem dX7_as_47 : decode cX7_as 47 = .ok (.ireturn, 1) := by decide +kernel
theorem dX7_turns_0 : decode cX7_turns 0 = .ok (.aload_n 0, 1) := by decide +kernel
theorem dX7_turns_1 : decode cX7_turns 1 = .ok (.iload_n 1, 1) := by decide +kernel
theorem dX7_turns_2 : decode cX7_turns 2 = .ok (.invokevirtual 117, 3) := by decide +kernel
theorem dX7_turns_5 : decode cX7_turns 5 = .ok (.ifCond .eq 30, 3) := by decide +kernel
theorem dX7_turns_8 : decode cX7_turns 8 = .ok (.iload_n 2, 1) := by decide +kernel
theorem dX7_turns_9 : decode cX7_turns 9 = .ok (.i2l, 1) := by decide +kernel
theorem dX7_turns_10 : decode cX7_turns 10 = .ok (.lconst 0, 1) := by decide +kernel
theorem dX7_turns_11 : decode cX7_turns 11 = .ok (.ldc2_w 77, 3) := by decide +kernel
theorem dX7_turns_14 : decode cX7_turns 14 = .ok (.invokestatic 68, 3) := by decide +kernel
theorem dX7_turns_17 : decode cX7_turns 17 = .ok (.ifCond .eq 18, 3) := by decide +kernel
theorem dX7_turns_20 : decode cX7_turns 20 = .ok (.aload_n 0, 1) := by decide +kernel
theorem dX7_turns_21 : decode cX7_turns 21 = .ok (.bipush 18, 2) := by decide +kernel
theorem dX7_turns_23 : decode cX7_turns 23 = .ok (.bipush 6, 2) := by decide +kernel
theorem dX7_turns_25 : decode cX7_turns 25 = .ok (.iload_n 1, 1) := by decide +kernel
theorem dX7_turns_26 : decode cX7_turns 26 = .ok (.imul, 1) := by decide +kernel
theorem dX7_turns_27 : decode cX7_turns 27 = .ok (.iadd, 1) := by decide +kernel
theorem dX7_turns_28 : decode cX7_turns 28 = .ok (.iload_n 2, 1) := by decide +kernel
theorem dX7_turns_29 : decode cX7_turns 29 = .ok (.invokevirtual 130, 3) := by decide +kernel
theorem dX7_turns_32 : decode cX7_turns 32 = .ok (.goto 5, 3) := by decide +kernel
theorem dX7_turns_35 : decode cX7_turns 35 = .ok (.ldc 87, 2) := by decide +kernel
theorem dX7_turns_37 : decode cX7_turns 37 = .ok (.ireturn, 1) := by decide +kernel
theorem dX7_set_0 : decode cX7_set 0 = .ok (.aload_n 0, 1) := by decide +kernel
theorem dX7_set_1 : decode cX7_set 1 = .ok (.iload_n 1, 1) := by decide +kernel
theorem dX7_set_2 : decode cX7_set 2 = .ok (.invokevirtual 117, 3) := by decide +kernel
theorem dX7_set_5 : decode cX7_set 5 = .ok (.ifCond .eq 38, 3) := by decide +kernel
theorem dX7_set_8 : decode cX7_set 8 = .ok (.iload_n 2, 1) := by decide +kernel
theorem dX7_set_9 : decode cX7_set 9 = .ok (.i2l, 1) := by decide +kernel
theorem dX7_set_10 : decode cX7_set 10 = .ok (.lconst 1, 1) := by decide +kernel
theorem dX7_set_11 : decode cX7_set 11 = .ok (.ldc2_w 133, 3) := by decide +kernel
theorem dX7_set_14 : decode cX7_set 14 = .ok (.invokestatic 68, 3) := by decide +kernel
theorem dX7_set_17 : decode cX7_set 17 = .ok (.ifCond .eq 26, 3) := by decide +kernel
theorem dX7_set_20 : decode cX7_set 20 = .ok (.iload_n 3, 1) := by decide +kernel
theorem dX7_set_21 : decode cX7_set 21 = .ok (.i2l, 1) := by decide +kernel
theorem dX7_set_22 : decode cX7_set 22 = .ok (.lconst 0, 1) := by decide +kernel
theorem dX7_set_23 : decode cX7_set 23 = .ok (.iload_n 2, 1) := by decide +kernel
theorem dX7_set_24 : decode cX7_set 24 = .ok (.iconst 2, 1) := by decide +kernel
theorem dX7_set_25 : decode cX7_set 25 = .ok (.if_icmp .ne 9, 3) := by decide +kernel
theorem dX7_set_28 : decode cX7_set 28 = .ok (.ldc2_w 81, 3) := by decide +kernel
theorem dX7_set_31 : decode cX7_set 31 = .ok (.goto 6, 3) := by decide +kernel
theorem dX7_set_34 : decode cX7_set 34 = .ok (.ldc2_w 79, 3) := by decide +kernel
theorem dX7_set_37 : decode cX7_set 37 = .ok (.invokestatic 68, 3) := by decide +kernel
theorem dX7_set_40 : decode cX7_set 40 = .ok (.ifCond .ne 6, 3) := by decide +kernel
theorem dX7_set_43 : decode cX7_set 43 = .ok (.ldc 87, 2) := by decide +kernel
theorem dX7_set_45 : decode cX7_set 45 = .ok (.ireturn, 1) := by decide +kernel
theorem dX7_set_46 : decode cX7_set 46 = .ok (.aload_n 0, 1) := by decide +kernel
theorem dX7_set_47 : decode cX7_set 47 = .ok (.bipush 18, 2) := by decide +kernel
theorem dX7_set_49 : decode cX7_set 49 = .ok (.bipush 6, 2) := by decide +kernel
theorem dX7_set_51 : decode cX7_set 51 = .ok (.iload_n 1, 1) := by decide +kernel
theorem dX7_set_52 : decode cX7_set 52 = .ok (.imul, 1) := by decide +kernel
theorem dX7_set_53 : decode cX7_set 53 = .ok (.iadd, 1) := by decide +kernel
theorem dX7_set_54 : decode cX7_set 54 = .ok (.iload_n 2, 1) := by decide +kernel
theorem dX7_set_55 : decode cX7_set 55 = .ok (.iadd, 1) := by decide +kernel
theorem dX7_set_56 : decode cX7_set 56 = .ok (.iload_n 3, 1) := by decide +kernel
theorem dX7_set_57 : decode cX7_set 57 = .ok (.invokevirtual 130, 3) := by decide +kernel
theorem dX7_set_60 : decode cX7_set 60 = .ok (.ireturn, 1) := by decide +kernel
theorem dX7_daysOf_0 : decode cX7_daysOf 0 = .ok (.iconst 0, 1) := by decide +kernel
theorem dX7_daysOf_1 : decode cX7_daysOf 1 = .ok (.istore_n 2, 1) := by decide +kernel
theorem dX7_daysOf_2 : decode cX7_daysOf 2 = .ok (.iconst 0, 1) := by decide +kernel
theorem dX7_daysOf_3 : decode cX7_daysOf 3 = .ok (.istore_n 3, 1) := by decide +kernel
theorem dX7_daysOf_4 : decode cX7_daysOf 4 = .ok (.iload_n 3, 1) := by decide +kernel
theorem dX7_daysOf_5 : decode cX7_daysOf 5 = .ok (.aload_n 0, 1) := by decide +kernel
theorem dX7_daysOf_6 : decode cX7_daysOf 6 = .ok (.getfield 7, 3) := by decide +kernel
theorem dX7_daysOf_9 : decode cX7_daysOf 9 = .ok (.iconst 0, 1) := by decide +kernel
theorem dX7_daysOf_10 : decode cX7_daysOf 10 = .ok (.iaload, 1) := by decide +kernel
theorem dX7_daysOf_11 : decode cX7_daysOf 11 = .ok (.if_icmp .ge 29, 3) := by decide +kernel
theorem dX7_daysOf_14 : decode cX7_daysOf 14 = .ok (.iload_n 2, 1) := by decide +kernel
theorem dX7_daysOf_15 : decode cX7_daysOf 15 = .ok (.aload_n 0, 1) := by decide +kernel
theorem dX7_daysOf_16 : decode cX7_daysOf 16 = .ok (.iload_n 3, 1) := by decide +kernel
theorem dX7_daysOf_17 : decode cX7_daysOf 17 = .ok (.iconst 4, 1) := by decide +kernel
theorem dX7_daysOf_18 : decode cX7_daysOf 18 = .ok (.invokevirtual 97, 3) := by decide +kernel
theorem dX7_daysOf_21 : decode cX7_daysOf 21 = .ok (.iload_n 1, 1) := by decide +kernel
theorem dX7_daysOf_22 : decode cX7_daysOf 22 = .ok (.if_icmp .ne 9, 3) := by decide +kernel
theorem dX7_daysOf_25 : decode cX7_daysOf 25 = .ok (.iconst 1, 1) := by decide +kernel
theorem dX7_daysOf_26 : decode cX7_daysOf 26 = .ok (.iload_n 3, 1) := by decide +kernel
theorem dX7_daysOf_27 : decode cX7_daysOf 27 = .ok (.ishl, 1) := by decide +kernel
theorem dX7_daysOf_28 : decode cX7_daysOf 28 = .ok (.goto 4, 3) := by decide +kernel
theorem dX7_daysOf_31 : decode cX7_daysOf 31 = .ok (.iconst 0, 1) := by decide +kernel
theorem dX7_daysOf_32 : decode cX7_daysOf 32 = .ok (.ior, 1) := by decide +kernel
theorem dX7_daysOf_33 : decode cX7_daysOf 33 = .ok (.istore_n 2, 1) := by decide +kernel
theorem dX7_daysOf_34 : decode cX7_daysOf 34 = .ok (.iinc 3 1, 3) := by decide +kernel
theorem dX7_daysOf_37 : decode cX7_daysOf 37 = .ok (.goto (-33), 3) := by decide +kernel
theorem dX7_daysOf_40 : decode cX7_daysOf 40 = .ok (.iload_n 2, 1) := by decide +kernel
theorem dX7_daysOf_41 : decode cX7_daysOf 41 = .ok (.ireturn, 1) := by decide +kernel
theorem dX7_manyIn_0 : decode cX7_manyIn 0 = .ok (.iconst 0, 1) := by decide +kernel
theorem dX7_manyIn_1 : decode cX7_manyIn 1 = .ok (.istore_n 1, 1) := by decide +kernel
theorem dX7_manyIn_2 : decode cX7_manyIn 2 = .ok (.iload_n 0, 1) := by decide +kernel
theorem dX7_manyIn_3 : decode cX7_manyIn 3 = .ok (.istore_n 2, 1) := by decide +kernel
theorem dX7_manyIn_4 : decode cX7_manyIn 4 = .ok (.iload_n 2, 1) := by decide +kernel
theorem dX7_manyIn_5 : decode cX7_manyIn 5 = .ok (.ifCond .eq 15, 3) := by decide +kernel
theorem dX7_manyIn_8 : decode cX7_manyIn 8 = .ok (.iinc 1 1, 3) := by decide +kernel
theorem dX7_manyIn_11 : decode cX7_manyIn 11 = .ok (.iload_n 2, 1) := by decide +kernel
theorem dX7_manyIn_12 : decode cX7_manyIn 12 = .ok (.iload_n 2, 1) := by decide +kernel
theorem dX7_manyIn_13 : decode cX7_manyIn 13 = .ok (.iconst 1, 1) := by decide +kernel
theorem dX7_manyIn_14 : decode cX7_manyIn 14 = .ok (.isub, 1) := by decide +kernel
theorem dX7_manyIn_15 : decode cX7_manyIn 15 = .ok (.iand, 1) := by decide +kernel
theorem dX7_manyIn_16 : decode cX7_manyIn 16 = .ok (.istore_n 2, 1) := by decide +kernel
theorem dX7_manyIn_17 : decode cX7_manyIn 17 = .ok (.goto (-13), 3) := by decide +kernel
theorem dX7_manyIn_20 : decode cX7_manyIn 20 = .ok (.iload_n 1, 1) := by decide +kernel
theorem dX7_manyIn_21 : decode cX7_manyIn 21 = .ok (.ireturn, 1) := by decide +kernel
theorem dX7_one_0 : decode cX7_one 0 = .ok (.iload_n 1, 1) := by decide +kernel
theorem dX7_one_1 : decode cX7_one 1 = .ok (.invokestatic 83, 3) := by decide +kernel
theorem dX7_one_4 : decode cX7_one 4 = .ok (.ifCond .eq 15, 3) := by decide +kernel
theorem dX7_one_7 : decode cX7_one 7 = .ok (.iload_n 2, 1) := by decide +kernel
theorem dX7_one_8 : decode cX7_one 8 = .ok (.i2l, 1) := by decide +kernel
theorem dX7_one_9 : decode cX7_one 9 = .ok (.lconst 0, 1) := by decide +kernel
theorem dX7_one_10 : decode cX7_one 10 = .ok (.ldc2_w 135, 3) := by decide +kernel
theorem dX7_one_13 : decode cX7_one 13 = .ok (.invokestatic 68, 3) := by decide +kernel
theorem dX7_one_16 : decode cX7_one 16 = .ok (.ifCond .ne 6, 3) := by decide +kernel
theorem dX7_one_19 : decode cX7_one 19 = .ok (.ldc 87, 2) := by decide +kernel
theorem dX7_one_21 : decode cX7_one 21 = .ok (.ireturn, 1) := by decide +kernel
theorem dX7_one_22 : decode cX7_one 22 = .ok (.iload_n 2, 1) := by decide +kernel
theorem dX7_one_23 : decode cX7_one 23 = .ok (.ifCond .ne 15, 3) := by decide +kernel
theorem dX7_one_26 : decode cX7_one 26 = .ok (.aload_n 0, 1) := by decide +kernel
theorem dX7_one_27 : decode cX7_one 27 = .ok (.getfield 7, 3) := by decide +kernel
theorem dX7_one_30 : decode cX7_one 30 = .ok (.bipush 6, 2) := by decide +kernel
theorem dX7_one_32 : decode cX7_one 32 = .ok (.iload_n 1, 1) := by decide +kernel
theorem dX7_one_33 : decode cX7_one 33 = .ok (.iadd, 1) := by decide +kernel
theorem dX7_one_34 : decode cX7_one 34 = .ok (.iaload, 1) := by decide +kernel
theorem dX7_one_35 : decode cX7_one 35 = .ok (.goto 25, 3) := by decide +kernel
theorem dX7_one_38 : decode cX7_one 38 = .ok (.iload_n 2, 1) := by decide +kernel
theorem dX7_one_39 : decode cX7_one 39 = .ok (.iconst 1, 1) := by decide +kernel
theorem dX7_one_40 : decode cX7_one 40 = .ok (.if_icmp .ne 15, 3) := by decide +kernel
theorem dX7_one_43 : decode cX7_one 43 = .ok (.aload_n 0, 1) := by decide +kernel
theorem dX7_one_44 : decode cX7_one 44 = .ok (.getfield 7, 3) := by decide +kernel
theorem dX7_one_47 : decode cX7_one 47 = .ok (.bipush 12, 2) := by decide +kernel
theorem dX7_one_49 : decode cX7_one 49 = .ok (.iload_n 1, 1) := by decide +kernel
theorem dX7_one_50 : decode cX7_one 50 = .ok (.iadd, 1) := by decide +kernel
theorem dX7_one_51 : decode cX7_one 51 = .ok (.iaload, 1) := by decide +kernel
theorem dX7_one_52 : decode cX7_one 52 = .ok (.goto 8, 3) := by decide +kernel
theorem dX7_one_55 : decode cX7_one 55 = .ok (.aload_n 0, 1) := by decide +kernel
theorem dX7_one_56 : decode cX7_one 56 = .ok (.iload_n 1, 1) := by decide +kernel
theorem dX7_one_57 : decode cX7_one 57 = .ok (.invokevirtual 137, 3) := by decide +kernel
theorem dX7_one_60 : decode cX7_one 60 = .ok (.ireturn, 1) := by decide +kernel
theorem dX7_gives_0 : decode cX7_gives 0 = .ok (.iload_n 1, 1) := by decide +kernel
theorem dX7_gives_1 : decode cX7_gives 1 = .ok (.invokestatic 83, 3) := by decide +kernel
theorem dX7_gives_4 : decode cX7_gives 4 = .ok (.ifCond .eq 35, 3) := by decide +kernel
theorem dX7_gives_7 : decode cX7_gives 7 = .ok (.iload_n 2, 1) := by decide +kernel
theorem dX7_gives_8 : decode cX7_gives 8 = .ok (.i2l, 1) := by decide +kernel
theorem dX7_gives_9 : decode cX7_gives 9 = .ok (.lconst 0, 1) := by decide +kernel
theorem dX7_gives_10 : decode cX7_gives 10 = .ok (.lconst 1, 1) := by decide +kernel
theorem dX7_gives_11 : decode cX7_gives 11 = .ok (.invokestatic 68, 3) := by decide +kernel
theorem dX7_gives_14 : decode cX7_gives 14 = .ok (.ifCond .eq 25, 3) := by decide +kernel
theorem dX7_gives_17 : decode cX7_gives 17 = .ok (.iload_n 3, 1) := by decide +kernel
theorem dX7_gives_18 : decode cX7_gives 18 = .ok (.i2l, 1) := by decide +kernel
theorem dX7_gives_19 : decode cX7_gives 19 = .ok (.lconst 0, 1) := by decide +kernel
theorem dX7_gives_20 : decode cX7_gives 20 = .ok (.iload_n 2, 1) := by decide +kernel
theorem dX7_gives_21 : decode cX7_gives 21 = .ok (.ifCond .ne 9, 3) := by decide +kernel
theorem dX7_gives_24 : decode cX7_gives 24 = .ok (.ldc2_w 140, 3) := by decide +kernel
theorem dX7_gives_27 : decode cX7_gives 27 = .ok (.goto 6, 3) := by decide +kernel
theorem dX7_gives_30 : decode cX7_gives 30 = .ok (.ldc2_w 81, 3) := by decide +kernel
theorem dX7_gives_33 : decode cX7_gives 33 = .ok (.invokestatic 68, 3) := by decide +kernel
theorem dX7_gives_36 : decode cX7_gives 36 = .ok (.ifCond .ne 6, 3) := by decide +kernel
theorem dX7_gives_39 : decode cX7_gives 39 = .ok (.ldc 87, 2) := by decide +kernel
theorem dX7_gives_41 : decode cX7_gives 41 = .ok (.ireturn, 1) := by decide +kernel
theorem dX7_gives_42 : decode cX7_gives 42 = .ok (.aload_n 0, 1) := by decide +kernel
theorem dX7_gives_43 : decode cX7_gives 43 = .ok (.iload_n 2, 1) := by decide +kernel
theorem dX7_gives_44 : decode cX7_gives 44 = .ok (.ifCond .ne 8, 3) := by decide +kernel
theorem dX7_gives_47 : decode cX7_gives 47 = .ok (.bipush 6, 2) := by decide +kernel
theorem dX7_gives_49 : decode cX7_gives 49 = .ok (.goto 5, 3) := by decide +kernel
theorem dX7_gives_52 : decode cX7_gives 52 = .ok (.bipush 12, 2) := by decide +kernel
theorem dX7_gives_54 : decode cX7_gives 54 = .ok (.iload_n 1, 1) := by decide +kernel
theorem dX7_gives_55 : decode cX7_gives 55 = .ok (.iadd, 1) := by decide +kernel
theorem dX7_gives_56 : decode cX7_gives 56 = .ok (.iload_n 3, 1) := by decide +kernel
theorem dX7_gives_57 : decode cX7_gives 57 = .ok (.invokevirtual 130, 3) := by decide +kernel
theorem dX7_gives_60 : decode cX7_gives 60 = .ok (.ireturn, 1) := by decide +kernel
theorem dX7_offer_0 : decode cX7_offer 0 = .ok (.iload_n 1, 1) := by decide +kernel
theorem dX7_offer_1 : decode cX7_offer 1 = .ok (.invokestatic 83, 3) := by decide +kernel
theorem dX7_offer_4 : decode cX7_offer 4 = .ok (.ifCond .eq 20, 3) := by decide +kernel
theorem dX7_offer_7 : decode cX7_offer 7 = .ok (.aload_n 0, 1) := by decide +kernel
theorem dX7_offer_8 : decode cX7_offer 8 = .ok (.iload_n 2, 1) := by decide +kernel
theorem dX7_offer_9 : decode cX7_offer 9 = .ok (.invokevirtual 117, 3) := by decide +kernel
theorem dX7_offer_12 : decode cX7_offer 12 = .ok (.ifCond .eq 12, 3) := by decide +kernel
theorem dX7_offer_15 : decode cX7_offer 15 = .ok (.aload_n 0, 1) := by decide +kernel
theorem dX7_offer_16 : decode cX7_offer 16 = .ok (.iload_n 1, 1) := by decide +kernel
theorem dX7_offer_17 : decode cX7_offer 17 = .ok (.iload_n 2, 1) := by decide +kernel
theorem dX7_offer_18 : decode cX7_offer 18 = .ok (.invokevirtual 142, 3) := by decide +kernel
theorem dX7_offer_21 : decode cX7_offer 21 = .ok (.goto 5, 3) := by decide +kernel
theorem dX7_offer_24 : decode cX7_offer 24 = .ok (.ldc 87, 2) := by decide +kernel
theorem dX7_offer_26 : decode cX7_offer 26 = .ok (.ireturn, 1) := by decide +kernel
theorem dX7_deal_0 : decode cX7_deal 0 = .ok (.iload_n 1, 1) := by decide +kernel
theorem dX7_deal_1 : decode cX7_deal 1 = .ok (.i2l, 1) := by decide +kernel
theorem dX7_deal_2 : decode cX7_deal 2 = .ok (.lconst 1, 1) := by decide +kernel
theorem dX7_deal_3 : decode cX7_deal 3 = .ok (.ldc2_w 145, 3) := by decide +kernel
theorem dX7_deal_6 : decode cX7_deal 6 = .ok (.invokestatic 68, 3) := by decide +kernel
theorem dX7_deal_9 : decode cX7_deal 9 = .ok (.ifCond .ne 6, 3) := by decide +kernel
theorem dX7_deal_12 : decode cX7_deal 12 = .ok (.ldc 87, 2) := by decide +kernel
theorem dX7_deal_14 : decode cX7_deal 14 = .ok (.ireturn, 1) := by decide +kernel
theorem dX7_deal_15 : decode cX7_deal 15 = .ok (.iconst 0, 1) := by decide +kernel
theorem dX7_deal_16 : decode cX7_deal 16 = .ok (.istore_n 2, 1) := by decide +kernel
theorem dX7_deal_17 : decode cX7_deal 17 = .ok (.iload_n 2, 1) := by decide +kernel
theorem dX7_deal_18 : decode cX7_deal 18 = .ok (.iload_n 1, 1) := by decide +kernel
theorem dX7_deal_19 : decode cX7_deal 19 = .ok (.if_icmp .ge 62, 3) := by decide +kernel
theorem dX7_deal_22 : decode cX7_deal 22 = .ok (.aload_n 0, 1) := by decide +kernel
theorem dX7_deal_23 : decode cX7_deal 23 = .ok (.getfield 7, 3) := by decide +kernel
theorem dX7_deal_26 : decode cX7_deal 26 = .ok (.iconst 0, 1) := by decide +kernel
theorem dX7_deal_27 : decode cX7_deal 27 = .ok (.iaload, 1) := by decide +kernel
theorem dX7_deal_28 : decode cX7_deal 28 = .ok (.bipush 10, 2) := by decide +kernel
theorem dX7_deal_30 : decode cX7_deal 30 = .ok (.if_icmp .ge 51, 3) := by decide +kernel
theorem dX7_deal_33 : decode cX7_deal 33 = .ok (.aload_n 0, 1) := by decide +kernel
theorem dX7_deal_34 : decode cX7_deal 34 = .ok (.invokevirtual 147, 3) := by decide +kernel
theorem dX7_deal_37 : decode cX7_deal 37 = .ok (.bipush 6, 2) := by decide +kernel
theorem dX7_deal_39 : decode cX7_deal 39 = .ok (.irem, 1) := by decide +kernel
theorem dX7_deal_40 : decode cX7_deal 40 = .ok (.istore_n 3, 1) := by decide +kernel
theorem dX7_deal_41 : decode cX7_deal 41 = .ok (.aload_n 0, 1) := by decide +kernel
theorem dX7_deal_42 : decode cX7_deal 42 = .ok (.invokevirtual 147, 3) := by decide +kernel
theorem dX7_deal_45 : decode cX7_deal 45 = .ok (.bipush 100, 2) := by decide +kernel
theorem dX7_deal_47 : decode cX7_deal 47 = .ok (.irem, 1) := by decide +kernel
theorem dX7_deal_48 : decode cX7_deal 48 = .ok (.istore 4, 2) := by decide +kernel
theorem dX7_deal_50 : decode cX7_deal 50 = .ok (.aload_n 0, 1) := by decide +kernel
theorem dX7_deal_51 : decode cX7_deal 51 = .ok (.invokevirtual 147, 3) := by decide +kernel
theorem dX7_deal_54 : decode cX7_deal 54 = .ok (.bipush 10, 2) := by decide +kernel
theorem dX7_deal_56 : decode cX7_deal 56 = .ok (.irem, 1) := by decide +kernel
theorem dX7_deal_57 : decode cX7_deal 57 = .ok (.istore 5, 2) := by decide +kernel
theorem dX7_deal_59 : decode cX7_deal 59 = .ok (.aload_n 0, 1) := by decide +kernel
theorem dX7_deal_60 : decode cX7_deal 60 = .ok (.iload_n 3, 1) := by decide +kernel
theorem dX7_deal_61 : decode cX7_deal 61 = .ok (.iload 4, 2) := by decide +kernel
theorem dX7_deal_63 : decode cX7_deal 63 = .ok (.iload 5, 2) := by decide +kernel
theorem dX7_deal_65 : decode cX7_deal 65 = .ok (.aload_n 0, 1) := by decide +kernel
theorem dX7_deal_66 : decode cX7_deal 66 = .ok (.invokevirtual 147, 3) := by decide +kernel
theorem dX7_deal_69 : decode cX7_deal 69 = .ok (.bipush 6, 2) := by decide +kernel
theorem dX7_deal_71 : decode cX7_deal 71 = .ok (.irem, 1) := by decide +kernel
theorem dX7_deal_72 : decode cX7_deal 72 = .ok (.invokevirtual 89, 3) := by decide +kernel
theorem dX7_deal_75 : decode cX7_deal 75 = .ok (.iinc 2 1, 3) := by decide +kernel
theorem dX7_deal_78 : decode cX7_deal 78 = .ok (.goto (-61), 3) := by decide +kernel
theorem dX7_deal_81 : decode cX7_deal 81 = .ok (.iload_n 2, 1) := by decide +kernel
theorem dX7_deal_82 : decode cX7_deal 82 = .ok (.ireturn, 1) := by decide +kernel
theorem dX7_seed_0 : decode cX7_seed 0 = .ok (.aload_n 0, 1) := by decide +kernel
theorem dX7_seed_1 : decode cX7_seed 1 = .ok (.iconst 5, 1) := by decide +kernel
theorem dX7_seed_2 : decode cX7_seed 2 = .ok (.iload_n 1, 1) := by decide +kernel
theorem dX7_seed_3 : decode cX7_seed 3 = .ok (.invokevirtual 130, 3) := by decide +kernel
theorem dX7_seed_6 : decode cX7_seed 6 = .ok (.ireturn, 1) := by decide +kernel
theorem dX7_sells_0 : decode cX7_sells 0 = .ok (.aload_n 0, 1) := by decide +kernel
theorem dX7_sells_1 : decode cX7_sells 1 = .ok (.iload_n 1, 1) := by decide +kernel
theorem dX7_sells_2 : decode cX7_sells 2 = .ok (.iconst 4, 1) := by decide +kernel
theorem dX7_sells_3 : decode cX7_sells 3 = .ok (.invokevirtual 97, 3) := by decide +kernel
theorem dX7_sells_6 : decode cX7_sells 6 = .ok (.istore 4, 2) := by decide +kernel
theorem dX7_sells_8 : decode cX7_sells 8 = .ok (.aload_n 0, 1) := by decide +kernel
theorem dX7_sells_9 : decode cX7_sells 9 = .ok (.getfield 7, 3) := by decide +kernel
theorem dX7_sells_12 : decode cX7_sells 12 = .ok (.bipush 6, 2) := by decide +kernel
theorem dX7_sells_14 : decode cX7_sells 14 = .ok (.iload_n 2, 1) := by decide +kernel
theorem dX7_sells_15 : decode cX7_sells 15 = .ok (.iadd, 1) := by decide +kernel
theorem dX7_sells_16 : decode cX7_sells 16 = .ok (.dup2, 1) := by decide +kernel
theorem dX7_sells_17 : decode cX7_sells 17 = .ok (.iaload, 1) := by decide +kernel
theorem dX7_sells_18 : decode cX7_sells 18 = .ok (.iload_n 3, 1) := by decide +kernel
theorem dX7_sells_19 : decode cX7_sells 19 = .ok (.isub, 1) := by decide +kernel
theorem dX7_sells_20 : decode cX7_sells 20 = .ok (.iastore, 1) := by decide +kernel
theorem dX7_sells_21 : decode cX7_sells 21 = .ok (.aload_n 0, 1) := by decide +kernel
theorem dX7_sells_22 : decode cX7_sells 22 = .ok (.getfield 7, 3) := by decide +kernel
theorem dX7_sells_25 : decode cX7_sells 25 = .ok (.bipush 6, 2) := by decide +kernel
theorem dX7_sells_27 : decode cX7_sells 27 = .ok (.iload 4, 2) := by decide +kernel
theorem dX7_sells_29 : decode cX7_sells 29 = .ok (.iadd, 1) := by decide +kernel
theorem dX7_sells_30 : decode cX7_sells 30 = .ok (.iaload, 1) := by decide +kernel
theorem dX7_sells_31 : decode cX7_sells 31 = .ok (.iload_n 3, 1) := by decide +kernel
theorem dX7_sells_32 : decode cX7_sells 32 = .ok (.iadd, 1) := by decide +kernel
theorem dX7_sells_33 : decode cX7_sells 33 = .ok (.istore 5, 2) := by decide +kernel
theorem dX7_sells_35 : decode cX7_sells 35 = .ok (.aload_n 0, 1) := by decide +kernel
theorem dX7_sells_36 : decode cX7_sells 36 = .ok (.getfield 7, 3) := by decide +kernel
theorem dX7_sells_39 : decode cX7_sells 39 = .ok (.bipush 6, 2) := by decide +kernel
theorem dX7_sells_41 : decode cX7_sells 41 = .ok (.iload 4, 2) := by decide +kernel
theorem dX7_sells_43 : decode cX7_sells 43 = .ok (.iadd, 1) := by decide +kernel
theorem dX7_sells_44 : decode cX7_sells 44 = .ok (.iload 5, 2) := by decide +kernel
theorem dX7_sells_46 : decode cX7_sells 46 = .ok (.sipush 9999, 3) := by decide +kernel
theorem dX7_sells_49 : decode cX7_sells 49 = .ok (.if_icmp .le 9, 3) := by decide +kernel
theorem dX7_sells_52 : decode cX7_sells 52 = .ok (.sipush 9999, 3) := by decide +kernel
theorem dX7_sells_55 : decode cX7_sells 55 = .ok (.goto 5, 3) := by decide +kernel
theorem dX7_sells_58 : decode cX7_sells 58 = .ok (.iload 5, 2) := by decide +kernel
theorem dX7_sells_60 : decode cX7_sells 60 = .ok (.iastore, 1) := by decide +kernel
theorem dX7_sells_61 : decode cX7_sells 61 = .ok (.aload_n 0, 1) := by decide +kernel
theorem dX7_sells_62 : decode cX7_sells 62 = .ok (.getfield 7, 3) := by decide +kernel
theorem dX7_sells_65 : decode cX7_sells 65 = .ok (.iconst 4, 1) := by decide +kernel
theorem dX7_sells_66 : decode cX7_sells 66 = .ok (.dup2, 1) := by decide +kernel
theorem dX7_sells_67 : decode cX7_sells 67 = .ok (.iaload, 1) := by decide +kernel
theorem dX7_sells_68 : decode cX7_sells 68 = .ok (.iload 5, 2) := by decide +kernel
theorem dX7_sells_70 : decode cX7_sells 70 = .ok (.sipush 9999, 3) := by decide +kernel
theorem dX7_sells_73 : decode cX7_sells 73 = .ok (.if_icmp .le 12, 3) := by decide +kernel
theorem dX7_sells_76 : decode cX7_sells 76 = .ok (.iload 5, 2) := by decide +kernel
theorem dX7_sells_78 : decode cX7_sells 78 = .ok (.sipush 9999, 3) := by decide +kernel
theorem dX7_sells_81 : decode cX7_sells 81 = .ok (.isub, 1) := by decide +kernel
theorem dX7_sells_82 : decode cX7_sells 82 = .ok (.goto 4, 3) := by decide +kernel
theorem dX7_sells_85 : decode cX7_sells 85 = .ok (.iconst 0, 1) := by decide +kernel
theorem dX7_sells_86 : decode cX7_sells 86 = .ok (.iadd, 1) := by decide +kernel
theorem dX7_sells_87 : decode cX7_sells 87 = .ok (.iastore, 1) := by decide +kernel
theorem dX7_sells_88 : decode cX7_sells 88 = .ok (.aload_n 0, 1) := by decide +kernel
theorem dX7_sells_89 : decode cX7_sells 89 = .ok (.iload_n 1, 1) := by decide +kernel
theorem dX7_sells_90 : decode cX7_sells 90 = .ok (.iconst 4, 1) := by decide +kernel
theorem dX7_sells_91 : decode cX7_sells 91 = .ok (.iload_n 2, 1) := by decide +kernel
theorem dX7_sells_92 : decode cX7_sells 92 = .ok (.invokevirtual 73, 3) := by decide +kernel
theorem dX7_sells_95 : decode cX7_sells 95 = .ok (.aload_n 0, 1) := by decide +kernel
theorem dX7_sells_96 : decode cX7_sells 96 = .ok (.iload_n 1, 1) := by decide +kernel
theorem dX7_sells_97 : decode cX7_sells 97 = .ok (.iconst 5, 1) := by decide +kernel
theorem dX7_sells_98 : decode cX7_sells 98 = .ok (.aload_n 0, 1) := by decide +kernel
theorem dX7_sells_99 : decode cX7_sells 99 = .ok (.iload_n 1, 1) := by decide +kernel
theorem dX7_sells_100 : decode cX7_sells 100 = .ok (.iconst 5, 1) := by decide +kernel
theorem dX7_sells_101 : decode cX7_sells 101 = .ok (.invokevirtual 97, 3) := by decide +kernel
theorem dX7_sells_104 : decode cX7_sells 104 = .ok (.iconst 1, 1) := by decide +kernel
theorem dX7_sells_105 : decode cX7_sells 105 = .ok (.iload_n 2, 1) := by decide +kernel
theorem dX7_sells_106 : decode cX7_sells 106 = .ok (.ishl, 1) := by decide +kernel
theorem dX7_sells_107 : decode cX7_sells 107 = .ok (.ior, 1) := by decide +kernel
theorem dX7_sells_108 : decode cX7_sells 108 = .ok (.invokevirtual 73, 3) := by decide +kernel
theorem dX7_sells_111 : decode cX7_sells 111 = .ok (.aload_n 0, 1) := by decide +kernel
theorem dX7_sells_112 : decode cX7_sells 112 = .ok (.getfield 7, 3) := by decide +kernel
theorem dX7_sells_115 : decode cX7_sells 115 = .ok (.iconst 3, 1) := by decide +kernel
theorem dX7_sells_116 : decode cX7_sells 116 = .ok (.dup2, 1) := by decide +kernel
theorem dX7_sells_117 : decode cX7_sells 117 = .ok (.iaload, 1) := by decide +kernel
theorem dX7_sells_118 : decode cX7_sells 118 = .ok (.iconst 1, 1) := by decide +kernel
theorem dX7_sells_119 : decode cX7_sells 119 = .ok (.iadd, 1) := by decide +kernel
theorem dX7_sells_120 : decode cX7_sells 120 = .ok (.iastore, 1) := by decide +kernel
theorem dX7_sells_121 : decode cX7_sells 121 = .ok (.return_, 1) := by decide +kernel
theorem dX7_sale_0 : decode cX7_sale 0 = .ok (.aload_n 0, 1) := by decide +kernel
theorem dX7_sale_1 : decode cX7_sale 1 = .ok (.iload_n 1, 1) := by decide +kernel
theorem dX7_sale_2 : decode cX7_sale 2 = .ok (.invokevirtual 117, 3) := by decide +kernel
theorem dX7_sale_5 : decode cX7_sale 5 = .ok (.ifCond .eq 22, 3) := by decide +kernel
theorem dX7_sale_8 : decode cX7_sale 8 = .ok (.iload_n 2, 1) := by decide +kernel
theorem dX7_sale_9 : decode cX7_sale 9 = .ok (.invokestatic 83, 3) := by decide +kernel
theorem dX7_sale_12 : decode cX7_sale 12 = .ok (.ifCond .eq 15, 3) := by decide +kernel
theorem dX7_sale_15 : decode cX7_sale 15 = .ok (.iload_n 3, 1) := by decide +kernel
theorem dX7_sale_16 : decode cX7_sale 16 = .ok (.i2l, 1) := by decide +kernel
theorem dX7_sale_17 : decode cX7_sale 17 = .ok (.lconst 0, 1) := by decide +kernel
theorem dX7_sale_18 : decode cX7_sale 18 = .ok (.ldc2_w 140, 3) := by decide +kernel
theorem dX7_sale_21 : decode cX7_sale 21 = .ok (.invokestatic 68, 3) := by decide +kernel
theorem dX7_sale_24 : decode cX7_sale 24 = .ok (.ifCond .ne 6, 3) := by decide +kernel
theorem dX7_sale_27 : decode cX7_sale 27 = .ok (.ldc 87, 2) := by decide +kernel
theorem dX7_sale_29 : decode cX7_sale 29 = .ok (.ireturn, 1) := by decide +kernel
theorem dX7_sale_30 : decode cX7_sale 30 = .ok (.aload_n 0, 1) := by decide +kernel
theorem dX7_sale_31 : decode cX7_sale 31 = .ok (.iload_n 1, 1) := by decide +kernel
theorem dX7_sale_32 : decode cX7_sale 32 = .ok (.iconst 4, 1) := by decide +kernel
theorem dX7_sale_33 : decode cX7_sale 33 = .ok (.invokevirtual 97, 3) := by decide +kernel
theorem dX7_sale_36 : decode cX7_sale 36 = .ok (.iload_n 2, 1) := by decide +kernel
theorem dX7_sale_37 : decode cX7_sale 37 = .ok (.if_icmp .eq 16, 3) := by decide +kernel
theorem dX7_sale_40 : decode cX7_sale 40 = .ok (.aload_n 0, 1) := by decide +kernel
theorem dX7_sale_41 : decode cX7_sale 41 = .ok (.getfield 7, 3) := by decide +kernel
theorem dX7_sale_44 : decode cX7_sale 44 = .ok (.bipush 6, 2) := by decide +kernel
theorem dX7_sale_46 : decode cX7_sale 46 = .ok (.iload_n 2, 1) := by decide +kernel
theorem dX7_sale_47 : decode cX7_sale 47 = .ok (.iadd, 1) := by decide +kernel
theorem dX7_sale_48 : decode cX7_sale 48 = .ok (.iaload, 1) := by decide +kernel
theorem dX7_sale_49 : decode cX7_sale 49 = .ok (.iload_n 3, 1) := by decide +kernel
theorem dX7_sale_50 : decode cX7_sale 50 = .ok (.if_icmp .ge 6, 3) := by decide +kernel
theorem dX7_sale_53 : decode cX7_sale 53 = .ok (.ldc 151, 2) := by decide +kernel
theorem dX7_sale_55 : decode cX7_sale 55 = .ok (.ireturn, 1) := by decide +kernel
theorem dX7_sale_56 : decode cX7_sale 56 = .ok (.aload_n 0, 1) := by decide +kernel
theorem dX7_sale_57 : decode cX7_sale 57 = .ok (.iload_n 1, 1) := by decide +kernel
theorem dX7_sale_58 : decode cX7_sale 58 = .ok (.iload_n 2, 1) := by decide +kernel
theorem dX7_sale_59 : decode cX7_sale 59 = .ok (.iload_n 3, 1) := by decide +kernel
theorem dX7_sale_60 : decode cX7_sale 60 = .ok (.invokevirtual 152, 3) := by decide +kernel
theorem dX7_sale_63 : decode cX7_sale 63 = .ok (.aload_n 0, 1) := by decide +kernel
theorem dX7_sale_64 : decode cX7_sale 64 = .ok (.getfield 7, 3) := by decide +kernel
theorem dX7_sale_67 : decode cX7_sale 67 = .ok (.iconst 3, 1) := by decide +kernel
theorem dX7_sale_68 : decode cX7_sale 68 = .ok (.iaload, 1) := by decide +kernel
theorem dX7_sale_69 : decode cX7_sale 69 = .ok (.ireturn, 1) := by decide +kernel
theorem dX7_bidder_0 : decode cX7_bidder 0 = .ok (.iconst (-1), 1) := by decide +kernel
theorem dX7_bidder_1 : decode cX7_bidder 1 = .ok (.istore_n 2, 1) := by decide +kernel
theorem dX7_bidder_2 : decode cX7_bidder 2 = .ok (.iconst 0, 1) := by decide +kernel
theorem dX7_bidder_3 : decode cX7_bidder 3 = .ok (.istore_n 3, 1) := by decide +kernel
theorem dX7_bidder_4 : decode cX7_bidder 4 = .ok (.iconst 0, 1) := by decide +kernel
theorem dX7_bidder_5 : decode cX7_bidder 5 = .ok (.istore 4, 2) := by decide +kernel
theorem dX7_bidder_7 : decode cX7_bidder 7 = .ok (.iload 4, 2) := by decide +kernel
theorem dX7_bidder_9 : decode cX7_bidder 9 = .ok (.bipush 6, 2) := by decide +kernel
theorem dX7_bidder_11 : decode cX7_bidder 11 = .ok (.if_icmp .ge 54, 3) := by decide +kernel
theorem dX7_bidder_14 : decode cX7_bidder 14 = .ok (.aload_n 0, 1) := by decide +kernel
theorem dX7_bidder_15 : decode cX7_bidder 15 = .ok (.iload_n 1, 1) := by decide +kernel
theorem dX7_bidder_16 : decode cX7_bidder 16 = .ok (.iconst 4, 1) := by decide +kernel
theorem dX7_bidder_17 : decode cX7_bidder 17 = .ok (.invokevirtual 97, 3) := by decide +kernel
theorem dX7_bidder_20 : decode cX7_bidder 20 = .ok (.iload 4, 2) := by decide +kernel
theorem dX7_bidder_22 : decode cX7_bidder 22 = .ok (.if_icmp .ne 7, 3) := by decide +kernel
theorem dX7_bidder_25 : decode cX7_bidder 25 = .ok (.iconst (-1), 1) := by decide +kernel
theorem dX7_bidder_26 : decode cX7_bidder 26 = .ok (.goto 10, 3) := by decide +kernel
theorem dX7_bidder_29 : decode cX7_bidder 29 = .ok (.aload_n 0, 1) := by decide +kernel
theorem dX7_bidder_30 : decode cX7_bidder 30 = .ok (.iload 4, 2) := by decide +kernel
theorem dX7_bidder_32 : decode cX7_bidder 32 = .ok (.iload_n 1, 1) := by decide +kernel
theorem dX7_bidder_33 : decode cX7_bidder 33 = .ok (.invokevirtual 142, 3) := by decide +kernel
theorem dX7_bidder_36 : decode cX7_bidder 36 = .ok (.istore 5, 2) := by decide +kernel
theorem dX7_bidder_38 : decode cX7_bidder 38 = .ok (.iload 5, 2) := by decide +kernel
theorem dX7_bidder_40 : decode cX7_bidder 40 = .ok (.ifCond .lt 19, 3) := by decide +kernel
theorem dX7_bidder_43 : decode cX7_bidder 43 = .ok (.iload_n 2, 1) := by decide +kernel
theorem dX7_bidder_44 : decode cX7_bidder 44 = .ok (.ifCond .lt 9, 3) := by decide +kernel
theorem dX7_bidder_47 : decode cX7_bidder 47 = .ok (.iload 5, 2) := by decide +kernel
theorem dX7_bidder_49 : decode cX7_bidder 49 = .ok (.iload_n 3, 1) := by decide +kernel
theorem dX7_bidder_50 : decode cX7_bidder 50 = .ok (.if_icmp .le 9, 3) := by decide +kernel
theorem dX7_bidder_53 : decode cX7_bidder 53 = .ok (.iload 4, 2) := by decide +kernel
theorem dX7_bidder_55 : decode cX7_bidder 55 = .ok (.istore_n 2, 1) := by decide +kernel
theorem dX7_bidder_56 : decode cX7_bidder 56 = .ok (.iload 5, 2) := by decide +kernel
theorem dX7_bidder_58 : decode cX7_bidder 58 = .ok (.istore_n 3, 1) := by decide +kernel
theorem dX7_bidder_59 : decode cX7_bidder 59 = .ok (.iinc 4 1, 3) := by decide +kernel
theorem dX7_bidder_62 : decode cX7_bidder 62 = .ok (.goto (-55), 3) := by decide +kernel
theorem dX7_bidder_65 : decode cX7_bidder 65 = .ok (.iload_n 2, 1) := by decide +kernel
theorem dX7_bidder_66 : decode cX7_bidder 66 = .ok (.ireturn, 1) := by decide +kernel
theorem dX7_wears_0 : decode cX7_wears 0 = .ok (.aload_n 0, 1) := by decide +kernel
theorem dX7_wears_1 : decode cX7_wears 1 = .ok (.iconst 1, 1) := by decide +kernel
theorem dX7_wears_2 : decode cX7_wears 2 = .ok (.invokevirtual 93, 3) := by decide +kernel
theorem dX7_wears_5 : decode cX7_wears 5 = .ok (.istore_n 3, 1) := by decide +kernel
theorem dX7_wears_6 : decode cX7_wears 6 = .ok (.iload_n 3, 1) := by decide +kernel
theorem dX7_wears_7 : decode cX7_wears 7 = .ok (.ifCond .ge 7, 3) := by decide +kernel
theorem dX7_wears_10 : decode cX7_wears 10 = .ok (.iload_n 2, 1) := by decide +kernel
theorem dX7_wears_11 : decode cX7_wears 11 = .ok (.iconst 3, 1) := by decide +kernel
theorem dX7_wears_12 : decode cX7_wears 12 = .ok (.idiv, 1) := by decide +kernel
theorem dX7_wears_13 : decode cX7_wears 13 = .ok (.ireturn, 1) := by decide +kernel
theorem dX7_wears_14 : decode cX7_wears 14 = .ok (.aload_n 0, 1) := by decide +kernel
theorem dX7_wears_15 : decode cX7_wears 15 = .ok (.getfield 52, 3) := by decide +kernel
theorem dX7_wears_18 : decode cX7_wears 18 = .ok (.bipush 120, 2) := by decide +kernel
theorem dX7_wears_20 : decode cX7_wears 20 = .ok (.iload_n 2, 1) := by decide +kernel
theorem dX7_wears_21 : decode cX7_wears 21 = .ok (.iastore, 1) := by decide +kernel
theorem dX7_wears_22 : decode cX7_wears 22 = .ok (.aload_n 0, 1) := by decide +kernel
theorem dX7_wears_23 : decode cX7_wears 23 = .ok (.getfield 52, 3) := by decide +kernel
theorem dX7_wears_26 : decode cX7_wears 26 = .ok (.bipush 116, 2) := by decide +kernel
theorem dX7_wears_28 : decode cX7_wears 28 = .ok (.aload_n 0, 1) := by decide +kernel
theorem dX7_wears_29 : decode cX7_wears 29 = .ok (.iload_n 1, 1) := by decide +kernel
theorem dX7_wears_30 : decode cX7_wears 30 = .ok (.iconst 2, 1) := by decide +kernel
theorem dX7_wears_31 : decode cX7_wears 31 = .ok (.invokevirtual 97, 3) := by decide +kernel
theorem dX7_wears_34 : decode cX7_wears 34 = .ok (.iastore, 1) := by decide +kernel
theorem dX7_wears_35 : decode cX7_wears 35 = .ok (.aload_n 0, 1) := by decide +kernel
theorem dX7_wears_36 : decode cX7_wears 36 = .ok (.getfield 52, 3) := by decide +kernel
theorem dX7_wears_39 : decode cX7_wears 39 = .ok (.bipush 119, 2) := by decide +kernel
theorem dX7_wears_41 : decode cX7_wears 41 = .ok (.aload_n 0, 1) := by decide +kernel
theorem dX7_wears_42 : decode cX7_wears 42 = .ok (.iload_n 1, 1) := by decide +kernel
theorem dX7_wears_43 : decode cX7_wears 43 = .ok (.iconst 3, 1) := by decide +kernel
theorem dX7_wears_44 : decode cX7_wears 44 = .ok (.invokevirtual 97, 3) := by decide +kernel
theorem dX7_wears_47 : decode cX7_wears 47 = .ok (.iastore, 1) := by decide +kernel
theorem dX7_wears_48 : decode cX7_wears 48 = .ok (.aload_n 0, 1) := by decide +kernel
theorem dX7_wears_49 : decode cX7_wears 49 = .ok (.iload_n 3, 1) := by decide +kernel
theorem dX7_wears_50 : decode cX7_wears 50 = .ok (.invokevirtual 104, 3) := by decide +kernel
theorem dX7_wears_53 : decode cX7_wears 53 = .ok (.bipush 20, 2) := by decide +kernel
theorem dX7_wears_55 : decode cX7_wears 55 = .ok (.invokestatic 101, 3) := by decide +kernel
theorem dX7_wears_58 : decode cX7_wears 58 = .ok (.ireturn, 1) := by decide +kernel
theorem dX7_goesOn_0 : decode cX7_goesOn 0 = .ok (.iconst 0, 1) := by decide +kernel
theorem dX7_goesOn_1 : decode cX7_goesOn 1 = .ok (.istore_n 1, 1) := by decide +kernel
theorem dX7_goesOn_2 : decode cX7_goesOn 2 = .ok (.iload_n 1, 1) := by decide +kernel
theorem dX7_goesOn_3 : decode cX7_goesOn 3 = .ok (.aload_n 0, 1) := by decide +kernel
theorem dX7_goesOn_4 : decode cX7_goesOn 4 = .ok (.getfield 7, 3) := by decide +kernel
theorem dX7_goesOn_7 : decode cX7_goesOn 7 = .ok (.iconst 0, 1) := by decide +kernel
theorem dX7_goesOn_8 : decode cX7_goesOn 8 = .ok (.iaload, 1) := by decide +kernel
theorem dX7_goesOn_9 : decode cX7_goesOn 9 = .ok (.if_icmp .ge 41, 3) := by decide +kernel
theorem dX7_goesOn_12 : decode cX7_goesOn 12 = .ok (.aload_n 0, 1) := by decide +kernel
theorem dX7_goesOn_13 : decode cX7_goesOn 13 = .ok (.invokevirtual 147, 3) := by decide +kernel
theorem dX7_goesOn_16 : decode cX7_goesOn 16 = .ok (.bipush 10, 2) := by decide +kernel
theorem dX7_goesOn_18 : decode cX7_goesOn 18 = .ok (.irem, 1) := by decide +kernel
theorem dX7_goesOn_19 : decode cX7_goesOn 19 = .ok (.istore_n 2, 1) := by decide +kernel
theorem dX7_goesOn_20 : decode cX7_goesOn 20 = .ok (.aload_n 0, 1) := by decide +kernel
theorem dX7_goesOn_21 : decode cX7_goesOn 21 = .ok (.iload_n 1, 1) := by decide +kernel
theorem dX7_goesOn_22 : decode cX7_goesOn 22 = .ok (.iconst 3, 1) := by decide +kernel
theorem dX7_goesOn_23 : decode cX7_goesOn 23 = .ok (.aload_n 0, 1) := by decide +kernel
theorem dX7_goesOn_24 : decode cX7_goesOn 24 = .ok (.iload_n 1, 1) := by decide +kernel
theorem dX7_goesOn_25 : decode cX7_goesOn 25 = .ok (.iconst 3, 1) := by decide +kernel
theorem dX7_goesOn_26 : decode cX7_goesOn 26 = .ok (.invokevirtual 97, 3) := by decide +kernel
theorem dX7_goesOn_29 : decode cX7_goesOn 29 = .ok (.aload_n 0, 1) := by decide +kernel
theorem dX7_goesOn_30 : decode cX7_goesOn 30 = .ok (.iload_n 1, 1) := by decide +kernel
theorem dX7_goesOn_31 : decode cX7_goesOn 31 = .ok (.iload_n 2, 1) := by decide +kernel
theorem dX7_goesOn_32 : decode cX7_goesOn 32 = .ok (.invokevirtual 155, 3) := by decide +kernel
theorem dX7_goesOn_35 : decode cX7_goesOn 35 = .ok (.iadd, 1) := by decide +kernel
theorem dX7_goesOn_36 : decode cX7_goesOn 36 = .ok (.bipush 99, 2) := by decide +kernel
theorem dX7_goesOn_38 : decode cX7_goesOn 38 = .ok (.invokestatic 101, 3) := by decide +kernel
theorem dX7_goesOn_41 : decode cX7_goesOn 41 = .ok (.invokevirtual 73, 3) := by decide +kernel
theorem dX7_goesOn_44 : decode cX7_goesOn 44 = .ok (.iinc 1 1, 3) := by decide +kernel
theorem dX7_goesOn_47 : decode cX7_goesOn 47 = .ok (.goto (-45), 3) := by decide +kernel
theorem dX7_goesOn_50 : decode cX7_goesOn 50 = .ok (.iconst 0, 1) := by decide +kernel
theorem dX7_goesOn_51 : decode cX7_goesOn 51 = .ok (.istore_n 1, 1) := by decide +kernel
theorem dX7_goesOn_52 : decode cX7_goesOn 52 = .ok (.iload_n 1, 1) := by decide +kernel
theorem dX7_goesOn_53 : decode cX7_goesOn 53 = .ok (.aload_n 0, 1) := by decide +kernel
theorem dX7_goesOn_54 : decode cX7_goesOn 54 = .ok (.getfield 7, 3) := by decide +kernel
theorem dX7_goesOn_57 : decode cX7_goesOn 57 = .ok (.iconst 0, 1) := by decide +kernel
theorem dX7_goesOn_58 : decode cX7_goesOn 58 = .ok (.iaload, 1) := by decide +kernel
theorem dX7_goesOn_59 : decode cX7_goesOn 59 = .ok (.if_icmp .ge 44, 3) := by decide +kernel
theorem dX7_goesOn_62 : decode cX7_goesOn 62 = .ok (.aload_n 0, 1) := by decide +kernel
theorem dX7_goesOn_63 : decode cX7_goesOn 63 = .ok (.iload_n 1, 1) := by decide +kernel
theorem dX7_goesOn_64 : decode cX7_goesOn 64 = .ok (.invokevirtual 158, 3) := by decide +kernel
theorem dX7_goesOn_67 : decode cX7_goesOn 67 = .ok (.istore_n 2, 1) := by decide +kernel
theorem dX7_goesOn_68 : decode cX7_goesOn 68 = .ok (.aload_n 0, 1) := by decide +kernel
theorem dX7_goesOn_69 : decode cX7_goesOn 69 = .ok (.iload_n 2, 1) := by decide +kernel
theorem dX7_goesOn_70 : decode cX7_goesOn 70 = .ok (.iload_n 1, 1) := by decide +kernel
theorem dX7_goesOn_71 : decode cX7_goesOn 71 = .ok (.invokevirtual 142, 3) := by decide +kernel
theorem dX7_goesOn_74 : decode cX7_goesOn 74 = .ok (.istore_n 3, 1) := by decide +kernel
theorem dX7_goesOn_75 : decode cX7_goesOn 75 = .ok (.iload_n 3, 1) := by decide +kernel
theorem dX7_goesOn_76 : decode cX7_goesOn 76 = .ok (.aload_n 0, 1) := by decide +kernel
theorem dX7_goesOn_77 : decode cX7_goesOn 77 = .ok (.aload_n 0, 1) := by decide +kernel
theorem dX7_goesOn_78 : decode cX7_goesOn 78 = .ok (.iload_n 1, 1) := by decide +kernel
theorem dX7_goesOn_79 : decode cX7_goesOn 79 = .ok (.iconst 4, 1) := by decide +kernel
theorem dX7_goesOn_80 : decode cX7_goesOn 80 = .ok (.invokevirtual 97, 3) := by decide +kernel
theorem dX7_goesOn_83 : decode cX7_goesOn 83 = .ok (.iload_n 1, 1) := by decide +kernel
theorem dX7_goesOn_84 : decode cX7_goesOn 84 = .ok (.invokevirtual 142, 3) := by decide +kernel
theorem dX7_goesOn_87 : decode cX7_goesOn 87 = .ok (.if_icmp .le 10, 3) := by decide +kernel
theorem dX7_goesOn_90 : decode cX7_goesOn 90 = .ok (.aload_n 0, 1) := by decide +kernel
theorem dX7_goesOn_91 : decode cX7_goesOn 91 = .ok (.iload_n 1, 1) := by decide +kernel
theorem dX7_goesOn_92 : decode cX7_goesOn 92 = .ok (.iload_n 2, 1) := by decide +kernel
theorem dX7_goesOn_93 : decode cX7_goesOn 93 = .ok (.iload_n 3, 1) := by decide +kernel
theorem dX7_goesOn_94 : decode cX7_goesOn 94 = .ok (.invokevirtual 152, 3) := by decide +kernel
theorem dX7_goesOn_97 : decode cX7_goesOn 97 = .ok (.iinc 1 1, 3) := by decide +kernel
theorem dX7_goesOn_100 : decode cX7_goesOn 100 = .ok (.goto (-48), 3) := by decide +kernel
theorem dX7_goesOn_103 : decode cX7_goesOn 103 = .ok (.aload_n 0, 1) := by decide +kernel
theorem dX7_goesOn_104 : decode cX7_goesOn 104 = .ok (.getfield 7, 3) := by decide +kernel
theorem dX7_goesOn_107 : decode cX7_goesOn 107 = .ok (.iconst 2, 1) := by decide +kernel
theorem dX7_goesOn_108 : decode cX7_goesOn 108 = .ok (.dup2, 1) := by decide +kernel
theorem dX7_goesOn_109 : decode cX7_goesOn 109 = .ok (.iaload, 1) := by decide +kernel
theorem dX7_goesOn_110 : decode cX7_goesOn 110 = .ok (.iconst 1, 1) := by decide +kernel
theorem dX7_goesOn_111 : decode cX7_goesOn 111 = .ok (.iadd, 1) := by decide +kernel
theorem dX7_goesOn_112 : decode cX7_goesOn 112 = .ok (.iastore, 1) := by decide +kernel
theorem dX7_goesOn_113 : decode cX7_goesOn 113 = .ok (.return_, 1) := by decide +kernel
theorem dX7_markets_0 : decode cX7_markets 0 = .ok (.iload_n 1, 1) := by decide +kernel
theorem dX7_markets_1 : decode cX7_markets 1 = .ok (.i2l, 1) := by decide +kernel
theorem dX7_markets_2 : decode cX7_markets 2 = .ok (.lconst 1, 1) := by decide +kernel
theorem dX7_markets_3 : decode cX7_markets 3 = .ok (.ldc2_w 161, 3) := by decide +kernel
theorem dX7_markets_6 : decode cX7_markets 6 = .ok (.invokestatic 68, 3) := by decide +kernel
theorem dX7_markets_9 : decode cX7_markets 9 = .ok (.ifCond .ne 6, 3) := by decide +kernel
theorem dX7_markets_12 : decode cX7_markets 12 = .ok (.ldc 87, 2) := by decide +kernel
theorem dX7_markets_14 : decode cX7_markets 14 = .ok (.ireturn, 1) := by decide +kernel
theorem dX7_markets_15 : decode cX7_markets 15 = .ok (.aload_n 0, 1) := by decide +kernel
theorem dX7_markets_16 : decode cX7_markets 16 = .ok (.getfield 7, 3) := by decide +kernel
theorem dX7_markets_19 : decode cX7_markets 19 = .ok (.iconst 3, 1) := by decide +kernel
theorem dX7_markets_20 : decode cX7_markets 20 = .ok (.iaload, 1) := by decide +kernel
theorem dX7_markets_21 : decode cX7_markets 21 = .ok (.istore_n 2, 1) := by decide +kernel
theorem dX7_markets_22 : decode cX7_markets 22 = .ok (.iconst 0, 1) := by decide +kernel
theorem dX7_markets_23 : decode cX7_markets 23 = .ok (.istore_n 3, 1) := by decide +kernel
theorem dX7_markets_24 : decode cX7_markets 24 = .ok (.iload_n 3, 1) := by decide +kernel
theorem dX7_markets_25 : decode cX7_markets 25 = .ok (.iload_n 1, 1) := by decide +kernel
theorem dX7_markets_26 : decode cX7_markets 26 = .ok (.if_icmp .ge 25, 3) := by decide +kernel
theorem dX7_markets_29 : decode cX7_markets 29 = .ok (.aload_n 0, 1) := by decide +kernel
theorem dX7_markets_30 : decode cX7_markets 30 = .ok (.getfield 7, 3) := by decide +kernel
theorem dX7_markets_33 : decode cX7_markets 33 = .ok (.iconst 2, 1) := by decide +kernel
theorem dX7_markets_34 : decode cX7_markets 34 = .ok (.iaload, 1) := by decide +kernel
theorem dX7_markets_35 : decode cX7_markets 35 = .ok (.sipush 9999, 3) := by decide +kernel
theorem dX7_markets_38 : decode cX7_markets 38 = .ok (.if_icmp .ge 13, 3) := by decide +kernel
theorem dX7_markets_41 : decode cX7_markets 41 = .ok (.aload_n 0, 1) := by decide +kernel
theorem dX7_markets_42 : decode cX7_markets 42 = .ok (.invokevirtual 163, 3) := by decide +kernel
theorem dX7_markets_45 : decode cX7_markets 45 = .ok (.iinc 3 1, 3) := by decide +kernel
theorem dX7_markets_48 : decode cX7_markets 48 = .ok (.goto (-24), 3) := by decide +kernel
theorem dX7_markets_51 : decode cX7_markets 51 = .ok (.aload_n 0, 1) := by decide +kernel
theorem dX7_markets_52 : decode cX7_markets 52 = .ok (.getfield 7, 3) := by decide +kernel
theorem dX7_markets_55 : decode cX7_markets 55 = .ok (.iconst 3, 1) := by decide +kernel
theorem dX7_markets_56 : decode cX7_markets 56 = .ok (.iaload, 1) := by decide +kernel
theorem dX7_markets_57 : decode cX7_markets 57 = .ok (.iload_n 2, 1) := by decide +kernel
theorem dX7_markets_58 : decode cX7_markets 58 = .ok (.isub, 1) := by decide +kernel
theorem dX7_markets_59 : decode cX7_markets 59 = .ok (.ireturn, 1) := by decide +kernel
theorem dX7_allCoins_0 : decode cX7_allCoins 0 = .ok (.iconst 0, 1) := by decide +kernel
theorem dX7_allCoins_1 : decode cX7_allCoins 1 = .ok (.istore_n 1, 1) := by decide +kernel
theorem dX7_allCoins_2 : decode cX7_allCoins 2 = .ok (.iconst 0, 1) := by decide +kernel
theorem dX7_allCoins_3 : decode cX7_allCoins 3 = .ok (.istore_n 2, 1) := by decide +kernel
theorem dX7_allCoins_4 : decode cX7_allCoins 4 = .ok (.iload_n 2, 1) := by decide +kernel
theorem dX7_allCoins_5 : decode cX7_allCoins 5 = .ok (.bipush 6, 2) := by decide +kernel
theorem dX7_allCoins_7 : decode cX7_allCoins 7 = .ok (.if_icmp .ge 21, 3) := by decide +kernel
theorem dX7_allCoins_10 : decode cX7_allCoins 10 = .ok (.iload_n 1, 1) := by decide +kernel
theorem dX7_allCoins_11 : decode cX7_allCoins 11 = .ok (.aload_n 0, 1) := by decide +kernel
theorem dX7_allCoins_12 : decode cX7_allCoins 12 = .ok (.getfield 7, 3) := by decide +kernel
theorem dX7_allCoins_15 : decode cX7_allCoins 15 = .ok (.bipush 6, 2) := by decide +kernel
theorem dX7_allCoins_17 : decode cX7_allCoins 17 = .ok (.iload_n 2, 1) := by decide +kernel
theorem dX7_allCoins_18 : decode cX7_allCoins 18 = .ok (.iadd, 1) := by decide +kernel
theorem dX7_allCoins_19 : decode cX7_allCoins 19 = .ok (.iaload, 1) := by decide +kernel
theorem dX7_allCoins_20 : decode cX7_allCoins 20 = .ok (.iadd, 1) := by decide +kernel
theorem dX7_allCoins_21 : decode cX7_allCoins 21 = .ok (.istore_n 1, 1) := by decide +kernel
theorem dX7_allCoins_22 : decode cX7_allCoins 22 = .ok (.iinc 2 1, 3) := by decide +kernel
theorem dX7_allCoins_25 : decode cX7_allCoins 25 = .ok (.goto (-21), 3) := by decide +kernel
theorem dX7_allCoins_28 : decode cX7_allCoins 28 = .ok (.iload_n 1, 1) := by decide +kernel
theorem dX7_allCoins_29 : decode cX7_allCoins 29 = .ok (.ireturn, 1) := by decide +kernel
theorem dX7_ledger_0 : decode cX7_ledger 0 = .ok (.iload_n 1, 1) := by decide +kernel
theorem dX7_ledger_1 : decode cX7_ledger 1 = .ok (.tableswitch 46 0 2 #[27, 34, 41], 27) := by decide +kernel
theorem dX7_ledger_28 : decode cX7_ledger 28 = .ok (.aload_n 0, 1) := by decide +kernel
theorem dX7_ledger_29 : decode cX7_ledger 29 = .ok (.getfield 7, 3) := by decide +kernel
theorem dX7_ledger_32 : decode cX7_ledger 32 = .ok (.iconst 3, 1) := by decide +kernel
theorem dX7_ledger_33 : decode cX7_ledger 33 = .ok (.iaload, 1) := by decide +kernel
theorem dX7_ledger_34 : decode cX7_ledger 34 = .ok (.ireturn, 1) := by decide +kernel
theorem dX7_ledger_35 : decode cX7_ledger 35 = .ok (.aload_n 0, 1) := by decide +kernel
theorem dX7_ledger_36 : decode cX7_ledger 36 = .ok (.getfield 7, 3) := by decide +kernel
theorem dX7_ledger_39 : decode cX7_ledger 39 = .ok (.iconst 4, 1) := by decide +kernel
theorem dX7_ledger_40 : decode cX7_ledger 40 = .ok (.iaload, 1) := by decide +kernel
theorem dX7_ledger_41 : decode cX7_ledger 41 = .ok (.ireturn, 1) := by decide +kernel
theorem dX7_ledger_42 : decode cX7_ledger 42 = .ok (.aload_n 0, 1) := by decide +kernel
theorem dX7_ledger_43 : decode cX7_ledger 43 = .ok (.invokevirtual 166, 3) := by decide +kernel
theorem dX7_ledger_46 : decode cX7_ledger 46 = .ok (.ireturn, 1) := by decide +kernel
theorem dX7_ledger_47 : decode cX7_ledger 47 = .ok (.ldc 87, 2) := by decide +kernel
theorem dX7_ledger_49 : decode cX7_ledger 49 = .ok (.ireturn, 1) := by decide +kernel
theorem dX7_manyWith_0 : decode cX7_manyWith 0 = .ok (.iconst 0, 1) := by decide +kernel
theorem dX7_manyWith_1 : decode cX7_manyWith 1 = .ok (.istore_n 3, 1) := by decide +kernel
theorem dX7_manyWith_2 : decode cX7_manyWith 2 = .ok (.iconst 0, 1) := by decide +kernel
theorem dX7_manyWith_3 : decode cX7_manyWith 3 = .ok (.istore 4, 2) := by decide +kernel
theorem dX7_manyWith_5 : decode cX7_manyWith 5 = .ok (.iload 4, 2) := by decide +kernel
theorem dX7_manyWith_7 : decode cX7_manyWith 7 = .ok (.aload_n 0, 1) := by decide +kernel
theorem dX7_manyWith_8 : decode cX7_manyWith 8 = .ok (.getfield 7, 3) := by decide +kernel
theorem dX7_manyWith_11 : decode cX7_manyWith 11 = .ok (.iconst 0, 1) := by decide +kernel
theorem dX7_manyWith_12 : decode cX7_manyWith 12 = .ok (.iaload, 1) := by decide +kernel
theorem dX7_manyWith_13 : decode cX7_manyWith 13 = .ok (.if_icmp .ge 39, 3) := by decide +kernel
theorem dX7_manyWith_16 : decode cX7_manyWith 16 = .ok (.iload_n 3, 1) := by decide +kernel
theorem dX7_manyWith_17 : decode cX7_manyWith 17 = .ok (.aload_n 0, 1) := by decide +kernel
theorem dX7_manyWith_18 : decode cX7_manyWith 18 = .ok (.iload 4, 2) := by decide +kernel
theorem dX7_manyWith_20 : decode cX7_manyWith 20 = .ok (.iconst 1, 1) := by decide +kernel
theorem dX7_manyWith_21 : decode cX7_manyWith 21 = .ok (.invokevirtual 97, 3) := by decide +kernel
theorem dX7_manyWith_24 : decode cX7_manyWith 24 = .ok (.iload_n 1, 1) := by decide +kernel
theorem dX7_manyWith_25 : decode cX7_manyWith 25 = .ok (.if_icmp .ne 18, 3) := by decide +kernel
theorem dX7_manyWith_28 : decode cX7_manyWith 28 = .ok (.aload_n 0, 1) := by decide +kernel
theorem dX7_manyWith_29 : decode cX7_manyWith 29 = .ok (.iload 4, 2) := by decide +kernel
theorem dX7_manyWith_31 : decode cX7_manyWith 31 = .ok (.iconst 2, 1) := by decide +kernel
theorem dX7_manyWith_32 : decode cX7_manyWith 32 = .ok (.invokevirtual 97, 3) := by decide +kernel
theorem dX7_manyWith_35 : decode cX7_manyWith 35 = .ok (.iload_n 2, 1) := by decide +kernel
theorem dX7_manyWith_36 : decode cX7_manyWith 36 = .ok (.if_icmp .ne 7, 3) := by decide +kernel
theorem dX7_manyWith_39 : decode cX7_manyWith 39 = .ok (.iconst 1, 1) := by decide +kernel
theorem dX7_manyWith_40 : decode cX7_manyWith 40 = .ok (.goto 4, 3) := by decide +kernel
theorem dX7_manyWith_43 : decode cX7_manyWith 43 = .ok (.iconst 0, 1) := by decide +kernel
theorem dX7_manyWith_44 : decode cX7_manyWith 44 = .ok (.iadd, 1) := by decide +kernel
theorem dX7_manyWith_45 : decode cX7_manyWith 45 = .ok (.istore_n 3, 1) := by decide +kernel
theorem dX7_manyWith_46 : decode cX7_manyWith 46 = .ok (.iinc 4 1, 3) := by decide +kernel
theorem dX7_manyWith_49 : decode cX7_manyWith 49 = .ok (.goto (-44), 3) := by decide +kernel
theorem dX7_manyWith_52 : decode cX7_manyWith 52 = .ok (.iload_n 3, 1) := by decide +kernel
theorem dX7_manyWith_53 : decode cX7_manyWith 53 = .ok (.ireturn, 1) := by decide +kernel
theorem dX7_trueOf_0 : decode cX7_trueOf 0 = .ok (.iconst (-1), 1) := by decide +kernel
theorem dX7_trueOf_1 : decode cX7_trueOf 1 = .ok (.istore_n 2, 1) := by decide +kernel
theorem dX7_trueOf_2 : decode cX7_trueOf 2 = .ok (.iconst 0, 1) := by decide +kernel
theorem dX7_trueOf_3 : decode cX7_trueOf 3 = .ok (.istore_n 3, 1) := by decide +kernel
theorem dX7_trueOf_4 : decode cX7_trueOf 4 = .ok (.iconst 0, 1) := by decide +kernel
theorem dX7_trueOf_5 : decode cX7_trueOf 5 = .ok (.istore 4, 2) := by decide +kernel
theorem dX7_trueOf_7 : decode cX7_trueOf 7 = .ok (.iload 4, 2) := by decide +kernel
theorem dX7_trueOf_9 : decode cX7_trueOf 9 = .ok (.bipush 10, 2) := by decide +kernel
theorem dX7_trueOf_11 : decode cX7_trueOf 11 = .ok (.if_icmp .ge 30, 3) := by decide +kernel
theorem dX7_trueOf_14 : decode cX7_trueOf 14 = .ok (.aload_n 0, 1) := by decide +kernel
theorem dX7_trueOf_15 : decode cX7_trueOf 15 = .ok (.iload_n 1, 1) := by decide +kernel
theorem dX7_trueOf_16 : decode cX7_trueOf 16 = .ok (.iload 4, 2) := by decide +kernel
theorem dX7_trueOf_18 : decode cX7_trueOf 18 = .ok (.invokevirtual 169, 3) := by decide +kernel
theorem dX7_trueOf_21 : decode cX7_trueOf 21 = .ok (.istore 5, 2) := by decide +kernel
theorem dX7_trueOf_23 : decode cX7_trueOf 23 = .ok (.iload 5, 2) := by decide +kernel
theorem dX7_trueOf_25 : decode cX7_trueOf 25 = .ok (.iload_n 3, 1) := by decide +kernel
theorem dX7_trueOf_26 : decode cX7_trueOf 26 = .ok (.if_icmp .le 9, 3) := by decide +kernel
theorem dX7_trueOf_29 : decode cX7_trueOf 29 = .ok (.iload 4, 2) := by decide +kernel
theorem dX7_trueOf_31 : decode cX7_trueOf 31 = .ok (.istore_n 2, 1) := by decide +kernel
theorem dX7_trueOf_32 : decode cX7_trueOf 32 = .ok (.iload 5, 2) := by decide +kernel
theorem dX7_trueOf_34 : decode cX7_trueOf 34 = .ok (.istore_n 3, 1) := by decide +kernel
theorem dX7_trueOf_35 : decode cX7_trueOf 35 = .ok (.iinc 4 1, 3) := by decide +kernel
theorem dX7_trueOf_38 : decode cX7_trueOf 38 = .ok (.goto (-31), 3) := by decide +kernel
theorem dX7_trueOf_41 : decode cX7_trueOf 41 = .ok (.iload_n 2, 1) := by decide +kernel
theorem dX7_trueOf_42 : decode cX7_trueOf 42 = .ok (.ireturn, 1) := by decide +kernel
theorem dX7_isTrue_0 : decode cX7_isTrue 0 = .ok (.iload_n 1, 1) := by decide +kernel
theorem dX7_isTrue_1 : decode cX7_isTrue 1 = .ok (.i2l, 1) := by decide +kernel
theorem dX7_isTrue_2 : decode cX7_isTrue 2 = .ok (.lconst 0, 1) := by decide +kernel
theorem dX7_isTrue_3 : decode cX7_isTrue 3 = .ok (.ldc2_w 79, 3) := by decide +kernel
theorem dX7_isTrue_6 : decode cX7_isTrue 6 = .ok (.invokestatic 68, 3) := by decide +kernel
theorem dX7_isTrue_9 : decode cX7_isTrue 9 = .ok (.ifCond .eq 14, 3) := by decide +kernel
theorem dX7_isTrue_12 : decode cX7_isTrue 12 = .ok (.aload_n 0, 1) := by decide +kernel
theorem dX7_isTrue_13 : decode cX7_isTrue 13 = .ok (.iload_n 1, 1) := by decide +kernel
theorem dX7_isTrue_14 : decode cX7_isTrue 14 = .ok (.invokevirtual 172, 3) := by decide +kernel
theorem dX7_isTrue_17 : decode cX7_isTrue 17 = .ok (.invokestatic 175, 3) := by decide +kernel
theorem dX7_isTrue_20 : decode cX7_isTrue 20 = .ok (.goto 5, 3) := by decide +kernel
theorem dX7_isTrue_23 : decode cX7_isTrue 23 = .ok (.ldc 87, 2) := by decide +kernel
theorem dX7_isTrue_25 : decode cX7_isTrue 25 = .ok (.ireturn, 1) := by decide +kernel
theorem dX7_falseMany_0 : decode cX7_falseMany 0 = .ok (.iconst 0, 1) := by decide +kernel
theorem dX7_falseMany_1 : decode cX7_falseMany 1 = .ok (.istore_n 1, 1) := by decide +kernel
theorem dX7_falseMany_2 : decode cX7_falseMany 2 = .ok (.iconst 0, 1) := by decide +kernel
theorem dX7_falseMany_3 : decode cX7_falseMany 3 = .ok (.istore_n 2, 1) := by decide +kernel
theorem dX7_falseMany_4 : decode cX7_falseMany 4 = .ok (.iload_n 2, 1) := by decide +kernel
theorem dX7_falseMany_5 : decode cX7_falseMany 5 = .ok (.aload_n 0, 1) := by decide +kernel
theorem dX7_falseMany_6 : decode cX7_falseMany 6 = .ok (.getfield 7, 3) := by decide +kernel
theorem dX7_falseMany_9 : decode cX7_falseMany 9 = .ok (.iconst 0, 1) := by decide +kernel
theorem dX7_falseMany_10 : decode cX7_falseMany 10 = .ok (.iaload, 1) := by decide +kernel
theorem dX7_falseMany_11 : decode cX7_falseMany 11 = .ok (.if_icmp .ge 36, 3) := by decide +kernel
theorem dX7_falseMany_14 : decode cX7_falseMany 14 = .ok (.iload_n 1, 1) := by decide +kernel
theorem dX7_falseMany_15 : decode cX7_falseMany 15 = .ok (.aload_n 0, 1) := by decide +kernel
theorem dX7_falseMany_16 : decode cX7_falseMany 16 = .ok (.iload_n 2, 1) := by decide +kernel
theorem dX7_falseMany_17 : decode cX7_falseMany 17 = .ok (.iconst 2, 1) := by decide +kernel
theorem dX7_falseMany_18 : decode cX7_falseMany 18 = .ok (.invokevirtual 97, 3) := by decide +kernel
theorem dX7_falseMany_21 : decode cX7_falseMany 21 = .ok (.aload_n 0, 1) := by decide +kernel
theorem dX7_falseMany_22 : decode cX7_falseMany 22 = .ok (.aload_n 0, 1) := by decide +kernel
theorem dX7_falseMany_23 : decode cX7_falseMany 23 = .ok (.iload_n 2, 1) := by decide +kernel
theorem dX7_falseMany_24 : decode cX7_falseMany 24 = .ok (.iconst 1, 1) := by decide +kernel
theorem dX7_falseMany_25 : decode cX7_falseMany 25 = .ok (.invokevirtual 97, 3) := by decide +kernel
theorem dX7_falseMany_28 : decode cX7_falseMany 28 = .ok (.invokevirtual 172, 3) := by decide +kernel
theorem dX7_falseMany_31 : decode cX7_falseMany 31 = .ok (.if_icmp .ne 7, 3) := by decide +kernel
theorem dX7_falseMany_34 : decode cX7_falseMany 34 = .ok (.iconst 0, 1) := by decide +kernel
theorem dX7_falseMany_35 : decode cX7_falseMany 35 = .ok (.goto 4, 3) := by decide +kernel
theorem dX7_falseMany_38 : decode cX7_falseMany 38 = .ok (.iconst 1, 1) := by decide +kernel
theorem dX7_falseMany_39 : decode cX7_falseMany 39 = .ok (.iadd, 1) := by decide +kernel
theorem dX7_falseMany_40 : decode cX7_falseMany 40 = .ok (.istore_n 1, 1) := by decide +kernel
theorem dX7_falseMany_41 : decode cX7_falseMany 41 = .ok (.iinc 2 1, 3) := by decide +kernel
theorem dX7_falseMany_44 : decode cX7_falseMany 44 = .ok (.goto (-40), 3) := by decide +kernel
theorem dX7_falseMany_47 : decode cX7_falseMany 47 = .ok (.iload_n 1, 1) := by decide +kernel
theorem dX7_falseMany_48 : decode cX7_falseMany 48 = .ok (.ireturn, 1) := by decide +kernel
theorem dX7_joy_0 : decode cX7_joy 0 = .ok (.bipush 10, 2) := by decide +kernel
theorem dX7_joy_2 : decode cX7_joy 2 = .ok (.aload_n 0, 1) := by decide +kernel
theorem dX7_joy_3 : decode cX7_joy 3 = .ok (.iload_n 2, 1) := by decide +kernel
theorem dX7_joy_4 : decode cX7_joy 4 = .ok (.iconst 2, 1) := by decide +kernel
theorem dX7_joy_5 : decode cX7_joy 5 = .ok (.invokevirtual 97, 3) := by decide +kernel
theorem dX7_joy_8 : decode cX7_joy 8 = .ok (.aload_n 0, 1) := by decide +kernel
theorem dX7_joy_9 : decode cX7_joy 9 = .ok (.getfield 7, 3) := by decide +kernel
theorem dX7_joy_12 : decode cX7_joy 12 = .ok (.bipush 12, 2) := by decide +kernel
theorem dX7_joy_14 : decode cX7_joy 14 = .ok (.iload_n 1, 1) := by decide +kernel
theorem dX7_joy_15 : decode cX7_joy 15 = .ok (.iadd, 1) := by decide +kernel
theorem dX7_joy_16 : decode cX7_joy 16 = .ok (.iaload, 1) := by decide +kernel
theorem dX7_joy_17 : decode cX7_joy 17 = .ok (.invokestatic 113, 3) := by decide +kernel
theorem dX7_joy_20 : decode cX7_joy 20 = .ok (.isub, 1) := by decide +kernel
theorem dX7_joy_21 : decode cX7_joy 21 = .ok (.ireturn, 1) := by decide +kernel
theorem dX7_valuesOf_0 : decode cX7_valuesOf 0 = .ok (.iconst 0, 1) := by decide +kernel
theorem dX7_valuesOf_1 : decode cX7_valuesOf 1 = .ok (.istore_n 2, 1) := by decide +kernel
theorem dX7_valuesOf_2 : decode cX7_valuesOf 2 = .ok (.iconst 0, 1) := by decide +kernel
theorem dX7_valuesOf_3 : decode cX7_valuesOf 3 = .ok (.istore_n 3, 1) := by decide +kernel
theorem dX7_valuesOf_4 : decode cX7_valuesOf 4 = .ok (.iload_n 3, 1) := by decide +kernel
theorem dX7_valuesOf_5 : decode cX7_valuesOf 5 = .ok (.aload_n 0, 1) := by decide +kernel
theorem dX7_valuesOf_6 : decode cX7_valuesOf 6 = .ok (.getfield 7, 3) := by decide +kernel
theorem dX7_valuesOf_9 : decode cX7_valuesOf 9 = .ok (.iconst 0, 1) := by decide +kernel
theorem dX7_valuesOf_10 : decode cX7_valuesOf 10 = .ok (.iaload, 1) := by decide +kernel
theorem dX7_valuesOf_11 : decode cX7_valuesOf 11 = .ok (.if_icmp .ge 31, 3) := by decide +kernel
theorem dX7_valuesOf_14 : decode cX7_valuesOf 14 = .ok (.iload_n 2, 1) := by decide +kernel
theorem dX7_valuesOf_15 : decode cX7_valuesOf 15 = .ok (.iload_n 1, 1) := by decide +kernel
theorem dX7_valuesOf_16 : decode cX7_valuesOf 16 = .ok (.iload_n 3, 1) := by decide +kernel
theorem dX7_valuesOf_17 : decode cX7_valuesOf 17 = .ok (.ishr, 1) := by decide +kernel
theorem dX7_valuesOf_18 : decode cX7_valuesOf 18 = .ok (.iconst 1, 1) := by decide +kernel
theorem dX7_valuesOf_19 : decode cX7_valuesOf 19 = .ok (.iand, 1) := by decide +kernel
theorem dX7_valuesOf_20 : decode cX7_valuesOf 20 = .ok (.iconst 1, 1) := by decide +kernel
theorem dX7_valuesOf_21 : decode cX7_valuesOf 21 = .ok (.if_icmp .ne 12, 3) := by decide +kernel
theorem dX7_valuesOf_24 : decode cX7_valuesOf 24 = .ok (.aload_n 0, 1) := by decide +kernel
theorem dX7_valuesOf_25 : decode cX7_valuesOf 25 = .ok (.getfield 43, 3) := by decide +kernel
theorem dX7_valuesOf_28 : decode cX7_valuesOf 28 = .ok (.iload_n 3, 1) := by decide +kernel
theorem dX7_valuesOf_29 : decode cX7_valuesOf 29 = .ok (.iaload, 1) := by decide +kernel
theorem dX7_valuesOf_30 : decode cX7_valuesOf 30 = .ok (.goto 4, 3) := by decide +kernel
theorem dX7_valuesOf_33 : decode cX7_valuesOf 33 = .ok (.iconst 0, 1) := by decide +kernel
theorem dX7_valuesOf_34 : decode cX7_valuesOf 34 = .ok (.iadd, 1) := by decide +kernel
theorem dX7_valuesOf_35 : decode cX7_valuesOf 35 = .ok (.istore_n 2, 1) := by decide +kernel
theorem dX7_valuesOf_36 : decode cX7_valuesOf 36 = .ok (.iinc 3 1, 3) := by decide +kernel
theorem dX7_valuesOf_39 : decode cX7_valuesOf 39 = .ok (.goto (-35), 3) := by decide +kernel
theorem dX7_valuesOf_42 : decode cX7_valuesOf 42 = .ok (.iload_n 2, 1) := by decide +kernel
theorem dX7_valuesOf_43 : decode cX7_valuesOf 43 = .ok (.ireturn, 1) := by decide +kernel
theorem dX7_joyOf_0 : decode cX7_joyOf 0 = .ok (.iconst 0, 1) := by decide +kernel
theorem dX7_joyOf_1 : decode cX7_joyOf 1 = .ok (.istore_n 3, 1) := by decide +kernel
theorem dX7_joyOf_2 : decode cX7_joyOf 2 = .ok (.iconst 0, 1) := by decide +kernel
theorem dX7_joyOf_3 : decode cX7_joyOf 3 = .ok (.istore 4, 2) := by decide +kernel
theorem dX7_joyOf_5 : decode cX7_joyOf 5 = .ok (.iload 4, 2) := by decide +kernel
theorem dX7_joyOf_7 : decode cX7_joyOf 7 = .ok (.aload_n 0, 1) := by decide +kernel
theorem dX7_joyOf_8 : decode cX7_joyOf 8 = .ok (.getfield 7, 3) := by decide +kernel
theorem dX7_joyOf_11 : decode cX7_joyOf 11 = .ok (.iconst 0, 1) := by decide +kernel
theorem dX7_joyOf_12 : decode cX7_joyOf 12 = .ok (.iaload, 1) := by decide +kernel
theorem dX7_joyOf_13 : decode cX7_joyOf 13 = .ok (.if_icmp .ge 33, 3) := by decide +kernel
theorem dX7_joyOf_16 : decode cX7_joyOf 16 = .ok (.iload_n 3, 1) := by decide +kernel
theorem dX7_joyOf_17 : decode cX7_joyOf 17 = .ok (.iload_n 2, 1) := by decide +kernel
theorem dX7_joyOf_18 : decode cX7_joyOf 18 = .ok (.iload 4, 2) := by decide +kernel
theorem dX7_joyOf_20 : decode cX7_joyOf 20 = .ok (.ishr, 1) := by decide +kernel
theorem dX7_joyOf_21 : decode cX7_joyOf 21 = .ok (.iconst 1, 1) := by decide +kernel
theorem dX7_joyOf_22 : decode cX7_joyOf 22 = .ok (.iand, 1) := by decide +kernel
theorem dX7_joyOf_23 : decode cX7_joyOf 23 = .ok (.iconst 1, 1) := by decide +kernel
theorem dX7_joyOf_24 : decode cX7_joyOf 24 = .ok (.if_icmp .ne 13, 3) := by decide +kernel
theorem dX7_joyOf_27 : decode cX7_joyOf 27 = .ok (.aload_n 0, 1) := by decide +kernel
theorem dX7_joyOf_28 : decode cX7_joyOf 28 = .ok (.iload_n 1, 1) := by decide +kernel
theorem dX7_joyOf_29 : decode cX7_joyOf 29 = .ok (.iload 4, 2) := by decide +kernel
theorem dX7_joyOf_31 : decode cX7_joyOf 31 = .ok (.invokevirtual 178, 3) := by decide +kernel
theorem dX7_joyOf_34 : decode cX7_joyOf 34 = .ok (.goto 4, 3) := by decide +kernel
theorem dX7_joyOf_37 : decode cX7_joyOf 37 = .ok (.iconst 0, 1) := by decide +kernel
theorem dX7_joyOf_38 : decode cX7_joyOf 38 = .ok (.iadd, 1) := by decide +kernel
theorem dX7_joyOf_39 : decode cX7_joyOf 39 = .ok (.istore_n 3, 1) := by decide +kernel
theorem dX7_joyOf_40 : decode cX7_joyOf 40 = .ok (.iinc 4 1, 3) := by decide +kernel
theorem dX7_joyOf_43 : decode cX7_joyOf 43 = .ok (.goto (-38), 3) := by decide +kernel
theorem dX7_joyOf_46 : decode cX7_joyOf 46 = .ok (.iload_n 3, 1) := by decide +kernel
theorem dX7_joyOf_47 : decode cX7_joyOf 47 = .ok (.ireturn, 1) := by decide +kernel
theorem dX7_areApart_0 : decode cX7_areApart 0 = .ok (.iconst 0, 1) := by decide +kernel
theorem dX7_areApart_1 : decode cX7_areApart 1 = .ok (.istore_n 2, 1) := by decide +kernel
theorem dX7_areApart_2 : decode cX7_areApart 2 = .ok (.iload_n 2, 1) := by decide +kernel
theorem dX7_areApart_3 : decode cX7_areApart 3 = .ok (.aload_n 0, 1) := by decide +kernel
theorem dX7_areApart_4 : decode cX7_areApart 4 = .ok (.getfield 7, 3) := by decide +kernel
theorem dX7_areApart_7 : decode cX7_areApart 7 = .ok (.iconst 0, 1) := by decide +kernel
theorem dX7_areApart_8 : decode cX7_areApart 8 = .ok (.iaload, 1) := by decide +kernel
theorem dX7_areApart_9 : decode cX7_areApart 9 = .ok (.if_icmp .ge 59, 3) := by decide +kernel
theorem dX7_areApart_12 : decode cX7_areApart 12 = .ok (.iload_n 2, 1) := by decide +kernel
theorem dX7_areApart_13 : decode cX7_areApart 13 = .ok (.iconst 1, 1) := by decide +kernel
theorem dX7_areApart_14 : decode cX7_areApart 14 = .ok (.iadd, 1) := by decide +kernel
theorem dX7_areApart_15 : decode cX7_areApart 15 = .ok (.istore_n 3, 1) := by decide +kernel
theorem dX7_areApart_16 : decode cX7_areApart 16 = .ok (.iload_n 3, 1) := by decide +kernel
theorem dX7_areApart_17 : decode cX7_areApart 17 = .ok (.aload_n 0, 1) := by decide +kernel
theorem dX7_areApart_18 : decode cX7_areApart 18 = .ok (.getfield 7, 3) := by decide +kernel
theorem dX7_areApart_21 : decode cX7_areApart 21 = .ok (.iconst 0, 1) := by decide +kernel
theorem dX7_areApart_22 : decode cX7_areApart 22 = .ok (.iaload, 1) := by decide +kernel
theorem dX7_areApart_23 : decode cX7_areApart 23 = .ok (.if_icmp .ge 39, 3) := by decide +kernel
theorem dX7_areApart_26 : decode cX7_areApart 26 = .ok (.iload_n 1, 1) := by decide +kernel
theorem dX7_areApart_27 : decode cX7_areApart 27 = .ok (.iload_n 2, 1) := by decide +kernel
theorem dX7_areApart_28 : decode cX7_areApart 28 = .ok (.ishr, 1) := by decide +kernel
theorem dX7_areApart_29 : decode cX7_areApart 29 = .ok (.iload_n 1, 1) := by decide +kernel
theorem dX7_areApart_30 : decode cX7_areApart 30 = .ok (.iload_n 3, 1) := by decide +kernel
theorem dX7_areApart_31 : decode cX7_areApart 31 = .ok (.ishr, 1) := by decide +kernel
theorem dX7_areApart_32 : decode cX7_areApart 32 = .ok (.iand, 1) := by decide +kernel
theorem dX7_areApart_33 : decode cX7_areApart 33 = .ok (.iconst 1, 1) := by decide +kernel
theorem dX7_areApart_34 : decode cX7_areApart 34 = .ok (.iand, 1) := by decide +kernel
theorem dX7_areApart_35 : decode cX7_areApart 35 = .ok (.iconst 1, 1) := by decide +kernel
theorem dX7_areApart_36 : decode cX7_areApart 36 = .ok (.if_icmp .ne 20, 3) := by decide +kernel
theorem dX7_areApart_39 : decode cX7_areApart 39 = .ok (.aload_n 0, 1) := by decide +kernel
theorem dX7_areApart_40 : decode cX7_areApart 40 = .ok (.iload_n 2, 1) := by decide +kernel
theorem dX7_areApart_41 : decode cX7_areApart 41 = .ok (.iconst 1, 1) := by decide +kernel
theorem dX7_areApart_42 : decode cX7_areApart 42 = .ok (.invokevirtual 97, 3) := by decide +kernel
theorem dX7_areApart_45 : decode cX7_areApart 45 = .ok (.aload_n 0, 1) := by decide +kernel
theorem dX7_areApart_46 : decode cX7_areApart 46 = .ok (.iload_n 3, 1) := by decide +kernel
theorem dX7_areApart_47 : decode cX7_areApart 47 = .ok (.iconst 1, 1) := by decide +kernel
theorem dX7_areApart_48 : decode cX7_areApart 48 = .ok (.invokevirtual 97, 3) := by decide +kernel
theorem dX7_areApart_51 : decode cX7_areApart 51 = .ok (.if_icmp .ne 5, 3) := by decide +kernel
theorem dX7_areApart_54 : decode cX7_areApart 54 = .ok (.iconst 0, 1) := by decide +kernel
theorem dX7_areApart_55 : decode cX7_areApart 55 = .ok (.ireturn, 1) := by decide +kernel
theorem dX7_areApart_56 : decode cX7_areApart 56 = .ok (.iinc 3 1, 3) := by decide +kernel
theorem dX7_areApart_59 : decode cX7_areApart 59 = .ok (.goto (-43), 3) := by decide +kernel
theorem dX7_areApart_62 : decode cX7_areApart 62 = .ok (.iinc 2 1, 3) := by decide +kernel
theorem dX7_areApart_65 : decode cX7_areApart 65 = .ok (.goto (-63), 3) := by decide +kernel
theorem dX7_areApart_68 : decode cX7_areApart 68 = .ok (.iconst 1, 1) := by decide +kernel
theorem dX7_areApart_69 : decode cX7_areApart 69 = .ok (.ireturn, 1) := by decide +kernel
theorem dX7_fill_0 : decode cX7_fill 0 = .ok (.iload_n 1, 1) := by decide +kernel
theorem dX7_fill_1 : decode cX7_fill 1 = .ok (.invokestatic 83, 3) := by decide +kernel
theorem dX7_fill_4 : decode cX7_fill 4 = .ok (.ifCond .eq 15, 3) := by decide +kernel
theorem dX7_fill_7 : decode cX7_fill 7 = .ok (.iload_n 2, 1) := by decide +kernel
theorem dX7_fill_8 : decode cX7_fill 8 = .ok (.i2l, 1) := by decide +kernel
theorem dX7_fill_9 : decode cX7_fill 9 = .ok (.lconst 0, 1) := by decide +kernel
theorem dX7_fill_10 : decode cX7_fill 10 = .ok (.ldc2_w 135, 3) := by decide +kernel
theorem dX7_fill_13 : decode cX7_fill 13 = .ok (.invokestatic 68, 3) := by decide +kernel
theorem dX7_fill_16 : decode cX7_fill 16 = .ok (.ifCond .ne 6, 3) := by decide +kernel
theorem dX7_fill_19 : decode cX7_fill 19 = .ok (.ldc 87, 2) := by decide +kernel
theorem dX7_fill_21 : decode cX7_fill 21 = .ok (.ireturn, 1) := by decide +kernel
theorem dX7_fill_22 : decode cX7_fill 22 = .ok (.iconst 0, 1) := by decide +kernel
theorem dX7_fill_23 : decode cX7_fill 23 = .ok (.istore_n 3, 1) := by decide +kernel
theorem dX7_fill_24 : decode cX7_fill 24 = .ok (.iload_n 3, 1) := by decide +kernel
theorem dX7_fill_25 : decode cX7_fill 25 = .ok (.aload_n 0, 1) := by decide +kernel
theorem dX7_fill_26 : decode cX7_fill 26 = .ok (.getfield 7, 3) := by decide +kernel
theorem dX7_fill_29 : decode cX7_fill 29 = .ok (.iconst 0, 1) := by decide +kernel
theorem dX7_fill_30 : decode cX7_fill 30 = .ok (.iaload, 1) := by decide +kernel
theorem dX7_fill_31 : decode cX7_fill 31 = .ok (.if_icmp .ge 20, 3) := by decide +kernel
theorem dX7_fill_34 : decode cX7_fill 34 = .ok (.aload_n 0, 1) := by decide +kernel
theorem dX7_fill_35 : decode cX7_fill 35 = .ok (.getfield 43, 3) := by decide +kernel
theorem dX7_fill_38 : decode cX7_fill 38 = .ok (.iload_n 3, 1) := by decide +kernel
theorem dX7_fill_39 : decode cX7_fill 39 = .ok (.aload_n 0, 1) := by decide +kernel
theorem dX7_fill_40 : decode cX7_fill 40 = .ok (.iload_n 3, 1) := by decide +kernel
theorem dX7_fill_41 : decode cX7_fill 41 = .ok (.invokevirtual 110, 3) := by decide +kernel
theorem dX7_fill_44 : decode cX7_fill 44 = .ok (.iastore, 1) := by decide +kernel
theorem dX7_fill_45 : decode cX7_fill 45 = .ok (.iinc 3 1, 3) := by decide +kernel
theorem dX7_fill_48 : decode cX7_fill 48 = .ok (.goto (-24), 3) := by decide +kernel
theorem dX7_fill_51 : decode cX7_fill 51 = .ok (.aload_n 0, 1) := by decide +kernel
theorem dX7_fill_52 : decode cX7_fill 52 = .ok (.iload_n 1, 1) := by decide +kernel
theorem dX7_fill_53 : decode cX7_fill 53 = .ok (.invokevirtual 137, 3) := by decide +kernel
theorem dX7_fill_56 : decode cX7_fill 56 = .ok (.istore_n 3, 1) := by decide +kernel
theorem dX7_fill_57 : decode cX7_fill 57 = .ok (.iconst 0, 1) := by decide +kernel
theorem dX7_fill_58 : decode cX7_fill 58 = .ok (.istore 4, 2) := by decide +kernel
theorem dX7_fill_60 : decode cX7_fill 60 = .ok (.iconst 0, 1) := by decide +kernel
theorem dX7_fill_61 : decode cX7_fill 61 = .ok (.istore 5, 2) := by decide +kernel
theorem dX7_fill_63 : decode cX7_fill 63 = .ok (.iconst 1, 1) := by decide +kernel
theorem dX7_fill_64 : decode cX7_fill 64 = .ok (.istore 6, 2) := by decide +kernel
theorem dX7_fill_66 : decode cX7_fill 66 = .ok (.iload 6, 2) := by decide +kernel
theorem dX7_fill_68 : decode cX7_fill 68 = .ok (.iconst 1, 1) := by decide +kernel
theorem dX7_fill_69 : decode cX7_fill 69 = .ok (.aload_n 0, 1) := by decide +kernel
theorem dX7_fill_70 : decode cX7_fill 70 = .ok (.getfield 7, 3) := by decide +kernel
theorem dX7_fill_73 : decode cX7_fill 73 = .ok (.iconst 0, 1) := by decide +kernel
theorem dX7_fill_74 : decode cX7_fill 74 = .ok (.iaload, 1) := by decide +kernel
theorem dX7_fill_75 : decode cX7_fill 75 = .ok (.ishl, 1) := by decide +kernel
theorem dX7_fill_76 : decode cX7_fill 76 = .ok (.if_icmp .ge 99, 3) := by decide +kernel
theorem dX7_fill_79 : decode cX7_fill 79 = .ok (.aload_n 0, 1) := by decide +kernel
theorem dX7_fill_80 : decode cX7_fill 80 = .ok (.iload_n 1, 1) := by decide +kernel
theorem dX7_fill_81 : decode cX7_fill 81 = .ok (.iload 6, 2) := by decide +kernel
theorem dX7_fill_83 : decode cX7_fill 83 = .ok (.invokevirtual 181, 3) := by decide +kernel
theorem dX7_fill_86 : decode cX7_fill 86 = .ok (.istore 7, 2) := by decide +kernel
theorem dX7_fill_88 : decode cX7_fill 88 = .ok (.iload 7, 2) := by decide +kernel
theorem dX7_fill_90 : decode cX7_fill 90 = .ok (.iload 5, 2) := by decide +kernel
theorem dX7_fill_92 : decode cX7_fill 92 = .ok (.if_icmp .gt 23, 3) := by decide +kernel
theorem dX7_fill_95 : decode cX7_fill 95 = .ok (.iload 7, 2) := by decide +kernel
theorem dX7_fill_97 : decode cX7_fill 97 = .ok (.iload 5, 2) := by decide +kernel
theorem dX7_fill_99 : decode cX7_fill 99 = .ok (.if_icmp .ne 20, 3) := by decide +kernel
theorem dX7_fill_102 : decode cX7_fill 102 = .ok (.iload 6, 2) := by decide +kernel
theorem dX7_fill_104 : decode cX7_fill 104 = .ok (.invokestatic 184, 3) := by decide +kernel
theorem dX7_fill_107 : decode cX7_fill 107 = .ok (.iload 4, 2) := by decide +kernel
theorem dX7_fill_109 : decode cX7_fill 109 = .ok (.invokestatic 184, 3) := by decide +kernel
theorem dX7_fill_112 : decode cX7_fill 112 = .ok (.if_icmp .ge 7, 3) := by decide +kernel
theorem dX7_fill_115 : decode cX7_fill 115 = .ok (.iconst 1, 1) := by decide +kernel
theorem dX7_fill_116 : decode cX7_fill 116 = .ok (.goto 4, 3) := by decide +kernel
theorem dX7_fill_119 : decode cX7_fill 119 = .ok (.iconst 0, 1) := by decide +kernel
theorem dX7_fill_120 : decode cX7_fill 120 = .ok (.istore 8, 2) := by decide +kernel
theorem dX7_fill_122 : decode cX7_fill 122 = .ok (.iload 8, 2) := by decide +kernel
theorem dX7_fill_124 : decode cX7_fill 124 = .ok (.ifCond .eq 45, 3) := by decide +kernel
theorem dX7_fill_127 : decode cX7_fill 127 = .ok (.iload 6, 2) := by decide +kernel
theorem dX7_fill_129 : decode cX7_fill 129 = .ok (.iload_n 3, 1) := by decide +kernel
theorem dX7_fill_130 : decode cX7_fill 130 = .ok (.iand, 1) := by decide +kernel
theorem dX7_fill_131 : decode cX7_fill 131 = .ok (.ifCond .ne 38, 3) := by decide +kernel
theorem dX7_fill_134 : decode cX7_fill 134 = .ok (.aload_n 0, 1) := by decide +kernel
theorem dX7_fill_135 : decode cX7_fill 135 = .ok (.iload 6, 2) := by decide +kernel
theorem dX7_fill_137 : decode cX7_fill 137 = .ok (.invokevirtual 187, 3) := by decide +kernel
theorem dX7_fill_140 : decode cX7_fill 140 = .ok (.aload_n 0, 1) := by decide +kernel
theorem dX7_fill_141 : decode cX7_fill 141 = .ok (.getfield 7, 3) := by decide +kernel
theorem dX7_fill_144 : decode cX7_fill 144 = .ok (.bipush 6, 2) := by decide +kernel
theorem dX7_fill_146 : decode cX7_fill 146 = .ok (.iload_n 1, 1) := by decide +kernel
theorem dX7_fill_147 : decode cX7_fill 147 = .ok (.iadd, 1) := by decide +kernel
theorem dX7_fill_148 : decode cX7_fill 148 = .ok (.iaload, 1) := by decide +kernel
theorem dX7_fill_149 : decode cX7_fill 149 = .ok (.if_icmp .gt 20, 3) := by decide +kernel
theorem dX7_fill_152 : decode cX7_fill 152 = .ok (.aload_n 0, 1) := by decide +kernel
theorem dX7_fill_153 : decode cX7_fill 153 = .ok (.iload 6, 2) := by decide +kernel
theorem dX7_fill_155 : decode cX7_fill 155 = .ok (.invokevirtual 190, 3) := by decide +kernel
theorem dX7_fill_158 : decode cX7_fill 158 = .ok (.ifCond .eq 11, 3) := by decide +kernel
theorem dX7_fill_161 : decode cX7_fill 161 = .ok (.iload 6, 2) := by decide +kernel
theorem dX7_fill_163 : decode cX7_fill 163 = .ok (.istore 4, 2) := by decide +kernel
theorem dX7_fill_165 : decode cX7_fill 165 = .ok (.iload 7, 2) := by decide +kernel
theorem dX7_fill_167 : decode cX7_fill 167 = .ok (.istore 5, 2) := by decide +kernel
theorem dX7_fill_169 : decode cX7_fill 169 = .ok (.iinc 6 1, 3) := by decide +kernel
theorem dX7_fill_172 : decode cX7_fill 172 = .ok (.goto (-106), 3) := by decide +kernel
theorem dX7_fill_175 : decode cX7_fill 175 = .ok (.iload_n 2, 1) := by decide +kernel
theorem dX7_fill_176 : decode cX7_fill 176 = .ok (.ifCond .ne 8, 3) := by decide +kernel
theorem dX7_fill_179 : decode cX7_fill 179 = .ok (.iload 4, 2) := by decide +kernel
theorem dX7_fill_181 : decode cX7_fill 181 = .ok (.goto 19, 3) := by decide +kernel
theorem dX7_fill_184 : decode cX7_fill 184 = .ok (.iload_n 2, 1) := by decide +kernel
theorem dX7_fill_185 : decode cX7_fill 185 = .ok (.iconst 1, 1) := by decide +kernel
theorem dX7_fill_186 : decode cX7_fill 186 = .ok (.if_icmp .ne 8, 3) := by decide +kernel
theorem dX7_fill_189 : decode cX7_fill 189 = .ok (.iload 5, 2) := by decide +kernel
theorem dX7_fill_191 : decode cX7_fill 191 = .ok (.goto 9, 3) := by decide +kernel
theorem dX7_fill_194 : decode cX7_fill 194 = .ok (.aload_n 0, 1) := by decide +kernel
theorem dX7_fill_195 : decode cX7_fill 195 = .ok (.iload 4, 2) := by decide +kernel
theorem dX7_fill_197 : decode cX7_fill 197 = .ok (.invokevirtual 187, 3) := by decide +kernel
theorem dX7_fill_200 : decode cX7_fill 200 = .ok (.ireturn, 1) := by decide +kernel
theorem dX7_laysBy_0 : decode cX7_laysBy 0 = .ok (.iconst 0, 1) := by decide +kernel
theorem dX7_laysBy_1 : decode cX7_laysBy 1 = .ok (.istore_n 1, 1) := by decide +kernel
theorem dX7_laysBy_2 : decode cX7_laysBy 2 = .ok (.iload_n 1, 1) := by decide +kernel
theorem dX7_laysBy_3 : decode cX7_laysBy 3 = .ok (.bipush 78, 2) := by decide +kernel
theorem dX7_laysBy_5 : decode cX7_laysBy 5 = .ok (.if_icmp .ge 21, 3) := by decide +kernel
theorem dX7_laysBy_8 : decode cX7_laysBy 8 = .ok (.aload_n 0, 1) := by decide +kernel
theorem dX7_laysBy_9 : decode cX7_laysBy 9 = .ok (.getfield 46, 3) := by decide +kernel
theorem dX7_laysBy_12 : decode cX7_laysBy 12 = .ok (.iload_n 1, 1) := by decide +kernel
theorem dX7_laysBy_13 : decode cX7_laysBy 13 = .ok (.aload_n 0, 1) := by decide +kernel
theorem dX7_laysBy_14 : decode cX7_laysBy 14 = .ok (.getfield 7, 3) := by decide +kernel
theorem dX7_laysBy_17 : decode cX7_laysBy 17 = .ok (.iload_n 1, 1) := by decide +kernel
theorem dX7_laysBy_18 : decode cX7_laysBy 18 = .ok (.iaload, 1) := by decide +kernel
theorem dX7_laysBy_19 : decode cX7_laysBy 19 = .ok (.iastore, 1) := by decide +kernel
theorem dX7_laysBy_20 : decode cX7_laysBy 20 = .ok (.iinc 1 1, 3) := by decide +kernel
theorem dX7_laysBy_23 : decode cX7_laysBy 23 = .ok (.goto (-21), 3) := by decide +kernel
theorem dX7_laysBy_26 : decode cX7_laysBy 26 = .ok (.return_, 1) := by decide +kernel
theorem dX7_laysBack_0 : decode cX7_laysBack 0 = .ok (.iconst 0, 1) := by decide +kernel
theorem dX7_laysBack_1 : decode cX7_laysBack 1 = .ok (.istore_n 1, 1) := by decide +kernel
theorem dX7_laysBack_2 : decode cX7_laysBack 2 = .ok (.iload_n 1, 1) := by decide +kernel
theorem dX7_laysBack_3 : decode cX7_laysBack 3 = .ok (.bipush 78, 2) := by decide +kernel
theorem dX7_laysBack_5 : decode cX7_laysBack 5 = .ok (.if_icmp .ge 21, 3) := by decide +kernel
theorem dX7_laysBack_8 : decode cX7_laysBack 8 = .ok (.aload_n 0, 1) := by decide +kernel
theorem dX7_laysBack_9 : decode cX7_laysBack 9 = .ok (.getfield 7, 3) := by decide +kernel
theorem dX7_laysBack_12 : decode cX7_laysBack 12 = .ok (.iload_n 1, 1) := by decide +kernel
theorem dX7_laysBack_13 : decode cX7_laysBack 13 = .ok (.aload_n 0, 1) := by decide +kernel
theorem dX7_laysBack_14 : decode cX7_laysBack 14 = .ok (.getfield 46, 3) := by decide +kernel
theorem dX7_laysBack_17 : decode cX7_laysBack 17 = .ok (.iload_n 1, 1) := by decide +kernel
theorem dX7_laysBack_18 : decode cX7_laysBack 18 = .ok (.iaload, 1) := by decide +kernel
theorem dX7_laysBack_19 : decode cX7_laysBack 19 = .ok (.iastore, 1) := by decide +kernel
theorem dX7_laysBack_20 : decode cX7_laysBack 20 = .ok (.iinc 1 1, 3) := by decide +kernel
theorem dX7_laysBack_23 : decode cX7_laysBack 23 = .ok (.goto (-21), 3) := by decide +kernel
theorem dX7_laysBack_26 : decode cX7_laysBack 26 = .ok (.return_, 1) := by decide +kernel
theorem dX7_goesOnMany_0 : decode cX7_goesOnMany 0 = .ok (.iconst 0, 1) := by decide +kernel
theorem dX7_goesOnMany_1 : decode cX7_goesOnMany 1 = .ok (.istore_n 2, 1) := by decide +kernel
theorem dX7_goesOnMany_2 : decode cX7_goesOnMany 2 = .ok (.iload_n 2, 1) := by decide +kernel
theorem dX7_goesOnMany_3 : decode cX7_goesOnMany 3 = .ok (.iload_n 1, 1) := by decide +kernel
theorem dX7_goesOnMany_4 : decode cX7_goesOnMany 4 = .ok (.if_icmp .ge 13, 3) := by decide +kernel
theorem dX7_goesOnMany_7 : decode cX7_goesOnMany 7 = .ok (.aload_n 0, 1) := by decide +kernel
theorem dX7_goesOnMany_8 : decode cX7_goesOnMany 8 = .ok (.invokevirtual 163, 3) := by decide +kernel
theorem dX7_goesOnMany_11 : decode cX7_goesOnMany 11 = .ok (.iinc 2 1, 3) := by decide +kernel
theorem dX7_goesOnMany_14 : decode cX7_goesOnMany 14 = .ok (.goto (-12), 3) := by decide +kernel
theorem dX7_goesOnMany_17 : decode cX7_goesOnMany 17 = .ok (.return_, 1) := by decide +kernel
theorem dX7_emptied_0 : decode cX7_emptied 0 = .ok (.iload_n 1, 1) := by decide +kernel
theorem dX7_emptied_1 : decode cX7_emptied 1 = .ok (.invokestatic 83, 3) := by decide +kernel
theorem dX7_emptied_4 : decode cX7_emptied 4 = .ok (.ifCond .ne 6, 3) := by decide +kernel
theorem dX7_emptied_7 : decode cX7_emptied 7 = .ok (.ldc 87, 2) := by decide +kernel
theorem dX7_emptied_9 : decode cX7_emptied 9 = .ok (.ireturn, 1) := by decide +kernel
theorem dX7_emptied_10 : decode cX7_emptied 10 = .ok (.aload_n 0, 1) := by decide +kernel
theorem dX7_emptied_11 : decode cX7_emptied 11 = .ok (.invokevirtual 193, 3) := by decide +kernel
theorem dX7_emptied_14 : decode cX7_emptied 14 = .ok (.aload_n 0, 1) := by decide +kernel
theorem dX7_emptied_15 : decode cX7_emptied 15 = .ok (.iload_n 1, 1) := by decide +kernel
theorem dX7_emptied_16 : decode cX7_emptied 16 = .ok (.invokevirtual 137, 3) := by decide +kernel
theorem dX7_emptied_19 : decode cX7_emptied 19 = .ok (.istore_n 2, 1) := by decide +kernel
theorem dX7_emptied_20 : decode cX7_emptied 20 = .ok (.iconst 0, 1) := by decide +kernel
theorem dX7_emptied_21 : decode cX7_emptied 21 = .ok (.istore_n 3, 1) := by decide +kernel
theorem dX7_emptied_22 : decode cX7_emptied 22 = .ok (.iload_n 3, 1) := by decide +kernel
theorem dX7_emptied_23 : decode cX7_emptied 23 = .ok (.aload_n 0, 1) := by decide +kernel
theorem dX7_emptied_24 : decode cX7_emptied 24 = .ok (.getfield 7, 3) := by decide +kernel
theorem dX7_emptied_27 : decode cX7_emptied 27 = .ok (.iconst 0, 1) := by decide +kernel
theorem dX7_emptied_28 : decode cX7_emptied 28 = .ok (.iaload, 1) := by decide +kernel
theorem dX7_emptied_29 : decode cX7_emptied 29 = .ok (.if_icmp .ge 39, 3) := by decide +kernel
theorem dX7_emptied_32 : decode cX7_emptied 32 = .ok (.iload_n 2, 1) := by decide +kernel
theorem dX7_emptied_33 : decode cX7_emptied 33 = .ok (.iload_n 3, 1) := by decide +kernel
theorem dX7_emptied_34 : decode cX7_emptied 34 = .ok (.ishr, 1) := by decide +kernel
theorem dX7_emptied_35 : decode cX7_emptied 35 = .ok (.iconst 1, 1) := by decide +kernel
theorem dX7_emptied_36 : decode cX7_emptied 36 = .ok (.iand, 1) := by decide +kernel
theorem dX7_emptied_37 : decode cX7_emptied 37 = .ok (.iconst 1, 1) := by decide +kernel
theorem dX7_emptied_38 : decode cX7_emptied 38 = .ok (.if_icmp .ne 24, 3) := by decide +kernel
theorem dX7_emptied_41 : decode cX7_emptied 41 = .ok (.aload_n 0, 1) := by decide +kernel
theorem dX7_emptied_42 : decode cX7_emptied 42 = .ok (.iload_n 3, 1) := by decide +kernel
theorem dX7_emptied_43 : decode cX7_emptied 43 = .ok (.invokevirtual 158, 3) := by decide +kernel
theorem dX7_emptied_46 : decode cX7_emptied 46 = .ok (.istore 4, 2) := by decide +kernel
theorem dX7_emptied_48 : decode cX7_emptied 48 = .ok (.aload_n 0, 1) := by decide +kernel
theorem dX7_emptied_49 : decode cX7_emptied 49 = .ok (.iload_n 3, 1) := by decide +kernel
theorem dX7_emptied_50 : decode cX7_emptied 50 = .ok (.iload 4, 2) := by decide +kernel
theorem dX7_emptied_52 : decode cX7_emptied 52 = .ok (.aload_n 0, 1) := by decide +kernel
theorem dX7_emptied_53 : decode cX7_emptied 53 = .ok (.iload 4, 2) := by decide +kernel
theorem dX7_emptied_55 : decode cX7_emptied 55 = .ok (.iload_n 3, 1) := by decide +kernel
theorem dX7_emptied_56 : decode cX7_emptied 56 = .ok (.invokevirtual 142, 3) := by decide +kernel
theorem dX7_emptied_59 : decode cX7_emptied 59 = .ok (.invokevirtual 152, 3) := by decide +kernel
theorem dX7_emptied_62 : decode cX7_emptied 62 = .ok (.iinc 3 1, 3) := by decide +kernel
theorem dX7_emptied_65 : decode cX7_emptied 65 = .ok (.goto (-43), 3) := by decide +kernel
theorem dX7_emptied_68 : decode cX7_emptied 68 = .ok (.aload_n 0, 1) := by decide +kernel
theorem dX7_emptied_69 : decode cX7_emptied 69 = .ok (.getfield 7, 3) := by decide +kernel
theorem dX7_emptied_72 : decode cX7_emptied 72 = .ok (.bipush 6, 2) := by decide +kernel
theorem dX7_emptied_74 : decode cX7_emptied 74 = .ok (.iload_n 1, 1) := by decide +kernel
theorem dX7_emptied_75 : decode cX7_emptied 75 = .ok (.iadd, 1) := by decide +kernel
theorem dX7_emptied_76 : decode cX7_emptied 76 = .ok (.iaload, 1) := by decide +kernel
theorem dX7_emptied_77 : decode cX7_emptied 77 = .ok (.aload_n 0, 1) := by decide +kernel
theorem dX7_emptied_78 : decode cX7_emptied 78 = .ok (.getfield 46, 3) := by decide +kernel
theorem dX7_emptied_81 : decode cX7_emptied 81 = .ok (.bipush 6, 2) := by decide +kernel
theorem dX7_emptied_83 : decode cX7_emptied 83 = .ok (.iload_n 1, 1) := by decide +kernel
theorem dX7_emptied_84 : decode cX7_emptied 84 = .ok (.iadd, 1) := by decide +kernel
theorem dX7_emptied_85 : decode cX7_emptied 85 = .ok (.iaload, 1) := by decide +kernel
theorem dX7_emptied_86 : decode cX7_emptied 86 = .ok (.isub, 1) := by decide +kernel
theorem dX7_emptied_87 : decode cX7_emptied 87 = .ok (.istore_n 3, 1) := by decide +kernel
theorem dX7_emptied_88 : decode cX7_emptied 88 = .ok (.aload_n 0, 1) := by decide +kernel
theorem dX7_emptied_89 : decode cX7_emptied 89 = .ok (.invokevirtual 196, 3) := by decide +kernel
theorem dX7_emptied_92 : decode cX7_emptied 92 = .ok (.iload_n 3, 1) := by decide +kernel
theorem dX7_emptied_93 : decode cX7_emptied 93 = .ok (.ireturn, 1) := by decide +kernel
theorem dX7_behind_0 : decode cX7_behind 0 = .ok (.aload_n 0, 1) := by decide +kernel
theorem dX7_behind_1 : decode cX7_behind 1 = .ok (.iload_n 1, 1) := by decide +kernel
theorem dX7_behind_2 : decode cX7_behind 2 = .ok (.invokevirtual 117, 3) := by decide +kernel
theorem dX7_behind_5 : decode cX7_behind 5 = .ok (.ifCond .eq 27, 3) := by decide +kernel
theorem dX7_behind_8 : decode cX7_behind 8 = .ok (.iload_n 2, 1) := by decide +kernel
theorem dX7_behind_9 : decode cX7_behind 9 = .ok (.i2l, 1) := by decide +kernel
theorem dX7_behind_10 : decode cX7_behind 10 = .ok (.lconst 0, 1) := by decide +kernel
theorem dX7_behind_11 : decode cX7_behind 11 = .ok (.ldc2_w 161, 3) := by decide +kernel
theorem dX7_behind_14 : decode cX7_behind 14 = .ok (.invokestatic 68, 3) := by decide +kernel
theorem dX7_behind_17 : decode cX7_behind 17 = .ok (.ifCond .eq 15, 3) := by decide +kernel
theorem dX7_behind_20 : decode cX7_behind 20 = .ok (.iload_n 3, 1) := by decide +kernel
theorem dX7_behind_21 : decode cX7_behind 21 = .ok (.i2l, 1) := by decide +kernel
theorem dX7_behind_22 : decode cX7_behind 22 = .ok (.lconst 0, 1) := by decide +kernel
theorem dX7_behind_23 : decode cX7_behind 23 = .ok (.ldc2_w 199, 3) := by decide +kernel
theorem dX7_behind_26 : decode cX7_behind 26 = .ok (.invokestatic 68, 3) := by decide +kernel
theorem dX7_behind_29 : decode cX7_behind 29 = .ok (.ifCond .ne 6, 3) := by decide +kernel
theorem dX7_behind_32 : decode cX7_behind 32 = .ok (.ldc 87, 2) := by decide +kernel
theorem dX7_behind_34 : decode cX7_behind 34 = .ok (.ireturn, 1) := by decide +kernel
theorem dX7_behind_35 : decode cX7_behind 35 = .ok (.aload_n 0, 1) := by decide +kernel
theorem dX7_behind_36 : decode cX7_behind 36 = .ok (.invokevirtual 193, 3) := by decide +kernel
theorem dX7_behind_39 : decode cX7_behind 39 = .ok (.aload_n 0, 1) := by decide +kernel
theorem dX7_behind_40 : decode cX7_behind 40 = .ok (.iload_n 2, 1) := by decide +kernel
theorem dX7_behind_41 : decode cX7_behind 41 = .ok (.invokevirtual 201, 3) := by decide +kernel
theorem dX7_behind_44 : decode cX7_behind 44 = .ok (.iload_n 3, 1) := by decide +kernel
theorem dX7_behind_45 : decode cX7_behind 45 = .ok (.ifCond .ne 12, 3) := by decide +kernel
theorem dX7_behind_48 : decode cX7_behind 48 = .ok (.aload_n 0, 1) := by decide +kernel
theorem dX7_behind_49 : decode cX7_behind 49 = .ok (.iload_n 1, 1) := by decide +kernel
theorem dX7_behind_50 : decode cX7_behind 50 = .ok (.iconst 4, 1) := by decide +kernel
theorem dX7_behind_51 : decode cX7_behind 51 = .ok (.invokevirtual 97, 3) := by decide +kernel
theorem dX7_behind_54 : decode cX7_behind 54 = .ok (.goto 34, 3) := by decide +kernel
theorem dX7_behind_57 : decode cX7_behind 57 = .ok (.iload_n 3, 1) := by decide +kernel
theorem dX7_behind_58 : decode cX7_behind 58 = .ok (.iconst 1, 1) := by decide +kernel
theorem dX7_behind_59 : decode cX7_behind 59 = .ok (.if_icmp .ne 11, 3) := by decide +kernel
theorem dX7_behind_62 : decode cX7_behind 62 = .ok (.aload_n 0, 1) := by decide +kernel
theorem dX7_behind_63 : decode cX7_behind 63 = .ok (.iload_n 1, 1) := by decide +kernel
theorem dX7_behind_64 : decode cX7_behind 64 = .ok (.invokevirtual 110, 3) := by decide +kernel
theorem dX7_behind_67 : decode cX7_behind 67 = .ok (.goto 21, 3) := by decide +kernel
theorem dX7_behind_70 : decode cX7_behind 70 = .ok (.iload_n 3, 1) := by decide +kernel
theorem dX7_behind_71 : decode cX7_behind 71 = .ok (.iconst 2, 1) := by decide +kernel
theorem dX7_behind_72 : decode cX7_behind 72 = .ok (.if_icmp .ne 10, 3) := by decide +kernel
theorem dX7_behind_75 : decode cX7_behind 75 = .ok (.aload_n 0, 1) := by decide +kernel
theorem dX7_behind_76 : decode cX7_behind 76 = .ok (.invokevirtual 166, 3) := by decide +kernel
theorem dX7_behind_79 : decode cX7_behind 79 = .ok (.goto 9, 3) := by decide +kernel
theorem dX7_behind_82 : decode cX7_behind 82 = .ok (.aload_n 0, 1) := by decide +kernel
theorem dX7_behind_83 : decode cX7_behind 83 = .ok (.getfield 7, 3) := by decide +kernel
theorem dX7_behind_86 : decode cX7_behind 86 = .ok (.iload_n 3, 1) := by decide +kernel
theorem dX7_behind_87 : decode cX7_behind 87 = .ok (.iaload, 1) := by decide +kernel
theorem dX7_behind_88 : decode cX7_behind 88 = .ok (.istore 4, 2) := by decide +kernel
theorem dX7_behind_90 : decode cX7_behind 90 = .ok (.aload_n 0, 1) := by decide +kernel
theorem dX7_behind_91 : decode cX7_behind 91 = .ok (.invokevirtual 196, 3) := by decide +kernel
theorem dX7_behind_94 : decode cX7_behind 94 = .ok (.iload 4, 2) := by decide +kernel
theorem dX7_behind_96 : decode cX7_behind 96 = .ok (.ireturn, 1) := by decide +kernel
theorem dX7_richestNow_0 : decode cX7_richestNow 0 = .ok (.iconst 0, 1) := by decide +kernel
theorem dX7_richestNow_1 : decode cX7_richestNow 1 = .ok (.istore_n 1, 1) := by decide +kernel
theorem dX7_richestNow_2 : decode cX7_richestNow 2 = .ok (.iconst 1, 1) := by decide +kernel
theorem dX7_richestNow_3 : decode cX7_richestNow 3 = .ok (.istore_n 2, 1) := by decide +kernel
theorem dX7_richestNow_4 : decode cX7_richestNow 4 = .ok (.iload_n 2, 1) := by decide +kernel
theorem dX7_richestNow_5 : decode cX7_richestNow 5 = .ok (.bipush 6, 2) := by decide +kernel
theorem dX7_richestNow_7 : decode cX7_richestNow 7 = .ok (.if_icmp .ge 36, 3) := by decide +kernel
theorem dX7_richestNow_10 : decode cX7_richestNow 10 = .ok (.aload_n 0, 1) := by decide +kernel
theorem dX7_richestNow_11 : decode cX7_richestNow 11 = .ok (.getfield 7, 3) := by decide +kernel
theorem dX7_richestNow_14 : decode cX7_richestNow 14 = .ok (.bipush 6, 2) := by decide +kernel
theorem dX7_richestNow_16 : decode cX7_richestNow 16 = .ok (.iload_n 2, 1) := by decide +kernel
theorem dX7_richestNow_17 : decode cX7_richestNow 17 = .ok (.iadd, 1) := by decide +kernel
theorem dX7_richestNow_18 : decode cX7_richestNow 18 = .ok (.iaload, 1) := by decide +kernel
theorem dX7_richestNow_19 : decode cX7_richestNow 19 = .ok (.aload_n 0, 1) := by decide +kernel
theorem dX7_richestNow_20 : decode cX7_richestNow 20 = .ok (.getfield 7, 3) := by decide +kernel
theorem dX7_richestNow_23 : decode cX7_richestNow 23 = .ok (.bipush 6, 2) := by decide +kernel
theorem dX7_richestNow_25 : decode cX7_richestNow 25 = .ok (.iload_n 1, 1) := by decide +kernel
theorem dX7_richestNow_26 : decode cX7_richestNow 26 = .ok (.iadd, 1) := by decide +kernel
theorem dX7_richestNow_27 : decode cX7_richestNow 27 = .ok (.iaload, 1) := by decide +kernel
theorem dX7_richestNow_28 : decode cX7_richestNow 28 = .ok (.if_icmp .le 7, 3) := by decide +kernel
theorem dX7_richestNow_31 : decode cX7_richestNow 31 = .ok (.iload_n 2, 1) := by decide +kernel
theorem dX7_richestNow_32 : decode cX7_richestNow 32 = .ok (.goto 4, 3) := by decide +kernel
theorem dX7_richestNow_35 : decode cX7_richestNow 35 = .ok (.iload_n 1, 1) := by decide +kernel
theorem dX7_richestNow_36 : decode cX7_richestNow 36 = .ok (.istore_n 1, 1) := by decide +kernel
theorem dX7_richestNow_37 : decode cX7_richestNow 37 = .ok (.iinc 2 1, 3) := by decide +kernel
theorem dX7_richestNow_40 : decode cX7_richestNow 40 = .ok (.goto (-36), 3) := by decide +kernel
theorem dX7_richestNow_43 : decode cX7_richestNow 43 = .ok (.iload_n 1, 1) := by decide +kernel
theorem dX7_richestNow_44 : decode cX7_richestNow 44 = .ok (.ireturn, 1) := by decide +kernel
theorem dX7_richest_0 : decode cX7_richest 0 = .ok (.iload_n 1, 1) := by decide +kernel
theorem dX7_richest_1 : decode cX7_richest 1 = .ok (.i2l, 1) := by decide +kernel
theorem dX7_richest_2 : decode cX7_richest 2 = .ok (.lconst 0, 1) := by decide +kernel
theorem dX7_richest_3 : decode cX7_richest 3 = .ok (.ldc2_w 161, 3) := by decide +kernel
theorem dX7_richest_6 : decode cX7_richest 6 = .ok (.invokestatic 68, 3) := by decide +kernel
theorem dX7_richest_9 : decode cX7_richest 9 = .ok (.ifCond .eq 13, 3) := by decide +kernel
theorem dX7_richest_12 : decode cX7_richest 12 = .ok (.iload_n 2, 1) := by decide +kernel
theorem dX7_richest_13 : decode cX7_richest 13 = .ok (.i2l, 1) := by decide +kernel
theorem dX7_richest_14 : decode cX7_richest 14 = .ok (.lconst 0, 1) := by decide +kernel
theorem dX7_richest_15 : decode cX7_richest 15 = .ok (.lconst 1, 1) := by decide +kernel
theorem dX7_richest_16 : decode cX7_richest 16 = .ok (.invokestatic 68, 3) := by decide +kernel
theorem dX7_richest_19 : decode cX7_richest 19 = .ok (.ifCond .ne 6, 3) := by decide +kernel
theorem dX7_richest_22 : decode cX7_richest 22 = .ok (.ldc 87, 2) := by decide +kernel
theorem dX7_richest_24 : decode cX7_richest 24 = .ok (.ireturn, 1) := by decide +kernel
theorem dX7_richest_25 : decode cX7_richest 25 = .ok (.aload_n 0, 1) := by decide +kernel
theorem dX7_richest_26 : decode cX7_richest 26 = .ok (.invokevirtual 193, 3) := by decide +kernel
theorem dX7_richest_29 : decode cX7_richest 29 = .ok (.aload_n 0, 1) := by decide +kernel
theorem dX7_richest_30 : decode cX7_richest 30 = .ok (.iload_n 1, 1) := by decide +kernel
theorem dX7_richest_31 : decode cX7_richest 31 = .ok (.invokevirtual 201, 3) := by decide +kernel
theorem dX7_richest_34 : decode cX7_richest 34 = .ok (.aload_n 0, 1) := by decide +kernel
theorem dX7_richest_35 : decode cX7_richest 35 = .ok (.invokevirtual 205, 3) := by decide +kernel
theorem dX7_richest_38 : decode cX7_richest 38 = .ok (.istore_n 3, 1) := by decide +kernel
theorem dX7_richest_39 : decode cX7_richest 39 = .ok (.iload_n 2, 1) := by decide +kernel
theorem dX7_richest_40 : decode cX7_richest 40 = .ok (.ifCond .ne 7, 3) := by decide +kernel
theorem dX7_richest_43 : decode cX7_richest 43 = .ok (.iload_n 3, 1) := by decide +kernel
theorem dX7_richest_44 : decode cX7_richest 44 = .ok (.goto 12, 3) := by decide +kernel
theorem dX7_richest_47 : decode cX7_richest 47 = .ok (.aload_n 0, 1) := by decide +kernel
theorem dX7_richest_48 : decode cX7_richest 48 = .ok (.getfield 7, 3) := by decide +kernel
theorem dX7_richest_51 : decode cX7_richest 51 = .ok (.bipush 6, 2) := by decide +kernel
theorem dX7_richest_53 : decode cX7_richest 53 = .ok (.iload_n 3, 1) := by decide +kernel
theorem dX7_richest_54 : decode cX7_richest 54 = .ok (.iadd, 1) := by decide +kernel
theorem dX7_richest_55 : decode cX7_richest 55 = .ok (.iaload, 1) := by decide +kernel
theorem dX7_richest_56 : decode cX7_richest 56 = .ok (.istore 4, 2) := by decide +kernel
theorem dX7_richest_58 : decode cX7_richest 58 = .ok (.aload_n 0, 1) := by decide +kernel
theorem dX7_richest_59 : decode cX7_richest 59 = .ok (.invokevirtual 196, 3) := by decide +kernel
theorem dX7_richest_62 : decode cX7_richest 62 = .ok (.iload 4, 2) := by decide +kernel
theorem dX7_richest_64 : decode cX7_richest 64 = .ok (.ireturn, 1) := by decide +kernel
theorem dX7_allValues_0 : decode cX7_allValues 0 = .ok (.iconst 0, 1) := by decide +kernel
theorem dX7_allValues_1 : decode cX7_allValues 1 = .ok (.istore_n 1, 1) := by decide +kernel
theorem dX7_allValues_2 : decode cX7_allValues 2 = .ok (.iconst 0, 1) := by decide +kernel
theorem dX7_allValues_3 : decode cX7_allValues 3 = .ok (.istore_n 2, 1) := by decide +kernel
theorem dX7_allValues_4 : decode cX7_allValues 4 = .ok (.iload_n 2, 1) := by decide +kernel
theorem dX7_allValues_5 : decode cX7_allValues 5 = .ok (.aload_n 0, 1) := by decide +kernel
theorem dX7_allValues_6 : decode cX7_allValues 6 = .ok (.getfield 7, 3) := by decide +kernel
theorem dX7_allValues_9 : decode cX7_allValues 9 = .ok (.iconst 0, 1) := by decide +kernel
theorem dX7_allValues_10 : decode cX7_allValues 10 = .ok (.iaload, 1) := by decide +kernel
theorem dX7_allValues_11 : decode cX7_allValues 11 = .ok (.if_icmp .ge 17, 3) := by decide +kernel
theorem dX7_allValues_14 : decode cX7_allValues 14 = .ok (.iload_n 1, 1) := by decide +kernel
theorem dX7_allValues_15 : decode cX7_allValues 15 = .ok (.aload_n 0, 1) := by decide +kernel
theorem dX7_allValues_16 : decode cX7_allValues 16 = .ok (.iload_n 2, 1) := by decide +kernel
theorem dX7_allValues_17 : decode cX7_allValues 17 = .ok (.invokevirtual 110, 3) := by decide +kernel
theorem dX7_allValues_20 : decode cX7_allValues 20 = .ok (.iadd, 1) := by decide +kernel
theorem dX7_allValues_21 : decode cX7_allValues 21 = .ok (.istore_n 1, 1) := by decide +kernel
theorem dX7_allValues_22 : decode cX7_allValues 22 = .ok (.iinc 2 1, 3) := by decide +kernel
theorem dX7_allValues_25 : decode cX7_allValues 25 = .ok (.goto (-21), 3) := by decide +kernel
theorem dX7_allValues_28 : decode cX7_allValues 28 = .ok (.iload_n 1, 1) := by decide +kernel
theorem dX7_allValues_29 : decode cX7_allValues 29 = .ok (.ireturn, 1) := by decide +kernel
theorem dX7_allWear_0 : decode cX7_allWear 0 = .ok (.iconst 0, 1) := by decide +kernel
theorem dX7_allWear_1 : decode cX7_allWear 1 = .ok (.istore_n 1, 1) := by decide +kernel
theorem dX7_allWear_2 : decode cX7_allWear 2 = .ok (.iconst 0, 1) := by decide +kernel
theorem dX7_allWear_3 : decode cX7_allWear 3 = .ok (.istore_n 2, 1) := by decide +kernel
theorem dX7_allWear_4 : decode cX7_allWear 4 = .ok (.iload_n 2, 1) := by decide +kernel
theorem dX7_allWear_5 : decode cX7_allWear 5 = .ok (.aload_n 0, 1) := by decide +kernel
theorem dX7_allWear_6 : decode cX7_allWear 6 = .ok (.getfield 7, 3) := by decide +kernel
theorem dX7_allWear_9 : decode cX7_allWear 9 = .ok (.iconst 0, 1) := by decide +kernel
theorem dX7_allWear_10 : decode cX7_allWear 10 = .ok (.iaload, 1) := by decide +kernel
theorem dX7_allWear_11 : decode cX7_allWear 11 = .ok (.if_icmp .ge 18, 3) := by decide +kernel
theorem dX7_allWear_14 : decode cX7_allWear 14 = .ok (.iload_n 1, 1) := by decide +kernel
theorem dX7_allWear_15 : decode cX7_allWear 15 = .ok (.aload_n 0, 1) := by decide +kernel
theorem dX7_allWear_16 : decode cX7_allWear 16 = .ok (.iload_n 2, 1) := by decide +kernel
theorem dX7_allWear_17 : decode cX7_allWear 17 = .ok (.iconst 3, 1) := by decide +kernel
theorem dX7_allWear_18 : decode cX7_allWear 18 = .ok (.invokevirtual 97, 3) := by decide +kernel
theorem dX7_allWear_21 : decode cX7_allWear 21 = .ok (.iadd, 1) := by decide +kernel
theorem dX7_allWear_22 : decode cX7_allWear 22 = .ok (.istore_n 1, 1) := by decide +kernel
theorem dX7_allWear_23 : decode cX7_allWear 23 = .ok (.iinc 2 1, 3) := by decide +kernel
theorem dX7_allWear_26 : decode cX7_allWear 26 = .ok (.goto (-22), 3) := by decide +kernel
theorem dX7_allWear_29 : decode cX7_allWear 29 = .ok (.iload_n 1, 1) := by decide +kernel
theorem dX7_allWear_30 : decode cX7_allWear 30 = .ok (.ireturn, 1) := by decide +kernel
theorem dX7_worn_0 : decode cX7_worn 0 = .ok (.aload_n 0, 1) := by decide +kernel
theorem dX7_worn_1 : decode cX7_worn 1 = .ok (.invokevirtual 193, 3) := by decide +kernel
theorem dX7_worn_4 : decode cX7_worn 4 = .ok (.iconst (-1), 1) := by decide +kernel
theorem dX7_worn_5 : decode cX7_worn 5 = .ok (.istore_n 1, 1) := by decide +kernel
theorem dX7_worn_6 : decode cX7_worn 6 = .ok (.iconst 0, 1) := by decide +kernel
theorem dX7_worn_7 : decode cX7_worn 7 = .ok (.istore_n 2, 1) := by decide +kernel
theorem dX7_worn_8 : decode cX7_worn 8 = .ok (.iload_n 2, 1) := by decide +kernel
theorem dX7_worn_9 : decode cX7_worn 9 = .ok (.sipush 200, 3) := by decide +kernel
theorem dX7_worn_12 : decode cX7_worn 12 = .ok (.if_icmp .gt 30, 3) := by decide +kernel
theorem dX7_worn_15 : decode cX7_worn 15 = .ok (.iload_n 1, 1) := by decide +kernel
theorem dX7_worn_16 : decode cX7_worn 16 = .ok (.ifCond .ge 26, 3) := by decide +kernel
theorem dX7_worn_19 : decode cX7_worn 19 = .ok (.aload_n 0, 1) := by decide +kernel
theorem dX7_worn_20 : decode cX7_worn 20 = .ok (.invokevirtual 208, 3) := by decide +kernel
theorem dX7_worn_23 : decode cX7_worn 23 = .ok (.ifCond .ne 7, 3) := by decide +kernel
theorem dX7_worn_26 : decode cX7_worn 26 = .ok (.iload_n 2, 1) := by decide +kernel
theorem dX7_worn_27 : decode cX7_worn 27 = .ok (.goto 4, 3) := by decide +kernel
theorem dX7_worn_30 : decode cX7_worn 30 = .ok (.iconst (-1), 1) := by decide +kernel
theorem dX7_worn_31 : decode cX7_worn 31 = .ok (.istore_n 1, 1) := by decide +kernel
theorem dX7_worn_32 : decode cX7_worn 32 = .ok (.aload_n 0, 1) := by decide +kernel
theorem dX7_worn_33 : decode cX7_worn 33 = .ok (.invokevirtual 163, 3) := by decide +kernel
theorem dX7_worn_36 : decode cX7_worn 36 = .ok (.iinc 2 1, 3) := by decide +kernel
theorem dX7_worn_39 : decode cX7_worn 39 = .ok (.goto (-31), 3) := by decide +kernel
theorem dX7_worn_42 : decode cX7_worn 42 = .ok (.aload_n 0, 1) := by decide +kernel
theorem dX7_worn_43 : decode cX7_worn 43 = .ok (.invokevirtual 196, 3) := by decide +kernel
theorem dX7_worn_46 : decode cX7_worn 46 = .ok (.iload_n 1, 1) := by decide +kernel
theorem dX7_worn_47 : decode cX7_worn 47 = .ok (.invokestatic 175, 3) := by decide +kernel
theorem dX7_worn_50 : decode cX7_worn 50 = .ok (.ireturn, 1) := by decide +kernel
theorem dX7_dye_0 : decode cX7_dye 0 = .ok (.aload_n 0, 1) := by decide +kernel
theorem dX7_dye_1 : decode cX7_dye 1 = .ok (.iload_n 1, 1) := by decide +kernel
theorem dX7_dye_2 : decode cX7_dye 2 = .ok (.invokevirtual 117, 3) := by decide +kernel
theorem dX7_dye_5 : decode cX7_dye 5 = .ok (.ifCond .eq 25, 3) := by decide +kernel
theorem dX7_dye_8 : decode cX7_dye 8 = .ok (.iload_n 2, 1) := by decide +kernel
theorem dX7_dye_9 : decode cX7_dye 9 = .ok (.i2l, 1) := by decide +kernel
theorem dX7_dye_10 : decode cX7_dye 10 = .ok (.lconst 1, 1) := by decide +kernel
theorem dX7_dye_11 : decode cX7_dye 11 = .ok (.ldc2_w 211, 3) := by decide +kernel
theorem dX7_dye_14 : decode cX7_dye 14 = .ok (.invokestatic 68, 3) := by decide +kernel
theorem dX7_dye_17 : decode cX7_dye 17 = .ok (.ifCond .eq 13, 3) := by decide +kernel
theorem dX7_dye_20 : decode cX7_dye 20 = .ok (.iload_n 3, 1) := by decide +kernel
theorem dX7_dye_21 : decode cX7_dye 21 = .ok (.i2l, 1) := by decide +kernel
theorem dX7_dye_22 : decode cX7_dye 22 = .ok (.lconst 0, 1) := by decide +kernel
theorem dX7_dye_23 : decode cX7_dye 23 = .ok (.lconst 1, 1) := by decide +kernel
theorem dX7_dye_24 : decode cX7_dye 24 = .ok (.invokestatic 68, 3) := by decide +kernel
theorem dX7_dye_27 : decode cX7_dye 27 = .ok (.ifCond .ne 6, 3) := by decide +kernel
theorem dX7_dye_30 : decode cX7_dye 30 = .ok (.ldc 87, 2) := by decide +kernel
theorem dX7_dye_32 : decode cX7_dye 32 = .ok (.ireturn, 1) := by decide +kernel
theorem dX7_dye_33 : decode cX7_dye 33 = .ok (.aload_n 0, 1) := by decide +kernel
theorem dX7_dye_34 : decode cX7_dye 34 = .ok (.invokevirtual 193, 3) := by decide +kernel
theorem dX7_dye_37 : decode cX7_dye 37 = .ok (.aload_n 0, 1) := by decide +kernel
theorem dX7_dye_38 : decode cX7_dye 38 = .ok (.iload_n 1, 1) := by decide +kernel
theorem dX7_dye_39 : decode cX7_dye 39 = .ok (.iconst 4, 1) := by decide +kernel
theorem dX7_dye_40 : decode cX7_dye 40 = .ok (.invokevirtual 97, 3) := by decide +kernel
theorem dX7_dye_43 : decode cX7_dye 43 = .ok (.istore 4, 2) := by decide +kernel
theorem dX7_dye_45 : decode cX7_dye 45 = .ok (.iconst 0, 1) := by decide +kernel
theorem dX7_dye_46 : decode cX7_dye 46 = .ok (.istore 5, 2) := by decide +kernel
theorem dX7_dye_48 : decode cX7_dye 48 = .ok (.iconst (-1), 1) := by decide +kernel
theorem dX7_dye_49 : decode cX7_dye 49 = .ok (.istore 6, 2) := by decide +kernel
theorem dX7_dye_51 : decode cX7_dye 51 = .ok (.iconst 0, 1) := by decide +kernel
theorem dX7_dye_52 : decode cX7_dye 52 = .ok (.istore 7, 2) := by decide +kernel
theorem dX7_dye_54 : decode cX7_dye 54 = .ok (.iload 7, 2) := by decide +kernel
theorem dX7_dye_56 : decode cX7_dye 56 = .ok (.bipush 10, 2) := by decide +kernel
theorem dX7_dye_58 : decode cX7_dye 58 = .ok (.if_icmp .ge 53, 3) := by decide +kernel
theorem dX7_dye_61 : decode cX7_dye 61 = .ok (.aload_n 0, 1) := by decide +kernel
theorem dX7_dye_62 : decode cX7_dye 62 = .ok (.iload_n 1, 1) := by decide +kernel
theorem dX7_dye_63 : decode cX7_dye 63 = .ok (.iconst 2, 1) := by decide +kernel
theorem dX7_dye_64 : decode cX7_dye 64 = .ok (.iload 7, 2) := by decide +kernel
theorem dX7_dye_66 : decode cX7_dye 66 = .ok (.invokevirtual 73, 3) := by decide +kernel
theorem dX7_dye_69 : decode cX7_dye 69 = .ok (.aload_n 0, 1) := by decide +kernel
theorem dX7_dye_70 : decode cX7_dye 70 = .ok (.iload_n 2, 1) := by decide +kernel
theorem dX7_dye_71 : decode cX7_dye 71 = .ok (.invokevirtual 201, 3) := by decide +kernel
theorem dX7_dye_74 : decode cX7_dye 74 = .ok (.aload_n 0, 1) := by decide +kernel
theorem dX7_dye_75 : decode cX7_dye 75 = .ok (.getfield 7, 3) := by decide +kernel
theorem dX7_dye_78 : decode cX7_dye 78 = .ok (.bipush 6, 2) := by decide +kernel
theorem dX7_dye_80 : decode cX7_dye 80 = .ok (.iload 4, 2) := by decide +kernel
theorem dX7_dye_82 : decode cX7_dye 82 = .ok (.iadd, 1) := by decide +kernel
theorem dX7_dye_83 : decode cX7_dye 83 = .ok (.iaload, 1) := by decide +kernel
theorem dX7_dye_84 : decode cX7_dye 84 = .ok (.istore 8, 2) := by decide +kernel
theorem dX7_dye_86 : decode cX7_dye 86 = .ok (.aload_n 0, 1) := by decide +kernel
theorem dX7_dye_87 : decode cX7_dye 87 = .ok (.invokevirtual 196, 3) := by decide +kernel
theorem dX7_dye_90 : decode cX7_dye 90 = .ok (.iload 8, 2) := by decide +kernel
theorem dX7_dye_92 : decode cX7_dye 92 = .ok (.iload 6, 2) := by decide +kernel
theorem dX7_dye_94 : decode cX7_dye 94 = .ok (.if_icmp .le 11, 3) := by decide +kernel
theorem dX7_dye_97 : decode cX7_dye 97 = .ok (.iload 7, 2) := by decide +kernel
theorem dX7_dye_99 : decode cX7_dye 99 = .ok (.istore 5, 2) := by decide +kernel
theorem dX7_dye_101 : decode cX7_dye 101 = .ok (.iload 8, 2) := by decide +kernel
theorem dX7_dye_103 : decode cX7_dye 103 = .ok (.istore 6, 2) := by decide +kernel
theorem dX7_dye_105 : decode cX7_dye 105 = .ok (.iinc 7 1, 3) := by decide +kernel
theorem dX7_dye_108 : decode cX7_dye 108 = .ok (.goto (-54), 3) := by decide +kernel
theorem dX7_dye_111 : decode cX7_dye 111 = .ok (.iload_n 3, 1) := by decide +kernel
theorem dX7_dye_112 : decode cX7_dye 112 = .ok (.ifCond .ne 8, 3) := by decide +kernel
theorem dX7_dye_115 : decode cX7_dye 115 = .ok (.iload 5, 2) := by decide +kernel
theorem dX7_dye_117 : decode cX7_dye 117 = .ok (.goto 5, 3) := by decide +kernel
theorem dX7_dye_120 : decode cX7_dye 120 = .ok (.iload 6, 2) := by decide +kernel
theorem dX7_dye_122 : decode cX7_dye 122 = .ok (.ireturn, 1) := by decide +kernel
theorem dX7_mends_0 : decode cX7_mends 0 = .ok (.iload_n 1, 1) := by decide +kernel
theorem dX7_mends_1 : decode cX7_mends 1 = .ok (.i2l, 1) := by decide +kernel
theorem dX7_mends_2 : decode cX7_mends 2 = .ok (.lconst 1, 1) := by decide +kernel
theorem dX7_mends_3 : decode cX7_mends 3 = .ok (.ldc2_w 211, 3) := by decide +kernel
theorem dX7_mends_6 : decode cX7_mends 6 = .ok (.invokestatic 68, 3) := by decide +kernel
theorem dX7_mends_9 : decode cX7_mends 9 = .ok (.ifCond .eq 13, 3) := by decide +kernel
theorem dX7_mends_12 : decode cX7_mends 12 = .ok (.iload_n 2, 1) := by decide +kernel
theorem dX7_mends_13 : decode cX7_mends 13 = .ok (.i2l, 1) := by decide +kernel
theorem dX7_mends_14 : decode cX7_mends 14 = .ok (.lconst 0, 1) := by decide +kernel
theorem dX7_mends_15 : decode cX7_mends 15 = .ok (.lconst 1, 1) := by decide +kernel
theorem dX7_mends_16 : decode cX7_mends 16 = .ok (.invokestatic 68, 3) := by decide +kernel
theorem dX7_mends_19 : decode cX7_mends 19 = .ok (.ifCond .ne 6, 3) := by decide +kernel
theorem dX7_mends_22 : decode cX7_mends 22 = .ok (.ldc 87, 2) := by decide +kernel
theorem dX7_mends_24 : decode cX7_mends 24 = .ok (.ireturn, 1) := by decide +kernel
theorem dX7_mends_25 : decode cX7_mends 25 = .ok (.aload_n 0, 1) := by decide +kernel
theorem dX7_mends_26 : decode cX7_mends 26 = .ok (.invokevirtual 193, 3) := by decide +kernel
theorem dX7_mends_29 : decode cX7_mends 29 = .ok (.iconst (-1), 1) := by decide +kernel
theorem dX7_mends_30 : decode cX7_mends 30 = .ok (.istore_n 3, 1) := by decide +kernel
theorem dX7_mends_31 : decode cX7_mends 31 = .ok (.iconst 0, 1) := by decide +kernel
theorem dX7_mends_32 : decode cX7_mends 32 = .ok (.istore 4, 2) := by decide +kernel
theorem dX7_mends_34 : decode cX7_mends 34 = .ok (.iconst 0, 1) := by decide +kernel
theorem dX7_mends_35 : decode cX7_mends 35 = .ok (.istore 5, 2) := by decide +kernel
theorem dX7_mends_37 : decode cX7_mends 37 = .ok (.iload 5, 2) := by decide +kernel
theorem dX7_mends_39 : decode cX7_mends 39 = .ok (.aload_n 0, 1) := by decide +kernel
theorem dX7_mends_40 : decode cX7_mends 40 = .ok (.getfield 7, 3) := by decide +kernel
theorem dX7_mends_43 : decode cX7_mends 43 = .ok (.iconst 0, 1) := by decide +kernel
theorem dX7_mends_44 : decode cX7_mends 44 = .ok (.iaload, 1) := by decide +kernel
theorem dX7_mends_45 : decode cX7_mends 45 = .ok (.if_icmp .ge 52, 3) := by decide +kernel
theorem dX7_mends_48 : decode cX7_mends 48 = .ok (.aload_n 0, 1) := by decide +kernel
theorem dX7_mends_49 : decode cX7_mends 49 = .ok (.iload 5, 2) := by decide +kernel
theorem dX7_mends_51 : decode cX7_mends 51 = .ok (.iconst 0, 1) := by decide +kernel
theorem dX7_mends_52 : decode cX7_mends 52 = .ok (.iconst 1, 1) := by decide +kernel
theorem dX7_mends_53 : decode cX7_mends 53 = .ok (.invokevirtual 73, 3) := by decide +kernel
theorem dX7_mends_56 : decode cX7_mends 56 = .ok (.aload_n 0, 1) := by decide +kernel
theorem dX7_mends_57 : decode cX7_mends 57 = .ok (.iload_n 1, 1) := by decide +kernel
theorem dX7_mends_58 : decode cX7_mends 58 = .ok (.invokevirtual 201, 3) := by decide +kernel
theorem dX7_mends_61 : decode cX7_mends 61 = .ok (.aload_n 0, 1) := by decide +kernel
theorem dX7_mends_62 : decode cX7_mends 62 = .ok (.getfield 7, 3) := by decide +kernel
theorem dX7_mends_65 : decode cX7_mends 65 = .ok (.iconst 3, 1) := by decide +kernel
theorem dX7_mends_66 : decode cX7_mends 66 = .ok (.iaload, 1) := by decide +kernel
theorem dX7_mends_67 : decode cX7_mends 67 = .ok (.istore 6, 2) := by decide +kernel
theorem dX7_mends_69 : decode cX7_mends 69 = .ok (.aload_n 0, 1) := by decide +kernel
theorem dX7_mends_70 : decode cX7_mends 70 = .ok (.invokevirtual 196, 3) := by decide +kernel
theorem dX7_mends_73 : decode cX7_mends 73 = .ok (.iload_n 3, 1) := by decide +kernel
theorem dX7_mends_74 : decode cX7_mends 74 = .ok (.ifCond .lt 10, 3) := by decide +kernel
theorem dX7_mends_77 : decode cX7_mends 77 = .ok (.iload 6, 2) := by decide +kernel
theorem dX7_mends_79 : decode cX7_mends 79 = .ok (.iload 4, 2) := by decide +kernel
theorem dX7_mends_81 : decode cX7_mends 81 = .ok (.if_icmp .le 10, 3) := by decide +kernel
theorem dX7_mends_84 : decode cX7_mends 84 = .ok (.iload 5, 2) := by decide +kernel
theorem dX7_mends_86 : decode cX7_mends 86 = .ok (.istore_n 3, 1) := by decide +kernel
theorem dX7_mends_87 : decode cX7_mends 87 = .ok (.iload 6, 2) := by decide +kernel
theorem dX7_mends_89 : decode cX7_mends 89 = .ok (.istore 4, 2) := by decide +kernel
theorem dX7_mends_91 : decode cX7_mends 91 = .ok (.iinc 5 1, 3) := by decide +kernel
theorem dX7_mends_94 : decode cX7_mends 94 = .ok (.goto (-57), 3) := by decide +kernel
theorem dX7_mends_97 : decode cX7_mends 97 = .ok (.iload_n 3, 1) := by decide +kernel
theorem dX7_mends_98 : decode cX7_mends 98 = .ok (.ifCond .ge 8, 3) := by decide +kernel
theorem dX7_mends_101 : decode cX7_mends 101 = .ok (.ldc 67, 2) := by decide +kernel
theorem dX7_mends_103 : decode cX7_mends 103 = .ok (.goto 13, 3) := by decide +kernel
theorem dX7_mends_106 : decode cX7_mends 106 = .ok (.iload_n 2, 1) := by decide +kernel
theorem dX7_mends_107 : decode cX7_mends 107 = .ok (.ifCond .ne 7, 3) := by decide +kernel
theorem dX7_mends_110 : decode cX7_mends 110 = .ok (.iload_n 3, 1) := by decide +kernel
theorem dX7_mends_111 : decode cX7_mends 111 = .ok (.goto 5, 3) := by decide +kernel
theorem dX7_mends_114 : decode cX7_mends 114 = .ok (.iload 4, 2) := by decide +kernel
theorem dX7_mends_116 : decode cX7_mends 116 = .ok (.ireturn, 1) := by decide +kernel
theorem dX7_fine_0 : decode cX7_fine 0 = .ok (.iload_n 1, 1) := by decide +kernel
theorem dX7_fine_1 : decode cX7_fine 1 = .ok (.invokestatic 83, 3) := by decide +kernel
theorem dX7_fine_4 : decode cX7_fine 4 = .ok (.ifCond .ne 6, 3) := by decide +kernel
theorem dX7_fine_7 : decode cX7_fine 7 = .ok (.ldc 87, 2) := by decide +kernel
theorem dX7_fine_9 : decode cX7_fine 9 = .ok (.ireturn, 1) := by decide +kernel
theorem dX7_fine_10 : decode cX7_fine 10 = .ok (.aload_n 0, 1) := by decide +kernel
theorem dX7_fine_11 : decode cX7_fine 11 = .ok (.iconst 2, 1) := by decide +kernel
theorem dX7_fine_12 : decode cX7_fine 12 = .ok (.invokevirtual 93, 3) := by decide +kernel
theorem dX7_fine_15 : decode cX7_fine 15 = .ok (.istore_n 2, 1) := by decide +kernel
theorem dX7_fine_16 : decode cX7_fine 16 = .ok (.iload_n 2, 1) := by decide +kernel
theorem dX7_fine_17 : decode cX7_fine 17 = .ok (.ifCond .ge 13, 3) := by decide +kernel
theorem dX7_fine_20 : decode cX7_fine 20 = .ok (.aload_n 0, 1) := by decide +kernel
theorem dX7_fine_21 : decode cX7_fine 21 = .ok (.getfield 7, 3) := by decide +kernel
theorem dX7_fine_24 : decode cX7_fine 24 = .ok (.bipush 6, 2) := by decide +kernel
theorem dX7_fine_26 : decode cX7_fine 26 = .ok (.iload_n 1, 1) := by decide +kernel
theorem dX7_fine_27 : decode cX7_fine 27 = .ok (.iadd, 1) := by decide +kernel
theorem dX7_fine_28 : decode cX7_fine 28 = .ok (.iaload, 1) := by decide +kernel
theorem dX7_fine_29 : decode cX7_fine 29 = .ok (.ireturn, 1) := by decide +kernel
theorem dX7_fine_30 : decode cX7_fine 30 = .ok (.aload_n 0, 1) := by decide +kernel
theorem dX7_fine_31 : decode cX7_fine 31 = .ok (.getfield 52, 3) := by decide +kernel
theorem dX7_fine_34 : decode cX7_fine 34 = .ok (.bipush 99, 2) := by decide +kernel
theorem dX7_fine_36 : decode cX7_fine 36 = .ok (.aload_n 0, 1) := by decide +kernel
theorem dX7_fine_37 : decode cX7_fine 37 = .ok (.getfield 7, 3) := by decide +kernel
theorem dX7_fine_40 : decode cX7_fine 40 = .ok (.bipush 6, 2) := by decide +kernel
theorem dX7_fine_42 : decode cX7_fine 42 = .ok (.iload_n 1, 1) := by decide +kernel
theorem dX7_fine_43 : decode cX7_fine 43 = .ok (.iadd, 1) := by decide +kernel
theorem dX7_fine_44 : decode cX7_fine 44 = .ok (.iaload, 1) := by decide +kernel
theorem dX7_fine_45 : decode cX7_fine 45 = .ok (.iastore, 1) := by decide +kernel
theorem dX7_fine_46 : decode cX7_fine 46 = .ok (.aload_n 0, 1) := by decide +kernel
theorem dX7_fine_47 : decode cX7_fine 47 = .ok (.getfield 52, 3) := by decide +kernel
theorem dX7_fine_50 : decode cX7_fine 50 = .ok (.bipush 110, 2) := by decide +kernel
theorem dX7_fine_52 : decode cX7_fine 52 = .ok (.aload_n 0, 1) := by decide +kernel
theorem dX7_fine_53 : decode cX7_fine 53 = .ok (.iload_n 1, 1) := by decide +kernel
theorem dX7_fine_54 : decode cX7_fine 54 = .ok (.invokevirtual 137, 3) := by decide +kernel
theorem dX7_fine_57 : decode cX7_fine 57 = .ok (.invokestatic 184, 3) := by decide +kernel
theorem dX7_fine_60 : decode cX7_fine 60 = .ok (.iastore, 1) := by decide +kernel
theorem dX7_fine_61 : decode cX7_fine 61 = .ok (.aload_n 0, 1) := by decide +kernel
theorem dX7_fine_62 : decode cX7_fine 62 = .ok (.iload_n 2, 1) := by decide +kernel
theorem dX7_fine_63 : decode cX7_fine 63 = .ok (.invokevirtual 104, 3) := by decide +kernel
theorem dX7_fine_66 : decode cX7_fine 66 = .ok (.ireturn, 1) := by decide +kernel
theorem dX7_feed_0 : decode cX7_feed 0 = .ok (.aload_n 0, 1) := by decide +kernel
theorem dX7_feed_1 : decode cX7_feed 1 = .ok (.getfield 213, 3) := by decide +kernel
theorem dX7_feed_4 : decode cX7_feed 4 = .ok (.bipush 12, 2) := by decide +kernel
theorem dX7_feed_6 : decode cX7_feed 6 = .ok (.iadd, 1) := by decide +kernel
theorem dX7_feed_7 : decode cX7_feed 7 = .ok (.bipush 96, 2) := by decide +kernel
theorem dX7_feed_9 : decode cX7_feed 9 = .ok (.if_icmp .le 6, 3) := by decide +kernel
theorem dX7_feed_12 : decode cX7_feed 12 = .ok (.ldc 88, 2) := by decide +kernel
theorem dX7_feed_14 : decode cX7_feed 14 = .ok (.ireturn, 1) := by decide +kernel
theorem dX7_feed_15 : decode cX7_feed 15 = .ok (.iconst 0, 1) := by decide +kernel
theorem dX7_feed_16 : decode cX7_feed 16 = .ok (.istore 4, 2) := by decide +kernel
theorem dX7_feed_18 : decode cX7_feed 18 = .ok (.iload 4, 2) := by decide +kernel
theorem dX7_feed_20 : decode cX7_feed 20 = .ok (.bipush 12, 2) := by decide +kernel
theorem dX7_feed_22 : decode cX7_feed 22 = .ok (.if_icmp .ge 69, 3) := by decide +kernel
theorem dX7_feed_25 : decode cX7_feed 25 = .ok (.iload 4, 2) := by decide +kernel
theorem dX7_feed_27 : decode cX7_feed 27 = .ok (.iconst 4, 1) := by decide +kernel
theorem dX7_feed_28 : decode cX7_feed 28 = .ok (.if_icmp .ge 7, 3) := by decide +kernel
theorem dX7_feed_31 : decode cX7_feed 31 = .ok (.iload_n 1, 1) := by decide +kernel
theorem dX7_feed_32 : decode cX7_feed 32 = .ok (.goto 15, 3) := by decide +kernel
theorem dX7_feed_35 : decode cX7_feed 35 = .ok (.iload 4, 2) := by decide +kernel
theorem dX7_feed_37 : decode cX7_feed 37 = .ok (.bipush 8, 2) := by decide +kernel
theorem dX7_feed_39 : decode cX7_feed 39 = .ok (.if_icmp .ge 7, 3) := by decide +kernel
theorem dX7_feed_42 : decode cX7_feed 42 = .ok (.iload_n 2, 1) := by decide +kernel
theorem dX7_feed_43 : decode cX7_feed 43 = .ok (.goto 4, 3) := by decide +kernel
theorem dX7_feed_46 : decode cX7_feed 46 = .ok (.iload_n 3, 1) := by decide +kernel
theorem dX7_feed_47 : decode cX7_feed 47 = .ok (.istore 5, 2) := by decide +kernel
theorem dX7_feed_49 : decode cX7_feed 49 = .ok (.aload_n 0, 1) := by decide +kernel
theorem dX7_feed_50 : decode cX7_feed 50 = .ok (.getfield 49, 3) := by decide +kernel
theorem dX7_feed_53 : decode cX7_feed 53 = .ok (.aload_n 0, 1) := by decide +kernel
theorem dX7_feed_54 : decode cX7_feed 54 = .ok (.getfield 213, 3) := by decide +kernel
theorem dX7_feed_57 : decode cX7_feed 57 = .ok (.iload 5, 2) := by decide +kernel
theorem dX7_feed_59 : decode cX7_feed 59 = .ok (.bipush 24, 2) := by decide +kernel
theorem dX7_feed_61 : decode cX7_feed 61 = .ok (.bipush 8, 2) := by decide +kernel
theorem dX7_feed_63 : decode cX7_feed 63 = .ok (.iload 4, 2) := by decide +kernel
theorem dX7_feed_65 : decode cX7_feed 65 = .ok (.iconst 4, 1) := by decide +kernel
theorem dX7_feed_66 : decode cX7_feed 66 = .ok (.irem, 1) := by decide +kernel
theorem dX7_feed_67 : decode cX7_feed 67 = .ok (.imul, 1) := by decide +kernel
theorem dX7_feed_68 : decode cX7_feed 68 = .ok (.isub, 1) := by decide +kernel
theorem dX7_feed_69 : decode cX7_feed 69 = .ok (.ishr, 1) := by decide +kernel
theorem dX7_feed_70 : decode cX7_feed 70 = .ok (.sipush 255, 3) := by decide +kernel
theorem dX7_feed_73 : decode cX7_feed 73 = .ok (.iand, 1) := by decide +kernel
theorem dX7_feed_74 : decode cX7_feed 74 = .ok (.iastore, 1) := by decide +kernel
theorem dX7_feed_75 : decode cX7_feed 75 = .ok (.aload_n 0, 1) := by decide +kernel
theorem dX7_feed_76 : decode cX7_feed 76 = .ok (.dup, 1) := by decide +kernel
theorem dX7_feed_77 : decode cX7_feed 77 = .ok (.getfield 213, 3) := by decide +kernel
theorem dX7_feed_80 : decode cX7_feed 80 = .ok (.iconst 1, 1) := by decide +kernel
theorem dX7_feed_81 : decode cX7_feed 81 = .ok (.iadd, 1) := by decide +kernel
theorem dX7_feed_82 : decode cX7_feed 82 = .ok (.putfield 213, 3) := by decide +kernel
theorem dX7_feed_85 : decode cX7_feed 85 = .ok (.iinc 4 1, 3) := by decide +kernel
theorem dX7_feed_88 : decode cX7_feed 88 = .ok (.goto (-70), 3) := by decide +kernel
theorem dX7_feed_91 : decode cX7_feed 91 = .ok (.aload_n 0, 1) := by decide +kernel
theorem dX7_feed_92 : decode cX7_feed 92 = .ok (.getfield 213, 3) := by decide +kernel
theorem dX7_feed_95 : decode cX7_feed 95 = .ok (.ireturn, 1) := by decide +kernel
theorem dX7_trim_0 : decode cX7_trim 0 = .ok (.iload_n 1, 1) := by decide +kernel
theorem dX7_trim_1 : decode cX7_trim 1 = .ok (.i2l, 1) := by decide +kernel
theorem dX7_trim_2 : decode cX7_trim 2 = .ok (.lconst 0, 1) := by decide +kernel
theorem dX7_trim_3 : decode cX7_trim 3 = .ok (.aload_n 0, 1) := by decide +kernel
theorem dX7_trim_4 : decode cX7_trim 4 = .ok (.getfield 213, 3) := by decide +kernel
theorem dX7_trim_7 : decode cX7_trim 7 = .ok (.i2l, 1) := by decide +kernel
theorem dX7_trim_8 : decode cX7_trim 8 = .ok (.invokestatic 68, 3) := by decide +kernel
theorem dX7_trim_11 : decode cX7_trim 11 = .ok (.ifCond .ne 6, 3) := by decide +kernel
theorem dX7_trim_14 : decode cX7_trim 14 = .ok (.ldc 87, 2) := by decide +kernel
theorem dX7_trim_16 : decode cX7_trim 16 = .ok (.ireturn, 1) := by decide +kernel
theorem dX7_trim_17 : decode cX7_trim 17 = .ok (.aload_n 0, 1) := by decide +kernel
theorem dX7_trim_18 : decode cX7_trim 18 = .ok (.iload_n 1, 1) := by decide +kernel
theorem dX7_trim_19 : decode cX7_trim 19 = .ok (.putfield 213, 3) := by decide +kernel
theorem dX7_trim_22 : decode cX7_trim 22 = .ok (.iload_n 1, 1) := by decide +kernel
theorem dX7_trim_23 : decode cX7_trim 23 = .ok (.ireturn, 1) := by decide +kernel
theorem dX7_isLetter_0 : decode cX7_isLetter 0 = .ok (.iload_n 1, 1) := by decide +kernel
theorem dX7_isLetter_1 : decode cX7_isLetter 1 = .ok (.aload_n 0, 1) := by decide +kernel
theorem dX7_isLetter_2 : decode cX7_isLetter 2 = .ok (.getfield 213, 3) := by decide +kernel
theorem dX7_isLetter_5 : decode cX7_isLetter 5 = .ok (.if_icmp .ge 26, 3) := by decide +kernel
theorem dX7_isLetter_8 : decode cX7_isLetter 8 = .ok (.aload_n 0, 1) := by decide +kernel
theorem dX7_isLetter_9 : decode cX7_isLetter 9 = .ok (.getfield 49, 3) := by decide +kernel
theorem dX7_isLetter_12 : decode cX7_isLetter 12 = .ok (.iload_n 1, 1) := by decide +kernel
theorem dX7_isLetter_13 : decode cX7_isLetter 13 = .ok (.iaload, 1) := by decide +kernel
theorem dX7_isLetter_14 : decode cX7_isLetter 14 = .ok (.i2l, 1) := by decide +kernel
theorem dX7_isLetter_15 : decode cX7_isLetter 15 = .ok (.ldc2_w 217, 3) := by decide +kernel
theorem dX7_isLetter_18 : decode cX7_isLetter 18 = .ok (.ldc2_w 219, 3) := by decide +kernel
theorem dX7_isLetter_21 : decode cX7_isLetter 21 = .ok (.invokestatic 68, 3) := by decide +kernel
theorem dX7_isLetter_24 : decode cX7_isLetter 24 = .ok (.ifCond .eq 7, 3) := by decide +kernel
theorem dX7_isLetter_27 : decode cX7_isLetter 27 = .ok (.iconst 1, 1) := by decide +kernel
theorem dX7_isLetter_28 : decode cX7_isLetter 28 = .ok (.goto 4, 3) := by decide +kernel
theorem dX7_isLetter_31 : decode cX7_isLetter 31 = .ok (.iconst 0, 1) := by decide +kernel
theorem dX7_isLetter_32 : decode cX7_isLetter 32 = .ok (.ireturn, 1) := by decide +kernel
theorem dX7_isDigit_0 : decode cX7_isDigit 0 = .ok (.iload_n 1, 1) := by decide +kernel
theorem dX7_isDigit_1 : decode cX7_isDigit 1 = .ok (.aload_n 0, 1) := by decide +kernel
theorem dX7_isDigit_2 : decode cX7_isDigit 2 = .ok (.getfield 213, 3) := by decide +kernel
theorem dX7_isDigit_5 : decode cX7_isDigit 5 = .ok (.if_icmp .ge 26, 3) := by decide +kernel
theorem dX7_isDigit_8 : decode cX7_isDigit 8 = .ok (.aload_n 0, 1) := by decide +kernel
theorem dX7_isDigit_9 : decode cX7_isDigit 9 = .ok (.getfield 49, 3) := by decide +kernel
theorem dX7_isDigit_12 : decode cX7_isDigit 12 = .ok (.iload_n 1, 1) := by decide +kernel
theorem dX7_isDigit_13 : decode cX7_isDigit 13 = .ok (.iaload, 1) := by decide +kernel
theorem dX7_isDigit_14 : decode cX7_isDigit 14 = .ok (.i2l, 1) := by decide +kernel
theorem dX7_isDigit_15 : decode cX7_isDigit 15 = .ok (.ldc2_w 221, 3) := by decide +kernel
theorem dX7_isDigit_18 : decode cX7_isDigit 18 = .ok (.ldc2_w 223, 3) := by decide +kernel
theorem dX7_isDigit_21 : decode cX7_isDigit 21 = .ok (.invokestatic 68, 3) := by decide +kernel
theorem dX7_isDigit_24 : decode cX7_isDigit 24 = .ok (.ifCond .eq 7, 3) := by decide +kernel
theorem dX7_isDigit_27 : decode cX7_isDigit 27 = .ok (.iconst 1, 1) := by decide +kernel
theorem dX7_isDigit_28 : decode cX7_isDigit 28 = .ok (.goto 4, 3) := by decide +kernel
theorem dX7_isDigit_31 : decode cX7_isDigit 31 = .ok (.iconst 0, 1) := by decide +kernel
theorem dX7_isDigit_32 : decode cX7_isDigit 32 = .ok (.ireturn, 1) := by decide +kernel
theorem dX7_nextToken_0 : decode cX7_nextToken 0 = .ok (.aload_n 0, 1) := by decide +kernel
theorem dX7_nextToken_1 : decode cX7_nextToken 1 = .ok (.getfield 225, 3) := by decide +kernel
theorem dX7_nextToken_4 : decode cX7_nextToken 4 = .ok (.ifCond .le 23, 3) := by decide +kernel
theorem dX7_nextToken_7 : decode cX7_nextToken 7 = .ok (.aload_n 0, 1) := by decide +kernel
theorem dX7_nextToken_8 : decode cX7_nextToken 8 = .ok (.getfield 228, 3) := by decide +kernel
theorem dX7_nextToken_11 : decode cX7_nextToken 11 = .ok (.iconst 1, 1) := by decide +kernel
theorem dX7_nextToken_12 : decode cX7_nextToken 12 = .ok (.if_icmp .eq 11, 3) := by decide +kernel
theorem dX7_nextToken_15 : decode cX7_nextToken 15 = .ok (.aload_n 0, 1) := by decide +kernel
theorem dX7_nextToken_16 : decode cX7_nextToken 16 = .ok (.getfield 228, 3) := by decide +kernel
theorem dX7_nextToken_19 : decode cX7_nextToken 19 = .ok (.iconst 2, 1) := by decide +kernel
theorem dX7_nextToken_20 : decode cX7_nextToken 20 = .ok (.if_icmp .ne 7, 3) := by decide +kernel
theorem dX7_nextToken_23 : decode cX7_nextToken 23 = .ok (.iconst 1, 1) := by decide +kernel
theorem dX7_nextToken_24 : decode cX7_nextToken 24 = .ok (.goto 4, 3) := by decide +kernel
theorem dX7_nextToken_27 : decode cX7_nextToken 27 = .ok (.iconst 0, 1) := by decide +kernel
theorem dX7_nextToken_28 : decode cX7_nextToken 28 = .ok (.istore_n 1, 1) := by decide +kernel
theorem dX7_nextToken_29 : decode cX7_nextToken 29 = .ok (.aload_n 0, 1) := by decide +kernel
theorem dX7_nextToken_30 : decode cX7_nextToken 30 = .ok (.getfield 225, 3) := by decide +kernel
theorem dX7_nextToken_33 : decode cX7_nextToken 33 = .ok (.istore_n 2, 1) := by decide +kernel
theorem dX7_nextToken_34 : decode cX7_nextToken 34 = .ok (.aload_n 0, 1) := by decide +kernel
theorem dX7_nextToken_35 : decode cX7_nextToken 35 = .ok (.getfield 225, 3) := by decide +kernel
theorem dX7_nextToken_38 : decode cX7_nextToken 38 = .ok (.aload_n 0, 1) := by decide +kernel
theorem dX7_nextToken_39 : decode cX7_nextToken 39 = .ok (.getfield 213, 3) := by decide +kernel
theorem dX7_nextToken_42 : decode cX7_nextToken 42 = .ok (.if_icmp .ge 30, 3) := by decide +kernel
theorem dX7_nextToken_45 : decode cX7_nextToken 45 = .ok (.aload_n 0, 1) := by decide +kernel
theorem dX7_nextToken_46 : decode cX7_nextToken 46 = .ok (.getfield 49, 3) := by decide +kernel
theorem dX7_nextToken_49 : decode cX7_nextToken 49 = .ok (.aload_n 0, 1) := by decide +kernel
theorem dX7_nextToken_50 : decode cX7_nextToken 50 = .ok (.getfield 225, 3) := by decide +kernel
theorem dX7_nextToken_53 : decode cX7_nextToken 53 = .ok (.iaload, 1) := by decide +kernel
theorem dX7_nextToken_54 : decode cX7_nextToken 54 = .ok (.bipush 32, 2) := by decide +kernel
theorem dX7_nextToken_56 : decode cX7_nextToken 56 = .ok (.if_icmp .ne 16, 3) := by decide +kernel
theorem dX7_nextToken_59 : decode cX7_nextToken 59 = .ok (.aload_n 0, 1) := by decide +kernel
theorem dX7_nextToken_60 : decode cX7_nextToken 60 = .ok (.dup, 1) := by decide +kernel
theorem dX7_nextToken_61 : decode cX7_nextToken 61 = .ok (.getfield 225, 3) := by decide +kernel
theorem dX7_nextToken_64 : decode cX7_nextToken 64 = .ok (.iconst 1, 1) := by decide +kernel
theorem dX7_nextToken_65 : decode cX7_nextToken 65 = .ok (.iadd, 1) := by decide +kernel
theorem dX7_nextToken_66 : decode cX7_nextToken 66 = .ok (.putfield 225, 3) := by decide +kernel
theorem dX7_nextToken_69 : decode cX7_nextToken 69 = .ok (.goto (-35), 3) := by decide +kernel
theorem dX7_nextToken_72 : decode cX7_nextToken 72 = .ok (.iload_n 1, 1) := by decide +kernel
theorem dX7_nextToken_73 : decode cX7_nextToken 73 = .ok (.ifCond .eq 15, 3) := by decide +kernel
theorem dX7_nextToken_76 : decode cX7_nextToken 76 = .ok (.iload_n 2, 1) := by decide +kernel
theorem dX7_nextToken_77 : decode cX7_nextToken 77 = .ok (.aload_n 0, 1) := by decide +kernel
theorem dX7_nextToken_78 : decode cX7_nextToken 78 = .ok (.getfield 225, 3) := by decide +kernel
theorem dX7_nextToken_81 : decode cX7_nextToken 81 = .ok (.if_icmp .ne 7, 3) := by decide +kernel
theorem dX7_nextToken_84 : decode cX7_nextToken 84 = .ok (.iconst 1, 1) := by decide +kernel
theorem dX7_nextToken_85 : decode cX7_nextToken 85 = .ok (.goto 4, 3) := by decide +kernel
theorem dX7_nextToken_88 : decode cX7_nextToken 88 = .ok (.iconst 0, 1) := by decide +kernel
theorem dX7_nextToken_89 : decode cX7_nextToken 89 = .ok (.istore_n 1, 1) := by decide +kernel
theorem dX7_nextToken_90 : decode cX7_nextToken 90 = .ok (.aload_n 0, 1) := by decide +kernel
theorem dX7_nextToken_91 : decode cX7_nextToken 91 = .ok (.aload_n 0, 1) := by decide +kernel
theorem dX7_nextToken_92 : decode cX7_nextToken 92 = .ok (.getfield 225, 3) := by decide +kernel
theorem dX7_nextToken_95 : decode cX7_nextToken 95 = .ok (.putfield 231, 3) := by decide +kernel
theorem dX7_nextToken_98 : decode cX7_nextToken 98 = .ok (.aload_n 0, 1) := by decide +kernel
theorem dX7_nextToken_99 : decode cX7_nextToken 99 = .ok (.getfield 231, 3) := by decide +kernel
theorem dX7_nextToken_102 : decode cX7_nextToken 102 = .ok (.aload_n 0, 1) := by decide +kernel
theorem dX7_nextToken_103 : decode cX7_nextToken 103 = .ok (.getfield 213, 3) := by decide +kernel
theorem dX7_nextToken_106 : decode cX7_nextToken 106 = .ok (.if_icmp .ne 11, 3) := by decide +kernel
theorem dX7_nextToken_109 : decode cX7_nextToken 109 = .ok (.aload_n 0, 1) := by decide +kernel
theorem dX7_nextToken_110 : decode cX7_nextToken 110 = .ok (.iconst 0, 1) := by decide +kernel
theorem dX7_nextToken_111 : decode cX7_nextToken 111 = .ok (.putfield 228, 3) := by decide +kernel
theorem dX7_nextToken_114 : decode cX7_nextToken 114 = .ok (.goto 225, 3) := by decide +kernel
theorem dX7_nextToken_117 : decode cX7_nextToken 117 = .ok (.aload_n 0, 1) := by decide +kernel
theorem dX7_nextToken_118 : decode cX7_nextToken 118 = .ok (.aload_n 0, 1) := by decide +kernel
theorem dX7_nextToken_119 : decode cX7_nextToken 119 = .ok (.getfield 231, 3) := by decide +kernel
theorem dX7_nextToken_122 : decode cX7_nextToken 122 = .ok (.invokevirtual 234, 3) := by decide +kernel
theorem dX7_nextToken_125 : decode cX7_nextToken 125 = .ok (.ifCond .eq 73, 3) := by decide +kernel
theorem dX7_nextToken_128 : decode cX7_nextToken 128 = .ok (.aload_n 0, 1) := by decide +kernel
theorem dX7_nextToken_129 : decode cX7_nextToken 129 = .ok (.aload_n 0, 1) := by decide +kernel
theorem dX7_nextToken_130 : decode cX7_nextToken 130 = .ok (.getfield 225, 3) := by decide +kernel
theorem dX7_nextToken_133 : decode cX7_nextToken 133 = .ok (.invokevirtual 234, 3) := by decide +kernel
theorem dX7_nextToken_136 : decode cX7_nextToken 136 = .ok (.ifCond .eq 16, 3) := by decide +kernel
theorem dX7_nextToken_139 : decode cX7_nextToken 139 = .ok (.aload_n 0, 1) := by decide +kernel
theorem dX7_nextToken_140 : decode cX7_nextToken 140 = .ok (.dup, 1) := by decide +kernel
theorem dX7_nextToken_141 : decode cX7_nextToken 141 = .ok (.getfield 225, 3) := by decide +kernel
theorem dX7_nextToken_144 : decode cX7_nextToken 144 = .ok (.iconst 1, 1) := by decide +kernel
theorem dX7_nextToken_145 : decode cX7_nextToken 145 = .ok (.iadd, 1) := by decide +kernel
theorem dX7_nextToken_146 : decode cX7_nextToken 146 = .ok (.putfield 225, 3) := by decide +kernel
theorem dX7_nextToken_149 : decode cX7_nextToken 149 = .ok (.goto (-21), 3) := by decide +kernel
theorem dX7_nextToken_152 : decode cX7_nextToken 152 = .ok (.aload_n 0, 1) := by decide +kernel
theorem dX7_nextToken_153 : decode cX7_nextToken 153 = .ok (.iload_n 1, 1) := by decide +kernel
theorem dX7_nextToken_154 : decode cX7_nextToken 154 = .ok (.ifCond .eq 7, 3) := by decide +kernel
theorem dX7_nextToken_157 : decode cX7_nextToken 157 = .ok (.iconst 4, 1) := by decide +kernel
theorem dX7_nextToken_158 : decode cX7_nextToken 158 = .ok (.goto 4, 3) := by decide +kernel
theorem dX7_nextToken_161 : decode cX7_nextToken 161 = .ok (.iconst 1, 1) := by decide +kernel
theorem dX7_nextToken_162 : decode cX7_nextToken 162 = .ok (.putfield 228, 3) := by decide +kernel
theorem dX7_nextToken_165 : decode cX7_nextToken 165 = .ok (.aload_n 0, 1) := by decide +kernel
theorem dX7_nextToken_166 : decode cX7_nextToken 166 = .ok (.aload_n 0, 1) := by decide +kernel
theorem dX7_nextToken_167 : decode cX7_nextToken 167 = .ok (.getfield 225, 3) := by decide +kernel
theorem dX7_nextToken_170 : decode cX7_nextToken 170 = .ok (.aload_n 0, 1) := by decide +kernel
theorem dX7_nextToken_171 : decode cX7_nextToken 171 = .ok (.getfield 231, 3) := by decide +kernel
theorem dX7_nextToken_174 : decode cX7_nextToken 174 = .ok (.isub, 1) := by decide +kernel
theorem dX7_nextToken_175 : decode cX7_nextToken 175 = .ok (.iconst 1, 1) := by decide +kernel
theorem dX7_nextToken_176 : decode cX7_nextToken 176 = .ok (.if_icmp .ne 15, 3) := by decide +kernel
theorem dX7_nextToken_179 : decode cX7_nextToken 179 = .ok (.aload_n 0, 1) := by decide +kernel
theorem dX7_nextToken_180 : decode cX7_nextToken 180 = .ok (.getfield 49, 3) := by decide +kernel
theorem dX7_nextToken_183 : decode cX7_nextToken 183 = .ok (.aload_n 0, 1) := by decide +kernel
theorem dX7_nextToken_184 : decode cX7_nextToken 184 = .ok (.getfield 231, 3) := by decide +kernel
theorem dX7_nextToken_187 : decode cX7_nextToken 187 = .ok (.iaload, 1) := by decide +kernel
theorem dX7_nextToken_188 : decode cX7_nextToken 188 = .ok (.goto 4, 3) := by decide +kernel
theorem dX7_nextToken_191 : decode cX7_nextToken 191 = .ok (.iconst 0, 1) := by decide +kernel
theorem dX7_nextToken_192 : decode cX7_nextToken 192 = .ok (.putfield 237, 3) := by decide +kernel
theorem dX7_nextToken_195 : decode cX7_nextToken 195 = .ok (.goto 144, 3) := by decide +kernel
theorem dX7_nextToken_198 : decode cX7_nextToken 198 = .ok (.aload_n 0, 1) := by decide +kernel
theorem dX7_nextToken_199 : decode cX7_nextToken 199 = .ok (.aload_n 0, 1) := by decide +kernel
theorem dX7_nextToken_200 : decode cX7_nextToken 200 = .ok (.getfield 231, 3) := by decide +kernel
theorem dX7_nextToken_203 : decode cX7_nextToken 203 = .ok (.invokevirtual 240, 3) := by decide +kernel
theorem dX7_nextToken_206 : decode cX7_nextToken 206 = .ok (.ifCond .eq 105, 3) := by decide +kernel
theorem dX7_nextToken_209 : decode cX7_nextToken 209 = .ok (.aload_n 0, 1) := by decide +kernel
theorem dX7_nextToken_210 : decode cX7_nextToken 210 = .ok (.iconst 0, 1) := by decide +kernel
theorem dX7_nextToken_211 : decode cX7_nextToken 211 = .ok (.putfield 243, 3) := by decide +kernel
theorem dX7_nextToken_214 : decode cX7_nextToken 214 = .ok (.aload_n 0, 1) := by decide +kernel
theorem dX7_nextToken_215 : decode cX7_nextToken 215 = .ok (.aload_n 0, 1) := by decide +kernel
theorem dX7_nextToken_216 : decode cX7_nextToken 216 = .ok (.getfield 225, 3) := by decide +kernel
theorem dX7_nextToken_219 : decode cX7_nextToken 219 = .ok (.invokevirtual 240, 3) := by decide +kernel
theorem dX7_nextToken_222 : decode cX7_nextToken 222 = .ok (.ifCond .eq 60, 3) := by decide +kernel
theorem dX7_nextToken_225 : decode cX7_nextToken 225 = .ok (.aload_n 0, 1) := by decide +kernel
theorem dX7_nextToken_226 : decode cX7_nextToken 226 = .ok (.aload_n 0, 1) := by decide +kernel
theorem dX7_nextToken_227 : decode cX7_nextToken 227 = .ok (.getfield 225, 3) := by decide +kernel
theorem dX7_nextToken_230 : decode cX7_nextToken 230 = .ok (.aload_n 0, 1) := by decide +kernel
theorem dX7_nextToken_231 : decode cX7_nextToken 231 = .ok (.getfield 231, 3) := by decide +kernel
theorem dX7_nextToken_234 : decode cX7_nextToken 234 = .ok (.isub, 1) := by decide +kernel
theorem dX7_nextToken_235 : decode cX7_nextToken 235 = .ok (.iconst 4, 1) := by decide +kernel
theorem dX7_nextToken_236 : decode cX7_nextToken 236 = .ok (.if_icmp .ge 26, 3) := by decide +kernel
theorem dX7_nextToken_239 : decode cX7_nextToken 239 = .ok (.bipush 10, 2) := by decide +kernel
theorem dX7_nextToken_241 : decode cX7_nextToken 241 = .ok (.aload_n 0, 1) := by decide +kernel
theorem dX7_nextToken_242 : decode cX7_nextToken 242 = .ok (.getfield 243, 3) := by decide +kernel
theorem dX7_nextToken_245 : decode cX7_nextToken 245 = .ok (.imul, 1) := by decide +kernel
theorem dX7_nextToken_246 : decode cX7_nextToken 246 = .ok (.aload_n 0, 1) := by decide +kernel
theorem dX7_nextToken_247 : decode cX7_nextToken 247 = .ok (.getfield 49, 3) := by decide +kernel
theorem dX7_nextToken_250 : decode cX7_nextToken 250 = .ok (.aload_n 0, 1) := by decide +kernel
theorem dX7_nextToken_251 : decode cX7_nextToken 251 = .ok (.getfield 225, 3) := by decide +kernel
theorem dX7_nextToken_254 : decode cX7_nextToken 254 = .ok (.iaload, 1) := by decide +kernel
theorem dX7_nextToken_255 : decode cX7_nextToken 255 = .ok (.iadd, 1) := by decide +kernel
theorem dX7_nextToken_256 : decode cX7_nextToken 256 = .ok (.bipush 48, 2) := by decide +kernel
theorem dX7_nextToken_258 : decode cX7_nextToken 258 = .ok (.isub, 1) := by decide +kernel
theorem dX7_nextToken_259 : decode cX7_nextToken 259 = .ok (.goto 7, 3) := by decide +kernel
theorem dX7_nextToken_262 : decode cX7_nextToken 262 = .ok (.aload_n 0, 1) := by decide +kernel
theorem dX7_nextToken_263 : decode cX7_nextToken 263 = .ok (.getfield 243, 3) := by decide +kernel
theorem dX7_nextToken_266 : decode cX7_nextToken 266 = .ok (.putfield 243, 3) := by decide +kernel
theorem dX7_nextToken_269 : decode cX7_nextToken 269 = .ok (.aload_n 0, 1) := by decide +kernel
theorem dX7_nextToken_270 : decode cX7_nextToken 270 = .ok (.dup, 1) := by decide +kernel
theorem dX7_nextToken_271 : decode cX7_nextToken 271 = .ok (.getfield 225, 3) := by decide +kernel
theorem dX7_nextToken_274 : decode cX7_nextToken 274 = .ok (.iconst 1, 1) := by decide +kernel
theorem dX7_nextToken_275 : decode cX7_nextToken 275 = .ok (.iadd, 1) := by decide +kernel
theorem dX7_nextToken_276 : decode cX7_nextToken 276 = .ok (.putfield 225, 3) := by decide +kernel
theorem dX7_nextToken_279 : decode cX7_nextToken 279 = .ok (.goto (-65), 3) := by decide +kernel
theorem dX7_nextToken_282 : decode cX7_nextToken 282 = .ok (.aload_n 0, 1) := by decide +kernel
theorem dX7_nextToken_283 : decode cX7_nextToken 283 = .ok (.iload_n 1, 1) := by decide +kernel
theorem dX7_nextToken_284 : decode cX7_nextToken 284 = .ok (.ifCond .ne 16, 3) := by decide +kernel
theorem dX7_nextToken_287 : decode cX7_nextToken 287 = .ok (.aload_n 0, 1) := by decide +kernel
theorem dX7_nextToken_288 : decode cX7_nextToken 288 = .ok (.getfield 225, 3) := by decide +kernel
theorem dX7_nextToken_291 : decode cX7_nextToken 291 = .ok (.aload_n 0, 1) := by decide +kernel
theorem dX7_nextToken_292 : decode cX7_nextToken 292 = .ok (.getfield 231, 3) := by decide +kernel
theorem dX7_nextToken_295 : decode cX7_nextToken 295 = .ok (.isub, 1) := by decide +kernel
theorem dX7_nextToken_296 : decode cX7_nextToken 296 = .ok (.iconst 4, 1) := by decide +kernel
theorem dX7_nextToken_297 : decode cX7_nextToken 297 = .ok (.if_icmp .le 7, 3) := by decide +kernel
theorem dX7_nextToken_300 : decode cX7_nextToken 300 = .ok (.iconst 4, 1) := by decide +kernel
theorem dX7_nextToken_301 : decode cX7_nextToken 301 = .ok (.goto 4, 3) := by decide +kernel
theorem dX7_nextToken_304 : decode cX7_nextToken 304 = .ok (.iconst 2, 1) := by decide +kernel
theorem dX7_nextToken_305 : decode cX7_nextToken 305 = .ok (.putfield 228, 3) := by decide +kernel
theorem dX7_nextToken_308 : decode cX7_nextToken 308 = .ok (.goto 31, 3) := by decide +kernel
theorem dX7_nextToken_311 : decode cX7_nextToken 311 = .ok (.aload_n 0, 1) := by decide +kernel
theorem dX7_nextToken_312 : decode cX7_nextToken 312 = .ok (.iconst 3, 1) := by decide +kernel
theorem dX7_nextToken_313 : decode cX7_nextToken 313 = .ok (.putfield 228, 3) := by decide +kernel
theorem dX7_nextToken_316 : decode cX7_nextToken 316 = .ok (.aload_n 0, 1) := by decide +kernel
theorem dX7_nextToken_317 : decode cX7_nextToken 317 = .ok (.aload_n 0, 1) := by decide +kernel
theorem dX7_nextToken_318 : decode cX7_nextToken 318 = .ok (.getfield 49, 3) := by decide +kernel
theorem dX7_nextToken_321 : decode cX7_nextToken 321 = .ok (.aload_n 0, 1) := by decide +kernel
theorem dX7_nextToken_322 : decode cX7_nextToken 322 = .ok (.getfield 231, 3) := by decide +kernel
theorem dX7_nextToken_325 : decode cX7_nextToken 325 = .ok (.iaload, 1) := by decide +kernel
theorem dX7_nextToken_326 : decode cX7_nextToken 326 = .ok (.putfield 237, 3) := by decide +kernel
theorem dX7_nextToken_329 : decode cX7_nextToken 329 = .ok (.aload_n 0, 1) := by decide +kernel
theorem dX7_nextToken_330 : decode cX7_nextToken 330 = .ok (.dup, 1) := by decide +kernel
theorem dX7_nextToken_331 : decode cX7_nextToken 331 = .ok (.getfield 225, 3) := by decide +kernel
theorem dX7_nextToken_334 : decode cX7_nextToken 334 = .ok (.iconst 1, 1) := by decide +kernel
theorem dX7_nextToken_335 : decode cX7_nextToken 335 = .ok (.iadd, 1) := by decide +kernel
theorem dX7_nextToken_336 : decode cX7_nextToken 336 = .ok (.putfield 225, 3) := by decide +kernel
theorem dX7_nextToken_339 : decode cX7_nextToken 339 = .ok (.return_, 1) := by decide +kernel
theorem dX7_isSign_0 : decode cX7_isSign 0 = .ok (.aload_n 0, 1) := by decide +kernel
theorem dX7_isSign_1 : decode cX7_isSign 1 = .ok (.getfield 228, 3) := by decide +kernel
theorem dX7_isSign_4 : decode cX7_isSign 4 = .ok (.iconst 3, 1) := by decide +kernel
theorem dX7_isSign_5 : decode cX7_isSign 5 = .ok (.if_icmp .ne 15, 3) := by decide +kernel
theorem dX7_isSign_8 : decode cX7_isSign 8 = .ok (.aload_n 0, 1) := by decide +kernel
theorem dX7_isSign_9 : decode cX7_isSign 9 = .ok (.getfield 237, 3) := by decide +kernel
theorem dX7_isSign_12 : decode cX7_isSign 12 = .ok (.iload_n 1, 1) := by decide +kernel
theorem dX7_isSign_13 : decode cX7_isSign 13 = .ok (.if_icmp .ne 7, 3) := by decide +kernel
theorem dX7_isSign_16 : decode cX7_isSign 16 = .ok (.iconst 1, 1) := by decide +kernel
theorem dX7_isSign_17 : decode cX7_isSign 17 = .ok (.goto 4, 3) := by decide +kernel
theorem dX7_isSign_20 : decode cX7_isSign 20 = .ok (.iconst 0, 1) := by decide +kernel
theorem dX7_isSign_21 : decode cX7_isSign 21 = .ok (.ireturn, 1) := by decide +kernel
theorem dX7_isWordAt_0 : decode cX7_isWordAt 0 = .ok (.iload 4, 2) := by decide +kernel
theorem dX7_isWordAt_2 : decode cX7_isWordAt 2 = .ok (.ifCond .ne 7, 3) := by decide +kernel
theorem dX7_isWordAt_5 : decode cX7_isWordAt 5 = .ok (.iconst 3, 1) := by decide +kernel
theorem dX7_isWordAt_6 : decode cX7_isWordAt 6 = .ok (.goto 4, 3) := by decide +kernel
theorem dX7_isWordAt_9 : decode cX7_isWordAt 9 = .ok (.iconst 4, 1) := by decide +kernel
theorem dX7_isWordAt_10 : decode cX7_isWordAt 10 = .ok (.istore 5, 2) := by decide +kernel
theorem dX7_isWordAt_12 : decode cX7_isWordAt 12 = .ok (.aload_n 0, 1) := by decide +kernel
theorem dX7_isWordAt_13 : decode cX7_isWordAt 13 = .ok (.getfield 228, 3) := by decide +kernel
theorem dX7_isWordAt_16 : decode cX7_isWordAt 16 = .ok (.iconst 1, 1) := by decide +kernel
theorem dX7_isWordAt_17 : decode cX7_isWordAt 17 = .ok (.if_icmp .ne 85, 3) := by decide +kernel
theorem dX7_isWordAt_20 : decode cX7_isWordAt 20 = .ok (.aload_n 0, 1) := by decide +kernel
theorem dX7_isWordAt_21 : decode cX7_isWordAt 21 = .ok (.getfield 225, 3) := by decide +kernel
theorem dX7_isWordAt_24 : decode cX7_isWordAt 24 = .ok (.aload_n 0, 1) := by decide +kernel
theorem dX7_isWordAt_25 : decode cX7_isWordAt 25 = .ok (.getfield 231, 3) := by decide +kernel
theorem dX7_isWordAt_28 : decode cX7_isWordAt 28 = .ok (.isub, 1) := by decide +kernel
theorem dX7_isWordAt_29 : decode cX7_isWordAt 29 = .ok (.iload 5, 2) := by decide +kernel
theorem dX7_isWordAt_31 : decode cX7_isWordAt 31 = .ok (.if_icmp .ne 71, 3) := by decide +kernel
theorem dX7_isWordAt_34 : decode cX7_isWordAt 34 = .ok (.aload_n 0, 1) := by decide +kernel
theorem dX7_isWordAt_35 : decode cX7_isWordAt 35 = .ok (.getfield 49, 3) := by decide +kernel
theorem dX7_isWordAt_38 : decode cX7_isWordAt 38 = .ok (.aload_n 0, 1) := by decide +kernel
theorem dX7_isWordAt_39 : decode cX7_isWordAt 39 = .ok (.getfield 231, 3) := by decide +kernel
theorem dX7_isWordAt_42 : decode cX7_isWordAt 42 = .ok (.iaload, 1) := by decide +kernel
theorem dX7_isWordAt_43 : decode cX7_isWordAt 43 = .ok (.iload_n 1, 1) := by decide +kernel
theorem dX7_isWordAt_44 : decode cX7_isWordAt 44 = .ok (.if_icmp .ne 58, 3) := by decide +kernel
theorem dX7_isWordAt_47 : decode cX7_isWordAt 47 = .ok (.aload_n 0, 1) := by decide +kernel
theorem dX7_isWordAt_48 : decode cX7_isWordAt 48 = .ok (.getfield 49, 3) := by decide +kernel
theorem dX7_isWordAt_51 : decode cX7_isWordAt 51 = .ok (.aload_n 0, 1) := by decide +kernel
theorem dX7_isWordAt_52 : decode cX7_isWordAt 52 = .ok (.getfield 231, 3) := by decide +kernel
theorem dX7_isWordAt_55 : decode cX7_isWordAt 55 = .ok (.iconst 1, 1) := by decide +kernel
theorem dX7_isWordAt_56 : decode cX7_isWordAt 56 = .ok (.iadd, 1) := by decide +kernel
theorem dX7_isWordAt_57 : decode cX7_isWordAt 57 = .ok (.iaload, 1) := by decide +kernel
theorem dX7_isWordAt_58 : decode cX7_isWordAt 58 = .ok (.iload_n 2, 1) := by decide +kernel
theorem dX7_isWordAt_59 : decode cX7_isWordAt 59 = .ok (.if_icmp .ne 43, 3) := by decide +kernel
theorem dX7_isWordAt_62 : decode cX7_isWordAt 62 = .ok (.aload_n 0, 1) := by decide +kernel
theorem dX7_isWordAt_63 : decode cX7_isWordAt 63 = .ok (.getfield 49, 3) := by decide +kernel
theorem dX7_isWordAt_66 : decode cX7_isWordAt 66 = .ok (.aload_n 0, 1) := by decide +kernel
theorem dX7_isWordAt_67 : decode cX7_isWordAt 67 = .ok (.getfield 231, 3) := by decide +kernel
theorem dX7_isWordAt_70 : decode cX7_isWordAt 70 = .ok (.iconst 2, 1) := by decide +kernel
