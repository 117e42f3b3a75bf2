theorem dQ_init_0 : decode cQ_init 0 = .ok (.aload_n 0, 1) := by decide +kernel
theorem dQ_init_1 : decode cQ_init 1 = .ok (.invokespecial 5, 3) := by decide +kernel
theorem dQ_init_4 : decode cQ_init 4 = .ok (.aload_n 0, 1) := by decide +kernel
theorem dQ_init_5 : decode cQ_init 5 = .ok (.aload_n 1, 1) := by decide +kernel
theorem dQ_init_6 : decode cQ_init 6 = .ok (.putfield 11, 3) := by decide +kernel
theorem dQ_init_9 : decode cQ_init 9 = .ok (.aload_n 0, 1) := by decide +kernel
theorem dQ_init_10 : decode cQ_init 10 = .ok (.aload_n 2, 1) := by decide +kernel
theorem dQ_init_11 : decode cQ_init 11 = .ok (.putfield 15, 3) := by decide +kernel
theorem dQ_init_14 : decode cQ_init 14 = .ok (.aload_n 0, 1) := by decide +kernel
theorem dQ_init_15 : decode cQ_init 15 = .ok (.aload_n 3, 1) := by decide +kernel
theorem dQ_init_16 : decode cQ_init 16 = .ok (.putfield 19, 3) := by decide +kernel
theorem dQ_init_19 : decode cQ_init 19 = .ok (.aload_n 0, 1) := by decide +kernel
theorem dQ_init_20 : decode cQ_init 20 = .ok (.sipush 1875, 3) := by decide +kernel
theorem dQ_init_23 : decode cQ_init 23 = .ok (.newarray .long, 2) := by decide +kernel
theorem dQ_init_25 : decode cQ_init 25 = .ok (.putfield 25, 3) := by decide +kernel
theorem dQ_init_28 : decode cQ_init 28 = .ok (.aload_n 0, 1) := by decide +kernel
theorem dQ_init_29 : decode cQ_init 29 = .ok (.bipush 25, 2) := by decide +kernel
theorem dQ_init_31 : decode cQ_init 31 = .ok (.newarray .long, 2) := by decide +kernel
theorem dQ_init_33 : decode cQ_init 33 = .ok (.putfield 29, 3) := by decide +kernel
theorem dQ_init_36 : decode cQ_init 36 = .ok (.aload_n 0, 1) := by decide +kernel
theorem dQ_init_37 : decode cQ_init 37 = .ok (.bipush 16, 2) := by decide +kernel
theorem dQ_init_39 : decode cQ_init 39 = .ok (.newarray .int, 2) := by decide +kernel
theorem dQ_init_41 : decode cQ_init 41 = .ok (.putfield 32, 3) := by decide +kernel
theorem dQ_init_44 : decode cQ_init 44 = .ok (.aload_n 0, 1) := by decide +kernel
theorem dQ_init_45 : decode cQ_init 45 = .ok (.bipush 16, 2) := by decide +kernel
theorem dQ_init_47 : decode cQ_init 47 = .ok (.newarray .long, 2) := by decide +kernel
theorem dQ_init_49 : decode cQ_init 49 = .ok (.putfield 36, 3) := by decide +kernel
theorem dQ_init_52 : decode cQ_init 52 = .ok (.aload_n 0, 1) := by decide +kernel
theorem dQ_init_53 : decode cQ_init 53 = .ok (.ldc2_w 41, 3) := by decide +kernel
theorem dQ_init_56 : decode cQ_init 56 = .ok (.putfield 43, 3) := by decide +kernel
theorem dQ_init_59 : decode cQ_init 59 = .ok (.return_, 1) := by decide +kernel
theorem dQ_placesAfter_0 : decode cQ_placesAfter 0 = .ok (.aload_n 0, 1) := by decide +kernel
theorem dQ_placesAfter_1 : decode cQ_placesAfter 1 = .ok (.getfield 32, 3) := by decide +kernel
theorem dQ_placesAfter_4 : decode cQ_placesAfter 4 = .ok (.iload_n 1, 1) := by decide +kernel
theorem dQ_placesAfter_5 : decode cQ_placesAfter 5 = .ok (.iaload, 1) := by decide +kernel
theorem dQ_placesAfter_6 : decode cQ_placesAfter 6 = .ok (.ireturn, 1) := by decide +kernel
theorem dQ_leastAfter_0 : decode cQ_leastAfter 0 = .ok (.aload_n 0, 1) := by decide +kernel
theorem dQ_leastAfter_1 : decode cQ_leastAfter 1 = .ok (.getfield 36, 3) := by decide +kernel
theorem dQ_leastAfter_4 : decode cQ_leastAfter 4 = .ok (.iload_n 1, 1) := by decide +kernel
theorem dQ_leastAfter_5 : decode cQ_leastAfter 5 = .ok (.laload, 1) := by decide +kernel
theorem dQ_leastAfter_6 : decode cQ_leastAfter 6 = .ok (.lreturn, 1) := by decide +kernel
theorem dQ_wholePath_0 : decode cQ_wholePath 0 = .ok (.aload_n 0, 1) := by decide +kernel
theorem dQ_wholePath_1 : decode cQ_wholePath 1 = .ok (.getfield 43, 3) := by decide +kernel
theorem dQ_wholePath_4 : decode cQ_wholePath 4 = .ok (.lreturn, 1) := by decide +kernel
theorem dQ_run_0 : decode cQ_run 0 = .ok (.aload_n 0, 1) := by decide +kernel
theorem dQ_run_1 : decode cQ_run 1 = .ok (.getfield 25, 3) := by decide +kernel
theorem dQ_run_4 : decode cQ_run 4 = .ok (.ldc2_w 41, 3) := by decide +kernel
theorem dQ_run_7 : decode cQ_run 7 = .ok (.invokestatic 47, 3) := by decide +kernel
theorem dQ_run_10 : decode cQ_run 10 = .ok (.aload_n 0, 1) := by decide +kernel
theorem dQ_run_11 : decode cQ_run 11 = .ok (.getfield 29, 3) := by decide +kernel
theorem dQ_run_14 : decode cQ_run 14 = .ok (.ldc2_w 41, 3) := by decide +kernel
theorem dQ_run_17 : decode cQ_run 17 = .ok (.invokestatic 47, 3) := by decide +kernel
theorem dQ_run_20 : decode cQ_run 20 = .ok (.aload_n 0, 1) := by decide +kernel
theorem dQ_run_21 : decode cQ_run 21 = .ok (.getfield 29, 3) := by decide +kernel
theorem dQ_run_24 : decode cQ_run 24 = .ok (.iconst 4, 1) := by decide +kernel
theorem dQ_run_25 : decode cQ_run 25 = .ok (.iconst 4, 1) := by decide +kernel
theorem dQ_run_26 : decode cQ_run 26 = .ok (.invokestatic 53, 3) := by decide +kernel
theorem dQ_run_29 : decode cQ_run 29 = .ok (.lconst 0, 1) := by decide +kernel
theorem dQ_run_30 : decode cQ_run 30 = .ok (.lastore, 1) := by decide +kernel
theorem dQ_run_31 : decode cQ_run 31 = .ok (.iconst 0, 1) := by decide +kernel
theorem dQ_run_32 : decode cQ_run 32 = .ok (.istore_n 1, 1) := by decide +kernel
theorem dQ_run_33 : decode cQ_run 33 = .ok (.iload_n 1, 1) := by decide +kernel
theorem dQ_run_34 : decode cQ_run 34 = .ok (.aload_n 0, 1) := by decide +kernel
theorem dQ_run_35 : decode cQ_run 35 = .ok (.getfield 19, 3) := by decide +kernel
theorem dQ_run_38 : decode cQ_run 38 = .ok (.invokevirtual 57, 3) := by decide +kernel
theorem dQ_run_41 : decode cQ_run 41 = .ok (.if_icmp .ge 65, 3) := by decide +kernel
theorem dQ_run_44 : decode cQ_run 44 = .ok (.iconst 0, 1) := by decide +kernel
theorem dQ_run_45 : decode cQ_run 45 = .ok (.istore_n 2, 1) := by decide +kernel
theorem dQ_run_46 : decode cQ_run 46 = .ok (.iload_n 2, 1) := by decide +kernel
theorem dQ_run_47 : decode cQ_run 47 = .ok (.bipush 25, 2) := by decide +kernel
theorem dQ_run_49 : decode cQ_run 49 = .ok (.if_icmp .ge 15, 3) := by decide +kernel
theorem dQ_run_52 : decode cQ_run 52 = .ok (.aload_n 0, 1) := by decide +kernel
theorem dQ_run_53 : decode cQ_run 53 = .ok (.iload_n 1, 1) := by decide +kernel
theorem dQ_run_54 : decode cQ_run 54 = .ok (.iload_n 2, 1) := by decide +kernel
theorem dQ_run_55 : decode cQ_run 55 = .ok (.invokevirtual 63, 3) := by decide +kernel
theorem dQ_run_58 : decode cQ_run 58 = .ok (.iinc 2 1, 3) := by decide +kernel
theorem dQ_run_61 : decode cQ_run 61 = .ok (.goto (-15), 3) := by decide +kernel
theorem dQ_run_64 : decode cQ_run 64 = .ok (.aload_n 0, 1) := by decide +kernel
theorem dQ_run_65 : decode cQ_run 65 = .ok (.getfield 29, 3) := by decide +kernel
theorem dQ_run_68 : decode cQ_run 68 = .ok (.ldc2_w 41, 3) := by decide +kernel
theorem dQ_run_71 : decode cQ_run 71 = .ok (.invokestatic 47, 3) := by decide +kernel
theorem dQ_run_74 : decode cQ_run 74 = .ok (.iconst 0, 1) := by decide +kernel
theorem dQ_run_75 : decode cQ_run 75 = .ok (.istore_n 2, 1) := by decide +kernel
theorem dQ_run_76 : decode cQ_run 76 = .ok (.iload_n 2, 1) := by decide +kernel
theorem dQ_run_77 : decode cQ_run 77 = .ok (.bipush 25, 2) := by decide +kernel
theorem dQ_run_79 : decode cQ_run 79 = .ok (.if_icmp .ge 14, 3) := by decide +kernel
theorem dQ_run_82 : decode cQ_run 82 = .ok (.aload_n 0, 1) := by decide +kernel
theorem dQ_run_83 : decode cQ_run 83 = .ok (.iload_n 2, 1) := by decide +kernel
theorem dQ_run_84 : decode cQ_run 84 = .ok (.invokevirtual 67, 3) := by decide +kernel
theorem dQ_run_87 : decode cQ_run 87 = .ok (.iinc 2 1, 3) := by decide +kernel
theorem dQ_run_90 : decode cQ_run 90 = .ok (.goto (-14), 3) := by decide +kernel
theorem dQ_run_93 : decode cQ_run 93 = .ok (.aload_n 0, 1) := by decide +kernel
theorem dQ_run_94 : decode cQ_run 94 = .ok (.iload_n 1, 1) := by decide +kernel
theorem dQ_run_95 : decode cQ_run 95 = .ok (.iconst 1, 1) := by decide +kernel
theorem dQ_run_96 : decode cQ_run 96 = .ok (.iadd, 1) := by decide +kernel
theorem dQ_run_97 : decode cQ_run 97 = .ok (.invokevirtual 71, 3) := by decide +kernel
theorem dQ_run_100 : decode cQ_run 100 = .ok (.iinc 1 1, 3) := by decide +kernel
theorem dQ_run_103 : decode cQ_run 103 = .ok (.goto (-70), 3) := by decide +kernel
theorem dQ_run_106 : decode cQ_run 106 = .ok (.aload_n 0, 1) := by decide +kernel
theorem dQ_run_107 : decode cQ_run 107 = .ok (.invokevirtual 74, 3) := by decide +kernel
theorem dQ_run_110 : decode cQ_run 110 = .ok (.return_, 1) := by decide +kernel
theorem dQ_hear_0 : decode cQ_hear 0 = .ok (.aload_n 0, 1) := by decide +kernel
theorem dQ_hear_1 : decode cQ_hear 1 = .ok (.getfield 11, 3) := by decide +kernel
theorem dQ_hear_4 : decode cQ_hear 4 = .ok (.invokevirtual 77, 3) := by decide +kernel
theorem dQ_hear_7 : decode cQ_hear 7 = .ok (.istore_n 3, 1) := by decide +kernel
theorem dQ_hear_8 : decode cQ_hear 8 = .ok (.iload_n 3, 1) := by decide +kernel
theorem dQ_hear_9 : decode cQ_hear 9 = .ok (.ifCond .le 98, 3) := by decide +kernel
theorem dQ_hear_12 : decode cQ_hear 12 = .ok (.iconst 2, 1) := by decide +kernel
theorem dQ_hear_13 : decode cQ_hear 13 = .ok (.istore 4, 2) := by decide +kernel
theorem dQ_hear_15 : decode cQ_hear 15 = .ok (.iload 4, 2) := by decide +kernel
theorem dQ_hear_17 : decode cQ_hear 17 = .ok (.ifCond .lt 84, 3) := by decide +kernel
theorem dQ_hear_20 : decode cQ_hear 20 = .ok (.iload_n 2, 1) := by decide +kernel
theorem dQ_hear_21 : decode cQ_hear 21 = .ok (.iload_n 3, 1) := by decide +kernel
theorem dQ_hear_22 : decode cQ_hear 22 = .ok (.iload 4, 2) := by decide +kernel
theorem dQ_hear_24 : decode cQ_hear 24 = .ok (.invokestatic 80, 3) := by decide +kernel
theorem dQ_hear_27 : decode cQ_hear 27 = .ok (.istore 5, 2) := by decide +kernel
theorem dQ_hear_29 : decode cQ_hear 29 = .ok (.aload_n 0, 1) := by decide +kernel
theorem dQ_hear_30 : decode cQ_hear 30 = .ok (.getfield 25, 3) := by decide +kernel
theorem dQ_hear_33 : decode cQ_hear 33 = .ok (.iload 5, 2) := by decide +kernel
theorem dQ_hear_35 : decode cQ_hear 35 = .ok (.laload, 1) := by decide +kernel
theorem dQ_hear_36 : decode cQ_hear 36 = .ok (.aload_n 0, 1) := by decide +kernel
theorem dQ_hear_37 : decode cQ_hear 37 = .ok (.getfield 19, 3) := by decide +kernel
theorem dQ_hear_40 : decode cQ_hear 40 = .ok (.iload 4, 2) := by decide +kernel
theorem dQ_hear_42 : decode cQ_hear 42 = .ok (.invokevirtual 84, 3) := by decide +kernel
theorem dQ_hear_45 : decode cQ_hear 45 = .ok (.invokestatic 88, 3) := by decide +kernel
theorem dQ_hear_48 : decode cQ_hear 48 = .ok (.lstore 6, 2) := by decide +kernel
theorem dQ_hear_50 : decode cQ_hear 50 = .ok (.lload 6, 2) := by decide +kernel
theorem dQ_hear_52 : decode cQ_hear 52 = .ok (.aload_n 0, 1) := by decide +kernel
theorem dQ_hear_53 : decode cQ_hear 53 = .ok (.iload_n 2, 1) := by decide +kernel
theorem dQ_hear_54 : decode cQ_hear 54 = .ok (.iload_n 3, 1) := by decide +kernel
theorem dQ_hear_55 : decode cQ_hear 55 = .ok (.iload 4, 2) := by decide +kernel
theorem dQ_hear_57 : decode cQ_hear 57 = .ok (.invokevirtual 92, 3) := by decide +kernel
theorem dQ_hear_60 : decode cQ_hear 60 = .ok (.invokestatic 96, 3) := by decide +kernel
theorem dQ_hear_63 : decode cQ_hear 63 = .ok (.lstore 8, 2) := by decide +kernel
theorem dQ_hear_65 : decode cQ_hear 65 = .ok (.aload_n 0, 1) := by decide +kernel
theorem dQ_hear_66 : decode cQ_hear 66 = .ok (.getfield 25, 3) := by decide +kernel
theorem dQ_hear_69 : decode cQ_hear 69 = .ok (.iload 5, 2) := by decide +kernel
theorem dQ_hear_71 : decode cQ_hear 71 = .ok (.lload 8, 2) := by decide +kernel
theorem dQ_hear_73 : decode cQ_hear 73 = .ok (.aload_n 0, 1) := by decide +kernel
theorem dQ_hear_74 : decode cQ_hear 74 = .ok (.getfield 19, 3) := by decide +kernel
theorem dQ_hear_77 : decode cQ_hear 77 = .ok (.iload_n 1, 1) := by decide +kernel
theorem dQ_hear_78 : decode cQ_hear 78 = .ok (.aload_n 0, 1) := by decide +kernel
theorem dQ_hear_79 : decode cQ_hear 79 = .ok (.getfield 11, 3) := by decide +kernel
theorem dQ_hear_82 : decode cQ_hear 82 = .ok (.iload_n 3, 1) := by decide +kernel
theorem dQ_hear_83 : decode cQ_hear 83 = .ok (.invokevirtual 102, 3) := by decide +kernel
theorem dQ_hear_86 : decode cQ_hear 86 = .ok (.iload 4, 2) := by decide +kernel
theorem dQ_hear_88 : decode cQ_hear 88 = .ok (.invokevirtual 105, 3) := by decide +kernel
theorem dQ_hear_91 : decode cQ_hear 91 = .ok (.invokestatic 88, 3) := by decide +kernel
theorem dQ_hear_94 : decode cQ_hear 94 = .ok (.lastore, 1) := by decide +kernel
theorem dQ_hear_95 : decode cQ_hear 95 = .ok (.iinc 4 (-1), 3) := by decide +kernel
theorem dQ_hear_98 : decode cQ_hear 98 = .ok (.goto (-83), 3) := by decide +kernel
theorem dQ_hear_101 : decode cQ_hear 101 = .ok (.iinc 3 (-1), 3) := by decide +kernel
theorem dQ_hear_104 : decode cQ_hear 104 = .ok (.goto (-96), 3) := by decide +kernel
theorem dQ_hear_107 : decode cQ_hear 107 = .ok (.return_, 1) := by decide +kernel
theorem dQ_coming_0 : decode cQ_coming 0 = .ok (.iload_n 3, 1) := by decide +kernel
theorem dQ_coming_1 : decode cQ_coming 1 = .ok (.ifCond .le 13, 3) := by decide +kernel
theorem dQ_coming_4 : decode cQ_coming 4 = .ok (.aload_n 0, 1) := by decide +kernel
theorem dQ_coming_5 : decode cQ_coming 5 = .ok (.iload_n 1, 1) := by decide +kernel
theorem dQ_coming_6 : decode cQ_coming 6 = .ok (.iload_n 2, 1) := by decide +kernel
theorem dQ_coming_7 : decode cQ_coming 7 = .ok (.iload_n 3, 1) := by decide +kernel
theorem dQ_coming_8 : decode cQ_coming 8 = .ok (.iconst 1, 1) := by decide +kernel
theorem dQ_coming_9 : decode cQ_coming 9 = .ok (.isub, 1) := by decide +kernel
theorem dQ_coming_10 : decode cQ_coming 10 = .ok (.invokevirtual 108, 3) := by decide +kernel
theorem dQ_coming_13 : decode cQ_coming 13 = .ok (.lreturn, 1) := by decide +kernel
theorem dQ_coming_14 : decode cQ_coming 14 = .ok (.aload_n 0, 1) := by decide +kernel
theorem dQ_coming_15 : decode cQ_coming 15 = .ok (.getfield 11, 3) := by decide +kernel
theorem dQ_coming_18 : decode cQ_coming 18 = .ok (.iload_n 2, 1) := by decide +kernel
theorem dQ_coming_19 : decode cQ_coming 19 = .ok (.invokevirtual 111, 3) := by decide +kernel
theorem dQ_coming_22 : decode cQ_coming 22 = .ok (.istore 4, 2) := by decide +kernel
theorem dQ_coming_24 : decode cQ_coming 24 = .ok (.iload 4, 2) := by decide +kernel
theorem dQ_coming_26 : decode cQ_coming 26 = .ok (.ifCond .ne 12, 3) := by decide +kernel
theorem dQ_coming_29 : decode cQ_coming 29 = .ok (.aload_n 0, 1) := by decide +kernel
theorem dQ_coming_30 : decode cQ_coming 30 = .ok (.getfield 29, 3) := by decide +kernel
theorem dQ_coming_33 : decode cQ_coming 33 = .ok (.iload_n 1, 1) := by decide +kernel
theorem dQ_coming_34 : decode cQ_coming 34 = .ok (.laload, 1) := by decide +kernel
theorem dQ_coming_35 : decode cQ_coming 35 = .ok (.goto 11, 3) := by decide +kernel
theorem dQ_coming_38 : decode cQ_coming 38 = .ok (.aload_n 0, 1) := by decide +kernel
theorem dQ_coming_39 : decode cQ_coming 39 = .ok (.iload_n 1, 1) := by decide +kernel
theorem dQ_coming_40 : decode cQ_coming 40 = .ok (.iload 4, 2) := by decide +kernel
theorem dQ_coming_42 : decode cQ_coming 42 = .ok (.iconst 2, 1) := by decide +kernel
theorem dQ_coming_43 : decode cQ_coming 43 = .ok (.invokevirtual 108, 3) := by decide +kernel
theorem dQ_coming_46 : decode cQ_coming 46 = .ok (.lreturn, 1) := by decide +kernel
theorem dQ_leaving_0 : decode cQ_leaving 0 = .ok (.aload_n 0, 1) := by decide +kernel
theorem dQ_leaving_1 : decode cQ_leaving 1 = .ok (.getfield 25, 3) := by decide +kernel
theorem dQ_leaving_4 : decode cQ_leaving 4 = .ok (.iload_n 1, 1) := by decide +kernel
theorem dQ_leaving_5 : decode cQ_leaving 5 = .ok (.iload_n 2, 1) := by decide +kernel
theorem dQ_leaving_6 : decode cQ_leaving 6 = .ok (.iload_n 3, 1) := by decide +kernel
theorem dQ_leaving_7 : decode cQ_leaving 7 = .ok (.invokestatic 80, 3) := by decide +kernel
theorem dQ_leaving_10 : decode cQ_leaving 10 = .ok (.laload, 1) := by decide +kernel
theorem dQ_leaving_11 : decode cQ_leaving 11 = .ok (.aload_n 0, 1) := by decide +kernel
theorem dQ_leaving_12 : decode cQ_leaving 12 = .ok (.getfield 19, 3) := by decide +kernel
theorem dQ_leaving_15 : decode cQ_leaving 15 = .ok (.iload_n 3, 1) := by decide +kernel
theorem dQ_leaving_16 : decode cQ_leaving 16 = .ok (.invokevirtual 114, 3) := by decide +kernel
theorem dQ_leaving_19 : decode cQ_leaving 19 = .ok (.invokestatic 88, 3) := by decide +kernel
theorem dQ_leaving_22 : decode cQ_leaving 22 = .ok (.lreturn, 1) := by decide +kernel
theorem dQ_endWords_0 : decode cQ_endWords 0 = .ok (.iload_n 1, 1) := by decide +kernel
theorem dQ_endWords_1 : decode cQ_endWords 1 = .ok (.iconst 5, 1) := by decide +kernel
theorem dQ_endWords_2 : decode cQ_endWords 2 = .ok (.idiv, 1) := by decide +kernel
theorem dQ_endWords_3 : decode cQ_endWords 3 = .ok (.istore_n 2, 1) := by decide +kernel
theorem dQ_endWords_4 : decode cQ_endWords 4 = .ok (.iload_n 1, 1) := by decide +kernel
theorem dQ_endWords_5 : decode cQ_endWords 5 = .ok (.iconst 5, 1) := by decide +kernel
theorem dQ_endWords_6 : decode cQ_endWords 6 = .ok (.irem, 1) := by decide +kernel
theorem dQ_endWords_7 : decode cQ_endWords 7 = .ok (.istore_n 3, 1) := by decide +kernel
theorem dQ_endWords_8 : decode cQ_endWords 8 = .ok (.iconst 1, 1) := by decide +kernel
theorem dQ_endWords_9 : decode cQ_endWords 9 = .ok (.istore 4, 2) := by decide +kernel
theorem dQ_endWords_11 : decode cQ_endWords 11 = .ok (.iload 4, 2) := by decide +kernel
theorem dQ_endWords_13 : decode cQ_endWords 13 = .ok (.aload_n 0, 1) := by decide +kernel
theorem dQ_endWords_14 : decode cQ_endWords 14 = .ok (.getfield 11, 3) := by decide +kernel
theorem dQ_endWords_17 : decode cQ_endWords 17 = .ok (.invokevirtual 77, 3) := by decide +kernel
theorem dQ_endWords_20 : decode cQ_endWords 20 = .ok (.if_icmp .gt 107, 3) := by decide +kernel
theorem dQ_endWords_23 : decode cQ_endWords 23 = .ok (.aload_n 0, 1) := by decide +kernel
theorem dQ_endWords_24 : decode cQ_endWords 24 = .ok (.iload_n 1, 1) := by decide +kernel
theorem dQ_endWords_25 : decode cQ_endWords 25 = .ok (.iload 4, 2) := by decide +kernel
theorem dQ_endWords_27 : decode cQ_endWords 27 = .ok (.iconst 2, 1) := by decide +kernel
theorem dQ_endWords_28 : decode cQ_endWords 28 = .ok (.invokevirtual 108, 3) := by decide +kernel
theorem dQ_endWords_31 : decode cQ_endWords 31 = .ok (.lstore 5, 2) := by decide +kernel
theorem dQ_endWords_33 : decode cQ_endWords 33 = .ok (.iconst 0, 1) := by decide +kernel
theorem dQ_endWords_34 : decode cQ_endWords 34 = .ok (.istore 7, 2) := by decide +kernel
theorem dQ_endWords_36 : decode cQ_endWords 36 = .ok (.iload 7, 2) := by decide +kernel
theorem dQ_endWords_38 : decode cQ_endWords 38 = .ok (.iconst 4, 1) := by decide +kernel
theorem dQ_endWords_39 : decode cQ_endWords 39 = .ok (.if_icmp .ge 82, 3) := by decide +kernel
theorem dQ_endWords_42 : decode cQ_endWords 42 = .ok (.lload 5, 2) := by decide +kernel
theorem dQ_endWords_44 : decode cQ_endWords 44 = .ok (.ldc2_w 41, 3) := by decide +kernel
theorem dQ_endWords_47 : decode cQ_endWords 47 = .ok (.lcmp, 1) := by decide +kernel
theorem dQ_endWords_48 : decode cQ_endWords 48 = .ok (.ifCond .eq 67, 3) := by decide +kernel
theorem dQ_endWords_51 : decode cQ_endWords 51 = .ok (.aload_n 0, 1) := by decide +kernel
theorem dQ_endWords_52 : decode cQ_endWords 52 = .ok (.getfield 11, 3) := by decide +kernel
theorem dQ_endWords_55 : decode cQ_endWords 55 = .ok (.iload 4, 2) := by decide +kernel
theorem dQ_endWords_57 : decode cQ_endWords 57 = .ok (.iload 7, 2) := by decide +kernel
theorem dQ_endWords_59 : decode cQ_endWords 59 = .ok (.invokevirtual 117, 3) := by decide +kernel
theorem dQ_endWords_62 : decode cQ_endWords 62 = .ok (.ifCond .eq 53, 3) := by decide +kernel
theorem dQ_endWords_65 : decode cQ_endWords 65 = .ok (.iload_n 3, 1) := by decide +kernel
theorem dQ_endWords_66 : decode cQ_endWords 66 = .ok (.iload 7, 2) := by decide +kernel
theorem dQ_endWords_68 : decode cQ_endWords 68 = .ok (.invokestatic 53, 3) := by decide +kernel
theorem dQ_endWords_71 : decode cQ_endWords 71 = .ok (.istore 8, 2) := by decide +kernel
theorem dQ_endWords_73 : decode cQ_endWords 73 = .ok (.lload 5, 2) := by decide +kernel
theorem dQ_endWords_75 : decode cQ_endWords 75 = .ok (.aload_n 0, 1) := by decide +kernel
theorem dQ_endWords_76 : decode cQ_endWords 76 = .ok (.getfield 15, 3) := by decide +kernel
theorem dQ_endWords_79 : decode cQ_endWords 79 = .ok (.iload_n 2, 1) := by decide +kernel
theorem dQ_endWords_80 : decode cQ_endWords 80 = .ok (.iload_n 3, 1) := by decide +kernel
theorem dQ_endWords_81 : decode cQ_endWords 81 = .ok (.iload 7, 2) := by decide +kernel
theorem dQ_endWords_83 : decode cQ_endWords 83 = .ok (.invokevirtual 121, 3) := by decide +kernel
theorem dQ_endWords_86 : decode cQ_endWords 86 = .ok (.invokestatic 88, 3) := by decide +kernel
theorem dQ_endWords_89 : decode cQ_endWords 89 = .ok (.iload 7, 2) := by decide +kernel
theorem dQ_endWords_91 : decode cQ_endWords 91 = .ok (.invokestatic 126, 3) := by decide +kernel
theorem dQ_endWords_94 : decode cQ_endWords 94 = .ok (.lstore 9, 2) := by decide +kernel
theorem dQ_endWords_96 : decode cQ_endWords 96 = .ok (.aload_n 0, 1) := by decide +kernel
theorem dQ_endWords_97 : decode cQ_endWords 97 = .ok (.getfield 29, 3) := by decide +kernel
theorem dQ_endWords_100 : decode cQ_endWords 100 = .ok (.iload 8, 2) := by decide +kernel
theorem dQ_endWords_102 : decode cQ_endWords 102 = .ok (.aload_n 0, 1) := by decide +kernel
theorem dQ_endWords_103 : decode cQ_endWords 103 = .ok (.getfield 29, 3) := by decide +kernel
theorem dQ_endWords_106 : decode cQ_endWords 106 = .ok (.iload 8, 2) := by decide +kernel
theorem dQ_endWords_108 : decode cQ_endWords 108 = .ok (.laload, 1) := by decide +kernel
theorem dQ_endWords_109 : decode cQ_endWords 109 = .ok (.lload 9, 2) := by decide +kernel
theorem dQ_endWords_111 : decode cQ_endWords 111 = .ok (.invokestatic 96, 3) := by decide +kernel
theorem dQ_endWords_114 : decode cQ_endWords 114 = .ok (.lastore, 1) := by decide +kernel
theorem dQ_endWords_115 : decode cQ_endWords 115 = .ok (.iinc 7 1, 3) := by decide +kernel
theorem dQ_endWords_118 : decode cQ_endWords 118 = .ok (.goto (-82), 3) := by decide +kernel
theorem dQ_endWords_121 : decode cQ_endWords 121 = .ok (.iinc 4 1, 3) := by decide +kernel
theorem dQ_endWords_124 : decode cQ_endWords 124 = .ok (.goto (-113), 3) := by decide +kernel
theorem dQ_endWords_127 : decode cQ_endWords 127 = .ok (.return_, 1) := by decide +kernel
theorem dQ_measure_0 : decode cQ_measure 0 = .ok (.iconst 0, 1) := by decide +kernel
theorem dQ_measure_1 : decode cQ_measure 1 = .ok (.istore_n 2, 1) := by decide +kernel
theorem dQ_measure_2 : decode cQ_measure 2 = .ok (.ldc2_w 41, 3) := by decide +kernel
theorem dQ_measure_5 : decode cQ_measure 5 = .ok (.lstore_n 3, 1) := by decide +kernel
theorem dQ_measure_6 : decode cQ_measure 6 = .ok (.iconst 0, 1) := by decide +kernel
theorem dQ_measure_7 : decode cQ_measure 7 = .ok (.istore 5, 2) := by decide +kernel
theorem dQ_measure_9 : decode cQ_measure 9 = .ok (.iload 5, 2) := by decide +kernel
theorem dQ_measure_11 : decode cQ_measure 11 = .ok (.aload_n 0, 1) := by decide +kernel
theorem dQ_measure_12 : decode cQ_measure 12 = .ok (.getfield 25, 3) := by decide +kernel
theorem dQ_measure_15 : decode cQ_measure 15 = .ok (.arraylength, 1) := by decide +kernel
theorem dQ_measure_16 : decode cQ_measure 16 = .ok (.if_icmp .ge 38, 3) := by decide +kernel
theorem dQ_measure_19 : decode cQ_measure 19 = .ok (.aload_n 0, 1) := by decide +kernel
theorem dQ_measure_20 : decode cQ_measure 20 = .ok (.getfield 25, 3) := by decide +kernel
theorem dQ_measure_23 : decode cQ_measure 23 = .ok (.iload 5, 2) := by decide +kernel
theorem dQ_measure_25 : decode cQ_measure 25 = .ok (.laload, 1) := by decide +kernel
theorem dQ_measure_26 : decode cQ_measure 26 = .ok (.ldc2_w 41, 3) := by decide +kernel
theorem dQ_measure_29 : decode cQ_measure 29 = .ok (.lcmp, 1) := by decide +kernel
theorem dQ_measure_30 : decode cQ_measure 30 = .ok (.ifCond .eq 18, 3) := by decide +kernel
theorem dQ_measure_33 : decode cQ_measure 33 = .ok (.iinc 2 1, 3) := by decide +kernel
theorem dQ_measure_36 : decode cQ_measure 36 = .ok (.lload_n 3, 1) := by decide +kernel
theorem dQ_measure_37 : decode cQ_measure 37 = .ok (.aload_n 0, 1) := by decide +kernel
theorem dQ_measure_38 : decode cQ_measure 38 = .ok (.getfield 25, 3) := by decide +kernel
theorem dQ_measure_41 : decode cQ_measure 41 = .ok (.iload 5, 2) := by decide +kernel
theorem dQ_measure_43 : decode cQ_measure 43 = .ok (.laload, 1) := by decide +kernel
theorem dQ_measure_44 : decode cQ_measure 44 = .ok (.invokestatic 96, 3) := by decide +kernel
theorem dQ_measure_47 : decode cQ_measure 47 = .ok (.lstore_n 3, 1) := by decide +kernel
theorem dQ_measure_48 : decode cQ_measure 48 = .ok (.iinc 5 1, 3) := by decide +kernel
theorem dQ_measure_51 : decode cQ_measure 51 = .ok (.goto (-42), 3) := by decide +kernel
theorem dQ_measure_54 : decode cQ_measure 54 = .ok (.aload_n 0, 1) := by decide +kernel
theorem dQ_measure_55 : decode cQ_measure 55 = .ok (.getfield 32, 3) := by decide +kernel
theorem dQ_measure_58 : decode cQ_measure 58 = .ok (.iload_n 1, 1) := by decide +kernel
theorem dQ_measure_59 : decode cQ_measure 59 = .ok (.iload_n 2, 1) := by decide +kernel
theorem dQ_measure_60 : decode cQ_measure 60 = .ok (.iastore, 1) := by decide +kernel
theorem dQ_measure_61 : decode cQ_measure 61 = .ok (.aload_n 0, 1) := by decide +kernel
theorem dQ_measure_62 : decode cQ_measure 62 = .ok (.getfield 36, 3) := by decide +kernel
theorem dQ_measure_65 : decode cQ_measure 65 = .ok (.iload_n 1, 1) := by decide +kernel
theorem dQ_measure_66 : decode cQ_measure 66 = .ok (.lload_n 3, 1) := by decide +kernel
theorem dQ_measure_67 : decode cQ_measure 67 = .ok (.lastore, 1) := by decide +kernel
theorem dQ_measure_68 : decode cQ_measure 68 = .ok (.return_, 1) := by decide +kernel
theorem dQ_endPath_0 : decode cQ_endPath 0 = .ok (.aload_n 0, 1) := by decide +kernel
theorem dQ_endPath_1 : decode cQ_endPath 1 = .ok (.ldc2_w 41, 3) := by decide +kernel
theorem dQ_endPath_4 : decode cQ_endPath 4 = .ok (.putfield 43, 3) := by decide +kernel
theorem dQ_endPath_7 : decode cQ_endPath 7 = .ok (.iconst 0, 1) := by decide +kernel
theorem dQ_endPath_8 : decode cQ_endPath 8 = .ok (.istore_n 1, 1) := by decide +kernel
theorem dQ_endPath_9 : decode cQ_endPath 9 = .ok (.iload_n 1, 1) := by decide +kernel
theorem dQ_endPath_10 : decode cQ_endPath 10 = .ok (.iconst 4, 1) := by decide +kernel
theorem dQ_endPath_11 : decode cQ_endPath 11 = .ok (.if_icmp .gt 58, 3) := by decide +kernel
theorem dQ_endPath_14 : decode cQ_endPath 14 = .ok (.iconst 0, 1) := by decide +kernel
theorem dQ_endPath_15 : decode cQ_endPath 15 = .ok (.istore_n 2, 1) := by decide +kernel
theorem dQ_endPath_16 : decode cQ_endPath 16 = .ok (.iload_n 2, 1) := by decide +kernel
theorem dQ_endPath_17 : decode cQ_endPath 17 = .ok (.iconst 4, 1) := by decide +kernel
theorem dQ_endPath_18 : decode cQ_endPath 18 = .ok (.if_icmp .ge 45, 3) := by decide +kernel
theorem dQ_endPath_21 : decode cQ_endPath 21 = .ok (.aload_n 0, 1) := by decide +kernel
theorem dQ_endPath_22 : decode cQ_endPath 22 = .ok (.getfield 29, 3) := by decide +kernel
theorem dQ_endPath_25 : decode cQ_endPath 25 = .ok (.iload_n 1, 1) := by decide +kernel
theorem dQ_endPath_26 : decode cQ_endPath 26 = .ok (.iload_n 2, 1) := by decide +kernel
theorem dQ_endPath_27 : decode cQ_endPath 27 = .ok (.invokestatic 53, 3) := by decide +kernel
theorem dQ_endPath_30 : decode cQ_endPath 30 = .ok (.laload, 1) := by decide +kernel
theorem dQ_endPath_31 : decode cQ_endPath 31 = .ok (.aload_n 0, 1) := by decide +kernel
theorem dQ_endPath_32 : decode cQ_endPath 32 = .ok (.getfield 15, 3) := by decide +kernel
theorem dQ_endPath_35 : decode cQ_endPath 35 = .ok (.iload_n 1, 1) := by decide +kernel
theorem dQ_endPath_36 : decode cQ_endPath 36 = .ok (.iload_n 2, 1) := by decide +kernel
theorem dQ_endPath_37 : decode cQ_endPath 37 = .ok (.iconst 4, 1) := by decide +kernel
theorem dQ_endPath_38 : decode cQ_endPath 38 = .ok (.invokevirtual 121, 3) := by decide +kernel
theorem dQ_endPath_41 : decode cQ_endPath 41 = .ok (.invokestatic 88, 3) := by decide +kernel
theorem dQ_endPath_44 : decode cQ_endPath 44 = .ok (.lstore_n 3, 1) := by decide +kernel
theorem dQ_endPath_45 : decode cQ_endPath 45 = .ok (.aload_n 0, 1) := by decide +kernel
theorem dQ_endPath_46 : decode cQ_endPath 46 = .ok (.aload_n 0, 1) := by decide +kernel
theorem dQ_endPath_47 : decode cQ_endPath 47 = .ok (.getfield 43, 3) := by decide +kernel
theorem dQ_endPath_50 : decode cQ_endPath 50 = .ok (.lload_n 3, 1) := by decide +kernel
theorem dQ_endPath_51 : decode cQ_endPath 51 = .ok (.invokestatic 96, 3) := by decide +kernel
theorem dQ_endPath_54 : decode cQ_endPath 54 = .ok (.putfield 43, 3) := by decide +kernel
theorem dQ_endPath_57 : decode cQ_endPath 57 = .ok (.iinc 2 1, 3) := by decide +kernel
theorem dQ_endPath_60 : decode cQ_endPath 60 = .ok (.goto (-44), 3) := by decide +kernel
theorem dQ_endPath_63 : decode cQ_endPath 63 = .ok (.iinc 1 1, 3) := by decide +kernel
theorem dQ_endPath_66 : decode cQ_endPath 66 = .ok (.goto (-57), 3) := by decide +kernel
theorem dQ_endPath_69 : decode cQ_endPath 69 = .ok (.return_, 1) := by decide +kernel
theorem dQ_context_0 : decode cQ_context 0 = .ok (.iload_n 0, 1) := by decide +kernel
theorem dQ_context_1 : decode cQ_context 1 = .ok (.iconst 5, 1) := by decide +kernel
theorem dQ_context_2 : decode cQ_context 2 = .ok (.imul, 1) := by decide +kernel
theorem dQ_context_3 : decode cQ_context 3 = .ok (.iload_n 1, 1) := by decide +kernel
theorem dQ_context_4 : decode cQ_context 4 = .ok (.iadd, 1) := by decide +kernel
theorem dQ_context_5 : decode cQ_context 5 = .ok (.ireturn, 1) := by decide +kernel
theorem dQ_place_0 : decode cQ_place 0 = .ok (.iload_n 0, 1) := by decide +kernel
theorem dQ_place_1 : decode cQ_place 1 = .ok (.bipush 25, 2) := by decide +kernel
theorem dQ_place_3 : decode cQ_place 3 = .ok (.imul, 1) := by decide +kernel
theorem dQ_place_4 : decode cQ_place 4 = .ok (.iload_n 1, 1) := by decide +kernel
theorem dQ_place_5 : decode cQ_place 5 = .ok (.iadd, 1) := by decide +kernel
theorem dQ_place_6 : decode cQ_place 6 = .ok (.iconst 3, 1) := by decide +kernel
theorem dQ_place_7 : decode cQ_place 7 = .ok (.imul, 1) := by decide +kernel
theorem dQ_place_8 : decode cQ_place 8 = .ok (.iload_n 2, 1) := by decide +kernel
theorem dQ_place_9 : decode cQ_place 9 = .ok (.iadd, 1) := by decide +kernel
theorem dQ_place_10 : decode cQ_place 10 = .ok (.ireturn, 1) := by decide +kernel
theorem dJ_fillI_0 : decode cJ_fillI 0 = .ok (.iconst 0, 1) := by decide +kernel
theorem dJ_fillI_1 : decode cJ_fillI 1 = .ok (.istore_n 2, 1) := by decide +kernel
theorem dJ_fillI_2 : decode cJ_fillI 2 = .ok (.aload_n 0, 1) := by decide +kernel
theorem dJ_fillI_3 : decode cJ_fillI 3 = .ok (.arraylength, 1) := by decide +kernel
theorem dJ_fillI_4 : decode cJ_fillI 4 = .ok (.istore_n 3, 1) := by decide +kernel
theorem dJ_fillI_5 : decode cJ_fillI 5 = .ok (.iload_n 2, 1) := by decide +kernel
theorem dJ_fillI_6 : decode cJ_fillI 6 = .ok (.iload_n 3, 1) := by decide +kernel
theorem dJ_fillI_7 : decode cJ_fillI 7 = .ok (.if_icmp .ge 13, 3) := by decide +kernel
theorem dJ_fillI_10 : decode cJ_fillI 10 = .ok (.aload_n 0, 1) := by decide +kernel
theorem dJ_fillI_11 : decode cJ_fillI 11 = .ok (.iload_n 2, 1) := by decide +kernel
theorem dJ_fillI_12 : decode cJ_fillI 12 = .ok (.iload_n 1, 1) := by decide +kernel
theorem dJ_fillI_13 : decode cJ_fillI 13 = .ok (.iastore, 1) := by decide +kernel
theorem dJ_fillI_14 : decode cJ_fillI 14 = .ok (.iinc 2 1, 3) := by decide +kernel
theorem dJ_fillI_17 : decode cJ_fillI 17 = .ok (.goto (-12), 3) := by decide +kernel
theorem dJ_fillI_20 : decode cJ_fillI 20 = .ok (.return_, 1) := by decide +kernel
theorem dJ_fillL_0 : decode cJ_fillL 0 = .ok (.iconst 0, 1) := by decide +kernel
theorem dJ_fillL_1 : decode cJ_fillL 1 = .ok (.istore_n 3, 1) := by decide +kernel
theorem dJ_fillL_2 : decode cJ_fillL 2 = .ok (.aload_n 0, 1) := by decide +kernel
theorem dJ_fillL_3 : decode cJ_fillL 3 = .ok (.arraylength, 1) := by decide +kernel
theorem dJ_fillL_4 : decode cJ_fillL 4 = .ok (.istore 4, 2) := by decide +kernel
theorem dJ_fillL_6 : decode cJ_fillL 6 = .ok (.iload_n 3, 1) := by decide +kernel
theorem dJ_fillL_7 : decode cJ_fillL 7 = .ok (.iload 4, 2) := by decide +kernel
theorem dJ_fillL_9 : decode cJ_fillL 9 = .ok (.if_icmp .ge 13, 3) := by decide +kernel
theorem dJ_fillL_12 : decode cJ_fillL 12 = .ok (.aload_n 0, 1) := by decide +kernel
theorem dJ_fillL_13 : decode cJ_fillL 13 = .ok (.iload_n 3, 1) := by decide +kernel
theorem dJ_fillL_14 : decode cJ_fillL 14 = .ok (.lload_n 1, 1) := by decide +kernel
theorem dJ_fillL_15 : decode cJ_fillL 15 = .ok (.lastore, 1) := by decide +kernel
theorem dJ_fillL_16 : decode cJ_fillL 16 = .ok (.iinc 3 1, 3) := by decide +kernel
theorem dJ_fillL_19 : decode cJ_fillL 19 = .ok (.goto (-13), 3) := by decide +kernel
theorem dJ_fillL_22 : decode cJ_fillL 22 = .ok (.return_, 1) := by decide +kernel
