theorem dM_init_0 : decode cM_init 0 = .ok (.aload_n 0, 1) := by decide +kernel
theorem dM_init_1 : decode cM_init 1 = .ok (.invokespecial 1, 3) := by decide +kernel
theorem dM_init_4 : decode cM_init 4 = .ok (.aload_n 0, 1) := by decide +kernel
theorem dM_init_5 : decode cM_init 5 = .ok (.sipush 155, 3) := by decide +kernel
theorem dM_init_8 : decode cM_init 8 = .ok (.newarray .boolean, 2) := by decide +kernel
theorem dM_init_10 : decode cM_init 10 = .ok (.putfield 7, 3) := by decide +kernel
theorem dM_init_13 : decode cM_init 13 = .ok (.aload_n 0, 1) := by decide +kernel
theorem dM_init_14 : decode cM_init 14 = .ok (.sipush 155, 3) := by decide +kernel
theorem dM_init_17 : decode cM_init 17 = .ok (.newarray .int, 2) := by decide +kernel
theorem dM_init_19 : decode cM_init 19 = .ok (.putfield 13, 3) := by decide +kernel
theorem dM_init_22 : decode cM_init 22 = .ok (.aload_n 0, 1) := by decide +kernel
theorem dM_init_23 : decode cM_init 23 = .ok (.sipush 155, 3) := by decide +kernel
theorem dM_init_26 : decode cM_init 26 = .ok (.newarray .int, 2) := by decide +kernel
theorem dM_init_28 : decode cM_init 28 = .ok (.putfield 17, 3) := by decide +kernel
theorem dM_init_31 : decode cM_init 31 = .ok (.aload_n 0, 1) := by decide +kernel
theorem dM_init_32 : decode cM_init 32 = .ok (.bipush 8, 2) := by decide +kernel
theorem dM_init_34 : decode cM_init 34 = .ok (.newarray .int, 2) := by decide +kernel
theorem dM_init_36 : decode cM_init 36 = .ok (.putfield 20, 3) := by decide +kernel
theorem dM_init_39 : decode cM_init 39 = .ok (.aload_n 0, 1) := by decide +kernel
theorem dM_init_40 : decode cM_init 40 = .ok (.bipush 8, 2) := by decide +kernel
theorem dM_init_42 : decode cM_init 42 = .ok (.newarray .int, 2) := by decide +kernel
theorem dM_init_44 : decode cM_init 44 = .ok (.putfield 23, 3) := by decide +kernel
theorem dM_init_47 : decode cM_init 47 = .ok (.aload_n 0, 1) := by decide +kernel
theorem dM_init_48 : decode cM_init 48 = .ok (.bipush 24, 2) := by decide +kernel
theorem dM_init_50 : decode cM_init 50 = .ok (.newarray .int, 2) := by decide +kernel
theorem dM_init_52 : decode cM_init 52 = .ok (.putfield 26, 3) := by decide +kernel
theorem dM_init_55 : decode cM_init 55 = .ok (.aload_n 0, 1) := by decide +kernel
theorem dM_init_56 : decode cM_init 56 = .ok (.iconst 3, 1) := by decide +kernel
theorem dM_init_57 : decode cM_init 57 = .ok (.newarray .int, 2) := by decide +kernel
theorem dM_init_59 : decode cM_init 59 = .ok (.putfield 29, 3) := by decide +kernel
theorem dM_init_62 : decode cM_init 62 = .ok (.aload_n 0, 1) := by decide +kernel
theorem dM_init_63 : decode cM_init 63 = .ok (.iconst 3, 1) := by decide +kernel
theorem dM_init_64 : decode cM_init 64 = .ok (.newarray .int, 2) := by decide +kernel
theorem dM_init_66 : decode cM_init 66 = .ok (.putfield 32, 3) := by decide +kernel
theorem dM_init_69 : decode cM_init 69 = .ok (.aload_n 0, 1) := by decide +kernel
theorem dM_init_70 : decode cM_init 70 = .ok (.sipush 180, 3) := by decide +kernel
theorem dM_init_73 : decode cM_init 73 = .ok (.newarray .int, 2) := by decide +kernel
theorem dM_init_75 : decode cM_init 75 = .ok (.putfield 35, 3) := by decide +kernel
theorem dM_init_78 : decode cM_init 78 = .ok (.aload_n 0, 1) := by decide +kernel
theorem dM_init_79 : decode cM_init 79 = .ok (.sipush 1800, 3) := by decide +kernel
theorem dM_init_82 : decode cM_init 82 = .ok (.newarray .int, 2) := by decide +kernel
theorem dM_init_84 : decode cM_init 84 = .ok (.putfield 38, 3) := by decide +kernel
theorem dM_init_87 : decode cM_init 87 = .ok (.aload_n 0, 1) := by decide +kernel
theorem dM_init_88 : decode cM_init 88 = .ok (.sipush 1800, 3) := by decide +kernel
theorem dM_init_91 : decode cM_init 91 = .ok (.newarray .int, 2) := by decide +kernel
theorem dM_init_93 : decode cM_init 93 = .ok (.putfield 41, 3) := by decide +kernel
theorem dM_init_96 : decode cM_init 96 = .ok (.aload_n 0, 1) := by decide +kernel
theorem dM_init_97 : decode cM_init 97 = .ok (.sipush 1800, 3) := by decide +kernel
theorem dM_init_100 : decode cM_init 100 = .ok (.newarray .int, 2) := by decide +kernel
theorem dM_init_102 : decode cM_init 102 = .ok (.putfield 44, 3) := by decide +kernel
theorem dM_init_105 : decode cM_init 105 = .ok (.aload_n 0, 1) := by decide +kernel
theorem dM_init_106 : decode cM_init 106 = .ok (.sipush 1800, 3) := by decide +kernel
theorem dM_init_109 : decode cM_init 109 = .ok (.newarray .int, 2) := by decide +kernel
theorem dM_init_111 : decode cM_init 111 = .ok (.putfield 47, 3) := by decide +kernel
theorem dM_init_114 : decode cM_init 114 = .ok (.aload_n 0, 1) := by decide +kernel
theorem dM_init_115 : decode cM_init 115 = .ok (.sipush 1800, 3) := by decide +kernel
theorem dM_init_118 : decode cM_init 118 = .ok (.newarray .int, 2) := by decide +kernel
theorem dM_init_120 : decode cM_init 120 = .ok (.putfield 50, 3) := by decide +kernel
theorem dM_init_123 : decode cM_init 123 = .ok (.aload_n 0, 1) := by decide +kernel
theorem dM_init_124 : decode cM_init 124 = .ok (.sipush 1800, 3) := by decide +kernel
theorem dM_init_127 : decode cM_init 127 = .ok (.newarray .int, 2) := by decide +kernel
theorem dM_init_129 : decode cM_init 129 = .ok (.putfield 53, 3) := by decide +kernel
theorem dM_init_132 : decode cM_init 132 = .ok (.return_, 1) := by decide +kernel
theorem dM_up_0 : decode cM_up 0 = .ok (.iload_n 0, 1) := by decide +kernel
theorem dM_up_1 : decode cM_up 1 = .ok (.ifCond .lt 12, 3) := by decide +kernel
theorem dM_up_4 : decode cM_up 4 = .ok (.iload_n 0, 1) := by decide +kernel
theorem dM_up_5 : decode cM_up 5 = .ok (.iload_n 1, 1) := by decide +kernel
theorem dM_up_6 : decode cM_up 6 = .ok (.if_icmp .gt 7, 3) := by decide +kernel
theorem dM_up_9 : decode cM_up 9 = .ok (.iconst 1, 1) := by decide +kernel
theorem dM_up_10 : decode cM_up 10 = .ok (.goto 4, 3) := by decide +kernel
theorem dM_up_13 : decode cM_up 13 = .ok (.iconst 0, 1) := by decide +kernel
theorem dM_up_14 : decode cM_up 14 = .ok (.ireturn, 1) := by decide +kernel
theorem dM_begins_0 : decode cM_begins 0 = .ok (.aload_n 0, 1) := by decide +kernel
theorem dM_begins_1 : decode cM_begins 1 = .ok (.getfield 23, 3) := by decide +kernel
theorem dM_begins_4 : decode cM_begins 4 = .ok (.iload_n 1, 1) := by decide +kernel
theorem dM_begins_5 : decode cM_begins 5 = .ok (.iaload, 1) := by decide +kernel
theorem dM_begins_6 : decode cM_begins 6 = .ok (.iload_n 3, 1) := by decide +kernel
theorem dM_begins_7 : decode cM_begins 7 = .ok (.if_icmp .lt 17, 3) := by decide +kernel
theorem dM_begins_10 : decode cM_begins 10 = .ok (.aload_n 0, 1) := by decide +kernel
theorem dM_begins_11 : decode cM_begins 11 = .ok (.getfield 23, 3) := by decide +kernel
theorem dM_begins_14 : decode cM_begins 14 = .ok (.iload_n 2, 1) := by decide +kernel
theorem dM_begins_15 : decode cM_begins 15 = .ok (.iaload, 1) := by decide +kernel
theorem dM_begins_16 : decode cM_begins 16 = .ok (.iload_n 3, 1) := by decide +kernel
theorem dM_begins_17 : decode cM_begins 17 = .ok (.if_icmp .lt 7, 3) := by decide +kernel
theorem dM_begins_20 : decode cM_begins 20 = .ok (.iconst 1, 1) := by decide +kernel
theorem dM_begins_21 : decode cM_begins 21 = .ok (.goto 4, 3) := by decide +kernel
theorem dM_begins_24 : decode cM_begins 24 = .ok (.iconst 0, 1) := by decide +kernel
theorem dM_begins_25 : decode cM_begins 25 = .ok (.istore 4, 2) := by decide +kernel
theorem dM_begins_27 : decode cM_begins 27 = .ok (.iconst 0, 1) := by decide +kernel
theorem dM_begins_28 : decode cM_begins 28 = .ok (.istore 5, 2) := by decide +kernel
theorem dM_begins_30 : decode cM_begins 30 = .ok (.iload 5, 2) := by decide +kernel
theorem dM_begins_32 : decode cM_begins 32 = .ok (.iload_n 3, 1) := by decide +kernel
theorem dM_begins_33 : decode cM_begins 33 = .ok (.if_icmp .ge 46, 3) := by decide +kernel
theorem dM_begins_36 : decode cM_begins 36 = .ok (.iload 4, 2) := by decide +kernel
theorem dM_begins_38 : decode cM_begins 38 = .ok (.ifCond .eq 41, 3) := by decide +kernel
theorem dM_begins_41 : decode cM_begins 41 = .ok (.aload_n 0, 1) := by decide +kernel
theorem dM_begins_42 : decode cM_begins 42 = .ok (.getfield 26, 3) := by decide +kernel
theorem dM_begins_45 : decode cM_begins 45 = .ok (.iconst 3, 1) := by decide +kernel
theorem dM_begins_46 : decode cM_begins 46 = .ok (.iload_n 1, 1) := by decide +kernel
theorem dM_begins_47 : decode cM_begins 47 = .ok (.imul, 1) := by decide +kernel
theorem dM_begins_48 : decode cM_begins 48 = .ok (.iload 5, 2) := by decide +kernel
theorem dM_begins_50 : decode cM_begins 50 = .ok (.iadd, 1) := by decide +kernel
theorem dM_begins_51 : decode cM_begins 51 = .ok (.iaload, 1) := by decide +kernel
theorem dM_begins_52 : decode cM_begins 52 = .ok (.aload_n 0, 1) := by decide +kernel
theorem dM_begins_53 : decode cM_begins 53 = .ok (.getfield 26, 3) := by decide +kernel
theorem dM_begins_56 : decode cM_begins 56 = .ok (.iconst 3, 1) := by decide +kernel
theorem dM_begins_57 : decode cM_begins 57 = .ok (.iload_n 2, 1) := by decide +kernel
theorem dM_begins_58 : decode cM_begins 58 = .ok (.imul, 1) := by decide +kernel
theorem dM_begins_59 : decode cM_begins 59 = .ok (.iload 5, 2) := by decide +kernel
theorem dM_begins_61 : decode cM_begins 61 = .ok (.iadd, 1) := by decide +kernel
theorem dM_begins_62 : decode cM_begins 62 = .ok (.iaload, 1) := by decide +kernel
theorem dM_begins_63 : decode cM_begins 63 = .ok (.if_icmp .ne 7, 3) := by decide +kernel
theorem dM_begins_66 : decode cM_begins 66 = .ok (.iconst 1, 1) := by decide +kernel
theorem dM_begins_67 : decode cM_begins 67 = .ok (.goto 4, 3) := by decide +kernel
theorem dM_begins_70 : decode cM_begins 70 = .ok (.iconst 0, 1) := by decide +kernel
theorem dM_begins_71 : decode cM_begins 71 = .ok (.istore 4, 2) := by decide +kernel
theorem dM_begins_73 : decode cM_begins 73 = .ok (.iinc 5 1, 3) := by decide +kernel
theorem dM_begins_76 : decode cM_begins 76 = .ok (.goto (-46), 3) := by decide +kernel
theorem dM_begins_79 : decode cM_begins 79 = .ok (.iload 4, 2) := by decide +kernel
theorem dM_begins_81 : decode cM_begins 81 = .ok (.ireturn, 1) := by decide +kernel
theorem dM_fresh_0 : decode cM_fresh 0 = .ok (.iconst 1, 1) := by decide +kernel
theorem dM_fresh_1 : decode cM_fresh 1 = .ok (.istore_n 3, 1) := by decide +kernel
theorem dM_fresh_2 : decode cM_fresh 2 = .ok (.iconst 0, 1) := by decide +kernel
theorem dM_fresh_3 : decode cM_fresh 3 = .ok (.istore 4, 2) := by decide +kernel
theorem dM_fresh_5 : decode cM_fresh 5 = .ok (.iload 4, 2) := by decide +kernel
theorem dM_fresh_7 : decode cM_fresh 7 = .ok (.iload_n 1, 1) := by decide +kernel
theorem dM_fresh_8 : decode cM_fresh 8 = .ok (.if_icmp .ge 30, 3) := by decide +kernel
theorem dM_fresh_11 : decode cM_fresh 11 = .ok (.iload_n 3, 1) := by decide +kernel
theorem dM_fresh_12 : decode cM_fresh 12 = .ok (.ifCond .eq 18, 3) := by decide +kernel
theorem dM_fresh_15 : decode cM_fresh 15 = .ok (.aload_n 0, 1) := by decide +kernel
theorem dM_fresh_16 : decode cM_fresh 16 = .ok (.iload 4, 2) := by decide +kernel
theorem dM_fresh_18 : decode cM_fresh 18 = .ok (.iload_n 1, 1) := by decide +kernel
theorem dM_fresh_19 : decode cM_fresh 19 = .ok (.iload_n 2, 1) := by decide +kernel
theorem dM_fresh_20 : decode cM_fresh 20 = .ok (.invokevirtual 56, 3) := by decide +kernel
theorem dM_fresh_23 : decode cM_fresh 23 = .ok (.ifCond .ne 7, 3) := by decide +kernel
theorem dM_fresh_26 : decode cM_fresh 26 = .ok (.iconst 1, 1) := by decide +kernel
theorem dM_fresh_27 : decode cM_fresh 27 = .ok (.goto 4, 3) := by decide +kernel
theorem dM_fresh_30 : decode cM_fresh 30 = .ok (.iconst 0, 1) := by decide +kernel
theorem dM_fresh_31 : decode cM_fresh 31 = .ok (.istore_n 3, 1) := by decide +kernel
theorem dM_fresh_32 : decode cM_fresh 32 = .ok (.iinc 4 1, 3) := by decide +kernel
theorem dM_fresh_35 : decode cM_fresh 35 = .ok (.goto (-30), 3) := by decide +kernel
theorem dM_fresh_38 : decode cM_fresh 38 = .ok (.iload_n 3, 1) := by decide +kernel
theorem dM_fresh_39 : decode cM_fresh 39 = .ok (.ireturn, 1) := by decide +kernel
theorem dM_nodes_0 : decode cM_nodes 0 = .ok (.iconst 0, 1) := by decide +kernel
theorem dM_nodes_1 : decode cM_nodes 1 = .ok (.istore_n 1, 1) := by decide +kernel
theorem dM_nodes_2 : decode cM_nodes 2 = .ok (.iconst 0, 1) := by decide +kernel
theorem dM_nodes_3 : decode cM_nodes 3 = .ok (.istore_n 2, 1) := by decide +kernel
theorem dM_nodes_4 : decode cM_nodes 4 = .ok (.iload_n 2, 1) := by decide +kernel
theorem dM_nodes_5 : decode cM_nodes 5 = .ok (.aload_n 0, 1) := by decide +kernel
theorem dM_nodes_6 : decode cM_nodes 6 = .ok (.getfield 60, 3) := by decide +kernel
theorem dM_nodes_9 : decode cM_nodes 9 = .ok (.if_icmp .ge 44, 3) := by decide +kernel
theorem dM_nodes_12 : decode cM_nodes 12 = .ok (.iconst 1, 1) := by decide +kernel
theorem dM_nodes_13 : decode cM_nodes 13 = .ok (.istore_n 3, 1) := by decide +kernel
theorem dM_nodes_14 : decode cM_nodes 14 = .ok (.iload_n 3, 1) := by decide +kernel
theorem dM_nodes_15 : decode cM_nodes 15 = .ok (.aload_n 0, 1) := by decide +kernel
theorem dM_nodes_16 : decode cM_nodes 16 = .ok (.getfield 23, 3) := by decide +kernel
theorem dM_nodes_19 : decode cM_nodes 19 = .ok (.iload_n 2, 1) := by decide +kernel
theorem dM_nodes_20 : decode cM_nodes 20 = .ok (.iaload, 1) := by decide +kernel
theorem dM_nodes_21 : decode cM_nodes 21 = .ok (.if_icmp .gt 26, 3) := by decide +kernel
theorem dM_nodes_24 : decode cM_nodes 24 = .ok (.aload_n 0, 1) := by decide +kernel
theorem dM_nodes_25 : decode cM_nodes 25 = .ok (.iload_n 2, 1) := by decide +kernel
theorem dM_nodes_26 : decode cM_nodes 26 = .ok (.iload_n 3, 1) := by decide +kernel
theorem dM_nodes_27 : decode cM_nodes 27 = .ok (.invokevirtual 64, 3) := by decide +kernel
theorem dM_nodes_30 : decode cM_nodes 30 = .ok (.ifCond .eq 9, 3) := by decide +kernel
theorem dM_nodes_33 : decode cM_nodes 33 = .ok (.iload_n 1, 1) := by decide +kernel
theorem dM_nodes_34 : decode cM_nodes 34 = .ok (.iconst 1, 1) := by decide +kernel
theorem dM_nodes_35 : decode cM_nodes 35 = .ok (.iadd, 1) := by decide +kernel
theorem dM_nodes_36 : decode cM_nodes 36 = .ok (.goto 4, 3) := by decide +kernel
theorem dM_nodes_39 : decode cM_nodes 39 = .ok (.iload_n 1, 1) := by decide +kernel
theorem dM_nodes_40 : decode cM_nodes 40 = .ok (.istore_n 1, 1) := by decide +kernel
theorem dM_nodes_41 : decode cM_nodes 41 = .ok (.iinc 3 1, 3) := by decide +kernel
theorem dM_nodes_44 : decode cM_nodes 44 = .ok (.goto (-30), 3) := by decide +kernel
theorem dM_nodes_47 : decode cM_nodes 47 = .ok (.iinc 2 1, 3) := by decide +kernel
theorem dM_nodes_50 : decode cM_nodes 50 = .ok (.goto (-46), 3) := by decide +kernel
theorem dM_nodes_53 : decode cM_nodes 53 = .ok (.iload_n 1, 1) := by decide +kernel
theorem dM_nodes_54 : decode cM_nodes 54 = .ok (.ireturn, 1) := by decide +kernel
theorem dM_say_0 : decode cM_say 0 = .ok (.iload_n 1, 1) := by decide +kernel
theorem dM_say_1 : decode cM_say 1 = .ok (.iconst 3, 1) := by decide +kernel
theorem dM_say_2 : decode cM_say 2 = .ok (.invokestatic 68, 3) := by decide +kernel
theorem dM_say_5 : decode cM_say 5 = .ok (.ifCond .eq 48, 3) := by decide +kernel
theorem dM_say_8 : decode cM_say 8 = .ok (.iload_n 2, 1) := by decide +kernel
theorem dM_say_9 : decode cM_say 9 = .ok (.iconst 3, 1) := by decide +kernel
theorem dM_say_10 : decode cM_say 10 = .ok (.invokestatic 68, 3) := by decide +kernel
theorem dM_say_13 : decode cM_say 13 = .ok (.ifCond .eq 40, 3) := by decide +kernel
theorem dM_say_16 : decode cM_say 16 = .ok (.iload_n 3, 1) := by decide +kernel
theorem dM_say_17 : decode cM_say 17 = .ok (.iconst (-1), 1) := by decide +kernel
theorem dM_say_18 : decode cM_say 18 = .ok (.if_icmp .eq 11, 3) := by decide +kernel
theorem dM_say_21 : decode cM_say 21 = .ok (.iload_n 3, 1) := by decide +kernel
theorem dM_say_22 : decode cM_say 22 = .ok (.iconst 3, 1) := by decide +kernel
theorem dM_say_23 : decode cM_say 23 = .ok (.invokestatic 68, 3) := by decide +kernel
theorem dM_say_26 : decode cM_say 26 = .ok (.ifCond .eq 27, 3) := by decide +kernel
theorem dM_say_29 : decode cM_say 29 = .ok (.iload 4, 2) := by decide +kernel
theorem dM_say_31 : decode cM_say 31 = .ok (.iconst (-1), 1) := by decide +kernel
theorem dM_say_32 : decode cM_say 32 = .ok (.if_icmp .eq 17, 3) := by decide +kernel
theorem dM_say_35 : decode cM_say 35 = .ok (.iload 4, 2) := by decide +kernel
theorem dM_say_37 : decode cM_say 37 = .ok (.iconst 3, 1) := by decide +kernel
theorem dM_say_38 : decode cM_say 38 = .ok (.invokestatic 68, 3) := by decide +kernel
theorem dM_say_41 : decode cM_say 41 = .ok (.ifCond .eq 12, 3) := by decide +kernel
theorem dM_say_44 : decode cM_say 44 = .ok (.iload_n 3, 1) := by decide +kernel
theorem dM_say_45 : decode cM_say 45 = .ok (.iconst (-1), 1) := by decide +kernel
theorem dM_say_46 : decode cM_say 46 = .ok (.if_icmp .eq 7, 3) := by decide +kernel
theorem dM_say_49 : decode cM_say 49 = .ok (.iconst 1, 1) := by decide +kernel
theorem dM_say_50 : decode cM_say 50 = .ok (.goto 4, 3) := by decide +kernel
theorem dM_say_53 : decode cM_say 53 = .ok (.iconst 0, 1) := by decide +kernel
theorem dM_say_54 : decode cM_say 54 = .ok (.istore 5, 2) := by decide +kernel
theorem dM_say_56 : decode cM_say 56 = .ok (.iload 5, 2) := by decide +kernel
theorem dM_say_58 : decode cM_say 58 = .ok (.ifCond .eq 12, 3) := by decide +kernel
theorem dM_say_61 : decode cM_say 61 = .ok (.aload_n 0, 1) := by decide +kernel
theorem dM_say_62 : decode cM_say 62 = .ok (.getfield 60, 3) := by decide +kernel
theorem dM_say_65 : decode cM_say 65 = .ok (.bipush 8, 2) := by decide +kernel
theorem dM_say_67 : decode cM_say 67 = .ok (.if_icmp .ne 5, 3) := by decide +kernel
theorem dM_say_70 : decode cM_say 70 = .ok (.iconst (-1), 1) := by decide +kernel
theorem dM_say_71 : decode cM_say 71 = .ok (.ireturn, 1) := by decide +kernel
theorem dM_say_72 : decode cM_say 72 = .ok (.aload_n 0, 1) := by decide +kernel
theorem dM_say_73 : decode cM_say 73 = .ok (.getfield 20, 3) := by decide +kernel
theorem dM_say_76 : decode cM_say 76 = .ok (.aload_n 0, 1) := by decide +kernel
theorem dM_say_77 : decode cM_say 77 = .ok (.getfield 60, 3) := by decide +kernel
theorem dM_say_80 : decode cM_say 80 = .ok (.iload_n 1, 1) := by decide +kernel
theorem dM_say_81 : decode cM_say 81 = .ok (.iastore, 1) := by decide +kernel
theorem dM_say_82 : decode cM_say 82 = .ok (.aload_n 0, 1) := by decide +kernel
theorem dM_say_83 : decode cM_say 83 = .ok (.getfield 23, 3) := by decide +kernel
theorem dM_say_86 : decode cM_say 86 = .ok (.aload_n 0, 1) := by decide +kernel
theorem dM_say_87 : decode cM_say 87 = .ok (.getfield 60, 3) := by decide +kernel
theorem dM_say_90 : decode cM_say 90 = .ok (.iload_n 3, 1) := by decide +kernel
theorem dM_say_91 : decode cM_say 91 = .ok (.iconst (-1), 1) := by decide +kernel
theorem dM_say_92 : decode cM_say 92 = .ok (.if_icmp .ne 7, 3) := by decide +kernel
theorem dM_say_95 : decode cM_say 95 = .ok (.iconst 1, 1) := by decide +kernel
theorem dM_say_96 : decode cM_say 96 = .ok (.goto 14, 3) := by decide +kernel
theorem dM_say_99 : decode cM_say 99 = .ok (.iload 4, 2) := by decide +kernel
theorem dM_say_101 : decode cM_say 101 = .ok (.iconst (-1), 1) := by decide +kernel
theorem dM_say_102 : decode cM_say 102 = .ok (.if_icmp .ne 7, 3) := by decide +kernel
theorem dM_say_105 : decode cM_say 105 = .ok (.iconst 2, 1) := by decide +kernel
theorem dM_say_106 : decode cM_say 106 = .ok (.goto 4, 3) := by decide +kernel
theorem dM_say_109 : decode cM_say 109 = .ok (.iconst 3, 1) := by decide +kernel
theorem dM_say_110 : decode cM_say 110 = .ok (.iastore, 1) := by decide +kernel
theorem dM_say_111 : decode cM_say 111 = .ok (.aload_n 0, 1) := by decide +kernel
theorem dM_say_112 : decode cM_say 112 = .ok (.getfield 26, 3) := by decide +kernel
theorem dM_say_115 : decode cM_say 115 = .ok (.iconst 3, 1) := by decide +kernel
theorem dM_say_116 : decode cM_say 116 = .ok (.aload_n 0, 1) := by decide +kernel
theorem dM_say_117 : decode cM_say 117 = .ok (.getfield 60, 3) := by decide +kernel
theorem dM_say_120 : decode cM_say 120 = .ok (.imul, 1) := by decide +kernel
theorem dM_say_121 : decode cM_say 121 = .ok (.iload_n 2, 1) := by decide +kernel
theorem dM_say_122 : decode cM_say 122 = .ok (.iastore, 1) := by decide +kernel
theorem dM_say_123 : decode cM_say 123 = .ok (.aload_n 0, 1) := by decide +kernel
theorem dM_say_124 : decode cM_say 124 = .ok (.getfield 26, 3) := by decide +kernel
theorem dM_say_127 : decode cM_say 127 = .ok (.iconst 3, 1) := by decide +kernel
theorem dM_say_128 : decode cM_say 128 = .ok (.aload_n 0, 1) := by decide +kernel
theorem dM_say_129 : decode cM_say 129 = .ok (.getfield 60, 3) := by decide +kernel
theorem dM_say_132 : decode cM_say 132 = .ok (.imul, 1) := by decide +kernel
theorem dM_say_133 : decode cM_say 133 = .ok (.iconst 1, 1) := by decide +kernel
theorem dM_say_134 : decode cM_say 134 = .ok (.iadd, 1) := by decide +kernel
theorem dM_say_135 : decode cM_say 135 = .ok (.iload_n 3, 1) := by decide +kernel
theorem dM_say_136 : decode cM_say 136 = .ok (.iastore, 1) := by decide +kernel
theorem dM_say_137 : decode cM_say 137 = .ok (.aload_n 0, 1) := by decide +kernel
theorem dM_say_138 : decode cM_say 138 = .ok (.getfield 26, 3) := by decide +kernel
theorem dM_say_141 : decode cM_say 141 = .ok (.iconst 3, 1) := by decide +kernel
theorem dM_say_142 : decode cM_say 142 = .ok (.aload_n 0, 1) := by decide +kernel
theorem dM_say_143 : decode cM_say 143 = .ok (.getfield 60, 3) := by decide +kernel
theorem dM_say_146 : decode cM_say 146 = .ok (.imul, 1) := by decide +kernel
theorem dM_say_147 : decode cM_say 147 = .ok (.iconst 2, 1) := by decide +kernel
theorem dM_say_148 : decode cM_say 148 = .ok (.iadd, 1) := by decide +kernel
theorem dM_say_149 : decode cM_say 149 = .ok (.iload 4, 2) := by decide +kernel
theorem dM_say_151 : decode cM_say 151 = .ok (.iastore, 1) := by decide +kernel
theorem dM_say_152 : decode cM_say 152 = .ok (.iconst 0, 1) := by decide +kernel
theorem dM_say_153 : decode cM_say 153 = .ok (.istore 6, 2) := by decide +kernel
theorem dM_say_155 : decode cM_say 155 = .ok (.iload 6, 2) := by decide +kernel
theorem dM_say_157 : decode cM_say 157 = .ok (.aload_n 0, 1) := by decide +kernel
theorem dM_say_158 : decode cM_say 158 = .ok (.getfield 60, 3) := by decide +kernel
theorem dM_say_161 : decode cM_say 161 = .ok (.if_icmp .ge 61, 3) := by decide +kernel
theorem dM_say_164 : decode cM_say 164 = .ok (.aload_n 0, 1) := by decide +kernel
theorem dM_say_165 : decode cM_say 165 = .ok (.getfield 20, 3) := by decide +kernel
theorem dM_say_168 : decode cM_say 168 = .ok (.iload 6, 2) := by decide +kernel
theorem dM_say_170 : decode cM_say 170 = .ok (.iaload, 1) := by decide +kernel
theorem dM_say_171 : decode cM_say 171 = .ok (.iload_n 1, 1) := by decide +kernel
theorem dM_say_172 : decode cM_say 172 = .ok (.if_icmp .ne 44, 3) := by decide +kernel
theorem dM_say_175 : decode cM_say 175 = .ok (.aload_n 0, 1) := by decide +kernel
theorem dM_say_176 : decode cM_say 176 = .ok (.getfield 23, 3) := by decide +kernel
theorem dM_say_179 : decode cM_say 179 = .ok (.iload 6, 2) := by decide +kernel
theorem dM_say_181 : decode cM_say 181 = .ok (.iaload, 1) := by decide +kernel
theorem dM_say_182 : decode cM_say 182 = .ok (.aload_n 0, 1) := by decide +kernel
theorem dM_say_183 : decode cM_say 183 = .ok (.getfield 23, 3) := by decide +kernel
theorem dM_say_186 : decode cM_say 186 = .ok (.aload_n 0, 1) := by decide +kernel
theorem dM_say_187 : decode cM_say 187 = .ok (.getfield 60, 3) := by decide +kernel
theorem dM_say_190 : decode cM_say 190 = .ok (.iaload, 1) := by decide +kernel
theorem dM_say_191 : decode cM_say 191 = .ok (.if_icmp .ne 25, 3) := by decide +kernel
theorem dM_say_194 : decode cM_say 194 = .ok (.aload_n 0, 1) := by decide +kernel
theorem dM_say_195 : decode cM_say 195 = .ok (.iload 6, 2) := by decide +kernel
theorem dM_say_197 : decode cM_say 197 = .ok (.aload_n 0, 1) := by decide +kernel
theorem dM_say_198 : decode cM_say 198 = .ok (.getfield 60, 3) := by decide +kernel
theorem dM_say_201 : decode cM_say 201 = .ok (.aload_n 0, 1) := by decide +kernel
theorem dM_say_202 : decode cM_say 202 = .ok (.getfield 23, 3) := by decide +kernel
theorem dM_say_205 : decode cM_say 205 = .ok (.iload 6, 2) := by decide +kernel
theorem dM_say_207 : decode cM_say 207 = .ok (.iaload, 1) := by decide +kernel
theorem dM_say_208 : decode cM_say 208 = .ok (.invokevirtual 56, 3) := by decide +kernel
theorem dM_say_211 : decode cM_say 211 = .ok (.ifCond .eq 5, 3) := by decide +kernel
theorem dM_say_214 : decode cM_say 214 = .ok (.iconst (-1), 1) := by decide +kernel
theorem dM_say_215 : decode cM_say 215 = .ok (.ireturn, 1) := by decide +kernel
theorem dM_say_216 : decode cM_say 216 = .ok (.iinc 6 1, 3) := by decide +kernel
theorem dM_say_219 : decode cM_say 219 = .ok (.goto (-64), 3) := by decide +kernel
theorem dM_say_222 : decode cM_say 222 = .ok (.aload_n 0, 1) := by decide +kernel
theorem dM_say_223 : decode cM_say 223 = .ok (.dup, 1) := by decide +kernel
theorem dM_say_224 : decode cM_say 224 = .ok (.getfield 60, 3) := by decide +kernel
theorem dM_say_227 : decode cM_say 227 = .ok (.iconst 1, 1) := by decide +kernel
theorem dM_say_228 : decode cM_say 228 = .ok (.iadd, 1) := by decide +kernel
theorem dM_say_229 : decode cM_say 229 = .ok (.putfield 60, 3) := by decide +kernel
theorem dM_say_232 : decode cM_say 232 = .ok (.aload_n 0, 1) := by decide +kernel
theorem dM_say_233 : decode cM_say 233 = .ok (.invokevirtual 71, 3) := by decide +kernel
theorem dM_say_236 : decode cM_say 236 = .ok (.ireturn, 1) := by decide +kernel
theorem dM_slot_0 : decode cM_slot 0 = .ok (.iload_n 2, 1) := by decide +kernel
theorem dM_slot_1 : decode cM_slot 1 = .ok (.iconst 4, 1) := by decide +kernel
theorem dM_slot_2 : decode cM_slot 2 = .ok (.invokestatic 68, 3) := by decide +kernel
theorem dM_slot_5 : decode cM_slot 5 = .ok (.ifCond .eq 42, 3) := by decide +kernel
theorem dM_slot_8 : decode cM_slot 8 = .ok (.iload_n 1, 1) := by decide +kernel
theorem dM_slot_9 : decode cM_slot 9 = .ok (.iconst (-1), 1) := by decide +kernel
theorem dM_slot_10 : decode cM_slot 10 = .ok (.if_icmp .eq 11, 3) := by decide +kernel
theorem dM_slot_13 : decode cM_slot 13 = .ok (.iload_n 1, 1) := by decide +kernel
theorem dM_slot_14 : decode cM_slot 14 = .ok (.iconst 4, 1) := by decide +kernel
theorem dM_slot_15 : decode cM_slot 15 = .ok (.invokestatic 68, 3) := by decide +kernel
theorem dM_slot_18 : decode cM_slot 18 = .ok (.ifCond .eq 29, 3) := by decide +kernel
theorem dM_slot_21 : decode cM_slot 21 = .ok (.iload_n 0, 1) := by decide +kernel
theorem dM_slot_22 : decode cM_slot 22 = .ok (.iconst (-1), 1) := by decide +kernel
theorem dM_slot_23 : decode cM_slot 23 = .ok (.if_icmp .eq 11, 3) := by decide +kernel
theorem dM_slot_26 : decode cM_slot 26 = .ok (.iload_n 0, 1) := by decide +kernel
theorem dM_slot_27 : decode cM_slot 27 = .ok (.iconst 4, 1) := by decide +kernel
theorem dM_slot_28 : decode cM_slot 28 = .ok (.invokestatic 68, 3) := by decide +kernel
theorem dM_slot_31 : decode cM_slot 31 = .ok (.ifCond .eq 16, 3) := by decide +kernel
theorem dM_slot_34 : decode cM_slot 34 = .ok (.iload_n 0, 1) := by decide +kernel
theorem dM_slot_35 : decode cM_slot 35 = .ok (.iconst (-1), 1) := by decide +kernel
theorem dM_slot_36 : decode cM_slot 36 = .ok (.if_icmp .eq 13, 3) := by decide +kernel
theorem dM_slot_39 : decode cM_slot 39 = .ok (.iload_n 1, 1) := by decide +kernel
theorem dM_slot_40 : decode cM_slot 40 = .ok (.iconst 3, 1) := by decide +kernel
theorem dM_slot_41 : decode cM_slot 41 = .ok (.invokestatic 68, 3) := by decide +kernel
theorem dM_slot_44 : decode cM_slot 44 = .ok (.ifCond .ne 5, 3) := by decide +kernel
theorem dM_slot_47 : decode cM_slot 47 = .ok (.iconst (-1), 1) := by decide +kernel
theorem dM_slot_48 : decode cM_slot 48 = .ok (.ireturn, 1) := by decide +kernel
theorem dM_slot_49 : decode cM_slot 49 = .ok (.iload_n 1, 1) := by decide +kernel
theorem dM_slot_50 : decode cM_slot 50 = .ok (.iconst (-1), 1) := by decide +kernel
theorem dM_slot_51 : decode cM_slot 51 = .ok (.if_icmp .ne 7, 3) := by decide +kernel
theorem dM_slot_54 : decode cM_slot 54 = .ok (.iload_n 2, 1) := by decide +kernel
theorem dM_slot_55 : decode cM_slot 55 = .ok (.goto 31, 3) := by decide +kernel
theorem dM_slot_58 : decode cM_slot 58 = .ok (.iload_n 0, 1) := by decide +kernel
theorem dM_slot_59 : decode cM_slot 59 = .ok (.iconst (-1), 1) := by decide +kernel
theorem dM_slot_60 : decode cM_slot 60 = .ok (.if_icmp .ne 13, 3) := by decide +kernel
theorem dM_slot_63 : decode cM_slot 63 = .ok (.iconst 5, 1) := by decide +kernel
theorem dM_slot_64 : decode cM_slot 64 = .ok (.iconst 5, 1) := by decide +kernel
theorem dM_slot_65 : decode cM_slot 65 = .ok (.iload_n 1, 1) := by decide +kernel
theorem dM_slot_66 : decode cM_slot 66 = .ok (.imul, 1) := by decide +kernel
theorem dM_slot_67 : decode cM_slot 67 = .ok (.iadd, 1) := by decide +kernel
theorem dM_slot_68 : decode cM_slot 68 = .ok (.iload_n 2, 1) := by decide +kernel
theorem dM_slot_69 : decode cM_slot 69 = .ok (.iadd, 1) := by decide +kernel
theorem dM_slot_70 : decode cM_slot 70 = .ok (.goto 16, 3) := by decide +kernel
theorem dM_slot_73 : decode cM_slot 73 = .ok (.bipush 30, 2) := by decide +kernel
theorem dM_slot_75 : decode cM_slot 75 = .ok (.bipush 25, 2) := by decide +kernel
theorem dM_slot_77 : decode cM_slot 77 = .ok (.iload_n 0, 1) := by decide +kernel
theorem dM_slot_78 : decode cM_slot 78 = .ok (.imul, 1) := by decide +kernel
theorem dM_slot_79 : decode cM_slot 79 = .ok (.iadd, 1) := by decide +kernel
theorem dM_slot_80 : decode cM_slot 80 = .ok (.iconst 5, 1) := by decide +kernel
theorem dM_slot_81 : decode cM_slot 81 = .ok (.iload_n 1, 1) := by decide +kernel
theorem dM_slot_82 : decode cM_slot 82 = .ok (.imul, 1) := by decide +kernel
theorem dM_slot_83 : decode cM_slot 83 = .ok (.iadd, 1) := by decide +kernel
theorem dM_slot_84 : decode cM_slot 84 = .ok (.iload_n 2, 1) := by decide +kernel
theorem dM_slot_85 : decode cM_slot 85 = .ok (.iadd, 1) := by decide +kernel
theorem dM_slot_86 : decode cM_slot 86 = .ok (.ireturn, 1) := by decide +kernel
theorem dM_gram_0 : decode cM_gram 0 = .ok (.iload_n 1, 1) := by decide +kernel
theorem dM_gram_1 : decode cM_gram 1 = .ok (.iload_n 2, 1) := by decide +kernel
theorem dM_gram_2 : decode cM_gram 2 = .ok (.iload_n 3, 1) := by decide +kernel
theorem dM_gram_3 : decode cM_gram 3 = .ok (.invokestatic 75, 3) := by decide +kernel
theorem dM_gram_6 : decode cM_gram 6 = .ok (.istore 6, 2) := by decide +kernel
theorem dM_gram_8 : decode cM_gram 8 = .ok (.iload 6, 2) := by decide +kernel
theorem dM_gram_10 : decode cM_gram 10 = .ok (.ifCond .lt 25, 3) := by decide +kernel
theorem dM_gram_13 : decode cM_gram 13 = .ok (.iload 4, 2) := by decide +kernel
theorem dM_gram_15 : decode cM_gram 15 = .ok (.sipush 9999, 3) := by decide +kernel
theorem dM_gram_18 : decode cM_gram 18 = .ok (.invokestatic 68, 3) := by decide +kernel
theorem dM_gram_21 : decode cM_gram 21 = .ok (.ifCond .eq 14, 3) := by decide +kernel
theorem dM_gram_24 : decode cM_gram 24 = .ok (.iload 5, 2) := by decide +kernel
theorem dM_gram_26 : decode cM_gram 26 = .ok (.sipush 9999, 3) := by decide +kernel
theorem dM_gram_29 : decode cM_gram 29 = .ok (.invokestatic 68, 3) := by decide +kernel
theorem dM_gram_32 : decode cM_gram 32 = .ok (.ifCond .ne 5, 3) := by decide +kernel
theorem dM_gram_35 : decode cM_gram 35 = .ok (.iconst 0, 1) := by decide +kernel
theorem dM_gram_36 : decode cM_gram 36 = .ok (.ireturn, 1) := by decide +kernel
theorem dM_gram_37 : decode cM_gram 37 = .ok (.aload_n 0, 1) := by decide +kernel
theorem dM_gram_38 : decode cM_gram 38 = .ok (.getfield 7, 3) := by decide +kernel
theorem dM_gram_41 : decode cM_gram 41 = .ok (.iload 6, 2) := by decide +kernel
theorem dM_gram_43 : decode cM_gram 43 = .ok (.iconst 1, 1) := by decide +kernel
theorem dM_gram_44 : decode cM_gram 44 = .ok (.bastore, 1) := by decide +kernel
theorem dM_gram_45 : decode cM_gram 45 = .ok (.aload_n 0, 1) := by decide +kernel
theorem dM_gram_46 : decode cM_gram 46 = .ok (.getfield 13, 3) := by decide +kernel
theorem dM_gram_49 : decode cM_gram 49 = .ok (.iload 6, 2) := by decide +kernel
theorem dM_gram_51 : decode cM_gram 51 = .ok (.iload 4, 2) := by decide +kernel
theorem dM_gram_53 : decode cM_gram 53 = .ok (.iastore, 1) := by decide +kernel
theorem dM_gram_54 : decode cM_gram 54 = .ok (.aload_n 0, 1) := by decide +kernel
theorem dM_gram_55 : decode cM_gram 55 = .ok (.getfield 17, 3) := by decide +kernel
theorem dM_gram_58 : decode cM_gram 58 = .ok (.iload 6, 2) := by decide +kernel
theorem dM_gram_60 : decode cM_gram 60 = .ok (.iload 5, 2) := by decide +kernel
theorem dM_gram_62 : decode cM_gram 62 = .ok (.iastore, 1) := by decide +kernel
theorem dM_gram_63 : decode cM_gram 63 = .ok (.iconst 1, 1) := by decide +kernel
theorem dM_gram_64 : decode cM_gram 64 = .ok (.ireturn, 1) := by decide +kernel
theorem dM_ungram_0 : decode cM_ungram 0 = .ok (.iload_n 1, 1) := by decide +kernel
theorem dM_ungram_1 : decode cM_ungram 1 = .ok (.iload_n 2, 1) := by decide +kernel
theorem dM_ungram_2 : decode cM_ungram 2 = .ok (.iload_n 3, 1) := by decide +kernel
theorem dM_ungram_3 : decode cM_ungram 3 = .ok (.invokestatic 75, 3) := by decide +kernel
theorem dM_ungram_6 : decode cM_ungram 6 = .ok (.istore 4, 2) := by decide +kernel
theorem dM_ungram_8 : decode cM_ungram 8 = .ok (.iload 4, 2) := by decide +kernel
theorem dM_ungram_10 : decode cM_ungram 10 = .ok (.ifCond .lt 13, 3) := by decide +kernel
theorem dM_ungram_13 : decode cM_ungram 13 = .ok (.aload_n 0, 1) := by decide +kernel
theorem dM_ungram_14 : decode cM_ungram 14 = .ok (.getfield 7, 3) := by decide +kernel
theorem dM_ungram_17 : decode cM_ungram 17 = .ok (.iload 4, 2) := by decide +kernel
theorem dM_ungram_19 : decode cM_ungram 19 = .ok (.baload, 1) := by decide +kernel
theorem dM_ungram_20 : decode cM_ungram 20 = .ok (.ifCond .ne 5, 3) := by decide +kernel
theorem dM_ungram_23 : decode cM_ungram 23 = .ok (.iconst 0, 1) := by decide +kernel
theorem dM_ungram_24 : decode cM_ungram 24 = .ok (.ireturn, 1) := by decide +kernel
theorem dM_ungram_25 : decode cM_ungram 25 = .ok (.aload_n 0, 1) := by decide +kernel
theorem dM_ungram_26 : decode cM_ungram 26 = .ok (.getfield 7, 3) := by decide +kernel
theorem dM_ungram_29 : decode cM_ungram 29 = .ok (.iload 4, 2) := by decide +kernel
theorem dM_ungram_31 : decode cM_ungram 31 = .ok (.iconst 0, 1) := by decide +kernel
theorem dM_ungram_32 : decode cM_ungram 32 = .ok (.bastore, 1) := by decide +kernel
theorem dM_ungram_33 : decode cM_ungram 33 = .ok (.iconst 1, 1) := by decide +kernel
theorem dM_ungram_34 : decode cM_ungram 34 = .ok (.ireturn, 1) := by decide +kernel
theorem dM_back_0 : decode cM_back 0 = .ok (.aload_n 0, 1) := by decide +kernel
theorem dM_back_1 : decode cM_back 1 = .ok (.getfield 7, 3) := by decide +kernel
theorem dM_back_4 : decode cM_back 4 = .ok (.iload_n 1, 1) := by decide +kernel
theorem dM_back_5 : decode cM_back 5 = .ok (.baload, 1) := by decide +kernel
theorem dM_back_6 : decode cM_back 6 = .ok (.ifCond .eq 12, 3) := by decide +kernel
theorem dM_back_9 : decode cM_back 9 = .ok (.aload_n 0, 1) := by decide +kernel
theorem dM_back_10 : decode cM_back 10 = .ok (.getfield 17, 3) := by decide +kernel
theorem dM_back_13 : decode cM_back 13 = .ok (.iload_n 1, 1) := by decide +kernel
theorem dM_back_14 : decode cM_back 14 = .ok (.iaload, 1) := by decide +kernel
theorem dM_back_15 : decode cM_back 15 = .ok (.goto 4, 3) := by decide +kernel
theorem dM_back_18 : decode cM_back 18 = .ok (.iconst 0, 1) := by decide +kernel
theorem dM_back_19 : decode cM_back 19 = .ok (.ireturn, 1) := by decide +kernel
theorem dM_afterOne_0 : decode cM_afterOne 0 = .ok (.iconst 5, 1) := by decide +kernel
theorem dM_afterOne_1 : decode cM_afterOne 1 = .ok (.iconst 5, 1) := by decide +kernel
theorem dM_afterOne_2 : decode cM_afterOne 2 = .ok (.iload_n 1, 1) := by decide +kernel
theorem dM_afterOne_3 : decode cM_afterOne 3 = .ok (.imul, 1) := by decide +kernel
theorem dM_afterOne_4 : decode cM_afterOne 4 = .ok (.iadd, 1) := by decide +kernel
theorem dM_afterOne_5 : decode cM_afterOne 5 = .ok (.iload_n 2, 1) := by decide +kernel
theorem dM_afterOne_6 : decode cM_afterOne 6 = .ok (.iadd, 1) := by decide +kernel
theorem dM_afterOne_7 : decode cM_afterOne 7 = .ok (.istore_n 3, 1) := by decide +kernel
theorem dM_afterOne_8 : decode cM_afterOne 8 = .ok (.aload_n 0, 1) := by decide +kernel
theorem dM_afterOne_9 : decode cM_afterOne 9 = .ok (.getfield 7, 3) := by decide +kernel
theorem dM_afterOne_12 : decode cM_afterOne 12 = .ok (.iload_n 3, 1) := by decide +kernel
theorem dM_afterOne_13 : decode cM_afterOne 13 = .ok (.baload, 1) := by decide +kernel
theorem dM_afterOne_14 : decode cM_afterOne 14 = .ok (.ifCond .eq 12, 3) := by decide +kernel
theorem dM_afterOne_17 : decode cM_afterOne 17 = .ok (.aload_n 0, 1) := by decide +kernel
theorem dM_afterOne_18 : decode cM_afterOne 18 = .ok (.getfield 13, 3) := by decide +kernel
theorem dM_afterOne_21 : decode cM_afterOne 21 = .ok (.iload_n 3, 1) := by decide +kernel
theorem dM_afterOne_22 : decode cM_afterOne 22 = .ok (.iaload, 1) := by decide +kernel
theorem dM_afterOne_23 : decode cM_afterOne 23 = .ok (.goto 28, 3) := by decide +kernel
theorem dM_afterOne_26 : decode cM_afterOne 26 = .ok (.aload_n 0, 1) := by decide +kernel
theorem dM_afterOne_27 : decode cM_afterOne 27 = .ok (.getfield 7, 3) := by decide +kernel
theorem dM_afterOne_30 : decode cM_afterOne 30 = .ok (.iload_n 2, 1) := by decide +kernel
theorem dM_afterOne_31 : decode cM_afterOne 31 = .ok (.baload, 1) := by decide +kernel
theorem dM_afterOne_32 : decode cM_afterOne 32 = .ok (.ifCond .eq 18, 3) := by decide +kernel
theorem dM_afterOne_35 : decode cM_afterOne 35 = .ok (.aload_n 0, 1) := by decide +kernel
theorem dM_afterOne_36 : decode cM_afterOne 36 = .ok (.iload_n 1, 1) := by decide +kernel
theorem dM_afterOne_37 : decode cM_afterOne 37 = .ok (.invokevirtual 79, 3) := by decide +kernel
theorem dM_afterOne_40 : decode cM_afterOne 40 = .ok (.aload_n 0, 1) := by decide +kernel
theorem dM_afterOne_41 : decode cM_afterOne 41 = .ok (.getfield 13, 3) := by decide +kernel
theorem dM_afterOne_44 : decode cM_afterOne 44 = .ok (.iload_n 2, 1) := by decide +kernel
theorem dM_afterOne_45 : decode cM_afterOne 45 = .ok (.iaload, 1) := by decide +kernel
theorem dM_afterOne_46 : decode cM_afterOne 46 = .ok (.iadd, 1) := by decide +kernel
theorem dM_afterOne_47 : decode cM_afterOne 47 = .ok (.goto 4, 3) := by decide +kernel
theorem dM_afterOne_50 : decode cM_afterOne 50 = .ok (.iconst (-1), 1) := by decide +kernel
theorem dM_afterOne_51 : decode cM_afterOne 51 = .ok (.ireturn, 1) := by decide +kernel
theorem dM_after_0 : decode cM_after 0 = .ok (.iload_n 3, 1) := by decide +kernel
theorem dM_after_1 : decode cM_after 1 = .ok (.iconst 4, 1) := by decide +kernel
theorem dM_after_2 : decode cM_after 2 = .ok (.invokestatic 68, 3) := by decide +kernel
theorem dM_after_5 : decode cM_after 5 = .ok (.ifCond .eq 29, 3) := by decide +kernel
theorem dM_after_8 : decode cM_after 8 = .ok (.iload_n 2, 1) := by decide +kernel
theorem dM_after_9 : decode cM_after 9 = .ok (.iconst 4, 1) := by decide +kernel
theorem dM_after_10 : decode cM_after 10 = .ok (.invokestatic 68, 3) := by decide +kernel
theorem dM_after_13 : decode cM_after 13 = .ok (.ifCond .eq 21, 3) := by decide +kernel
theorem dM_after_16 : decode cM_after 16 = .ok (.iload_n 1, 1) := by decide +kernel
theorem dM_after_17 : decode cM_after 17 = .ok (.iconst 4, 1) := by decide +kernel
theorem dM_after_18 : decode cM_after 18 = .ok (.invokestatic 68, 3) := by decide +kernel
theorem dM_after_21 : decode cM_after 21 = .ok (.ifCond .eq 13, 3) := by decide +kernel
theorem dM_after_24 : decode cM_after 24 = .ok (.iload_n 2, 1) := by decide +kernel
theorem dM_after_25 : decode cM_after 25 = .ok (.iconst 4, 1) := by decide +kernel
theorem dM_after_26 : decode cM_after 26 = .ok (.if_icmp .ne 10, 3) := by decide +kernel
theorem dM_after_29 : decode cM_after 29 = .ok (.iload_n 1, 1) := by decide +kernel
theorem dM_after_30 : decode cM_after 30 = .ok (.iconst 4, 1) := by decide +kernel
theorem dM_after_31 : decode cM_after 31 = .ok (.if_icmp .eq 5, 3) := by decide +kernel
theorem dM_after_34 : decode cM_after 34 = .ok (.iconst (-1), 1) := by decide +kernel
theorem dM_after_35 : decode cM_after 35 = .ok (.ireturn, 1) := by decide +kernel
theorem dM_after_36 : decode cM_after 36 = .ok (.bipush 30, 2) := by decide +kernel
theorem dM_after_38 : decode cM_after 38 = .ok (.bipush 25, 2) := by decide +kernel
theorem dM_after_40 : decode cM_after 40 = .ok (.iload_n 1, 1) := by decide +kernel
theorem dM_after_41 : decode cM_after 41 = .ok (.imul, 1) := by decide +kernel
theorem dM_after_42 : decode cM_after 42 = .ok (.iadd, 1) := by decide +kernel
theorem dM_after_43 : decode cM_after 43 = .ok (.iconst 5, 1) := by decide +kernel
theorem dM_after_44 : decode cM_after 44 = .ok (.iload_n 2, 1) := by decide +kernel
theorem dM_after_45 : decode cM_after 45 = .ok (.imul, 1) := by decide +kernel
theorem dM_after_46 : decode cM_after 46 = .ok (.iadd, 1) := by decide +kernel
theorem dM_after_47 : decode cM_after 47 = .ok (.iload_n 3, 1) := by decide +kernel
theorem dM_after_48 : decode cM_after 48 = .ok (.iadd, 1) := by decide +kernel
theorem dM_after_49 : decode cM_after 49 = .ok (.istore 4, 2) := by decide +kernel
theorem dM_after_51 : decode cM_after 51 = .ok (.iload_n 2, 1) := by decide +kernel
theorem dM_after_52 : decode cM_after 52 = .ok (.iconst 4, 1) := by decide +kernel
theorem dM_after_53 : decode cM_after 53 = .ok (.if_icmp .eq 21, 3) := by decide +kernel
theorem dM_after_56 : decode cM_after 56 = .ok (.aload_n 0, 1) := by decide +kernel
theorem dM_after_57 : decode cM_after 57 = .ok (.getfield 7, 3) := by decide +kernel
theorem dM_after_60 : decode cM_after 60 = .ok (.iload 4, 2) := by decide +kernel
theorem dM_after_62 : decode cM_after 62 = .ok (.baload, 1) := by decide +kernel
theorem dM_after_63 : decode cM_after 63 = .ok (.ifCond .eq 11, 3) := by decide +kernel
theorem dM_after_66 : decode cM_after 66 = .ok (.aload_n 0, 1) := by decide +kernel
theorem dM_after_67 : decode cM_after 67 = .ok (.getfield 13, 3) := by decide +kernel
theorem dM_after_70 : decode cM_after 70 = .ok (.iload 4, 2) := by decide +kernel
theorem dM_after_72 : decode cM_after 72 = .ok (.iaload, 1) := by decide +kernel
theorem dM_after_73 : decode cM_after 73 = .ok (.ireturn, 1) := by decide +kernel
theorem dM_after_74 : decode cM_after 74 = .ok (.aload_n 0, 1) := by decide +kernel
theorem dM_after_75 : decode cM_after 75 = .ok (.iload_n 2, 1) := by decide +kernel
theorem dM_after_76 : decode cM_after 76 = .ok (.iload_n 3, 1) := by decide +kernel
theorem dM_after_77 : decode cM_after 77 = .ok (.invokevirtual 83, 3) := by decide +kernel
theorem dM_after_80 : decode cM_after 80 = .ok (.istore 5, 2) := by decide +kernel
theorem dM_after_82 : decode cM_after 82 = .ok (.iload 5, 2) := by decide +kernel
theorem dM_after_84 : decode cM_after 84 = .ok (.ifCond .lt 8, 3) := by decide +kernel
theorem dM_after_87 : decode cM_after 87 = .ok (.iload_n 2, 1) := by decide +kernel
theorem dM_after_88 : decode cM_after 88 = .ok (.iconst 4, 1) := by decide +kernel
theorem dM_after_89 : decode cM_after 89 = .ok (.if_icmp .ne 8, 3) := by decide +kernel
theorem dM_after_92 : decode cM_after 92 = .ok (.iload 5, 2) := by decide +kernel
theorem dM_after_94 : decode cM_after 94 = .ok (.goto 17, 3) := by decide +kernel
theorem dM_after_97 : decode cM_after 97 = .ok (.iload 5, 2) := by decide +kernel
theorem dM_after_99 : decode cM_after 99 = .ok (.aload_n 0, 1) := by decide +kernel
theorem dM_after_100 : decode cM_after 100 = .ok (.iconst 5, 1) := by decide +kernel
theorem dM_after_101 : decode cM_after 101 = .ok (.iconst 5, 1) := by decide +kernel
theorem dM_after_102 : decode cM_after 102 = .ok (.iload_n 1, 1) := by decide +kernel
theorem dM_after_103 : decode cM_after 103 = .ok (.imul, 1) := by decide +kernel
theorem dM_after_104 : decode cM_after 104 = .ok (.iadd, 1) := by decide +kernel
theorem dM_after_105 : decode cM_after 105 = .ok (.iload_n 2, 1) := by decide +kernel
theorem dM_after_106 : decode cM_after 106 = .ok (.iadd, 1) := by decide +kernel
theorem dM_after_107 : decode cM_after 107 = .ok (.invokevirtual 79, 3) := by decide +kernel
theorem dM_after_110 : decode cM_after 110 = .ok (.iadd, 1) := by decide +kernel
theorem dM_after_111 : decode cM_after 111 = .ok (.ireturn, 1) := by decide +kernel
theorem dM_topology_0 : decode cM_topology 0 = .ok (.iload_n 1, 1) := by decide +kernel
theorem dM_topology_1 : decode cM_topology 1 = .ok (.iconst 2, 1) := by decide +kernel
theorem dM_topology_2 : decode cM_topology 2 = .ok (.invokestatic 68, 3) := by decide +kernel
theorem dM_topology_5 : decode cM_topology 5 = .ok (.ifCond .eq 23, 3) := by decide +kernel
theorem dM_topology_8 : decode cM_topology 8 = .ok (.iload_n 2, 1) := by decide +kernel
theorem dM_topology_9 : decode cM_topology 9 = .ok (.sipush 9999, 3) := by decide +kernel
theorem dM_topology_12 : decode cM_topology 12 = .ok (.invokestatic 68, 3) := by decide +kernel
theorem dM_topology_15 : decode cM_topology 15 = .ok (.ifCond .eq 13, 3) := by decide +kernel
theorem dM_topology_18 : decode cM_topology 18 = .ok (.iload_n 3, 1) := by decide +kernel
theorem dM_topology_19 : decode cM_topology 19 = .ok (.sipush 9999, 3) := by decide +kernel
theorem dM_topology_22 : decode cM_topology 22 = .ok (.invokestatic 68, 3) := by decide +kernel
theorem dM_topology_25 : decode cM_topology 25 = .ok (.ifCond .ne 5, 3) := by decide +kernel
theorem dM_topology_28 : decode cM_topology 28 = .ok (.iconst 0, 1) := by decide +kernel
theorem dM_topology_29 : decode cM_topology 29 = .ok (.ireturn, 1) := by decide +kernel
theorem dM_topology_30 : decode cM_topology 30 = .ok (.aload_n 0, 1) := by decide +kernel
theorem dM_topology_31 : decode cM_topology 31 = .ok (.getfield 29, 3) := by decide +kernel
theorem dM_topology_34 : decode cM_topology 34 = .ok (.iload_n 1, 1) := by decide +kernel
theorem dM_topology_35 : decode cM_topology 35 = .ok (.iload_n 2, 1) := by decide +kernel
theorem dM_topology_36 : decode cM_topology 36 = .ok (.iastore, 1) := by decide +kernel
theorem dM_topology_37 : decode cM_topology 37 = .ok (.aload_n 0, 1) := by decide +kernel
theorem dM_topology_38 : decode cM_topology 38 = .ok (.getfield 32, 3) := by decide +kernel
theorem dM_topology_41 : decode cM_topology 41 = .ok (.iload_n 1, 1) := by decide +kernel
theorem dM_topology_42 : decode cM_topology 42 = .ok (.iload_n 3, 1) := by decide +kernel
theorem dM_topology_43 : decode cM_topology 43 = .ok (.iastore, 1) := by decide +kernel
theorem dM_topology_44 : decode cM_topology 44 = .ok (.iconst 1, 1) := by decide +kernel
theorem dM_topology_45 : decode cM_topology 45 = .ok (.ireturn, 1) := by decide +kernel
theorem dM_frame_0 : decode cM_frame 0 = .ok (.aload_n 0, 1) := by decide +kernel
theorem dM_frame_1 : decode cM_frame 1 = .ok (.getfield 87, 3) := by decide +kernel
theorem dM_frame_4 : decode cM_frame 4 = .ok (.bipush 15, 2) := by decide +kernel
theorem dM_frame_6 : decode cM_frame 6 = .ok (.if_icmp .ne 5, 3) := by decide +kernel
theorem dM_frame_9 : decode cM_frame 9 = .ok (.iconst (-1), 1) := by decide +kernel
theorem dM_frame_10 : decode cM_frame 10 = .ok (.ireturn, 1) := by decide +kernel
theorem dM_frame_11 : decode cM_frame 11 = .ok (.iconst 0, 1) := by decide +kernel
theorem dM_frame_12 : decode cM_frame 12 = .ok (.istore_n 1, 1) := by decide +kernel
theorem dM_frame_13 : decode cM_frame 13 = .ok (.iload_n 1, 1) := by decide +kernel
theorem dM_frame_14 : decode cM_frame 14 = .ok (.bipush 12, 2) := by decide +kernel
theorem dM_frame_16 : decode cM_frame 16 = .ok (.if_icmp .ge 24, 3) := by decide +kernel
theorem dM_frame_19 : decode cM_frame 19 = .ok (.aload_n 0, 1) := by decide +kernel
theorem dM_frame_20 : decode cM_frame 20 = .ok (.getfield 35, 3) := by decide +kernel
theorem dM_frame_23 : decode cM_frame 23 = .ok (.bipush 12, 2) := by decide +kernel
theorem dM_frame_25 : decode cM_frame 25 = .ok (.aload_n 0, 1) := by decide +kernel
theorem dM_frame_26 : decode cM_frame 26 = .ok (.getfield 87, 3) := by decide +kernel
theorem dM_frame_29 : decode cM_frame 29 = .ok (.imul, 1) := by decide +kernel
theorem dM_frame_30 : decode cM_frame 30 = .ok (.iload_n 1, 1) := by decide +kernel
theorem dM_frame_31 : decode cM_frame 31 = .ok (.iadd, 1) := by decide +kernel
theorem dM_frame_32 : decode cM_frame 32 = .ok (.iconst 0, 1) := by decide +kernel
theorem dM_frame_33 : decode cM_frame 33 = .ok (.iastore, 1) := by decide +kernel
theorem dM_frame_34 : decode cM_frame 34 = .ok (.iinc 1 1, 3) := by decide +kernel
theorem dM_frame_37 : decode cM_frame 37 = .ok (.goto (-24), 3) := by decide +kernel
theorem dM_frame_40 : decode cM_frame 40 = .ok (.aload_n 0, 1) := by decide +kernel
theorem dM_frame_41 : decode cM_frame 41 = .ok (.dup, 1) := by decide +kernel
theorem dM_frame_42 : decode cM_frame 42 = .ok (.getfield 87, 3) := by decide +kernel
theorem dM_frame_45 : decode cM_frame 45 = .ok (.iconst 1, 1) := by decide +kernel
theorem dM_frame_46 : decode cM_frame 46 = .ok (.iadd, 1) := by decide +kernel
theorem dM_frame_47 : decode cM_frame 47 = .ok (.putfield 87, 3) := by decide +kernel
theorem dM_frame_50 : decode cM_frame 50 = .ok (.aload_n 0, 1) := by decide +kernel
theorem dM_frame_51 : decode cM_frame 51 = .ok (.getfield 87, 3) := by decide +kernel
theorem dM_frame_54 : decode cM_frame 54 = .ok (.ireturn, 1) := by decide +kernel
theorem dM_drop_0 : decode cM_drop 0 = .ok (.aload_n 0, 1) := by decide +kernel
theorem dM_drop_1 : decode cM_drop 1 = .ok (.getfield 87, 3) := by decide +kernel
theorem dM_drop_4 : decode cM_drop 4 = .ok (.ifCond .ne 5, 3) := by decide +kernel
theorem dM_drop_7 : decode cM_drop 7 = .ok (.iconst 0, 1) := by decide +kernel
theorem dM_drop_8 : decode cM_drop 8 = .ok (.ireturn, 1) := by decide +kernel
theorem dM_drop_9 : decode cM_drop 9 = .ok (.aload_n 0, 1) := by decide +kernel
theorem dM_drop_10 : decode cM_drop 10 = .ok (.dup, 1) := by decide +kernel
theorem dM_drop_11 : decode cM_drop 11 = .ok (.getfield 87, 3) := by decide +kernel
theorem dM_drop_14 : decode cM_drop 14 = .ok (.iconst 1, 1) := by decide +kernel
theorem dM_drop_15 : decode cM_drop 15 = .ok (.isub, 1) := by decide +kernel
theorem dM_drop_16 : decode cM_drop 16 = .ok (.putfield 87, 3) := by decide +kernel
theorem dM_drop_19 : decode cM_drop 19 = .ok (.iconst 1, 1) := by decide +kernel
theorem dM_drop_20 : decode cM_drop 20 = .ok (.ireturn, 1) := by decide +kernel
theorem dM_sound_0 : decode cM_sound 0 = .ok (.iload_n 1, 1) := by decide +kernel
theorem dM_sound_1 : decode cM_sound 1 = .ok (.ifCond .lt 38, 3) := by decide +kernel
theorem dM_sound_4 : decode cM_sound 4 = .ok (.iload_n 1, 1) := by decide +kernel
theorem dM_sound_5 : decode cM_sound 5 = .ok (.aload_n 0, 1) := by decide +kernel
theorem dM_sound_6 : decode cM_sound 6 = .ok (.getfield 87, 3) := by decide +kernel
theorem dM_sound_9 : decode cM_sound 9 = .ok (.if_icmp .ge 30, 3) := by decide +kernel
theorem dM_sound_12 : decode cM_sound 12 = .ok (.iload_n 2, 1) := by decide +kernel
theorem dM_sound_13 : decode cM_sound 13 = .ok (.iconst 3, 1) := by decide +kernel
theorem dM_sound_14 : decode cM_sound 14 = .ok (.invokestatic 68, 3) := by decide +kernel
theorem dM_sound_17 : decode cM_sound 17 = .ok (.ifCond .eq 22, 3) := by decide +kernel
theorem dM_sound_20 : decode cM_sound 20 = .ok (.iload_n 3, 1) := by decide +kernel
theorem dM_sound_21 : decode cM_sound 21 = .ok (.iconst 2, 1) := by decide +kernel
theorem dM_sound_22 : decode cM_sound 22 = .ok (.invokestatic 68, 3) := by decide +kernel
theorem dM_sound_25 : decode cM_sound 25 = .ok (.ifCond .eq 14, 3) := by decide +kernel
theorem dM_sound_28 : decode cM_sound 28 = .ok (.iload 4, 2) := by decide +kernel
theorem dM_sound_30 : decode cM_sound 30 = .ok (.sipush 9999, 3) := by decide +kernel
theorem dM_sound_33 : decode cM_sound 33 = .ok (.invokestatic 68, 3) := by decide +kernel
theorem dM_sound_36 : decode cM_sound 36 = .ok (.ifCond .ne 5, 3) := by decide +kernel
theorem dM_sound_39 : decode cM_sound 39 = .ok (.iconst 0, 1) := by decide +kernel
theorem dM_sound_40 : decode cM_sound 40 = .ok (.ireturn, 1) := by decide +kernel
theorem dM_sound_41 : decode cM_sound 41 = .ok (.aload_n 0, 1) := by decide +kernel
theorem dM_sound_42 : decode cM_sound 42 = .ok (.getfield 35, 3) := by decide +kernel
theorem dM_sound_45 : decode cM_sound 45 = .ok (.bipush 12, 2) := by decide +kernel
theorem dM_sound_47 : decode cM_sound 47 = .ok (.iload_n 1, 1) := by decide +kernel
theorem dM_sound_48 : decode cM_sound 48 = .ok (.imul, 1) := by decide +kernel
theorem dM_sound_49 : decode cM_sound 49 = .ok (.iconst 3, 1) := by decide +kernel
theorem dM_sound_50 : decode cM_sound 50 = .ok (.iload_n 2, 1) := by decide +kernel
theorem dM_sound_51 : decode cM_sound 51 = .ok (.imul, 1) := by decide +kernel
theorem dM_sound_52 : decode cM_sound 52 = .ok (.iadd, 1) := by decide +kernel
theorem dM_sound_53 : decode cM_sound 53 = .ok (.iload_n 3, 1) := by decide +kernel
theorem dM_sound_54 : decode cM_sound 54 = .ok (.iadd, 1) := by decide +kernel
theorem dM_sound_55 : decode cM_sound 55 = .ok (.iload 4, 2) := by decide +kernel
theorem dM_sound_57 : decode cM_sound 57 = .ok (.iastore, 1) := by decide +kernel
theorem dM_sound_58 : decode cM_sound 58 = .ok (.iconst 1, 1) := by decide +kernel
theorem dM_sound_59 : decode cM_sound 59 = .ok (.ireturn, 1) := by decide +kernel
theorem dM_frames_0 : decode cM_frames 0 = .ok (.aload_n 0, 1) := by decide +kernel
theorem dM_frames_1 : decode cM_frames 1 = .ok (.getfield 87, 3) := by decide +kernel
theorem dM_frames_4 : decode cM_frames 4 = .ok (.ireturn, 1) := by decide +kernel
theorem dM_come_0 : decode cM_come 0 = .ok (.sipush 225, 3) := by decide +kernel
theorem dM_come_3 : decode cM_come 3 = .ok (.iload_n 2, 1) := by decide +kernel
theorem dM_come_4 : decode cM_come 4 = .ok (.imul, 1) := by decide +kernel
theorem dM_come_5 : decode cM_come 5 = .ok (.bipush 25, 2) := by decide +kernel
theorem dM_come_7 : decode cM_come 7 = .ok (.iload_n 3, 1) := by decide +kernel
theorem dM_come_8 : decode cM_come 8 = .ok (.imul, 1) := by decide +kernel
theorem dM_come_9 : decode cM_come 9 = .ok (.iadd, 1) := by decide +kernel
theorem dM_come_10 : decode cM_come 10 = .ok (.iload 4, 2) := by decide +kernel
theorem dM_come_12 : decode cM_come 12 = .ok (.iadd, 1) := by decide +kernel
theorem dM_come_13 : decode cM_come 13 = .ok (.istore 8, 2) := by decide +kernel
theorem dM_come_15 : decode cM_come 15 = .ok (.iload 5, 2) := by decide +kernel
theorem dM_come_17 : decode cM_come 17 = .ok (.aload_n 0, 1) := by decide +kernel
theorem dM_come_18 : decode cM_come 18 = .ok (.getfield 35, 3) := by decide +kernel
theorem dM_come_21 : decode cM_come 21 = .ok (.bipush 12, 2) := by decide +kernel
theorem dM_come_23 : decode cM_come 23 = .ok (.iload_n 1, 1) := by decide +kernel
theorem dM_come_24 : decode cM_come 24 = .ok (.imul, 1) := by decide +kernel
theorem dM_come_25 : decode cM_come 25 = .ok (.iconst 3, 1) := by decide +kernel
theorem dM_come_26 : decode cM_come 26 = .ok (.aload_n 0, 1) := by decide +kernel
theorem dM_come_27 : decode cM_come 27 = .ok (.getfield 26, 3) := by decide +kernel
theorem dM_come_30 : decode cM_come 30 = .ok (.iconst 3, 1) := by decide +kernel
theorem dM_come_31 : decode cM_come 31 = .ok (.iload_n 2, 1) := by decide +kernel
theorem dM_come_32 : decode cM_come 32 = .ok (.imul, 1) := by decide +kernel
theorem dM_come_33 : decode cM_come 33 = .ok (.iload_n 3, 1) := by decide +kernel
theorem dM_come_34 : decode cM_come 34 = .ok (.iconst 3, 1) := by decide +kernel
theorem dM_come_35 : decode cM_come 35 = .ok (.idiv, 1) := by decide +kernel
theorem dM_come_36 : decode cM_come 36 = .ok (.iadd, 1) := by decide +kernel
theorem dM_come_37 : decode cM_come 37 = .ok (.iaload, 1) := by decide +kernel
theorem dM_come_38 : decode cM_come 38 = .ok (.imul, 1) := by decide +kernel
theorem dM_come_39 : decode cM_come 39 = .ok (.iadd, 1) := by decide +kernel
theorem dM_come_40 : decode cM_come 40 = .ok (.iload_n 3, 1) := by decide +kernel
theorem dM_come_41 : decode cM_come 41 = .ok (.iconst 3, 1) := by decide +kernel
theorem dM_come_42 : decode cM_come 42 = .ok (.irem, 1) := by decide +kernel
theorem dM_come_43 : decode cM_come 43 = .ok (.iadd, 1) := by decide +kernel
theorem dM_come_44 : decode cM_come 44 = .ok (.iaload, 1) := by decide +kernel
theorem dM_come_45 : decode cM_come 45 = .ok (.iadd, 1) := by decide +kernel
theorem dM_come_46 : decode cM_come 46 = .ok (.istore 9, 2) := by decide +kernel
theorem dM_come_48 : decode cM_come 48 = .ok (.aload_n 0, 1) := by decide +kernel
theorem dM_come_49 : decode cM_come 49 = .ok (.getfield 47, 3) := by decide +kernel
theorem dM_come_52 : decode cM_come 52 = .ok (.iload 8, 2) := by decide +kernel
theorem dM_come_54 : decode cM_come 54 = .ok (.iaload, 1) := by decide +kernel
theorem dM_come_55 : decode cM_come 55 = .ok (.ifCond .lt 63, 3) := by decide +kernel
theorem dM_come_58 : decode cM_come 58 = .ok (.iload 9, 2) := by decide +kernel
theorem dM_come_60 : decode cM_come 60 = .ok (.aload_n 0, 1) := by decide +kernel
theorem dM_come_61 : decode cM_come 61 = .ok (.getfield 47, 3) := by decide +kernel
theorem dM_come_64 : decode cM_come 64 = .ok (.iload 8, 2) := by decide +kernel
theorem dM_come_66 : decode cM_come 66 = .ok (.iaload, 1) := by decide +kernel
theorem dM_come_67 : decode cM_come 67 = .ok (.if_icmp .lt 51, 3) := by decide +kernel
theorem dM_come_70 : decode cM_come 70 = .ok (.iload 9, 2) := by decide +kernel
theorem dM_come_72 : decode cM_come 72 = .ok (.aload_n 0, 1) := by decide +kernel
theorem dM_come_73 : decode cM_come 73 = .ok (.getfield 47, 3) := by decide +kernel
theorem dM_come_76 : decode cM_come 76 = .ok (.iload 8, 2) := by decide +kernel
theorem dM_come_78 : decode cM_come 78 = .ok (.iaload, 1) := by decide +kernel
theorem dM_come_79 : decode cM_come 79 = .ok (.if_icmp .ne 43, 3) := by decide +kernel
theorem dM_come_82 : decode cM_come 82 = .ok (.iload 6, 2) := by decide +kernel
theorem dM_come_84 : decode cM_come 84 = .ok (.aload_n 0, 1) := by decide +kernel
theorem dM_come_85 : decode cM_come 85 = .ok (.getfield 50, 3) := by decide +kernel
theorem dM_come_88 : decode cM_come 88 = .ok (.iload 8, 2) := by decide +kernel
theorem dM_come_90 : decode cM_come 90 = .ok (.iaload, 1) := by decide +kernel
theorem dM_come_91 : decode cM_come 91 = .ok (.if_icmp .lt 27, 3) := by decide +kernel
theorem dM_come_94 : decode cM_come 94 = .ok (.iload 6, 2) := by decide +kernel
theorem dM_come_96 : decode cM_come 96 = .ok (.aload_n 0, 1) := by decide +kernel
theorem dM_come_97 : decode cM_come 97 = .ok (.getfield 50, 3) := by decide +kernel
theorem dM_come_100 : decode cM_come 100 = .ok (.iload 8, 2) := by decide +kernel
theorem dM_come_102 : decode cM_come 102 = .ok (.iaload, 1) := by decide +kernel
theorem dM_come_103 : decode cM_come 103 = .ok (.if_icmp .ne 19, 3) := by decide +kernel
theorem dM_come_106 : decode cM_come 106 = .ok (.iload 7, 2) := by decide +kernel
theorem dM_come_108 : decode cM_come 108 = .ok (.aload_n 0, 1) := by decide +kernel
theorem dM_come_109 : decode cM_come 109 = .ok (.getfield 53, 3) := by decide +kernel
theorem dM_come_112 : decode cM_come 112 = .ok (.iload 8, 2) := by decide +kernel
theorem dM_come_114 : decode cM_come 114 = .ok (.iaload, 1) := by decide +kernel
theorem dM_come_115 : decode cM_come 115 = .ok (.if_icmp .ge 7, 3) := by decide +kernel
theorem dM_come_118 : decode cM_come 118 = .ok (.iconst 1, 1) := by decide +kernel
theorem dM_come_119 : decode cM_come 119 = .ok (.goto 4, 3) := by decide +kernel
theorem dM_come_122 : decode cM_come 122 = .ok (.iconst 0, 1) := by decide +kernel
theorem dM_come_123 : decode cM_come 123 = .ok (.istore 10, 2) := by decide +kernel
theorem dM_come_125 : decode cM_come 125 = .ok (.iload 10, 2) := by decide +kernel
theorem dM_come_127 : decode cM_come 127 = .ok (.ifCond .eq 30, 3) := by decide +kernel
theorem dM_come_130 : decode cM_come 130 = .ok (.aload_n 0, 1) := by decide +kernel
theorem dM_come_131 : decode cM_come 131 = .ok (.getfield 47, 3) := by decide +kernel
theorem dM_come_134 : decode cM_come 134 = .ok (.iload 8, 2) := by decide +kernel
theorem dM_come_136 : decode cM_come 136 = .ok (.iload 9, 2) := by decide +kernel
theorem dM_come_138 : decode cM_come 138 = .ok (.iastore, 1) := by decide +kernel
theorem dM_come_139 : decode cM_come 139 = .ok (.aload_n 0, 1) := by decide +kernel
theorem dM_come_140 : decode cM_come 140 = .ok (.getfield 50, 3) := by decide +kernel
theorem dM_come_143 : decode cM_come 143 = .ok (.iload 8, 2) := by decide +kernel
theorem dM_come_145 : decode cM_come 145 = .ok (.iload 6, 2) := by decide +kernel
theorem dM_come_147 : decode cM_come 147 = .ok (.iastore, 1) := by decide +kernel
theorem dM_come_148 : decode cM_come 148 = .ok (.aload_n 0, 1) := by decide +kernel
theorem dM_come_149 : decode cM_come 149 = .ok (.getfield 53, 3) := by decide +kernel
theorem dM_come_152 : decode cM_come 152 = .ok (.iload 8, 2) := by decide +kernel
theorem dM_come_154 : decode cM_come 154 = .ok (.iload 7, 2) := by decide +kernel
theorem dM_come_156 : decode cM_come 156 = .ok (.iastore, 1) := by decide +kernel
theorem dM_come_157 : decode cM_come 157 = .ok (.return_, 1) := by decide +kernel
theorem dM_clear_0 : decode cM_clear 0 = .ok (.iconst 0, 1) := by decide +kernel
theorem dM_clear_1 : decode cM_clear 1 = .ok (.istore_n 1, 1) := by decide +kernel
theorem dM_clear_2 : decode cM_clear 2 = .ok (.iload_n 1, 1) := by decide +kernel
theorem dM_clear_3 : decode cM_clear 3 = .ok (.sipush 1800, 3) := by decide +kernel
theorem dM_clear_6 : decode cM_clear 6 = .ok (.if_icmp .ge 16, 3) := by decide +kernel
theorem dM_clear_9 : decode cM_clear 9 = .ok (.aload_n 0, 1) := by decide +kernel
theorem dM_clear_10 : decode cM_clear 10 = .ok (.getfield 47, 3) := by decide +kernel
theorem dM_clear_13 : decode cM_clear 13 = .ok (.iload_n 1, 1) := by decide +kernel
theorem dM_clear_14 : decode cM_clear 14 = .ok (.iconst (-1), 1) := by decide +kernel
theorem dM_clear_15 : decode cM_clear 15 = .ok (.iastore, 1) := by decide +kernel
theorem dM_clear_16 : decode cM_clear 16 = .ok (.iinc 1 1, 3) := by decide +kernel
theorem dM_clear_19 : decode cM_clear 19 = .ok (.goto (-17), 3) := by decide +kernel
theorem dM_clear_22 : decode cM_clear 22 = .ok (.return_, 1) := by decide +kernel
theorem dM_take_0 : decode cM_take 0 = .ok (.iconst 0, 1) := by decide +kernel
theorem dM_take_1 : decode cM_take 1 = .ok (.istore_n 1, 1) := by decide +kernel
theorem dM_take_2 : decode cM_take 2 = .ok (.iload_n 1, 1) := by decide +kernel
theorem dM_take_3 : decode cM_take 3 = .ok (.sipush 1800, 3) := by decide +kernel
theorem dM_take_6 : decode cM_take 6 = .ok (.if_icmp .ge 45, 3) := by decide +kernel
theorem dM_take_9 : decode cM_take 9 = .ok (.aload_n 0, 1) := by decide +kernel
theorem dM_take_10 : decode cM_take 10 = .ok (.getfield 38, 3) := by decide +kernel
theorem dM_take_13 : decode cM_take 13 = .ok (.iload_n 1, 1) := by decide +kernel
theorem dM_take_14 : decode cM_take 14 = .ok (.aload_n 0, 1) := by decide +kernel
theorem dM_take_15 : decode cM_take 15 = .ok (.getfield 47, 3) := by decide +kernel
theorem dM_take_18 : decode cM_take 18 = .ok (.iload_n 1, 1) := by decide +kernel
theorem dM_take_19 : decode cM_take 19 = .ok (.iaload, 1) := by decide +kernel
theorem dM_take_20 : decode cM_take 20 = .ok (.iastore, 1) := by decide +kernel
theorem dM_take_21 : decode cM_take 21 = .ok (.aload_n 0, 1) := by decide +kernel
theorem dM_take_22 : decode cM_take 22 = .ok (.getfield 41, 3) := by decide +kernel
theorem dM_take_25 : decode cM_take 25 = .ok (.iload_n 1, 1) := by decide +kernel
theorem dM_take_26 : decode cM_take 26 = .ok (.aload_n 0, 1) := by decide +kernel
theorem dM_take_27 : decode cM_take 27 = .ok (.getfield 50, 3) := by decide +kernel
theorem dM_take_30 : decode cM_take 30 = .ok (.iload_n 1, 1) := by decide +kernel
theorem dM_take_31 : decode cM_take 31 = .ok (.iaload, 1) := by decide +kernel
theorem dM_take_32 : decode cM_take 32 = .ok (.iastore, 1) := by decide +kernel
theorem dM_take_33 : decode cM_take 33 = .ok (.aload_n 0, 1) := by decide +kernel
theorem dM_take_34 : decode cM_take 34 = .ok (.getfield 44, 3) := by decide +kernel
theorem dM_take_37 : decode cM_take 37 = .ok (.iload_n 1, 1) := by decide +kernel
theorem dM_take_38 : decode cM_take 38 = .ok (.aload_n 0, 1) := by decide +kernel
theorem dM_take_39 : decode cM_take 39 = .ok (.getfield 53, 3) := by decide +kernel
theorem dM_take_42 : decode cM_take 42 = .ok (.iload_n 1, 1) := by decide +kernel
theorem dM_take_43 : decode cM_take 43 = .ok (.iaload, 1) := by decide +kernel
theorem dM_take_44 : decode cM_take 44 = .ok (.iastore, 1) := by decide +kernel
theorem dM_take_45 : decode cM_take 45 = .ok (.iinc 1 1, 3) := by decide +kernel
theorem dM_take_48 : decode cM_take 48 = .ok (.goto (-46), 3) := by decide +kernel
theorem dM_take_51 : decode cM_take 51 = .ok (.return_, 1) := by decide +kernel
theorem dM_go_0 : decode cM_go 0 = .ok (.iload_n 1, 1) := by decide +kernel
theorem dM_go_1 : decode cM_go 1 = .ok (.sipush 225, 3) := by decide +kernel
theorem dM_go_4 : decode cM_go 4 = .ok (.idiv, 1) := by decide +kernel
theorem dM_go_5 : decode cM_go 5 = .ok (.istore_n 3, 1) := by decide +kernel
theorem dM_go_6 : decode cM_go 6 = .ok (.iload_n 1, 1) := by decide +kernel
theorem dM_go_7 : decode cM_go 7 = .ok (.bipush 25, 2) := by decide +kernel
theorem dM_go_9 : decode cM_go 9 = .ok (.idiv, 1) := by decide +kernel
theorem dM_go_10 : decode cM_go 10 = .ok (.bipush 9, 2) := by decide +kernel
theorem dM_go_12 : decode cM_go 12 = .ok (.irem, 1) := by decide +kernel
theorem dM_go_13 : decode cM_go 13 = .ok (.istore 4, 2) := by decide +kernel
theorem dM_go_15 : decode cM_go 15 = .ok (.iload_n 1, 1) := by decide +kernel
theorem dM_go_16 : decode cM_go 16 = .ok (.iconst 5, 1) := by decide +kernel
theorem dM_go_17 : decode cM_go 17 = .ok (.idiv, 1) := by decide +kernel
theorem dM_go_18 : decode cM_go 18 = .ok (.iconst 5, 1) := by decide +kernel
theorem dM_go_19 : decode cM_go 19 = .ok (.irem, 1) := by decide +kernel
theorem dM_go_20 : decode cM_go 20 = .ok (.istore 5, 2) := by decide +kernel
theorem dM_go_22 : decode cM_go 22 = .ok (.iload_n 1, 1) := by decide +kernel
theorem dM_go_23 : decode cM_go 23 = .ok (.iconst 5, 1) := by decide +kernel
theorem dM_go_24 : decode cM_go 24 = .ok (.irem, 1) := by decide +kernel
theorem dM_go_25 : decode cM_go 25 = .ok (.istore 6, 2) := by decide +kernel
theorem dM_go_27 : decode cM_go 27 = .ok (.aload_n 0, 1) := by decide +kernel
theorem dM_go_28 : decode cM_go 28 = .ok (.iload_n 2, 1) := by decide +kernel
theorem dM_go_29 : decode cM_go 29 = .ok (.iload_n 3, 1) := by decide +kernel
theorem dM_go_30 : decode cM_go 30 = .ok (.iload 4, 2) := by decide +kernel
theorem dM_go_32 : decode cM_go 32 = .ok (.iload_n 1, 1) := by decide +kernel
theorem dM_go_33 : decode cM_go 33 = .ok (.bipush 25, 2) := by decide +kernel
theorem dM_go_35 : decode cM_go 35 = .ok (.irem, 1) := by decide +kernel
theorem dM_go_36 : decode cM_go 36 = .ok (.aload_n 0, 1) := by decide +kernel
theorem dM_go_37 : decode cM_go 37 = .ok (.getfield 38, 3) := by decide +kernel
theorem dM_go_40 : decode cM_go 40 = .ok (.iload_n 1, 1) := by decide +kernel
theorem dM_go_41 : decode cM_go 41 = .ok (.iaload, 1) := by decide +kernel
theorem dM_go_42 : decode cM_go 42 = .ok (.aload_n 0, 1) := by decide +kernel
theorem dM_go_43 : decode cM_go 43 = .ok (.getfield 29, 3) := by decide +kernel
theorem dM_go_46 : decode cM_go 46 = .ok (.iload 4, 2) := by decide +kernel
theorem dM_go_48 : decode cM_go 48 = .ok (.iconst 3, 1) := by decide +kernel
theorem dM_go_49 : decode cM_go 49 = .ok (.irem, 1) := by decide +kernel
theorem dM_go_50 : decode cM_go 50 = .ok (.iaload, 1) := by decide +kernel
theorem dM_go_51 : decode cM_go 51 = .ok (.iadd, 1) := by decide +kernel
theorem dM_go_52 : decode cM_go 52 = .ok (.aload_n 0, 1) := by decide +kernel
theorem dM_go_53 : decode cM_go 53 = .ok (.getfield 41, 3) := by decide +kernel
theorem dM_go_56 : decode cM_go 56 = .ok (.iload_n 1, 1) := by decide +kernel
theorem dM_go_57 : decode cM_go 57 = .ok (.iaload, 1) := by decide +kernel
theorem dM_go_58 : decode cM_go 58 = .ok (.aload_n 0, 1) := by decide +kernel
theorem dM_go_59 : decode cM_go 59 = .ok (.getfield 44, 3) := by decide +kernel
theorem dM_go_62 : decode cM_go 62 = .ok (.iload_n 1, 1) := by decide +kernel
theorem dM_go_63 : decode cM_go 63 = .ok (.iaload, 1) := by decide +kernel
theorem dM_go_64 : decode cM_go 64 = .ok (.invokevirtual 90, 3) := by decide +kernel
theorem dM_go_67 : decode cM_go 67 = .ok (.iload 4, 2) := by decide +kernel
theorem dM_go_69 : decode cM_go 69 = .ok (.iconst 1, 1) := by decide +kernel
theorem dM_go_70 : decode cM_go 70 = .ok (.iadd, 1) := by decide +kernel
theorem dM_go_71 : decode cM_go 71 = .ok (.iconst 3, 1) := by decide +kernel
theorem dM_go_72 : decode cM_go 72 = .ok (.aload_n 0, 1) := by decide +kernel
theorem dM_go_73 : decode cM_go 73 = .ok (.getfield 23, 3) := by decide +kernel
theorem dM_go_76 : decode cM_go 76 = .ok (.iload_n 3, 1) := by decide +kernel
theorem dM_go_77 : decode cM_go 77 = .ok (.iaload, 1) := by decide +kernel
theorem dM_go_78 : decode cM_go 78 = .ok (.imul, 1) := by decide +kernel
theorem dM_go_79 : decode cM_go 79 = .ok (.if_icmp .ge 46, 3) := by decide +kernel
theorem dM_go_82 : decode cM_go 82 = .ok (.aload_n 0, 1) := by decide +kernel
theorem dM_go_83 : decode cM_go 83 = .ok (.iload_n 2, 1) := by decide +kernel
theorem dM_go_84 : decode cM_go 84 = .ok (.iload_n 3, 1) := by decide +kernel
theorem dM_go_85 : decode cM_go 85 = .ok (.iload 4, 2) := by decide +kernel
theorem dM_go_87 : decode cM_go 87 = .ok (.iconst 1, 1) := by decide +kernel
theorem dM_go_88 : decode cM_go 88 = .ok (.iadd, 1) := by decide +kernel
theorem dM_go_89 : decode cM_go 89 = .ok (.iload_n 1, 1) := by decide +kernel
theorem dM_go_90 : decode cM_go 90 = .ok (.bipush 25, 2) := by decide +kernel
theorem dM_go_92 : decode cM_go 92 = .ok (.irem, 1) := by decide +kernel
theorem dM_go_93 : decode cM_go 93 = .ok (.aload_n 0, 1) := by decide +kernel
theorem dM_go_94 : decode cM_go 94 = .ok (.getfield 38, 3) := by decide +kernel
theorem dM_go_97 : decode cM_go 97 = .ok (.iload_n 1, 1) := by decide +kernel
theorem dM_go_98 : decode cM_go 98 = .ok (.iaload, 1) := by decide +kernel
theorem dM_go_99 : decode cM_go 99 = .ok (.aload_n 0, 1) := by decide +kernel
theorem dM_go_100 : decode cM_go 100 = .ok (.getfield 32, 3) := by decide +kernel
theorem dM_go_103 : decode cM_go 103 = .ok (.iload 4, 2) := by decide +kernel
theorem dM_go_105 : decode cM_go 105 = .ok (.iconst 3, 1) := by decide +kernel
theorem dM_go_106 : decode cM_go 106 = .ok (.irem, 1) := by decide +kernel
theorem dM_go_107 : decode cM_go 107 = .ok (.iaload, 1) := by decide +kernel
theorem dM_go_108 : decode cM_go 108 = .ok (.iadd, 1) := by decide +kernel
theorem dM_go_109 : decode cM_go 109 = .ok (.aload_n 0, 1) := by decide +kernel
theorem dM_go_110 : decode cM_go 110 = .ok (.getfield 41, 3) := by decide +kernel
theorem dM_go_113 : decode cM_go 113 = .ok (.iload_n 1, 1) := by decide +kernel
theorem dM_go_114 : decode cM_go 114 = .ok (.iaload, 1) := by decide +kernel
theorem dM_go_115 : decode cM_go 115 = .ok (.aload_n 0, 1) := by decide +kernel
theorem dM_go_116 : decode cM_go 116 = .ok (.getfield 44, 3) := by decide +kernel
theorem dM_go_119 : decode cM_go 119 = .ok (.iload_n 1, 1) := by decide +kernel
theorem dM_go_120 : decode cM_go 120 = .ok (.iaload, 1) := by decide +kernel
theorem dM_go_121 : decode cM_go 121 = .ok (.invokevirtual 90, 3) := by decide +kernel
theorem dM_go_124 : decode cM_go 124 = .ok (.return_, 1) := by decide +kernel
theorem dM_go_125 : decode cM_go 125 = .ok (.aload_n 0, 1) := by decide +kernel
theorem dM_go_126 : decode cM_go 126 = .ok (.iload 5, 2) := by decide +kernel
theorem dM_go_128 : decode cM_go 128 = .ok (.iload 6, 2) := by decide +kernel
theorem dM_go_130 : decode cM_go 130 = .ok (.aload_n 0, 1) := by decide +kernel
theorem dM_go_131 : decode cM_go 131 = .ok (.getfield 20, 3) := by decide +kernel
theorem dM_go_134 : decode cM_go 134 = .ok (.iload_n 3, 1) := by decide +kernel
theorem dM_go_135 : decode cM_go 135 = .ok (.iaload, 1) := by decide +kernel
theorem dM_go_136 : decode cM_go 136 = .ok (.invokevirtual 94, 3) := by decide +kernel
theorem dM_go_139 : decode cM_go 139 = .ok (.istore 7, 2) := by decide +kernel
theorem dM_go_141 : decode cM_go 141 = .ok (.iconst 0, 1) := by decide +kernel
theorem dM_go_142 : decode cM_go 142 = .ok (.istore 8, 2) := by decide +kernel
theorem dM_go_144 : decode cM_go 144 = .ok (.iload 8, 2) := by decide +kernel
theorem dM_go_146 : decode cM_go 146 = .ok (.aload_n 0, 1) := by decide +kernel
theorem dM_go_147 : decode cM_go 147 = .ok (.getfield 60, 3) := by decide +kernel
theorem dM_go_150 : decode cM_go 150 = .ok (.if_icmp .ge 72, 3) := by decide +kernel
theorem dM_go_153 : decode cM_go 153 = .ok (.iload 7, 2) := by decide +kernel
theorem dM_go_155 : decode cM_go 155 = .ok (.ifCond .lt 67, 3) := by decide +kernel
theorem dM_go_158 : decode cM_go 158 = .ok (.aload_n 0, 1) := by decide +kernel
theorem dM_go_159 : decode cM_go 159 = .ok (.iload_n 2, 1) := by decide +kernel
theorem dM_go_160 : decode cM_go 160 = .ok (.iload 8, 2) := by decide +kernel
theorem dM_go_162 : decode cM_go 162 = .ok (.iconst 0, 1) := by decide +kernel
theorem dM_go_163 : decode cM_go 163 = .ok (.iconst 5, 1) := by decide +kernel
theorem dM_go_164 : decode cM_go 164 = .ok (.iload 6, 2) := by decide +kernel
theorem dM_go_166 : decode cM_go 166 = .ok (.imul, 1) := by decide +kernel
theorem dM_go_167 : decode cM_go 167 = .ok (.aload_n 0, 1) := by decide +kernel
theorem dM_go_168 : decode cM_go 168 = .ok (.getfield 20, 3) := by decide +kernel
theorem dM_go_171 : decode cM_go 171 = .ok (.iload_n 3, 1) := by decide +kernel
theorem dM_go_172 : decode cM_go 172 = .ok (.iaload, 1) := by decide +kernel
theorem dM_go_173 : decode cM_go 173 = .ok (.iadd, 1) := by decide +kernel
theorem dM_go_174 : decode cM_go 174 = .ok (.aload_n 0, 1) := by decide +kernel
theorem dM_go_175 : decode cM_go 175 = .ok (.getfield 38, 3) := by decide +kernel
theorem dM_go_178 : decode cM_go 178 = .ok (.iload_n 1, 1) := by decide +kernel
theorem dM_go_179 : decode cM_go 179 = .ok (.iaload, 1) := by decide +kernel
theorem dM_go_180 : decode cM_go 180 = .ok (.aload_n 0, 1) := by decide +kernel
theorem dM_go_181 : decode cM_go 181 = .ok (.getfield 32, 3) := by decide +kernel
theorem dM_go_184 : decode cM_go 184 = .ok (.iconst 2, 1) := by decide +kernel
theorem dM_go_185 : decode cM_go 185 = .ok (.iaload, 1) := by decide +kernel
theorem dM_go_186 : decode cM_go 186 = .ok (.iadd, 1) := by decide +kernel
theorem dM_go_187 : decode cM_go 187 = .ok (.iload 7, 2) := by decide +kernel
theorem dM_go_189 : decode cM_go 189 = .ok (.iadd, 1) := by decide +kernel
theorem dM_go_190 : decode cM_go 190 = .ok (.aload_n 0, 1) := by decide +kernel
theorem dM_go_191 : decode cM_go 191 = .ok (.getfield 41, 3) := by decide +kernel
theorem dM_go_194 : decode cM_go 194 = .ok (.iload_n 1, 1) := by decide +kernel
theorem dM_go_195 : decode cM_go 195 = .ok (.iaload, 1) := by decide +kernel
theorem dM_go_196 : decode cM_go 196 = .ok (.iconst 1, 1) := by decide +kernel
theorem dM_go_197 : decode cM_go 197 = .ok (.iadd, 1) := by decide +kernel
theorem dM_go_198 : decode cM_go 198 = .ok (.iconst 4, 1) := by decide +kernel
theorem dM_go_199 : decode cM_go 199 = .ok (.aload_n 0, 1) := by decide +kernel
theorem dM_go_200 : decode cM_go 200 = .ok (.getfield 44, 3) := by decide +kernel
theorem dM_go_203 : decode cM_go 203 = .ok (.iload_n 1, 1) := by decide +kernel
theorem dM_go_204 : decode cM_go 204 = .ok (.iaload, 1) := by decide +kernel
theorem dM_go_205 : decode cM_go 205 = .ok (.imul, 1) := by decide +kernel
theorem dM_go_206 : decode cM_go 206 = .ok (.aload_n 0, 1) := by decide +kernel
theorem dM_go_207 : decode cM_go 207 = .ok (.getfield 20, 3) := by decide +kernel
theorem dM_go_210 : decode cM_go 210 = .ok (.iload_n 3, 1) := by decide +kernel
theorem dM_go_211 : decode cM_go 211 = .ok (.iaload, 1) := by decide +kernel
theorem dM_go_212 : decode cM_go 212 = .ok (.iadd, 1) := by decide +kernel
theorem dM_go_213 : decode cM_go 213 = .ok (.invokevirtual 90, 3) := by decide +kernel
theorem dM_go_216 : decode cM_go 216 = .ok (.iinc 8 1, 3) := by decide +kernel
theorem dM_go_219 : decode cM_go 219 = .ok (.goto (-75), 3) := by decide +kernel
theorem dM_go_222 : decode cM_go 222 = .ok (.return_, 1) := by decide +kernel
theorem dM_run_0 : decode cM_run 0 = .ok (.aload_n 0, 1) := by decide +kernel
theorem dM_run_1 : decode cM_run 1 = .ok (.invokevirtual 97, 3) := by decide +kernel
theorem dM_run_4 : decode cM_run 4 = .ok (.iconst 0, 1) := by decide +kernel
theorem dM_run_5 : decode cM_run 5 = .ok (.istore_n 2, 1) := by decide +kernel
theorem dM_run_6 : decode cM_run 6 = .ok (.iload_n 2, 1) := by decide +kernel
theorem dM_run_7 : decode cM_run 7 = .ok (.aload_n 0, 1) := by decide +kernel
theorem dM_run_8 : decode cM_run 8 = .ok (.getfield 60, 3) := by decide +kernel
theorem dM_run_11 : decode cM_run 11 = .ok (.if_icmp .ge 25, 3) := by decide +kernel
theorem dM_run_14 : decode cM_run 14 = .ok (.iload_n 1, 1) := by decide +kernel
theorem dM_run_15 : decode cM_run 15 = .ok (.ifCond .le 21, 3) := by decide +kernel
theorem dM_run_18 : decode cM_run 18 = .ok (.aload_n 0, 1) := by decide +kernel
theorem dM_run_19 : decode cM_run 19 = .ok (.iconst 0, 1) := by decide +kernel
theorem dM_run_20 : decode cM_run 20 = .ok (.iload_n 2, 1) := by decide +kernel
theorem dM_run_21 : decode cM_run 21 = .ok (.iconst 0, 1) := by decide +kernel
theorem dM_run_22 : decode cM_run 22 = .ok (.bipush 24, 2) := by decide +kernel
theorem dM_run_24 : decode cM_run 24 = .ok (.iconst 0, 1) := by decide +kernel
theorem dM_run_25 : decode cM_run 25 = .ok (.iconst 0, 1) := by decide +kernel
theorem dM_run_26 : decode cM_run 26 = .ok (.iconst 0, 1) := by decide +kernel
theorem dM_run_27 : decode cM_run 27 = .ok (.invokevirtual 90, 3) := by decide +kernel
theorem dM_run_30 : decode cM_run 30 = .ok (.iinc 2 1, 3) := by decide +kernel
theorem dM_run_33 : decode cM_run 33 = .ok (.goto (-27), 3) := by decide +kernel
theorem dM_run_36 : decode cM_run 36 = .ok (.aload_n 0, 1) := by decide +kernel
theorem dM_run_37 : decode cM_run 37 = .ok (.invokevirtual 100, 3) := by decide +kernel
theorem dM_run_40 : decode cM_run 40 = .ok (.iconst 1, 1) := by decide +kernel
theorem dM_run_41 : decode cM_run 41 = .ok (.istore_n 2, 1) := by decide +kernel
theorem dM_run_42 : decode cM_run 42 = .ok (.iload_n 2, 1) := by decide +kernel
theorem dM_run_43 : decode cM_run 43 = .ok (.iload_n 1, 1) := by decide +kernel
theorem dM_run_44 : decode cM_run 44 = .ok (.if_icmp .ge 47, 3) := by decide +kernel
theorem dM_run_47 : decode cM_run 47 = .ok (.aload_n 0, 1) := by decide +kernel
theorem dM_run_48 : decode cM_run 48 = .ok (.invokevirtual 97, 3) := by decide +kernel
theorem dM_run_51 : decode cM_run 51 = .ok (.iconst 0, 1) := by decide +kernel
theorem dM_run_52 : decode cM_run 52 = .ok (.istore_n 3, 1) := by decide +kernel
theorem dM_run_53 : decode cM_run 53 = .ok (.iload_n 3, 1) := by decide +kernel
theorem dM_run_54 : decode cM_run 54 = .ok (.sipush 1800, 3) := by decide +kernel
theorem dM_run_57 : decode cM_run 57 = .ok (.if_icmp .ge 24, 3) := by decide +kernel
theorem dM_run_60 : decode cM_run 60 = .ok (.aload_n 0, 1) := by decide +kernel
theorem dM_run_61 : decode cM_run 61 = .ok (.getfield 38, 3) := by decide +kernel
theorem dM_run_64 : decode cM_run 64 = .ok (.iload_n 3, 1) := by decide +kernel
theorem dM_run_65 : decode cM_run 65 = .ok (.iaload, 1) := by decide +kernel
theorem dM_run_66 : decode cM_run 66 = .ok (.ifCond .lt 9, 3) := by decide +kernel
theorem dM_run_69 : decode cM_run 69 = .ok (.aload_n 0, 1) := by decide +kernel
theorem dM_run_70 : decode cM_run 70 = .ok (.iload_n 3, 1) := by decide +kernel
theorem dM_run_71 : decode cM_run 71 = .ok (.iload_n 2, 1) := by decide +kernel
theorem dM_run_72 : decode cM_run 72 = .ok (.invokevirtual 103, 3) := by decide +kernel
theorem dM_run_75 : decode cM_run 75 = .ok (.iinc 3 1, 3) := by decide +kernel
theorem dM_run_78 : decode cM_run 78 = .ok (.goto (-25), 3) := by decide +kernel
theorem dM_run_81 : decode cM_run 81 = .ok (.aload_n 0, 1) := by decide +kernel
theorem dM_run_82 : decode cM_run 82 = .ok (.invokevirtual 100, 3) := by decide +kernel
theorem dM_run_85 : decode cM_run 85 = .ok (.iinc 2 1, 3) := by decide +kernel
theorem dM_run_88 : decode cM_run 88 = .ok (.goto (-46), 3) := by decide +kernel
theorem dM_run_91 : decode cM_run 91 = .ok (.return_, 1) := by decide +kernel
theorem dM_whole_0 : decode cM_whole 0 = .ok (.aload_n 0, 1) := by decide +kernel
theorem dM_whole_1 : decode cM_whole 1 = .ok (.aload_n 0, 1) := by decide +kernel
theorem dM_whole_2 : decode cM_whole 2 = .ok (.getfield 87, 3) := by decide +kernel
theorem dM_whole_5 : decode cM_whole 5 = .ok (.invokevirtual 107, 3) := by decide +kernel
theorem dM_whole_8 : decode cM_whole 8 = .ok (.aload_n 0, 1) := by decide +kernel
theorem dM_whole_9 : decode cM_whole 9 = .ok (.iconst (-1), 1) := by decide +kernel
theorem dM_whole_10 : decode cM_whole 10 = .ok (.putfield 111, 3) := by decide +kernel
theorem dM_whole_13 : decode cM_whole 13 = .ok (.aload_n 0, 1) := by decide +kernel
theorem dM_whole_14 : decode cM_whole 14 = .ok (.iconst 0, 1) := by decide +kernel
theorem dM_whole_15 : decode cM_whole 15 = .ok (.putfield 114, 3) := by decide +kernel
theorem dM_whole_18 : decode cM_whole 18 = .ok (.aload_n 0, 1) := by decide +kernel
theorem dM_whole_19 : decode cM_whole 19 = .ok (.iconst 0, 1) := by decide +kernel
theorem dM_whole_20 : decode cM_whole 20 = .ok (.putfield 117, 3) := by decide +kernel
theorem dM_whole_23 : decode cM_whole 23 = .ok (.iconst 0, 1) := by decide +kernel
theorem dM_whole_24 : decode cM_whole 24 = .ok (.istore_n 1, 1) := by decide +kernel
theorem dM_whole_25 : decode cM_whole 25 = .ok (.iload_n 1, 1) := by decide +kernel
theorem dM_whole_26 : decode cM_whole 26 = .ok (.sipush 225, 3) := by decide +kernel
theorem dM_whole_29 : decode cM_whole 29 = .ok (.aload_n 0, 1) := by decide +kernel
theorem dM_whole_30 : decode cM_whole 30 = .ok (.getfield 60, 3) := by decide +kernel
theorem dM_whole_33 : decode cM_whole 33 = .ok (.imul, 1) := by decide +kernel
theorem dM_whole_34 : decode cM_whole 34 = .ok (.if_icmp .ge 225, 3) := by decide +kernel
theorem dM_whole_37 : decode cM_whole 37 = .ok (.iload_n 1, 1) := by decide +kernel
theorem dM_whole_38 : decode cM_whole 38 = .ok (.sipush 225, 3) := by decide +kernel
theorem dM_whole_41 : decode cM_whole 41 = .ok (.idiv, 1) := by decide +kernel
theorem dM_whole_42 : decode cM_whole 42 = .ok (.istore_n 2, 1) := by decide +kernel
theorem dM_whole_43 : decode cM_whole 43 = .ok (.aload_n 0, 1) := by decide +kernel
theorem dM_whole_44 : decode cM_whole 44 = .ok (.getfield 20, 3) := by decide +kernel
theorem dM_whole_47 : decode cM_whole 47 = .ok (.iload_n 2, 1) := by decide +kernel
theorem dM_whole_48 : decode cM_whole 48 = .ok (.iaload, 1) := by decide +kernel
theorem dM_whole_49 : decode cM_whole 49 = .ok (.istore_n 3, 1) := by decide +kernel
theorem dM_whole_50 : decode cM_whole 50 = .ok (.aload_n 0, 1) := by decide +kernel
theorem dM_whole_51 : decode cM_whole 51 = .ok (.getfield 38, 3) := by decide +kernel
theorem dM_whole_54 : decode cM_whole 54 = .ok (.iload_n 1, 1) := by decide +kernel
theorem dM_whole_55 : decode cM_whole 55 = .ok (.iaload, 1) := by decide +kernel
theorem dM_whole_56 : decode cM_whole 56 = .ok (.ifCond .lt 27, 3) := by decide +kernel
theorem dM_whole_59 : decode cM_whole 59 = .ok (.iload_n 1, 1) := by decide +kernel
theorem dM_whole_60 : decode cM_whole 60 = .ok (.bipush 25, 2) := by decide +kernel
theorem dM_whole_62 : decode cM_whole 62 = .ok (.idiv, 1) := by decide +kernel
theorem dM_whole_63 : decode cM_whole 63 = .ok (.bipush 9, 2) := by decide +kernel
theorem dM_whole_65 : decode cM_whole 65 = .ok (.irem, 1) := by decide +kernel
theorem dM_whole_66 : decode cM_whole 66 = .ok (.iconst 3, 1) := by decide +kernel
theorem dM_whole_67 : decode cM_whole 67 = .ok (.aload_n 0, 1) := by decide +kernel
theorem dM_whole_68 : decode cM_whole 68 = .ok (.getfield 23, 3) := by decide +kernel
theorem dM_whole_71 : decode cM_whole 71 = .ok (.iload_n 2, 1) := by decide +kernel
theorem dM_whole_72 : decode cM_whole 72 = .ok (.iaload, 1) := by decide +kernel
theorem dM_whole_73 : decode cM_whole 73 = .ok (.imul, 1) := by decide +kernel
theorem dM_whole_74 : decode cM_whole 74 = .ok (.iconst 1, 1) := by decide +kernel
theorem dM_whole_75 : decode cM_whole 75 = .ok (.isub, 1) := by decide +kernel
theorem dM_whole_76 : decode cM_whole 76 = .ok (.if_icmp .ne 7, 3) := by decide +kernel
theorem dM_whole_79 : decode cM_whole 79 = .ok (.iconst 1, 1) := by decide +kernel
theorem dM_whole_80 : decode cM_whole 80 = .ok (.goto 4, 3) := by decide +kernel
theorem dM_whole_83 : decode cM_whole 83 = .ok (.iconst 0, 1) := by decide +kernel
theorem dM_whole_84 : decode cM_whole 84 = .ok (.istore 4, 2) := by decide +kernel
theorem dM_whole_86 : decode cM_whole 86 = .ok (.iload 4, 2) := by decide +kernel
theorem dM_whole_88 : decode cM_whole 88 = .ok (.ifCond .eq 19, 3) := by decide +kernel
theorem dM_whole_91 : decode cM_whole 91 = .ok (.aload_n 0, 1) := by decide +kernel
theorem dM_whole_92 : decode cM_whole 92 = .ok (.iload_n 1, 1) := by decide +kernel
theorem dM_whole_93 : decode cM_whole 93 = .ok (.iconst 5, 1) := by decide +kernel
theorem dM_whole_94 : decode cM_whole 94 = .ok (.idiv, 1) := by decide +kernel
theorem dM_whole_95 : decode cM_whole 95 = .ok (.iconst 5, 1) := by decide +kernel
theorem dM_whole_96 : decode cM_whole 96 = .ok (.irem, 1) := by decide +kernel
theorem dM_whole_97 : decode cM_whole 97 = .ok (.iload_n 1, 1) := by decide +kernel
theorem dM_whole_98 : decode cM_whole 98 = .ok (.iconst 5, 1) := by decide +kernel
theorem dM_whole_99 : decode cM_whole 99 = .ok (.irem, 1) := by decide +kernel
theorem dM_whole_100 : decode cM_whole 100 = .ok (.iload_n 3, 1) := by decide +kernel
theorem dM_whole_101 : decode cM_whole 101 = .ok (.invokevirtual 94, 3) := by decide +kernel
theorem dM_whole_104 : decode cM_whole 104 = .ok (.goto 4, 3) := by decide +kernel
theorem dM_whole_107 : decode cM_whole 107 = .ok (.iconst (-1), 1) := by decide +kernel
theorem dM_whole_108 : decode cM_whole 108 = .ok (.istore 5, 2) := by decide +kernel
theorem dM_whole_110 : decode cM_whole 110 = .ok (.iload 4, 2) := by decide +kernel
theorem dM_whole_112 : decode cM_whole 112 = .ok (.ifCond .eq 15, 3) := by decide +kernel
theorem dM_whole_115 : decode cM_whole 115 = .ok (.aload_n 0, 1) := by decide +kernel
theorem dM_whole_116 : decode cM_whole 116 = .ok (.iload_n 1, 1) := by decide +kernel
theorem dM_whole_117 : decode cM_whole 117 = .ok (.iconst 5, 1) := by decide +kernel
theorem dM_whole_118 : decode cM_whole 118 = .ok (.irem, 1) := by decide +kernel
theorem dM_whole_119 : decode cM_whole 119 = .ok (.iload_n 3, 1) := by decide +kernel
theorem dM_whole_120 : decode cM_whole 120 = .ok (.iconst 4, 1) := by decide +kernel
theorem dM_whole_121 : decode cM_whole 121 = .ok (.invokevirtual 94, 3) := by decide +kernel
theorem dM_whole_124 : decode cM_whole 124 = .ok (.goto 4, 3) := by decide +kernel
theorem dM_whole_127 : decode cM_whole 127 = .ok (.iconst (-1), 1) := by decide +kernel
theorem dM_whole_128 : decode cM_whole 128 = .ok (.istore 6, 2) := by decide +kernel
theorem dM_whole_130 : decode cM_whole 130 = .ok (.iload 5, 2) := by decide +kernel
theorem dM_whole_132 : decode cM_whole 132 = .ok (.ifCond .lt 121, 3) := by decide +kernel
theorem dM_whole_135 : decode cM_whole 135 = .ok (.iload 6, 2) := by decide +kernel
theorem dM_whole_137 : decode cM_whole 137 = .ok (.ifCond .lt 116, 3) := by decide +kernel
theorem dM_whole_140 : decode cM_whole 140 = .ok (.aload_n 0, 1) := by decide +kernel
theorem dM_whole_141 : decode cM_whole 141 = .ok (.getfield 38, 3) := by decide +kernel
theorem dM_whole_144 : decode cM_whole 144 = .ok (.iload_n 1, 1) := by decide +kernel
theorem dM_whole_145 : decode cM_whole 145 = .ok (.iaload, 1) := by decide +kernel
theorem dM_whole_146 : decode cM_whole 146 = .ok (.aload_n 0, 1) := by decide +kernel
theorem dM_whole_147 : decode cM_whole 147 = .ok (.getfield 32, 3) := by decide +kernel
theorem dM_whole_150 : decode cM_whole 150 = .ok (.iconst 2, 1) := by decide +kernel
theorem dM_whole_151 : decode cM_whole 151 = .ok (.iaload, 1) := by decide +kernel
theorem dM_whole_152 : decode cM_whole 152 = .ok (.iadd, 1) := by decide +kernel
theorem dM_whole_153 : decode cM_whole 153 = .ok (.iload 5, 2) := by decide +kernel
theorem dM_whole_155 : decode cM_whole 155 = .ok (.iadd, 1) := by decide +kernel
theorem dM_whole_156 : decode cM_whole 156 = .ok (.iload 6, 2) := by decide +kernel
theorem dM_whole_158 : decode cM_whole 158 = .ok (.iadd, 1) := by decide +kernel
theorem dM_whole_159 : decode cM_whole 159 = .ok (.istore 7, 2) := by decide +kernel
theorem dM_whole_161 : decode cM_whole 161 = .ok (.aload_n 0, 1) := by decide +kernel
theorem dM_whole_162 : decode cM_whole 162 = .ok (.getfield 41, 3) := by decide +kernel
theorem dM_whole_165 : decode cM_whole 165 = .ok (.iload_n 1, 1) := by decide +kernel
theorem dM_whole_166 : decode cM_whole 166 = .ok (.iaload, 1) := by decide +kernel
theorem dM_whole_167 : decode cM_whole 167 = .ok (.iconst 1, 1) := by decide +kernel
theorem dM_whole_168 : decode cM_whole 168 = .ok (.iadd, 1) := by decide +kernel
theorem dM_whole_169 : decode cM_whole 169 = .ok (.istore 8, 2) := by decide +kernel
theorem dM_whole_171 : decode cM_whole 171 = .ok (.iconst 4, 1) := by decide +kernel
theorem dM_whole_172 : decode cM_whole 172 = .ok (.aload_n 0, 1) := by decide +kernel
theorem dM_whole_173 : decode cM_whole 173 = .ok (.getfield 44, 3) := by decide +kernel
theorem dM_whole_176 : decode cM_whole 176 = .ok (.iload_n 1, 1) := by decide +kernel
theorem dM_whole_177 : decode cM_whole 177 = .ok (.iaload, 1) := by decide +kernel
theorem dM_whole_178 : decode cM_whole 178 = .ok (.imul, 1) := by decide +kernel
theorem dM_whole_179 : decode cM_whole 179 = .ok (.iload_n 3, 1) := by decide +kernel
theorem dM_whole_180 : decode cM_whole 180 = .ok (.iadd, 1) := by decide +kernel
theorem dM_whole_181 : decode cM_whole 181 = .ok (.istore 9, 2) := by decide +kernel
theorem dM_whole_183 : decode cM_whole 183 = .ok (.aload_n 0, 1) := by decide +kernel
theorem dM_whole_184 : decode cM_whole 184 = .ok (.getfield 111, 3) := by decide +kernel
theorem dM_whole_187 : decode cM_whole 187 = .ok (.ifCond .lt 48, 3) := by decide +kernel
theorem dM_whole_190 : decode cM_whole 190 = .ok (.iload 7, 2) := by decide +kernel
theorem dM_whole_192 : decode cM_whole 192 = .ok (.aload_n 0, 1) := by decide +kernel
theorem dM_whole_193 : decode cM_whole 193 = .ok (.getfield 111, 3) := by decide +kernel
theorem dM_whole_196 : decode cM_whole 196 = .ok (.if_icmp .lt 39, 3) := by decide +kernel
theorem dM_whole_199 : decode cM_whole 199 = .ok (.iload 7, 2) := by decide +kernel
theorem dM_whole_201 : decode cM_whole 201 = .ok (.aload_n 0, 1) := by decide +kernel
theorem dM_whole_202 : decode cM_whole 202 = .ok (.getfield 111, 3) := by decide +kernel
theorem dM_whole_205 : decode cM_whole 205 = .ok (.if_icmp .ne 48, 3) := by decide +kernel
theorem dM_whole_208 : decode cM_whole 208 = .ok (.iload 8, 2) := by decide +kernel
theorem dM_whole_210 : decode cM_whole 210 = .ok (.aload_n 0, 1) := by decide +kernel
theorem dM_whole_211 : decode cM_whole 211 = .ok (.getfield 114, 3) := by decide +kernel
theorem dM_whole_214 : decode cM_whole 214 = .ok (.if_icmp .lt 21, 3) := by decide +kernel
theorem dM_whole_217 : decode cM_whole 217 = .ok (.iload 8, 2) := by decide +kernel
theorem dM_whole_219 : decode cM_whole 219 = .ok (.aload_n 0, 1) := by decide +kernel
theorem dM_whole_220 : decode cM_whole 220 = .ok (.getfield 114, 3) := by decide +kernel
theorem dM_whole_223 : decode cM_whole 223 = .ok (.if_icmp .ne 30, 3) := by decide +kernel
theorem dM_whole_226 : decode cM_whole 226 = .ok (.iload 9, 2) := by decide +kernel
theorem dM_whole_228 : decode cM_whole 228 = .ok (.aload_n 0, 1) := by decide +kernel
theorem dM_whole_229 : decode cM_whole 229 = .ok (.getfield 117, 3) := by decide +kernel
theorem dM_whole_232 : decode cM_whole 232 = .ok (.if_icmp .ge 21, 3) := by decide +kernel
theorem dM_whole_235 : decode cM_whole 235 = .ok (.aload_n 0, 1) := by decide +kernel
theorem dM_whole_236 : decode cM_whole 236 = .ok (.iload 7, 2) := by decide +kernel
theorem dM_whole_238 : decode cM_whole 238 = .ok (.putfield 111, 3) := by decide +kernel
theorem dM_whole_241 : decode cM_whole 241 = .ok (.aload_n 0, 1) := by decide +kernel
theorem dM_whole_242 : decode cM_whole 242 = .ok (.iload 8, 2) := by decide +kernel
theorem dM_whole_244 : decode cM_whole 244 = .ok (.putfield 114, 3) := by decide +kernel
theorem dM_whole_247 : decode cM_whole 247 = .ok (.aload_n 0, 1) := by decide +kernel
theorem dM_whole_248 : decode cM_whole 248 = .ok (.iload 9, 2) := by decide +kernel
theorem dM_whole_250 : decode cM_whole 250 = .ok (.putfield 117, 3) := by decide +kernel
theorem dM_whole_253 : decode cM_whole 253 = .ok (.iinc 1 1, 3) := by decide +kernel
theorem dM_whole_256 : decode cM_whole 256 = .ok (.goto (-231), 3) := by decide +kernel
theorem dM_whole_259 : decode cM_whole 259 = .ok (.return_, 1) := by decide +kernel
theorem dM_total_0 : decode cM_total 0 = .ok (.aload_n 0, 1) := by decide +kernel
theorem dM_total_1 : decode cM_total 1 = .ok (.invokevirtual 120, 3) := by decide +kernel
theorem dM_total_4 : decode cM_total 4 = .ok (.aload_n 0, 1) := by decide +kernel
theorem dM_total_5 : decode cM_total 5 = .ok (.getfield 111, 3) := by decide +kernel
theorem dM_total_8 : decode cM_total 8 = .ok (.ireturn, 1) := by decide +kernel
theorem dM_length_0 : decode cM_length 0 = .ok (.aload_n 0, 1) := by decide +kernel
theorem dM_length_1 : decode cM_length 1 = .ok (.invokevirtual 120, 3) := by decide +kernel
theorem dM_length_4 : decode cM_length 4 = .ok (.aload_n 0, 1) := by decide +kernel
theorem dM_length_5 : decode cM_length 5 = .ok (.getfield 114, 3) := by decide +kernel
theorem dM_length_8 : decode cM_length 8 = .ok (.ireturn, 1) := by decide +kernel
theorem dM_wordAt_0 : decode cM_wordAt 0 = .ok (.aload_n 0, 1) := by decide +kernel
theorem dM_wordAt_1 : decode cM_wordAt 1 = .ok (.invokevirtual 120, 3) := by decide +kernel
theorem dM_wordAt_4 : decode cM_wordAt 4 = .ok (.iload_n 1, 1) := by decide +kernel
theorem dM_wordAt_5 : decode cM_wordAt 5 = .ok (.ifCond .lt 11, 3) := by decide +kernel
theorem dM_wordAt_8 : decode cM_wordAt 8 = .ok (.iload_n 1, 1) := by decide +kernel
theorem dM_wordAt_9 : decode cM_wordAt 9 = .ok (.aload_n 0, 1) := by decide +kernel
theorem dM_wordAt_10 : decode cM_wordAt 10 = .ok (.getfield 114, 3) := by decide +kernel
theorem dM_wordAt_13 : decode cM_wordAt 13 = .ok (.if_icmp .lt 7, 3) := by decide +kernel
theorem dM_wordAt_16 : decode cM_wordAt 16 = .ok (.iconst (-1), 1) := by decide +kernel
theorem dM_wordAt_17 : decode cM_wordAt 17 = .ok (.goto 20, 3) := by decide +kernel
theorem dM_wordAt_20 : decode cM_wordAt 20 = .ok (.aload_n 0, 1) := by decide +kernel
theorem dM_wordAt_21 : decode cM_wordAt 21 = .ok (.getfield 117, 3) := by decide +kernel
theorem dM_wordAt_24 : decode cM_wordAt 24 = .ok (.iconst 2, 1) := by decide +kernel
theorem dM_wordAt_25 : decode cM_wordAt 25 = .ok (.aload_n 0, 1) := by decide +kernel
theorem dM_wordAt_26 : decode cM_wordAt 26 = .ok (.getfield 114, 3) := by decide +kernel
theorem dM_wordAt_29 : decode cM_wordAt 29 = .ok (.iconst 1, 1) := by decide +kernel
theorem dM_wordAt_30 : decode cM_wordAt 30 = .ok (.isub, 1) := by decide +kernel
theorem dM_wordAt_31 : decode cM_wordAt 31 = .ok (.iload_n 1, 1) := by decide +kernel
theorem dM_wordAt_32 : decode cM_wordAt 32 = .ok (.isub, 1) := by decide +kernel
theorem dM_wordAt_33 : decode cM_wordAt 33 = .ok (.imul, 1) := by decide +kernel
theorem dM_wordAt_34 : decode cM_wordAt 34 = .ok (.ishr, 1) := by decide +kernel
theorem dM_wordAt_35 : decode cM_wordAt 35 = .ok (.iconst 3, 1) := by decide +kernel
theorem dM_wordAt_36 : decode cM_wordAt 36 = .ok (.iand, 1) := by decide +kernel
theorem dM_wordAt_37 : decode cM_wordAt 37 = .ok (.ireturn, 1) := by decide +kernel
theorem dM_live_0 : decode cM_live 0 = .ok (.iload_n 1, 1) := by decide +kernel
theorem dM_live_1 : decode cM_live 1 = .ok (.iconst 1, 1) := by decide +kernel
theorem dM_live_2 : decode cM_live 2 = .ok (.if_icmp .lt 11, 3) := by decide +kernel
theorem dM_live_5 : decode cM_live 5 = .ok (.iload_n 1, 1) := by decide +kernel
theorem dM_live_6 : decode cM_live 6 = .ok (.aload_n 0, 1) := by decide +kernel
theorem dM_live_7 : decode cM_live 7 = .ok (.getfield 87, 3) := by decide +kernel
theorem dM_live_10 : decode cM_live 10 = .ok (.if_icmp .le 5, 3) := by decide +kernel
theorem dM_live_13 : decode cM_live 13 = .ok (.iconst 0, 1) := by decide +kernel
theorem dM_live_14 : decode cM_live 14 = .ok (.ireturn, 1) := by decide +kernel
theorem dM_live_15 : decode cM_live 15 = .ok (.aload_n 0, 1) := by decide +kernel
theorem dM_live_16 : decode cM_live 16 = .ok (.iload_n 1, 1) := by decide +kernel
theorem dM_live_17 : decode cM_live 17 = .ok (.invokevirtual 107, 3) := by decide +kernel
theorem dM_live_20 : decode cM_live 20 = .ok (.iconst 0, 1) := by decide +kernel
theorem dM_live_21 : decode cM_live 21 = .ok (.istore_n 2, 1) := by decide +kernel
theorem dM_live_22 : decode cM_live 22 = .ok (.iconst 0, 1) := by decide +kernel
theorem dM_live_23 : decode cM_live 23 = .ok (.istore_n 3, 1) := by decide +kernel
theorem dM_live_24 : decode cM_live 24 = .ok (.iload_n 3, 1) := by decide +kernel
theorem dM_live_25 : decode cM_live 25 = .ok (.sipush 225, 3) := by decide +kernel
theorem dM_live_28 : decode cM_live 28 = .ok (.aload_n 0, 1) := by decide +kernel
theorem dM_live_29 : decode cM_live 29 = .ok (.getfield 60, 3) := by decide +kernel
theorem dM_live_32 : decode cM_live 32 = .ok (.imul, 1) := by decide +kernel
theorem dM_live_33 : decode cM_live 33 = .ok (.if_icmp .ge 49, 3) := by decide +kernel
theorem dM_live_36 : decode cM_live 36 = .ok (.aload_n 0, 1) := by decide +kernel
theorem dM_live_37 : decode cM_live 37 = .ok (.getfield 38, 3) := by decide +kernel
theorem dM_live_40 : decode cM_live 40 = .ok (.iload_n 3, 1) := by decide +kernel
theorem dM_live_41 : decode cM_live 41 = .ok (.iaload, 1) := by decide +kernel
theorem dM_live_42 : decode cM_live 42 = .ok (.ifCond .lt 32, 3) := by decide +kernel
theorem dM_live_45 : decode cM_live 45 = .ok (.aload_n 0, 1) := by decide +kernel
theorem dM_live_46 : decode cM_live 46 = .ok (.iload_n 3, 1) := by decide +kernel
theorem dM_live_47 : decode cM_live 47 = .ok (.sipush 225, 3) := by decide +kernel
theorem dM_live_50 : decode cM_live 50 = .ok (.idiv, 1) := by decide +kernel
theorem dM_live_51 : decode cM_live 51 = .ok (.iload_n 3, 1) := by decide +kernel
theorem dM_live_52 : decode cM_live 52 = .ok (.bipush 25, 2) := by decide +kernel
theorem dM_live_54 : decode cM_live 54 = .ok (.idiv, 1) := by decide +kernel
theorem dM_live_55 : decode cM_live 55 = .ok (.bipush 9, 2) := by decide +kernel
theorem dM_live_57 : decode cM_live 57 = .ok (.irem, 1) := by decide +kernel
theorem dM_live_58 : decode cM_live 58 = .ok (.iconst 3, 1) := by decide +kernel
theorem dM_live_59 : decode cM_live 59 = .ok (.idiv, 1) := by decide +kernel
theorem dM_live_60 : decode cM_live 60 = .ok (.iconst 1, 1) := by decide +kernel
theorem dM_live_61 : decode cM_live 61 = .ok (.iadd, 1) := by decide +kernel
theorem dM_live_62 : decode cM_live 62 = .ok (.invokevirtual 64, 3) := by decide +kernel
theorem dM_live_65 : decode cM_live 65 = .ok (.ifCond .eq 9, 3) := by decide +kernel
theorem dM_live_68 : decode cM_live 68 = .ok (.iload_n 2, 1) := by decide +kernel
theorem dM_live_69 : decode cM_live 69 = .ok (.iconst 1, 1) := by decide +kernel
theorem dM_live_70 : decode cM_live 70 = .ok (.iadd, 1) := by decide +kernel
theorem dM_live_71 : decode cM_live 71 = .ok (.goto 4, 3) := by decide +kernel
theorem dM_live_74 : decode cM_live 74 = .ok (.iload_n 2, 1) := by decide +kernel
theorem dM_live_75 : decode cM_live 75 = .ok (.istore_n 2, 1) := by decide +kernel
theorem dM_live_76 : decode cM_live 76 = .ok (.iinc 3 1, 3) := by decide +kernel
theorem dM_live_79 : decode cM_live 79 = .ok (.goto (-55), 3) := by decide +kernel
theorem dM_live_82 : decode cM_live 82 = .ok (.iload_n 2, 1) := by decide +kernel
theorem dM_live_83 : decode cM_live 83 = .ok (.ireturn, 1) := by decide +kernel
theorem dM_best_0 : decode cM_best 0 = .ok (.iload_n 1, 1) := by decide +kernel
theorem dM_best_1 : decode cM_best 1 = .ok (.iconst 1, 1) := by decide +kernel
theorem dM_best_2 : decode cM_best 2 = .ok (.if_icmp .lt 11, 3) := by decide +kernel
theorem dM_best_5 : decode cM_best 5 = .ok (.iload_n 1, 1) := by decide +kernel
theorem dM_best_6 : decode cM_best 6 = .ok (.aload_n 0, 1) := by decide +kernel
theorem dM_best_7 : decode cM_best 7 = .ok (.getfield 87, 3) := by decide +kernel
theorem dM_best_10 : decode cM_best 10 = .ok (.if_icmp .le 5, 3) := by decide +kernel
theorem dM_best_13 : decode cM_best 13 = .ok (.iconst (-1), 1) := by decide +kernel
theorem dM_best_14 : decode cM_best 14 = .ok (.ireturn, 1) := by decide +kernel
theorem dM_best_15 : decode cM_best 15 = .ok (.aload_n 0, 1) := by decide +kernel
theorem dM_best_16 : decode cM_best 16 = .ok (.iload_n 1, 1) := by decide +kernel
theorem dM_best_17 : decode cM_best 17 = .ok (.invokevirtual 107, 3) := by decide +kernel
theorem dM_best_20 : decode cM_best 20 = .ok (.iconst (-1), 1) := by decide +kernel
theorem dM_best_21 : decode cM_best 21 = .ok (.istore_n 2, 1) := by decide +kernel
theorem dM_best_22 : decode cM_best 22 = .ok (.iconst 0, 1) := by decide +kernel
theorem dM_best_23 : decode cM_best 23 = .ok (.istore_n 3, 1) := by decide +kernel
theorem dM_best_24 : decode cM_best 24 = .ok (.iload_n 3, 1) := by decide +kernel
theorem dM_best_25 : decode cM_best 25 = .ok (.sipush 1800, 3) := by decide +kernel
theorem dM_best_28 : decode cM_best 28 = .ok (.if_icmp .ge 43, 3) := by decide +kernel
theorem dM_best_31 : decode cM_best 31 = .ok (.aload_n 0, 1) := by decide +kernel
theorem dM_best_32 : decode cM_best 32 = .ok (.getfield 38, 3) := by decide +kernel
theorem dM_best_35 : decode cM_best 35 = .ok (.iload_n 3, 1) := by decide +kernel
theorem dM_best_36 : decode cM_best 36 = .ok (.iaload, 1) := by decide +kernel
theorem dM_best_37 : decode cM_best 37 = .ok (.ifCond .lt 26, 3) := by decide +kernel
theorem dM_best_40 : decode cM_best 40 = .ok (.iload_n 2, 1) := by decide +kernel
theorem dM_best_41 : decode cM_best 41 = .ok (.ifCond .lt 13, 3) := by decide +kernel
theorem dM_best_44 : decode cM_best 44 = .ok (.aload_n 0, 1) := by decide +kernel
theorem dM_best_45 : decode cM_best 45 = .ok (.getfield 38, 3) := by decide +kernel
theorem dM_best_48 : decode cM_best 48 = .ok (.iload_n 3, 1) := by decide +kernel
theorem dM_best_49 : decode cM_best 49 = .ok (.iaload, 1) := by decide +kernel
theorem dM_best_50 : decode cM_best 50 = .ok (.iload_n 2, 1) := by decide +kernel
theorem dM_best_51 : decode cM_best 51 = .ok (.if_icmp .ge 12, 3) := by decide +kernel
theorem dM_best_54 : decode cM_best 54 = .ok (.aload_n 0, 1) := by decide +kernel
theorem dM_best_55 : decode cM_best 55 = .ok (.getfield 38, 3) := by decide +kernel
theorem dM_best_58 : decode cM_best 58 = .ok (.iload_n 3, 1) := by decide +kernel
theorem dM_best_59 : decode cM_best 59 = .ok (.iaload, 1) := by decide +kernel
theorem dM_best_60 : decode cM_best 60 = .ok (.goto 4, 3) := by decide +kernel
theorem dM_best_63 : decode cM_best 63 = .ok (.iload_n 2, 1) := by decide +kernel
theorem dM_best_64 : decode cM_best 64 = .ok (.istore_n 2, 1) := by decide +kernel
theorem dM_best_65 : decode cM_best 65 = .ok (.iinc 3 1, 3) := by decide +kernel
theorem dM_best_68 : decode cM_best 68 = .ok (.goto (-44), 3) := by decide +kernel
theorem dM_best_71 : decode cM_best 71 = .ok (.iload_n 2, 1) := by decide +kernel
theorem dM_best_72 : decode cM_best 72 = .ok (.ireturn, 1) := by decide +kernel
