theorem dX_init_0 : decode cX_init 0 = .ok (.aload_n 0, 1) := by decide +kernel
theorem dX_init_1 : decode cX_init 1 = .ok (.invokespecial 3, 3) := by decide +kernel
theorem dX_init_4 : decode cX_init 4 = .ok (.aload_n 0, 1) := by decide +kernel
theorem dX_init_5 : decode cX_init 5 = .ok (.new 9, 3) := by decide +kernel
theorem dX_init_8 : decode cX_init 8 = .ok (.dup, 1) := by decide +kernel
theorem dX_init_9 : decode cX_init 9 = .ok (.invokespecial 11, 3) := by decide +kernel
theorem dX_init_12 : decode cX_init 12 = .ok (.putfield 12, 3) := by decide +kernel
theorem dX_init_15 : decode cX_init 15 = .ok (.aload_n 0, 1) := by decide +kernel
theorem dX_init_16 : decode cX_init 16 = .ok (.new 16, 3) := by decide +kernel
theorem dX_init_19 : decode cX_init 19 = .ok (.dup, 1) := by decide +kernel
theorem dX_init_20 : decode cX_init 20 = .ok (.invokespecial 18, 3) := by decide +kernel
theorem dX_init_23 : decode cX_init 23 = .ok (.putfield 19, 3) := by decide +kernel
theorem dX_init_26 : decode cX_init 26 = .ok (.aload_n 0, 1) := by decide +kernel
theorem dX_init_27 : decode cX_init 27 = .ok (.new 23, 3) := by decide +kernel
theorem dX_init_30 : decode cX_init 30 = .ok (.dup, 1) := by decide +kernel
theorem dX_init_31 : decode cX_init 31 = .ok (.invokespecial 25, 3) := by decide +kernel
theorem dX_init_34 : decode cX_init 34 = .ok (.putfield 26, 3) := by decide +kernel
theorem dX_init_37 : decode cX_init 37 = .ok (.aload_n 0, 1) := by decide +kernel
theorem dX_init_38 : decode cX_init 38 = .ok (.new 30, 3) := by decide +kernel
theorem dX_init_41 : decode cX_init 41 = .ok (.dup, 1) := by decide +kernel
theorem dX_init_42 : decode cX_init 42 = .ok (.aload_n 0, 1) := by decide +kernel
theorem dX_init_43 : decode cX_init 43 = .ok (.getfield 12, 3) := by decide +kernel
theorem dX_init_46 : decode cX_init 46 = .ok (.aload_n 0, 1) := by decide +kernel
theorem dX_init_47 : decode cX_init 47 = .ok (.getfield 19, 3) := by decide +kernel
theorem dX_init_50 : decode cX_init 50 = .ok (.aload_n 0, 1) := by decide +kernel
theorem dX_init_51 : decode cX_init 51 = .ok (.getfield 26, 3) := by decide +kernel
theorem dX_init_54 : decode cX_init 54 = .ok (.invokespecial 32, 3) := by decide +kernel
theorem dX_init_57 : decode cX_init 57 = .ok (.putfield 35, 3) := by decide +kernel
theorem dX_init_60 : decode cX_init 60 = .ok (.aload_n 0, 1) := by decide +kernel
theorem dX_init_61 : decode cX_init 61 = .ok (.iconst 0, 1) := by decide +kernel
theorem dX_init_62 : decode cX_init 62 = .ok (.putfield 39, 3) := by decide +kernel
theorem dX_init_65 : decode cX_init 65 = .ok (.return_, 1) := by decide +kernel
theorem dX_say_0 : decode cX_say 0 = .ok (.iload_n 1, 1) := by decide +kernel
theorem dX_say_1 : decode cX_say 1 = .ok (.invokestatic 43, 3) := by decide +kernel
theorem dX_say_4 : decode cX_say 4 = .ok (.ifCond .eq 38, 3) := by decide +kernel
theorem dX_say_7 : decode cX_say 7 = .ok (.iload_n 2, 1) := by decide +kernel
theorem dX_say_8 : decode cX_say 8 = .ok (.iload_n 3, 1) := by decide +kernel
theorem dX_say_9 : decode cX_say 9 = .ok (.iload 4, 2) := by decide +kernel
theorem dX_say_11 : decode cX_say 11 = .ok (.invokestatic 47, 3) := by decide +kernel
theorem dX_say_14 : decode cX_say 14 = .ok (.ifCond .eq 28, 3) := by decide +kernel
theorem dX_say_17 : decode cX_say 17 = .ok (.aload_n 0, 1) := by decide +kernel
theorem dX_say_18 : decode cX_say 18 = .ok (.getfield 12, 3) := by decide +kernel
theorem dX_say_21 : decode cX_say 21 = .ok (.invokevirtual 51, 3) := by decide +kernel
theorem dX_say_24 : decode cX_say 24 = .ok (.ifCond .ne 18, 3) := by decide +kernel
theorem dX_say_27 : decode cX_say 27 = .ok (.aload_n 0, 1) := by decide +kernel
theorem dX_say_28 : decode cX_say 28 = .ok (.getfield 12, 3) := by decide +kernel
theorem dX_say_31 : decode cX_say 31 = .ok (.iload_n 1, 1) := by decide +kernel
theorem dX_say_32 : decode cX_say 32 = .ok (.iload_n 2, 1) := by decide +kernel
theorem dX_say_33 : decode cX_say 33 = .ok (.iload_n 3, 1) := by decide +kernel
theorem dX_say_34 : decode cX_say 34 = .ok (.iload 4, 2) := by decide +kernel
theorem dX_say_36 : decode cX_say 36 = .ok (.invokevirtual 55, 3) := by decide +kernel
theorem dX_say_39 : decode cX_say 39 = .ok (.ifCond .eq 5, 3) := by decide +kernel
theorem dX_say_42 : decode cX_say 42 = .ok (.iconst (-1), 1) := by decide +kernel
theorem dX_say_43 : decode cX_say 43 = .ok (.ireturn, 1) := by decide +kernel
theorem dX_say_44 : decode cX_say 44 = .ok (.aload_n 0, 1) := by decide +kernel
theorem dX_say_45 : decode cX_say 45 = .ok (.getfield 12, 3) := by decide +kernel
theorem dX_say_48 : decode cX_say 48 = .ok (.iload_n 1, 1) := by decide +kernel
theorem dX_say_49 : decode cX_say 49 = .ok (.iload_n 2, 1) := by decide +kernel
theorem dX_say_50 : decode cX_say 50 = .ok (.iload_n 3, 1) := by decide +kernel
theorem dX_say_51 : decode cX_say 51 = .ok (.iload 4, 2) := by decide +kernel
theorem dX_say_53 : decode cX_say 53 = .ok (.invokevirtual 59, 3) := by decide +kernel
theorem dX_say_56 : decode cX_say 56 = .ok (.aload_n 0, 1) := by decide +kernel
theorem dX_say_57 : decode cX_say 57 = .ok (.iconst 0, 1) := by decide +kernel
theorem dX_say_58 : decode cX_say 58 = .ok (.putfield 39, 3) := by decide +kernel
theorem dX_say_61 : decode cX_say 61 = .ok (.aload_n 0, 1) := by decide +kernel
theorem dX_say_62 : decode cX_say 62 = .ok (.getfield 12, 3) := by decide +kernel
theorem dX_say_65 : decode cX_say 65 = .ok (.invokevirtual 63, 3) := by decide +kernel
theorem dX_say_68 : decode cX_say 68 = .ok (.ireturn, 1) := by decide +kernel
theorem dX_gram_0 : decode cX_gram 0 = .ok (.iload_n 1, 1) := by decide +kernel
theorem dX_gram_1 : decode cX_gram 1 = .ok (.iload_n 2, 1) := by decide +kernel
theorem dX_gram_2 : decode cX_gram 2 = .ok (.iload_n 3, 1) := by decide +kernel
theorem dX_gram_3 : decode cX_gram 3 = .ok (.invokestatic 67, 3) := by decide +kernel
theorem dX_gram_6 : decode cX_gram 6 = .ok (.ifCond .eq 19, 3) := by decide +kernel
theorem dX_gram_9 : decode cX_gram 9 = .ok (.iload 4, 2) := by decide +kernel
theorem dX_gram_11 : decode cX_gram 11 = .ok (.invokestatic 70, 3) := by decide +kernel
theorem dX_gram_14 : decode cX_gram 14 = .ok (.ifCond .eq 11, 3) := by decide +kernel
theorem dX_gram_17 : decode cX_gram 17 = .ok (.iload 5, 2) := by decide +kernel
theorem dX_gram_19 : decode cX_gram 19 = .ok (.invokestatic 70, 3) := by decide +kernel
theorem dX_gram_22 : decode cX_gram 22 = .ok (.ifCond .ne 5, 3) := by decide +kernel
theorem dX_gram_25 : decode cX_gram 25 = .ok (.iconst 0, 1) := by decide +kernel
theorem dX_gram_26 : decode cX_gram 26 = .ok (.ireturn, 1) := by decide +kernel
theorem dX_gram_27 : decode cX_gram 27 = .ok (.aload_n 0, 1) := by decide +kernel
theorem dX_gram_28 : decode cX_gram 28 = .ok (.getfield 19, 3) := by decide +kernel
theorem dX_gram_31 : decode cX_gram 31 = .ok (.iload_n 1, 1) := by decide +kernel
theorem dX_gram_32 : decode cX_gram 32 = .ok (.iload_n 2, 1) := by decide +kernel
theorem dX_gram_33 : decode cX_gram 33 = .ok (.iload_n 3, 1) := by decide +kernel
theorem dX_gram_34 : decode cX_gram 34 = .ok (.iload 4, 2) := by decide +kernel
theorem dX_gram_36 : decode cX_gram 36 = .ok (.iload 5, 2) := by decide +kernel
theorem dX_gram_38 : decode cX_gram 38 = .ok (.invokevirtual 73, 3) := by decide +kernel
theorem dX_gram_41 : decode cX_gram 41 = .ok (.aload_n 0, 1) := by decide +kernel
theorem dX_gram_42 : decode cX_gram 42 = .ok (.iconst 0, 1) := by decide +kernel
theorem dX_gram_43 : decode cX_gram 43 = .ok (.putfield 39, 3) := by decide +kernel
theorem dX_gram_46 : decode cX_gram 46 = .ok (.iconst 1, 1) := by decide +kernel
theorem dX_gram_47 : decode cX_gram 47 = .ok (.ireturn, 1) := by decide +kernel
theorem dX_ungram_0 : decode cX_ungram 0 = .ok (.iload_n 1, 1) := by decide +kernel
theorem dX_ungram_1 : decode cX_ungram 1 = .ok (.iload_n 2, 1) := by decide +kernel
theorem dX_ungram_2 : decode cX_ungram 2 = .ok (.iload_n 3, 1) := by decide +kernel
theorem dX_ungram_3 : decode cX_ungram 3 = .ok (.invokestatic 67, 3) := by decide +kernel
theorem dX_ungram_6 : decode cX_ungram 6 = .ok (.ifCond .eq 16, 3) := by decide +kernel
theorem dX_ungram_9 : decode cX_ungram 9 = .ok (.aload_n 0, 1) := by decide +kernel
theorem dX_ungram_10 : decode cX_ungram 10 = .ok (.getfield 19, 3) := by decide +kernel
theorem dX_ungram_13 : decode cX_ungram 13 = .ok (.iload_n 1, 1) := by decide +kernel
theorem dX_ungram_14 : decode cX_ungram 14 = .ok (.iload_n 2, 1) := by decide +kernel
theorem dX_ungram_15 : decode cX_ungram 15 = .ok (.iload_n 3, 1) := by decide +kernel
theorem dX_ungram_16 : decode cX_ungram 16 = .ok (.invokevirtual 77, 3) := by decide +kernel
theorem dX_ungram_19 : decode cX_ungram 19 = .ok (.ifCond .ne 5, 3) := by decide +kernel
theorem dX_ungram_22 : decode cX_ungram 22 = .ok (.iconst 0, 1) := by decide +kernel
theorem dX_ungram_23 : decode cX_ungram 23 = .ok (.ireturn, 1) := by decide +kernel
theorem dX_ungram_24 : decode cX_ungram 24 = .ok (.aload_n 0, 1) := by decide +kernel
theorem dX_ungram_25 : decode cX_ungram 25 = .ok (.getfield 19, 3) := by decide +kernel
theorem dX_ungram_28 : decode cX_ungram 28 = .ok (.iload_n 1, 1) := by decide +kernel
theorem dX_ungram_29 : decode cX_ungram 29 = .ok (.iload_n 2, 1) := by decide +kernel
theorem dX_ungram_30 : decode cX_ungram 30 = .ok (.iload_n 3, 1) := by decide +kernel
theorem dX_ungram_31 : decode cX_ungram 31 = .ok (.invokevirtual 79, 3) := by decide +kernel
theorem dX_ungram_34 : decode cX_ungram 34 = .ok (.aload_n 0, 1) := by decide +kernel
theorem dX_ungram_35 : decode cX_ungram 35 = .ok (.iconst 0, 1) := by decide +kernel
theorem dX_ungram_36 : decode cX_ungram 36 = .ok (.putfield 39, 3) := by decide +kernel
theorem dX_ungram_39 : decode cX_ungram 39 = .ok (.iconst 1, 1) := by decide +kernel
theorem dX_ungram_40 : decode cX_ungram 40 = .ok (.ireturn, 1) := by decide +kernel
theorem dX_after_0 : decode cX_after 0 = .ok (.iload_n 3, 1) := by decide +kernel
theorem dX_after_1 : decode cX_after 1 = .ok (.invokestatic 83, 3) := by decide +kernel
theorem dX_after_4 : decode cX_after 4 = .ok (.ifCond .eq 27, 3) := by decide +kernel
theorem dX_after_7 : decode cX_after 7 = .ok (.iload_n 2, 1) := by decide +kernel
theorem dX_after_8 : decode cX_after 8 = .ok (.invokestatic 83, 3) := by decide +kernel
theorem dX_after_11 : decode cX_after 11 = .ok (.ifCond .eq 20, 3) := by decide +kernel
theorem dX_after_14 : decode cX_after 14 = .ok (.iload_n 1, 1) := by decide +kernel
theorem dX_after_15 : decode cX_after 15 = .ok (.invokestatic 83, 3) := by decide +kernel
theorem dX_after_18 : decode cX_after 18 = .ok (.ifCond .eq 13, 3) := by decide +kernel
theorem dX_after_21 : decode cX_after 21 = .ok (.iload_n 2, 1) := by decide +kernel
theorem dX_after_22 : decode cX_after 22 = .ok (.iconst 4, 1) := by decide +kernel
theorem dX_after_23 : decode cX_after 23 = .ok (.if_icmp .ne 10, 3) := by decide +kernel
theorem dX_after_26 : decode cX_after 26 = .ok (.iload_n 1, 1) := by decide +kernel
theorem dX_after_27 : decode cX_after 27 = .ok (.iconst 4, 1) := by decide +kernel
theorem dX_after_28 : decode cX_after 28 = .ok (.if_icmp .eq 5, 3) := by decide +kernel
theorem dX_after_31 : decode cX_after 31 = .ok (.iconst (-1), 1) := by decide +kernel
theorem dX_after_32 : decode cX_after 32 = .ok (.ireturn, 1) := by decide +kernel
theorem dX_after_33 : decode cX_after 33 = .ok (.aload_n 0, 1) := by decide +kernel
theorem dX_after_34 : decode cX_after 34 = .ok (.getfield 19, 3) := by decide +kernel
theorem dX_after_37 : decode cX_after 37 = .ok (.iload_n 1, 1) := by decide +kernel
theorem dX_after_38 : decode cX_after 38 = .ok (.iload_n 2, 1) := by decide +kernel
theorem dX_after_39 : decode cX_after 39 = .ok (.iload_n 3, 1) := by decide +kernel
theorem dX_after_40 : decode cX_after 40 = .ok (.invokevirtual 86, 3) := by decide +kernel
theorem dX_after_43 : decode cX_after 43 = .ok (.ireturn, 1) := by decide +kernel
theorem dX_topology_0 : decode cX_topology 0 = .ok (.iload_n 1, 1) := by decide +kernel
theorem dX_topology_1 : decode cX_topology 1 = .ok (.invokestatic 90, 3) := by decide +kernel
theorem dX_topology_4 : decode cX_topology 4 = .ok (.ifCond .eq 17, 3) := by decide +kernel
theorem dX_topology_7 : decode cX_topology 7 = .ok (.iload_n 2, 1) := by decide +kernel
theorem dX_topology_8 : decode cX_topology 8 = .ok (.invokestatic 70, 3) := by decide +kernel
theorem dX_topology_11 : decode cX_topology 11 = .ok (.ifCond .eq 10, 3) := by decide +kernel
theorem dX_topology_14 : decode cX_topology 14 = .ok (.iload_n 3, 1) := by decide +kernel
theorem dX_topology_15 : decode cX_topology 15 = .ok (.invokestatic 70, 3) := by decide +kernel
theorem dX_topology_18 : decode cX_topology 18 = .ok (.ifCond .ne 5, 3) := by decide +kernel
theorem dX_topology_21 : decode cX_topology 21 = .ok (.iconst 0, 1) := by decide +kernel
theorem dX_topology_22 : decode cX_topology 22 = .ok (.ireturn, 1) := by decide +kernel
theorem dX_topology_23 : decode cX_topology 23 = .ok (.aload_n 0, 1) := by decide +kernel
theorem dX_topology_24 : decode cX_topology 24 = .ok (.getfield 26, 3) := by decide +kernel
theorem dX_topology_27 : decode cX_topology 27 = .ok (.iload_n 1, 1) := by decide +kernel
theorem dX_topology_28 : decode cX_topology 28 = .ok (.iload_n 2, 1) := by decide +kernel
theorem dX_topology_29 : decode cX_topology 29 = .ok (.iload_n 3, 1) := by decide +kernel
theorem dX_topology_30 : decode cX_topology 30 = .ok (.invokevirtual 93, 3) := by decide +kernel
theorem dX_topology_33 : decode cX_topology 33 = .ok (.aload_n 0, 1) := by decide +kernel
theorem dX_topology_34 : decode cX_topology 34 = .ok (.iconst 0, 1) := by decide +kernel
theorem dX_topology_35 : decode cX_topology 35 = .ok (.putfield 39, 3) := by decide +kernel
theorem dX_topology_38 : decode cX_topology 38 = .ok (.iconst 1, 1) := by decide +kernel
theorem dX_topology_39 : decode cX_topology 39 = .ok (.ireturn, 1) := by decide +kernel
theorem dX_frame_0 : decode cX_frame 0 = .ok (.aload_n 0, 1) := by decide +kernel
theorem dX_frame_1 : decode cX_frame 1 = .ok (.getfield 26, 3) := by decide +kernel
theorem dX_frame_4 : decode cX_frame 4 = .ok (.invokevirtual 96, 3) := by decide +kernel
theorem dX_frame_7 : decode cX_frame 7 = .ok (.bipush 15, 2) := by decide +kernel
theorem dX_frame_9 : decode cX_frame 9 = .ok (.if_icmp .lt 5, 3) := by decide +kernel
theorem dX_frame_12 : decode cX_frame 12 = .ok (.iconst (-1), 1) := by decide +kernel
theorem dX_frame_13 : decode cX_frame 13 = .ok (.ireturn, 1) := by decide +kernel
theorem dX_frame_14 : decode cX_frame 14 = .ok (.aload_n 0, 1) := by decide +kernel
theorem dX_frame_15 : decode cX_frame 15 = .ok (.getfield 26, 3) := by decide +kernel
theorem dX_frame_18 : decode cX_frame 18 = .ok (.invokevirtual 99, 3) := by decide +kernel
theorem dX_frame_21 : decode cX_frame 21 = .ok (.aload_n 0, 1) := by decide +kernel
theorem dX_frame_22 : decode cX_frame 22 = .ok (.iconst 0, 1) := by decide +kernel
theorem dX_frame_23 : decode cX_frame 23 = .ok (.putfield 39, 3) := by decide +kernel
theorem dX_frame_26 : decode cX_frame 26 = .ok (.aload_n 0, 1) := by decide +kernel
theorem dX_frame_27 : decode cX_frame 27 = .ok (.getfield 26, 3) := by decide +kernel
theorem dX_frame_30 : decode cX_frame 30 = .ok (.invokevirtual 96, 3) := by decide +kernel
theorem dX_frame_33 : decode cX_frame 33 = .ok (.ireturn, 1) := by decide +kernel
theorem dX_drop_0 : decode cX_drop 0 = .ok (.aload_n 0, 1) := by decide +kernel
theorem dX_drop_1 : decode cX_drop 1 = .ok (.getfield 26, 3) := by decide +kernel
theorem dX_drop_4 : decode cX_drop 4 = .ok (.invokevirtual 96, 3) := by decide +kernel
theorem dX_drop_7 : decode cX_drop 7 = .ok (.ifCond .gt 5, 3) := by decide +kernel
theorem dX_drop_10 : decode cX_drop 10 = .ok (.iconst 0, 1) := by decide +kernel
theorem dX_drop_11 : decode cX_drop 11 = .ok (.ireturn, 1) := by decide +kernel
theorem dX_drop_12 : decode cX_drop 12 = .ok (.aload_n 0, 1) := by decide +kernel
theorem dX_drop_13 : decode cX_drop 13 = .ok (.getfield 26, 3) := by decide +kernel
theorem dX_drop_16 : decode cX_drop 16 = .ok (.invokevirtual 102, 3) := by decide +kernel
theorem dX_drop_19 : decode cX_drop 19 = .ok (.aload_n 0, 1) := by decide +kernel
theorem dX_drop_20 : decode cX_drop 20 = .ok (.iconst 0, 1) := by decide +kernel
theorem dX_drop_21 : decode cX_drop 21 = .ok (.putfield 39, 3) := by decide +kernel
theorem dX_drop_24 : decode cX_drop 24 = .ok (.iconst 1, 1) := by decide +kernel
theorem dX_drop_25 : decode cX_drop 25 = .ok (.ireturn, 1) := by decide +kernel
theorem dX_sound_0 : decode cX_sound 0 = .ok (.iload_n 1, 1) := by decide +kernel
theorem dX_sound_1 : decode cX_sound 1 = .ok (.ifCond .lt 36, 3) := by decide +kernel
theorem dX_sound_4 : decode cX_sound 4 = .ok (.iload_n 1, 1) := by decide +kernel
theorem dX_sound_5 : decode cX_sound 5 = .ok (.aload_n 0, 1) := by decide +kernel
theorem dX_sound_6 : decode cX_sound 6 = .ok (.getfield 26, 3) := by decide +kernel
theorem dX_sound_9 : decode cX_sound 9 = .ok (.invokevirtual 96, 3) := by decide +kernel
theorem dX_sound_12 : decode cX_sound 12 = .ok (.if_icmp .ge 25, 3) := by decide +kernel
theorem dX_sound_15 : decode cX_sound 15 = .ok (.iload_n 2, 1) := by decide +kernel
theorem dX_sound_16 : decode cX_sound 16 = .ok (.invokestatic 105, 3) := by decide +kernel
theorem dX_sound_19 : decode cX_sound 19 = .ok (.ifCond .eq 18, 3) := by decide +kernel
theorem dX_sound_22 : decode cX_sound 22 = .ok (.iload_n 3, 1) := by decide +kernel
theorem dX_sound_23 : decode cX_sound 23 = .ok (.invokestatic 90, 3) := by decide +kernel
theorem dX_sound_26 : decode cX_sound 26 = .ok (.ifCond .eq 11, 3) := by decide +kernel
theorem dX_sound_29 : decode cX_sound 29 = .ok (.iload 4, 2) := by decide +kernel
theorem dX_sound_31 : decode cX_sound 31 = .ok (.invokestatic 70, 3) := by decide +kernel
theorem dX_sound_34 : decode cX_sound 34 = .ok (.ifCond .ne 5, 3) := by decide +kernel
theorem dX_sound_37 : decode cX_sound 37 = .ok (.iconst 0, 1) := by decide +kernel
theorem dX_sound_38 : decode cX_sound 38 = .ok (.ireturn, 1) := by decide +kernel
theorem dX_sound_39 : decode cX_sound 39 = .ok (.aload_n 0, 1) := by decide +kernel
theorem dX_sound_40 : decode cX_sound 40 = .ok (.getfield 26, 3) := by decide +kernel
theorem dX_sound_43 : decode cX_sound 43 = .ok (.iload_n 1, 1) := by decide +kernel
theorem dX_sound_44 : decode cX_sound 44 = .ok (.iload_n 2, 1) := by decide +kernel
theorem dX_sound_45 : decode cX_sound 45 = .ok (.iload_n 3, 1) := by decide +kernel
theorem dX_sound_46 : decode cX_sound 46 = .ok (.iload 4, 2) := by decide +kernel
theorem dX_sound_48 : decode cX_sound 48 = .ok (.invokevirtual 108, 3) := by decide +kernel
theorem dX_sound_51 : decode cX_sound 51 = .ok (.aload_n 0, 1) := by decide +kernel
theorem dX_sound_52 : decode cX_sound 52 = .ok (.iconst 0, 1) := by decide +kernel
theorem dX_sound_53 : decode cX_sound 53 = .ok (.putfield 39, 3) := by decide +kernel
theorem dX_sound_56 : decode cX_sound 56 = .ok (.iconst 1, 1) := by decide +kernel
theorem dX_sound_57 : decode cX_sound 57 = .ok (.ireturn, 1) := by decide +kernel
theorem dX_frames_0 : decode cX_frames 0 = .ok (.aload_n 0, 1) := by decide +kernel
theorem dX_frames_1 : decode cX_frames 1 = .ok (.getfield 26, 3) := by decide +kernel
theorem dX_frames_4 : decode cX_frames 4 = .ok (.invokevirtual 96, 3) := by decide +kernel
theorem dX_frames_7 : decode cX_frames 7 = .ok (.ireturn, 1) := by decide +kernel
theorem dX_nodes_0 : decode cX_nodes 0 = .ok (.aload_n 0, 1) := by decide +kernel
theorem dX_nodes_1 : decode cX_nodes 1 = .ok (.getfield 12, 3) := by decide +kernel
theorem dX_nodes_4 : decode cX_nodes 4 = .ok (.invokevirtual 63, 3) := by decide +kernel
theorem dX_nodes_7 : decode cX_nodes 7 = .ok (.ireturn, 1) := by decide +kernel
theorem dX_total_0 : decode cX_total 0 = .ok (.aload_n 0, 1) := by decide +kernel
theorem dX_total_1 : decode cX_total 1 = .ok (.invokevirtual 111, 3) := by decide +kernel
theorem dX_total_4 : decode cX_total 4 = .ok (.invokevirtual 115, 3) := by decide +kernel
theorem dX_total_7 : decode cX_total 7 = .ok (.invokestatic 119, 3) := by decide +kernel
theorem dX_total_10 : decode cX_total 10 = .ok (.ireturn, 1) := by decide +kernel
theorem dX_length_0 : decode cX_length 0 = .ok (.aload_n 0, 1) := by decide +kernel
theorem dX_length_1 : decode cX_length 1 = .ok (.invokevirtual 111, 3) := by decide +kernel
theorem dX_length_4 : decode cX_length 4 = .ok (.invokevirtual 115, 3) := by decide +kernel
theorem dX_length_7 : decode cX_length 7 = .ok (.invokestatic 125, 3) := by decide +kernel
theorem dX_length_10 : decode cX_length 10 = .ok (.ireturn, 1) := by decide +kernel
theorem dX_wordAt_0 : decode cX_wordAt 0 = .ok (.aload_n 0, 1) := by decide +kernel
theorem dX_wordAt_1 : decode cX_wordAt 1 = .ok (.invokevirtual 111, 3) := by decide +kernel
theorem dX_wordAt_4 : decode cX_wordAt 4 = .ok (.invokevirtual 115, 3) := by decide +kernel
theorem dX_wordAt_7 : decode cX_wordAt 7 = .ok (.iload_n 1, 1) := by decide +kernel
theorem dX_wordAt_8 : decode cX_wordAt 8 = .ok (.invokestatic 128, 3) := by decide +kernel
theorem dX_wordAt_11 : decode cX_wordAt 11 = .ok (.ireturn, 1) := by decide +kernel
theorem dX_live_0 : decode cX_live 0 = .ok (.aload_n 0, 1) := by decide +kernel
theorem dX_live_1 : decode cX_live 1 = .ok (.iload_n 1, 1) := by decide +kernel
theorem dX_live_2 : decode cX_live 2 = .ok (.invokevirtual 132, 3) := by decide +kernel
theorem dX_live_5 : decode cX_live 5 = .ok (.ifCond .eq 14, 3) := by decide +kernel
theorem dX_live_8 : decode cX_live 8 = .ok (.aload_n 0, 1) := by decide +kernel
theorem dX_live_9 : decode cX_live 9 = .ok (.invokevirtual 111, 3) := by decide +kernel
theorem dX_live_12 : decode cX_live 12 = .ok (.iload_n 1, 1) := by decide +kernel
theorem dX_live_13 : decode cX_live 13 = .ok (.invokevirtual 135, 3) := by decide +kernel
theorem dX_live_16 : decode cX_live 16 = .ok (.goto 4, 3) := by decide +kernel
theorem dX_live_19 : decode cX_live 19 = .ok (.iconst 0, 1) := by decide +kernel
theorem dX_live_20 : decode cX_live 20 = .ok (.ireturn, 1) := by decide +kernel
theorem dX_best_0 : decode cX_best 0 = .ok (.aload_n 0, 1) := by decide +kernel
theorem dX_best_1 : decode cX_best 1 = .ok (.iload_n 1, 1) := by decide +kernel
theorem dX_best_2 : decode cX_best 2 = .ok (.invokevirtual 132, 3) := by decide +kernel
theorem dX_best_5 : decode cX_best 5 = .ok (.ifCond .eq 17, 3) := by decide +kernel
theorem dX_best_8 : decode cX_best 8 = .ok (.aload_n 0, 1) := by decide +kernel
theorem dX_best_9 : decode cX_best 9 = .ok (.invokevirtual 111, 3) := by decide +kernel
theorem dX_best_12 : decode cX_best 12 = .ok (.iload_n 1, 1) := by decide +kernel
theorem dX_best_13 : decode cX_best 13 = .ok (.invokevirtual 139, 3) := by decide +kernel
theorem dX_best_16 : decode cX_best 16 = .ok (.invokestatic 119, 3) := by decide +kernel
theorem dX_best_19 : decode cX_best 19 = .ok (.goto 4, 3) := by decide +kernel
theorem dX_best_22 : decode cX_best 22 = .ok (.iconst (-1), 1) := by decide +kernel
theorem dX_best_23 : decode cX_best 23 = .ok (.ireturn, 1) := by decide +kernel
theorem dX_searchOnce_0 : decode cX_searchOnce 0 = .ok (.aload_n 0, 1) := by decide +kernel
theorem dX_searchOnce_1 : decode cX_searchOnce 1 = .ok (.getfield 39, 3) := by decide +kernel
theorem dX_searchOnce_4 : decode cX_searchOnce 4 = .ok (.ifCond .ne 15, 3) := by decide +kernel
theorem dX_searchOnce_7 : decode cX_searchOnce 7 = .ok (.aload_n 0, 1) := by decide +kernel
theorem dX_searchOnce_8 : decode cX_searchOnce 8 = .ok (.getfield 35, 3) := by decide +kernel
theorem dX_searchOnce_11 : decode cX_searchOnce 11 = .ok (.invokevirtual 143, 3) := by decide +kernel
theorem dX_searchOnce_14 : decode cX_searchOnce 14 = .ok (.aload_n 0, 1) := by decide +kernel
theorem dX_searchOnce_15 : decode cX_searchOnce 15 = .ok (.iconst 1, 1) := by decide +kernel
theorem dX_searchOnce_16 : decode cX_searchOnce 16 = .ok (.putfield 39, 3) := by decide +kernel
theorem dX_searchOnce_19 : decode cX_searchOnce 19 = .ok (.aload_n 0, 1) := by decide +kernel
theorem dX_searchOnce_20 : decode cX_searchOnce 20 = .ok (.getfield 35, 3) := by decide +kernel
theorem dX_searchOnce_23 : decode cX_searchOnce 23 = .ok (.areturn, 1) := by decide +kernel
theorem dX_isFrameCount_0 : decode cX_isFrameCount 0 = .ok (.iload_n 1, 1) := by decide +kernel
theorem dX_isFrameCount_1 : decode cX_isFrameCount 1 = .ok (.iconst 1, 1) := by decide +kernel
theorem dX_isFrameCount_2 : decode cX_isFrameCount 2 = .ok (.if_icmp .lt 18, 3) := by decide +kernel
theorem dX_isFrameCount_5 : decode cX_isFrameCount 5 = .ok (.iload_n 1, 1) := by decide +kernel
theorem dX_isFrameCount_6 : decode cX_isFrameCount 6 = .ok (.aload_n 0, 1) := by decide +kernel
theorem dX_isFrameCount_7 : decode cX_isFrameCount 7 = .ok (.getfield 26, 3) := by decide +kernel
theorem dX_isFrameCount_10 : decode cX_isFrameCount 10 = .ok (.invokevirtual 96, 3) := by decide +kernel
theorem dX_isFrameCount_13 : decode cX_isFrameCount 13 = .ok (.if_icmp .gt 7, 3) := by decide +kernel
theorem dX_isFrameCount_16 : decode cX_isFrameCount 16 = .ok (.iconst 1, 1) := by decide +kernel
theorem dX_isFrameCount_17 : decode cX_isFrameCount 17 = .ok (.goto 4, 3) := by decide +kernel
theorem dX_isFrameCount_20 : decode cX_isFrameCount 20 = .ok (.iconst 0, 1) := by decide +kernel
theorem dX_isFrameCount_21 : decode cX_isFrameCount 21 = .ok (.ireturn, 1) := by decide +kernel
theorem dX_isWord_0 : decode cX_isWord 0 = .ok (.iload_n 0, 1) := by decide +kernel
theorem dX_isWord_1 : decode cX_isWord 1 = .ok (.ifCond .lt 12, 3) := by decide +kernel
theorem dX_isWord_4 : decode cX_isWord 4 = .ok (.iload_n 0, 1) := by decide +kernel
theorem dX_isWord_5 : decode cX_isWord 5 = .ok (.iconst 4, 1) := by decide +kernel
theorem dX_isWord_6 : decode cX_isWord 6 = .ok (.if_icmp .ge 7, 3) := by decide +kernel
theorem dX_isWord_9 : decode cX_isWord 9 = .ok (.iconst 1, 1) := by decide +kernel
theorem dX_isWord_10 : decode cX_isWord 10 = .ok (.goto 4, 3) := by decide +kernel
theorem dX_isWord_13 : decode cX_isWord 13 = .ok (.iconst 0, 1) := by decide +kernel
theorem dX_isWord_14 : decode cX_isWord 14 = .ok (.ireturn, 1) := by decide +kernel
theorem dX_isWordOrEdge_0 : decode cX_isWordOrEdge 0 = .ok (.iload_n 0, 1) := by decide +kernel
theorem dX_isWordOrEdge_1 : decode cX_isWordOrEdge 1 = .ok (.invokestatic 43, 3) := by decide +kernel
theorem dX_isWordOrEdge_4 : decode cX_isWordOrEdge 4 = .ok (.ifCond .ne 8, 3) := by decide +kernel
theorem dX_isWordOrEdge_7 : decode cX_isWordOrEdge 7 = .ok (.iload_n 0, 1) := by decide +kernel
theorem dX_isWordOrEdge_8 : decode cX_isWordOrEdge 8 = .ok (.iconst 4, 1) := by decide +kernel
theorem dX_isWordOrEdge_9 : decode cX_isWordOrEdge 9 = .ok (.if_icmp .ne 7, 3) := by decide +kernel
theorem dX_isWordOrEdge_12 : decode cX_isWordOrEdge 12 = .ok (.iconst 1, 1) := by decide +kernel
theorem dX_isWordOrEdge_13 : decode cX_isWordOrEdge 13 = .ok (.goto 4, 3) := by decide +kernel
theorem dX_isWordOrEdge_16 : decode cX_isWordOrEdge 16 = .ok (.iconst 0, 1) := by decide +kernel
theorem dX_isWordOrEdge_17 : decode cX_isWordOrEdge 17 = .ok (.ireturn, 1) := by decide +kernel
theorem dX_isPhone_0 : decode cX_isPhone 0 = .ok (.iload_n 0, 1) := by decide +kernel
theorem dX_isPhone_1 : decode cX_isPhone 1 = .ok (.ifCond .lt 12, 3) := by decide +kernel
theorem dX_isPhone_4 : decode cX_isPhone 4 = .ok (.iload_n 0, 1) := by decide +kernel
theorem dX_isPhone_5 : decode cX_isPhone 5 = .ok (.iconst 4, 1) := by decide +kernel
theorem dX_isPhone_6 : decode cX_isPhone 6 = .ok (.if_icmp .ge 7, 3) := by decide +kernel
theorem dX_isPhone_9 : decode cX_isPhone 9 = .ok (.iconst 1, 1) := by decide +kernel
theorem dX_isPhone_10 : decode cX_isPhone 10 = .ok (.goto 4, 3) := by decide +kernel
theorem dX_isPhone_13 : decode cX_isPhone 13 = .ok (.iconst 0, 1) := by decide +kernel
theorem dX_isPhone_14 : decode cX_isPhone 14 = .ok (.ireturn, 1) := by decide +kernel
theorem dX_isState_0 : decode cX_isState 0 = .ok (.iload_n 0, 1) := by decide +kernel
theorem dX_isState_1 : decode cX_isState 1 = .ok (.ifCond .lt 12, 3) := by decide +kernel
theorem dX_isState_4 : decode cX_isState 4 = .ok (.iload_n 0, 1) := by decide +kernel
theorem dX_isState_5 : decode cX_isState 5 = .ok (.iconst 3, 1) := by decide +kernel
theorem dX_isState_6 : decode cX_isState 6 = .ok (.if_icmp .ge 7, 3) := by decide +kernel
theorem dX_isState_9 : decode cX_isState 9 = .ok (.iconst 1, 1) := by decide +kernel
theorem dX_isState_10 : decode cX_isState 10 = .ok (.goto 4, 3) := by decide +kernel
theorem dX_isState_13 : decode cX_isState 13 = .ok (.iconst 0, 1) := by decide +kernel
theorem dX_isState_14 : decode cX_isState 14 = .ok (.ireturn, 1) := by decide +kernel
theorem dX_isCost_0 : decode cX_isCost 0 = .ok (.iload_n 0, 1) := by decide +kernel
theorem dX_isCost_1 : decode cX_isCost 1 = .ok (.ifCond .lt 14, 3) := by decide +kernel
theorem dX_isCost_4 : decode cX_isCost 4 = .ok (.iload_n 0, 1) := by decide +kernel
theorem dX_isCost_5 : decode cX_isCost 5 = .ok (.sipush 9999, 3) := by decide +kernel
theorem dX_isCost_8 : decode cX_isCost 8 = .ok (.if_icmp .gt 7, 3) := by decide +kernel
theorem dX_isCost_11 : decode cX_isCost 11 = .ok (.iconst 1, 1) := by decide +kernel
theorem dX_isCost_12 : decode cX_isCost 12 = .ok (.goto 4, 3) := by decide +kernel
theorem dX_isCost_15 : decode cX_isCost 15 = .ok (.iconst 0, 1) := by decide +kernel
theorem dX_isCost_16 : decode cX_isCost 16 = .ok (.ireturn, 1) := by decide +kernel
theorem dX_isPronunciation_0 : decode cX_isPronunciation 0 = .ok (.iload_n 0, 1) := by decide +kernel
theorem dX_isPronunciation_1 : decode cX_isPronunciation 1 = .ok (.invokestatic 105, 3) := by decide +kernel
theorem dX_isPronunciation_4 : decode cX_isPronunciation 4 = .ok (.ifCond .ne 5, 3) := by decide +kernel
theorem dX_isPronunciation_7 : decode cX_isPronunciation 7 = .ok (.iconst 0, 1) := by decide +kernel
theorem dX_isPronunciation_8 : decode cX_isPronunciation 8 = .ok (.ireturn, 1) := by decide +kernel
theorem dX_isPronunciation_9 : decode cX_isPronunciation 9 = .ok (.iload_n 1, 1) := by decide +kernel
theorem dX_isPronunciation_10 : decode cX_isPronunciation 10 = .ok (.iconst (-1), 1) := by decide +kernel
theorem dX_isPronunciation_11 : decode cX_isPronunciation 11 = .ok (.if_icmp .ne 16, 3) := by decide +kernel
theorem dX_isPronunciation_14 : decode cX_isPronunciation 14 = .ok (.iload_n 2, 1) := by decide +kernel
theorem dX_isPronunciation_15 : decode cX_isPronunciation 15 = .ok (.iconst (-1), 1) := by decide +kernel
theorem dX_isPronunciation_16 : decode cX_isPronunciation 16 = .ok (.if_icmp .ne 7, 3) := by decide +kernel
theorem dX_isPronunciation_19 : decode cX_isPronunciation 19 = .ok (.iconst 1, 1) := by decide +kernel
theorem dX_isPronunciation_20 : decode cX_isPronunciation 20 = .ok (.goto 31, 3) := by decide +kernel
theorem dX_isPronunciation_23 : decode cX_isPronunciation 23 = .ok (.iconst 0, 1) := by decide +kernel
theorem dX_isPronunciation_24 : decode cX_isPronunciation 24 = .ok (.goto 27, 3) := by decide +kernel
theorem dX_isPronunciation_27 : decode cX_isPronunciation 27 = .ok (.iload_n 1, 1) := by decide +kernel
theorem dX_isPronunciation_28 : decode cX_isPronunciation 28 = .ok (.invokestatic 105, 3) := by decide +kernel
theorem dX_isPronunciation_31 : decode cX_isPronunciation 31 = .ok (.ifCond .eq 19, 3) := by decide +kernel
theorem dX_isPronunciation_34 : decode cX_isPronunciation 34 = .ok (.iload_n 2, 1) := by decide +kernel
theorem dX_isPronunciation_35 : decode cX_isPronunciation 35 = .ok (.iconst (-1), 1) := by decide +kernel
theorem dX_isPronunciation_36 : decode cX_isPronunciation 36 = .ok (.if_icmp .eq 10, 3) := by decide +kernel
theorem dX_isPronunciation_39 : decode cX_isPronunciation 39 = .ok (.iload_n 2, 1) := by decide +kernel
theorem dX_isPronunciation_40 : decode cX_isPronunciation 40 = .ok (.invokestatic 105, 3) := by decide +kernel
theorem dX_isPronunciation_43 : decode cX_isPronunciation 43 = .ok (.ifCond .eq 7, 3) := by decide +kernel
theorem dX_isPronunciation_46 : decode cX_isPronunciation 46 = .ok (.iconst 1, 1) := by decide +kernel
theorem dX_isPronunciation_47 : decode cX_isPronunciation 47 = .ok (.goto 4, 3) := by decide +kernel
theorem dX_isPronunciation_50 : decode cX_isPronunciation 50 = .ok (.iconst 0, 1) := by decide +kernel
theorem dX_isPronunciation_51 : decode cX_isPronunciation 51 = .ok (.ireturn, 1) := by decide +kernel
theorem dG_init_0 : decode cG_init 0 = .ok (.aload_n 0, 1) := by decide +kernel
theorem dG_init_1 : decode cG_init 1 = .ok (.invokespecial 3, 3) := by decide +kernel
theorem dG_init_4 : decode cG_init 4 = .ok (.aload_n 0, 1) := by decide +kernel
theorem dG_init_5 : decode cG_init 5 = .ok (.sipush 216, 3) := by decide +kernel
theorem dG_init_8 : decode cG_init 8 = .ok (.newarray .int, 2) := by decide +kernel
theorem dG_init_10 : decode cG_init 10 = .ok (.putfield 11, 3) := by decide +kernel
theorem dG_init_13 : decode cG_init 13 = .ok (.aload_n 0, 1) := by decide +kernel
theorem dG_init_14 : decode cG_init 14 = .ok (.sipush 216, 3) := by decide +kernel
theorem dG_init_17 : decode cG_init 17 = .ok (.newarray .int, 2) := by decide +kernel
theorem dG_init_19 : decode cG_init 19 = .ok (.putfield 15, 3) := by decide +kernel
theorem dG_init_22 : decode cG_init 22 = .ok (.aload_n 0, 1) := by decide +kernel
theorem dG_init_23 : decode cG_init 23 = .ok (.getfield 11, 3) := by decide +kernel
theorem dG_init_26 : decode cG_init 26 = .ok (.iconst (-1), 1) := by decide +kernel
theorem dG_init_27 : decode cG_init 27 = .ok (.invokestatic 18, 3) := by decide +kernel
theorem dG_init_30 : decode cG_init 30 = .ok (.return_, 1) := by decide +kernel
theorem dG_isGram_0 : decode cG_isGram 0 = .ok (.iload_n 2, 1) := by decide +kernel
theorem dG_isGram_1 : decode cG_isGram 1 = .ok (.invokestatic 24, 3) := by decide +kernel
theorem dG_isGram_4 : decode cG_isGram 4 = .ok (.ifCond .ne 5, 3) := by decide +kernel
theorem dG_isGram_7 : decode cG_isGram 7 = .ok (.iconst 0, 1) := by decide +kernel
theorem dG_isGram_8 : decode cG_isGram 8 = .ok (.ireturn, 1) := by decide +kernel
theorem dG_isGram_9 : decode cG_isGram 9 = .ok (.iload_n 0, 1) := by decide +kernel
theorem dG_isGram_10 : decode cG_isGram 10 = .ok (.iconst (-1), 1) := by decide +kernel
theorem dG_isGram_11 : decode cG_isGram 11 = .ok (.if_icmp .ne 21, 3) := by decide +kernel
theorem dG_isGram_14 : decode cG_isGram 14 = .ok (.iload_n 1, 1) := by decide +kernel
theorem dG_isGram_15 : decode cG_isGram 15 = .ok (.iconst (-1), 1) := by decide +kernel
theorem dG_isGram_16 : decode cG_isGram 16 = .ok (.if_icmp .eq 10, 3) := by decide +kernel
theorem dG_isGram_19 : decode cG_isGram 19 = .ok (.iload_n 1, 1) := by decide +kernel
theorem dG_isGram_20 : decode cG_isGram 20 = .ok (.invokestatic 24, 3) := by decide +kernel
theorem dG_isGram_23 : decode cG_isGram 23 = .ok (.ifCond .eq 7, 3) := by decide +kernel
theorem dG_isGram_26 : decode cG_isGram 26 = .ok (.iconst 1, 1) := by decide +kernel
theorem dG_isGram_27 : decode cG_isGram 27 = .ok (.goto 4, 3) := by decide +kernel
theorem dG_isGram_30 : decode cG_isGram 30 = .ok (.iconst 0, 1) := by decide +kernel
theorem dG_isGram_31 : decode cG_isGram 31 = .ok (.ireturn, 1) := by decide +kernel
theorem dG_isGram_32 : decode cG_isGram 32 = .ok (.iload_n 0, 1) := by decide +kernel
theorem dG_isGram_33 : decode cG_isGram 33 = .ok (.invokestatic 24, 3) := by decide +kernel
theorem dG_isGram_36 : decode cG_isGram 36 = .ok (.ifCond .eq 14, 3) := by decide +kernel
theorem dG_isGram_39 : decode cG_isGram 39 = .ok (.iload_n 1, 1) := by decide +kernel
theorem dG_isGram_40 : decode cG_isGram 40 = .ok (.invokestatic 28, 3) := by decide +kernel
theorem dG_isGram_43 : decode cG_isGram 43 = .ok (.ifCond .eq 7, 3) := by decide +kernel
theorem dG_isGram_46 : decode cG_isGram 46 = .ok (.iconst 1, 1) := by decide +kernel
theorem dG_isGram_47 : decode cG_isGram 47 = .ok (.goto 4, 3) := by decide +kernel
theorem dG_isGram_50 : decode cG_isGram 50 = .ok (.iconst 0, 1) := by decide +kernel
theorem dG_isGram_51 : decode cG_isGram 51 = .ok (.ireturn, 1) := by decide +kernel
theorem dG_has_0 : decode cG_has 0 = .ok (.aload_n 0, 1) := by decide +kernel
theorem dG_has_1 : decode cG_has 1 = .ok (.getfield 11, 3) := by decide +kernel
theorem dG_has_4 : decode cG_has 4 = .ok (.iload_n 1, 1) := by decide +kernel
theorem dG_has_5 : decode cG_has 5 = .ok (.iload_n 2, 1) := by decide +kernel
theorem dG_has_6 : decode cG_has 6 = .ok (.iload_n 3, 1) := by decide +kernel
theorem dG_has_7 : decode cG_has 7 = .ok (.invokestatic 31, 3) := by decide +kernel
theorem dG_has_10 : decode cG_has 10 = .ok (.iaload, 1) := by decide +kernel
theorem dG_has_11 : decode cG_has 11 = .ok (.iconst (-1), 1) := by decide +kernel
theorem dG_has_12 : decode cG_has 12 = .ok (.if_icmp .eq 7, 3) := by decide +kernel
theorem dG_has_15 : decode cG_has 15 = .ok (.iconst 1, 1) := by decide +kernel
theorem dG_has_16 : decode cG_has 16 = .ok (.goto 4, 3) := by decide +kernel
theorem dG_has_19 : decode cG_has 19 = .ok (.iconst 0, 1) := by decide +kernel
theorem dG_has_20 : decode cG_has 20 = .ok (.ireturn, 1) := by decide +kernel
theorem dG_put_0 : decode cG_put 0 = .ok (.aload_n 0, 1) := by decide +kernel
theorem dG_put_1 : decode cG_put 1 = .ok (.getfield 11, 3) := by decide +kernel
theorem dG_put_4 : decode cG_put 4 = .ok (.iload_n 1, 1) := by decide +kernel
theorem dG_put_5 : decode cG_put 5 = .ok (.iload_n 2, 1) := by decide +kernel
theorem dG_put_6 : decode cG_put 6 = .ok (.iload_n 3, 1) := by decide +kernel
theorem dG_put_7 : decode cG_put 7 = .ok (.invokestatic 31, 3) := by decide +kernel
theorem dG_put_10 : decode cG_put 10 = .ok (.iload 4, 2) := by decide +kernel
theorem dG_put_12 : decode cG_put 12 = .ok (.iastore, 1) := by decide +kernel
theorem dG_put_13 : decode cG_put 13 = .ok (.aload_n 0, 1) := by decide +kernel
theorem dG_put_14 : decode cG_put 14 = .ok (.getfield 15, 3) := by decide +kernel
theorem dG_put_17 : decode cG_put 17 = .ok (.iload_n 1, 1) := by decide +kernel
theorem dG_put_18 : decode cG_put 18 = .ok (.iload_n 2, 1) := by decide +kernel
theorem dG_put_19 : decode cG_put 19 = .ok (.iload_n 3, 1) := by decide +kernel
theorem dG_put_20 : decode cG_put 20 = .ok (.invokestatic 31, 3) := by decide +kernel
theorem dG_put_23 : decode cG_put 23 = .ok (.iload 5, 2) := by decide +kernel
theorem dG_put_25 : decode cG_put 25 = .ok (.iastore, 1) := by decide +kernel
theorem dG_put_26 : decode cG_put 26 = .ok (.return_, 1) := by decide +kernel
theorem dG_remove_0 : decode cG_remove 0 = .ok (.aload_n 0, 1) := by decide +kernel
theorem dG_remove_1 : decode cG_remove 1 = .ok (.getfield 11, 3) := by decide +kernel
theorem dG_remove_4 : decode cG_remove 4 = .ok (.iload_n 1, 1) := by decide +kernel
theorem dG_remove_5 : decode cG_remove 5 = .ok (.iload_n 2, 1) := by decide +kernel
theorem dG_remove_6 : decode cG_remove 6 = .ok (.iload_n 3, 1) := by decide +kernel
theorem dG_remove_7 : decode cG_remove 7 = .ok (.invokestatic 31, 3) := by decide +kernel
theorem dG_remove_10 : decode cG_remove 10 = .ok (.iconst (-1), 1) := by decide +kernel
theorem dG_remove_11 : decode cG_remove 11 = .ok (.iastore, 1) := by decide +kernel
theorem dG_remove_12 : decode cG_remove 12 = .ok (.aload_n 0, 1) := by decide +kernel
theorem dG_remove_13 : decode cG_remove 13 = .ok (.getfield 15, 3) := by decide +kernel
theorem dG_remove_16 : decode cG_remove 16 = .ok (.iload_n 1, 1) := by decide +kernel
theorem dG_remove_17 : decode cG_remove 17 = .ok (.iload_n 2, 1) := by decide +kernel
theorem dG_remove_18 : decode cG_remove 18 = .ok (.iload_n 3, 1) := by decide +kernel
theorem dG_remove_19 : decode cG_remove 19 = .ok (.invokestatic 31, 3) := by decide +kernel
theorem dG_remove_22 : decode cG_remove 22 = .ok (.iconst 0, 1) := by decide +kernel
theorem dG_remove_23 : decode cG_remove 23 = .ok (.iastore, 1) := by decide +kernel
theorem dG_remove_24 : decode cG_remove 24 = .ok (.return_, 1) := by decide +kernel
theorem dG_costAfter_0 : decode cG_costAfter 0 = .ok (.iload_n 2, 1) := by decide +kernel
theorem dG_costAfter_1 : decode cG_costAfter 1 = .ok (.iconst 4, 1) := by decide +kernel
theorem dG_costAfter_2 : decode cG_costAfter 2 = .ok (.if_icmp .ne 10, 3) := by decide +kernel
theorem dG_costAfter_5 : decode cG_costAfter 5 = .ok (.aload_n 0, 1) := by decide +kernel
theorem dG_costAfter_6 : decode cG_costAfter 6 = .ok (.iload_n 2, 1) := by decide +kernel
theorem dG_costAfter_7 : decode cG_costAfter 7 = .ok (.iload_n 3, 1) := by decide +kernel
theorem dG_costAfter_8 : decode cG_costAfter 8 = .ok (.invokevirtual 35, 3) := by decide +kernel
theorem dG_costAfter_11 : decode cG_costAfter 11 = .ok (.ireturn, 1) := by decide +kernel
theorem dG_costAfter_12 : decode cG_costAfter 12 = .ok (.aload_n 0, 1) := by decide +kernel
theorem dG_costAfter_13 : decode cG_costAfter 13 = .ok (.getfield 11, 3) := by decide +kernel
theorem dG_costAfter_16 : decode cG_costAfter 16 = .ok (.iload_n 1, 1) := by decide +kernel
theorem dG_costAfter_17 : decode cG_costAfter 17 = .ok (.iload_n 2, 1) := by decide +kernel
theorem dG_costAfter_18 : decode cG_costAfter 18 = .ok (.iload_n 3, 1) := by decide +kernel
theorem dG_costAfter_19 : decode cG_costAfter 19 = .ok (.invokestatic 31, 3) := by decide +kernel
theorem dG_costAfter_22 : decode cG_costAfter 22 = .ok (.iaload, 1) := by decide +kernel
theorem dG_costAfter_23 : decode cG_costAfter 23 = .ok (.istore 4, 2) := by decide +kernel
theorem dG_costAfter_25 : decode cG_costAfter 25 = .ok (.iload 4, 2) := by decide +kernel
theorem dG_costAfter_27 : decode cG_costAfter 27 = .ok (.iconst (-1), 1) := by decide +kernel
theorem dG_costAfter_28 : decode cG_costAfter 28 = .ok (.if_icmp .eq 6, 3) := by decide +kernel
theorem dG_costAfter_31 : decode cG_costAfter 31 = .ok (.iload 4, 2) := by decide +kernel
theorem dG_costAfter_33 : decode cG_costAfter 33 = .ok (.ireturn, 1) := by decide +kernel
theorem dG_costAfter_34 : decode cG_costAfter 34 = .ok (.aload_n 0, 1) := by decide +kernel
theorem dG_costAfter_35 : decode cG_costAfter 35 = .ok (.iload_n 2, 1) := by decide +kernel
theorem dG_costAfter_36 : decode cG_costAfter 36 = .ok (.iload_n 3, 1) := by decide +kernel
theorem dG_costAfter_37 : decode cG_costAfter 37 = .ok (.invokevirtual 35, 3) := by decide +kernel
theorem dG_costAfter_40 : decode cG_costAfter 40 = .ok (.istore 5, 2) := by decide +kernel
theorem dG_costAfter_42 : decode cG_costAfter 42 = .ok (.iload 5, 2) := by decide +kernel
theorem dG_costAfter_44 : decode cG_costAfter 44 = .ok (.iconst (-1), 1) := by decide +kernel
theorem dG_costAfter_45 : decode cG_costAfter 45 = .ok (.if_icmp .ne 7, 3) := by decide +kernel
theorem dG_costAfter_48 : decode cG_costAfter 48 = .ok (.iconst (-1), 1) := by decide +kernel
theorem dG_costAfter_49 : decode cG_costAfter 49 = .ok (.goto 17, 3) := by decide +kernel
theorem dG_costAfter_52 : decode cG_costAfter 52 = .ok (.aload_n 0, 1) := by decide +kernel
theorem dG_costAfter_53 : decode cG_costAfter 53 = .ok (.getfield 15, 3) := by decide +kernel
theorem dG_costAfter_56 : decode cG_costAfter 56 = .ok (.iconst (-1), 1) := by decide +kernel
theorem dG_costAfter_57 : decode cG_costAfter 57 = .ok (.iload_n 1, 1) := by decide +kernel
theorem dG_costAfter_58 : decode cG_costAfter 58 = .ok (.iload_n 2, 1) := by decide +kernel
theorem dG_costAfter_59 : decode cG_costAfter 59 = .ok (.invokestatic 31, 3) := by decide +kernel
theorem dG_costAfter_62 : decode cG_costAfter 62 = .ok (.iaload, 1) := by decide +kernel
theorem dG_costAfter_63 : decode cG_costAfter 63 = .ok (.iload 5, 2) := by decide +kernel
theorem dG_costAfter_65 : decode cG_costAfter 65 = .ok (.iadd, 1) := by decide +kernel
theorem dG_costAfter_66 : decode cG_costAfter 66 = .ok (.ireturn, 1) := by decide +kernel
theorem dG_costOfTwo_0 : decode cG_costOfTwo 0 = .ok (.aload_n 0, 1) := by decide +kernel
theorem dG_costOfTwo_1 : decode cG_costOfTwo 1 = .ok (.getfield 11, 3) := by decide +kernel
theorem dG_costOfTwo_4 : decode cG_costOfTwo 4 = .ok (.iconst (-1), 1) := by decide +kernel
theorem dG_costOfTwo_5 : decode cG_costOfTwo 5 = .ok (.iload_n 1, 1) := by decide +kernel
theorem dG_costOfTwo_6 : decode cG_costOfTwo 6 = .ok (.iload_n 2, 1) := by decide +kernel
theorem dG_costOfTwo_7 : decode cG_costOfTwo 7 = .ok (.invokestatic 31, 3) := by decide +kernel
theorem dG_costOfTwo_10 : decode cG_costOfTwo 10 = .ok (.iaload, 1) := by decide +kernel
theorem dG_costOfTwo_11 : decode cG_costOfTwo 11 = .ok (.istore_n 3, 1) := by decide +kernel
theorem dG_costOfTwo_12 : decode cG_costOfTwo 12 = .ok (.iload_n 3, 1) := by decide +kernel
theorem dG_costOfTwo_13 : decode cG_costOfTwo 13 = .ok (.iconst (-1), 1) := by decide +kernel
theorem dG_costOfTwo_14 : decode cG_costOfTwo 14 = .ok (.if_icmp .eq 5, 3) := by decide +kernel
theorem dG_costOfTwo_17 : decode cG_costOfTwo 17 = .ok (.iload_n 3, 1) := by decide +kernel
theorem dG_costOfTwo_18 : decode cG_costOfTwo 18 = .ok (.ireturn, 1) := by decide +kernel
theorem dG_costOfTwo_19 : decode cG_costOfTwo 19 = .ok (.aload_n 0, 1) := by decide +kernel
theorem dG_costOfTwo_20 : decode cG_costOfTwo 20 = .ok (.getfield 11, 3) := by decide +kernel
theorem dG_costOfTwo_23 : decode cG_costOfTwo 23 = .ok (.iconst (-1), 1) := by decide +kernel
theorem dG_costOfTwo_24 : decode cG_costOfTwo 24 = .ok (.iconst (-1), 1) := by decide +kernel
theorem dG_costOfTwo_25 : decode cG_costOfTwo 25 = .ok (.iload_n 2, 1) := by decide +kernel
theorem dG_costOfTwo_26 : decode cG_costOfTwo 26 = .ok (.invokestatic 31, 3) := by decide +kernel
theorem dG_costOfTwo_29 : decode cG_costOfTwo 29 = .ok (.iaload, 1) := by decide +kernel
theorem dG_costOfTwo_30 : decode cG_costOfTwo 30 = .ok (.istore 4, 2) := by decide +kernel
theorem dG_costOfTwo_32 : decode cG_costOfTwo 32 = .ok (.iload 4, 2) := by decide +kernel
theorem dG_costOfTwo_34 : decode cG_costOfTwo 34 = .ok (.iconst (-1), 1) := by decide +kernel
theorem dG_costOfTwo_35 : decode cG_costOfTwo 35 = .ok (.if_icmp .ne 7, 3) := by decide +kernel
theorem dG_costOfTwo_38 : decode cG_costOfTwo 38 = .ok (.iconst (-1), 1) := by decide +kernel
theorem dG_costOfTwo_39 : decode cG_costOfTwo 39 = .ok (.goto 17, 3) := by decide +kernel
theorem dG_costOfTwo_42 : decode cG_costOfTwo 42 = .ok (.aload_n 0, 1) := by decide +kernel
theorem dG_costOfTwo_43 : decode cG_costOfTwo 43 = .ok (.getfield 15, 3) := by decide +kernel
theorem dG_costOfTwo_46 : decode cG_costOfTwo 46 = .ok (.iconst (-1), 1) := by decide +kernel
theorem dG_costOfTwo_47 : decode cG_costOfTwo 47 = .ok (.iconst (-1), 1) := by decide +kernel
theorem dG_costOfTwo_48 : decode cG_costOfTwo 48 = .ok (.iload_n 1, 1) := by decide +kernel
theorem dG_costOfTwo_49 : decode cG_costOfTwo 49 = .ok (.invokestatic 31, 3) := by decide +kernel
theorem dG_costOfTwo_52 : decode cG_costOfTwo 52 = .ok (.iaload, 1) := by decide +kernel
theorem dG_costOfTwo_53 : decode cG_costOfTwo 53 = .ok (.iload 4, 2) := by decide +kernel
theorem dG_costOfTwo_55 : decode cG_costOfTwo 55 = .ok (.iadd, 1) := by decide +kernel
theorem dG_costOfTwo_56 : decode cG_costOfTwo 56 = .ok (.ireturn, 1) := by decide +kernel
theorem dG_slot_0 : decode cG_slot 0 = .ok (.iload_n 0, 1) := by decide +kernel
theorem dG_slot_1 : decode cG_slot 1 = .ok (.iconst 1, 1) := by decide +kernel
theorem dG_slot_2 : decode cG_slot 2 = .ok (.iadd, 1) := by decide +kernel
theorem dG_slot_3 : decode cG_slot 3 = .ok (.bipush 6, 2) := by decide +kernel
theorem dG_slot_5 : decode cG_slot 5 = .ok (.imul, 1) := by decide +kernel
theorem dG_slot_6 : decode cG_slot 6 = .ok (.iload_n 1, 1) := by decide +kernel
theorem dG_slot_7 : decode cG_slot 7 = .ok (.iadd, 1) := by decide +kernel
theorem dG_slot_8 : decode cG_slot 8 = .ok (.iconst 1, 1) := by decide +kernel
theorem dG_slot_9 : decode cG_slot 9 = .ok (.iadd, 1) := by decide +kernel
theorem dG_slot_10 : decode cG_slot 10 = .ok (.bipush 6, 2) := by decide +kernel
theorem dG_slot_12 : decode cG_slot 12 = .ok (.imul, 1) := by decide +kernel
theorem dG_slot_13 : decode cG_slot 13 = .ok (.iload_n 2, 1) := by decide +kernel
theorem dG_slot_14 : decode cG_slot 14 = .ok (.iadd, 1) := by decide +kernel
theorem dG_slot_15 : decode cG_slot 15 = .ok (.iconst 1, 1) := by decide +kernel
theorem dG_slot_16 : decode cG_slot 16 = .ok (.iadd, 1) := by decide +kernel
theorem dG_slot_17 : decode cG_slot 17 = .ok (.ireturn, 1) := by decide +kernel
theorem dS_init_0 : decode cS_init 0 = .ok (.aload_n 0, 1) := by decide +kernel
theorem dS_init_1 : decode cS_init 1 = .ok (.invokespecial 3, 3) := by decide +kernel
theorem dS_init_4 : decode cS_init 4 = .ok (.aload_n 0, 1) := by decide +kernel
theorem dS_init_5 : decode cS_init 5 = .ok (.sipush 180, 3) := by decide +kernel
theorem dS_init_8 : decode cS_init 8 = .ok (.newarray .int, 2) := by decide +kernel
theorem dS_init_10 : decode cS_init 10 = .ok (.putfield 11, 3) := by decide +kernel
theorem dS_init_13 : decode cS_init 13 = .ok (.aload_n 0, 1) := by decide +kernel
theorem dS_init_14 : decode cS_init 14 = .ok (.iconst 3, 1) := by decide +kernel
theorem dS_init_15 : decode cS_init 15 = .ok (.newarray .int, 2) := by decide +kernel
theorem dS_init_17 : decode cS_init 17 = .ok (.putfield 15, 3) := by decide +kernel
theorem dS_init_20 : decode cS_init 20 = .ok (.aload_n 0, 1) := by decide +kernel
theorem dS_init_21 : decode cS_init 21 = .ok (.iconst 3, 1) := by decide +kernel
theorem dS_init_22 : decode cS_init 22 = .ok (.newarray .int, 2) := by decide +kernel
theorem dS_init_24 : decode cS_init 24 = .ok (.putfield 18, 3) := by decide +kernel
theorem dS_init_27 : decode cS_init 27 = .ok (.aload_n 0, 1) := by decide +kernel
theorem dS_init_28 : decode cS_init 28 = .ok (.iconst 0, 1) := by decide +kernel
theorem dS_init_29 : decode cS_init 29 = .ok (.putfield 21, 3) := by decide +kernel
theorem dS_init_32 : decode cS_init 32 = .ok (.return_, 1) := by decide +kernel
theorem dS_count_0 : decode cS_count 0 = .ok (.aload_n 0, 1) := by decide +kernel
theorem dS_count_1 : decode cS_count 1 = .ok (.getfield 21, 3) := by decide +kernel
theorem dS_count_4 : decode cS_count 4 = .ok (.ireturn, 1) := by decide +kernel
theorem dS_addFrame_0 : decode cS_addFrame 0 = .ok (.iconst 0, 1) := by decide +kernel
theorem dS_addFrame_1 : decode cS_addFrame 1 = .ok (.istore_n 1, 1) := by decide +kernel
theorem dS_addFrame_2 : decode cS_addFrame 2 = .ok (.iload_n 1, 1) := by decide +kernel
theorem dS_addFrame_3 : decode cS_addFrame 3 = .ok (.bipush 12, 2) := by decide +kernel
theorem dS_addFrame_5 : decode cS_addFrame 5 = .ok (.if_icmp .ge 24, 3) := by decide +kernel
theorem dS_addFrame_8 : decode cS_addFrame 8 = .ok (.aload_n 0, 1) := by decide +kernel
theorem dS_addFrame_9 : decode cS_addFrame 9 = .ok (.getfield 11, 3) := by decide +kernel
theorem dS_addFrame_12 : decode cS_addFrame 12 = .ok (.aload_n 0, 1) := by decide +kernel
theorem dS_addFrame_13 : decode cS_addFrame 13 = .ok (.getfield 21, 3) := by decide +kernel
theorem dS_addFrame_16 : decode cS_addFrame 16 = .ok (.bipush 12, 2) := by decide +kernel
theorem dS_addFrame_18 : decode cS_addFrame 18 = .ok (.imul, 1) := by decide +kernel
theorem dS_addFrame_19 : decode cS_addFrame 19 = .ok (.iload_n 1, 1) := by decide +kernel
theorem dS_addFrame_20 : decode cS_addFrame 20 = .ok (.iadd, 1) := by decide +kernel
theorem dS_addFrame_21 : decode cS_addFrame 21 = .ok (.iconst 0, 1) := by decide +kernel
theorem dS_addFrame_22 : decode cS_addFrame 22 = .ok (.iastore, 1) := by decide +kernel
theorem dS_addFrame_23 : decode cS_addFrame 23 = .ok (.iinc 1 1, 3) := by decide +kernel
theorem dS_addFrame_26 : decode cS_addFrame 26 = .ok (.goto (-24), 3) := by decide +kernel
theorem dS_addFrame_29 : decode cS_addFrame 29 = .ok (.aload_n 0, 1) := by decide +kernel
theorem dS_addFrame_30 : decode cS_addFrame 30 = .ok (.dup, 1) := by decide +kernel
theorem dS_addFrame_31 : decode cS_addFrame 31 = .ok (.getfield 21, 3) := by decide +kernel
theorem dS_addFrame_34 : decode cS_addFrame 34 = .ok (.iconst 1, 1) := by decide +kernel
theorem dS_addFrame_35 : decode cS_addFrame 35 = .ok (.iadd, 1) := by decide +kernel
theorem dS_addFrame_36 : decode cS_addFrame 36 = .ok (.putfield 21, 3) := by decide +kernel
theorem dS_addFrame_39 : decode cS_addFrame 39 = .ok (.return_, 1) := by decide +kernel
theorem dS_removeFrame_0 : decode cS_removeFrame 0 = .ok (.aload_n 0, 1) := by decide +kernel
theorem dS_removeFrame_1 : decode cS_removeFrame 1 = .ok (.dup, 1) := by decide +kernel
theorem dS_removeFrame_2 : decode cS_removeFrame 2 = .ok (.getfield 21, 3) := by decide +kernel
theorem dS_removeFrame_5 : decode cS_removeFrame 5 = .ok (.iconst 1, 1) := by decide +kernel
theorem dS_removeFrame_6 : decode cS_removeFrame 6 = .ok (.isub, 1) := by decide +kernel
theorem dS_removeFrame_7 : decode cS_removeFrame 7 = .ok (.putfield 21, 3) := by decide +kernel
theorem dS_removeFrame_10 : decode cS_removeFrame 10 = .ok (.return_, 1) := by decide +kernel
theorem dS_setCost_0 : decode cS_setCost 0 = .ok (.aload_n 0, 1) := by decide +kernel
theorem dS_setCost_1 : decode cS_setCost 1 = .ok (.getfield 11, 3) := by decide +kernel
theorem dS_setCost_4 : decode cS_setCost 4 = .ok (.iload_n 1, 1) := by decide +kernel
theorem dS_setCost_5 : decode cS_setCost 5 = .ok (.bipush 12, 2) := by decide +kernel
theorem dS_setCost_7 : decode cS_setCost 7 = .ok (.imul, 1) := by decide +kernel
theorem dS_setCost_8 : decode cS_setCost 8 = .ok (.iload_n 2, 1) := by decide +kernel
theorem dS_setCost_9 : decode cS_setCost 9 = .ok (.iconst 3, 1) := by decide +kernel
theorem dS_setCost_10 : decode cS_setCost 10 = .ok (.imul, 1) := by decide +kernel
theorem dS_setCost_11 : decode cS_setCost 11 = .ok (.iadd, 1) := by decide +kernel
theorem dS_setCost_12 : decode cS_setCost 12 = .ok (.iload_n 3, 1) := by decide +kernel
theorem dS_setCost_13 : decode cS_setCost 13 = .ok (.iadd, 1) := by decide +kernel
theorem dS_setCost_14 : decode cS_setCost 14 = .ok (.iload 4, 2) := by decide +kernel
theorem dS_setCost_16 : decode cS_setCost 16 = .ok (.iastore, 1) := by decide +kernel
theorem dS_setCost_17 : decode cS_setCost 17 = .ok (.return_, 1) := by decide +kernel
theorem dS_costOf_0 : decode cS_costOf 0 = .ok (.aload_n 0, 1) := by decide +kernel
theorem dS_costOf_1 : decode cS_costOf 1 = .ok (.getfield 11, 3) := by decide +kernel
theorem dS_costOf_4 : decode cS_costOf 4 = .ok (.iload_n 1, 1) := by decide +kernel
theorem dS_costOf_5 : decode cS_costOf 5 = .ok (.bipush 12, 2) := by decide +kernel
theorem dS_costOf_7 : decode cS_costOf 7 = .ok (.imul, 1) := by decide +kernel
theorem dS_costOf_8 : decode cS_costOf 8 = .ok (.iload_n 2, 1) := by decide +kernel
theorem dS_costOf_9 : decode cS_costOf 9 = .ok (.iconst 3, 1) := by decide +kernel
theorem dS_costOf_10 : decode cS_costOf 10 = .ok (.imul, 1) := by decide +kernel
theorem dS_costOf_11 : decode cS_costOf 11 = .ok (.iadd, 1) := by decide +kernel
theorem dS_costOf_12 : decode cS_costOf 12 = .ok (.iload_n 3, 1) := by decide +kernel
theorem dS_costOf_13 : decode cS_costOf 13 = .ok (.iadd, 1) := by decide +kernel
theorem dS_costOf_14 : decode cS_costOf 14 = .ok (.iaload, 1) := by decide +kernel
theorem dS_costOf_15 : decode cS_costOf 15 = .ok (.ireturn, 1) := by decide +kernel
theorem dS_setTopology_0 : decode cS_setTopology 0 = .ok (.aload_n 0, 1) := by decide +kernel
theorem dS_setTopology_1 : decode cS_setTopology 1 = .ok (.getfield 15, 3) := by decide +kernel
theorem dS_setTopology_4 : decode cS_setTopology 4 = .ok (.iload_n 1, 1) := by decide +kernel
theorem dS_setTopology_5 : decode cS_setTopology 5 = .ok (.iload_n 2, 1) := by decide +kernel
theorem dS_setTopology_6 : decode cS_setTopology 6 = .ok (.iastore, 1) := by decide +kernel
theorem dS_setTopology_7 : decode cS_setTopology 7 = .ok (.aload_n 0, 1) := by decide +kernel
theorem dS_setTopology_8 : decode cS_setTopology 8 = .ok (.getfield 18, 3) := by decide +kernel
theorem dS_setTopology_11 : decode cS_setTopology 11 = .ok (.iload_n 1, 1) := by decide +kernel
theorem dS_setTopology_12 : decode cS_setTopology 12 = .ok (.iload_n 3, 1) := by decide +kernel
theorem dS_setTopology_13 : decode cS_setTopology 13 = .ok (.iastore, 1) := by decide +kernel
theorem dS_setTopology_14 : decode cS_setTopology 14 = .ok (.return_, 1) := by decide +kernel
theorem dS_holdOf_0 : decode cS_holdOf 0 = .ok (.aload_n 0, 1) := by decide +kernel
theorem dS_holdOf_1 : decode cS_holdOf 1 = .ok (.getfield 15, 3) := by decide +kernel
theorem dS_holdOf_4 : decode cS_holdOf 4 = .ok (.iload_n 1, 1) := by decide +kernel
theorem dS_holdOf_5 : decode cS_holdOf 5 = .ok (.iaload, 1) := by decide +kernel
theorem dS_holdOf_6 : decode cS_holdOf 6 = .ok (.ireturn, 1) := by decide +kernel
theorem dS_leaveOf_0 : decode cS_leaveOf 0 = .ok (.aload_n 0, 1) := by decide +kernel
theorem dS_leaveOf_1 : decode cS_leaveOf 1 = .ok (.getfield 18, 3) := by decide +kernel
theorem dS_leaveOf_4 : decode cS_leaveOf 4 = .ok (.iload_n 1, 1) := by decide +kernel
theorem dS_leaveOf_5 : decode cS_leaveOf 5 = .ok (.iaload, 1) := by decide +kernel
theorem dS_leaveOf_6 : decode cS_leaveOf 6 = .ok (.ireturn, 1) := by decide +kernel
theorem dK_plusCost_0 : decode cK_plusCost 0 = .ok (.lload_n 0, 1) := by decide +kernel
theorem dK_plusCost_1 : decode cK_plusCost 1 = .ok (.ldc2_w 11, 3) := by decide +kernel
theorem dK_plusCost_4 : decode cK_plusCost 4 = .ok (.lcmp, 1) := by decide +kernel
theorem dK_plusCost_5 : decode cK_plusCost 5 = .ok (.ifCond .eq 8, 3) := by decide +kernel
theorem dK_plusCost_8 : decode cK_plusCost 8 = .ok (.iload_n 2, 1) := by decide +kernel
theorem dK_plusCost_9 : decode cK_plusCost 9 = .ok (.iconst (-1), 1) := by decide +kernel
theorem dK_plusCost_10 : decode cK_plusCost 10 = .ok (.if_icmp .ne 9, 3) := by decide +kernel
theorem dK_plusCost_13 : decode cK_plusCost 13 = .ok (.ldc2_w 11, 3) := by decide +kernel
theorem dK_plusCost_16 : decode cK_plusCost 16 = .ok (.goto 10, 3) := by decide +kernel
theorem dK_plusCost_19 : decode cK_plusCost 19 = .ok (.lload_n 0, 1) := by decide +kernel
theorem dK_plusCost_20 : decode cK_plusCost 20 = .ok (.iload_n 2, 1) := by decide +kernel
theorem dK_plusCost_21 : decode cK_plusCost 21 = .ok (.i2l, 1) := by decide +kernel
theorem dK_plusCost_22 : decode cK_plusCost 22 = .ok (.bipush 16, 2) := by decide +kernel
theorem dK_plusCost_24 : decode cK_plusCost 24 = .ok (.lshl, 1) := by decide +kernel
theorem dK_plusCost_25 : decode cK_plusCost 25 = .ok (.ladd, 1) := by decide +kernel
theorem dK_plusCost_26 : decode cK_plusCost 26 = .ok (.lreturn, 1) := by decide +kernel
theorem dK_plusWord_0 : decode cK_plusWord 0 = .ok (.lload_n 0, 1) := by decide +kernel
theorem dK_plusWord_1 : decode cK_plusWord 1 = .ok (.ldc2_w 11, 3) := by decide +kernel
theorem dK_plusWord_4 : decode cK_plusWord 4 = .ok (.lcmp, 1) := by decide +kernel
theorem dK_plusWord_5 : decode cK_plusWord 5 = .ok (.ifCond .ne 7, 3) := by decide +kernel
theorem dK_plusWord_8 : decode cK_plusWord 8 = .ok (.ldc2_w 11, 3) := by decide +kernel
theorem dK_plusWord_11 : decode cK_plusWord 11 = .ok (.lreturn, 1) := by decide +kernel
theorem dK_plusWord_12 : decode cK_plusWord 12 = .ok (.lload_n 0, 1) := by decide +kernel
theorem dK_plusWord_13 : decode cK_plusWord 13 = .ok (.ldc2_w 13, 3) := by decide +kernel
theorem dK_plusWord_16 : decode cK_plusWord 16 = .ok (.land, 1) := by decide +kernel
theorem dK_plusWord_17 : decode cK_plusWord 17 = .ok (.iconst 2, 1) := by decide +kernel
theorem dK_plusWord_18 : decode cK_plusWord 18 = .ok (.lshl, 1) := by decide +kernel
theorem dK_plusWord_19 : decode cK_plusWord 19 = .ok (.iload_n 2, 1) := by decide +kernel
theorem dK_plusWord_20 : decode cK_plusWord 20 = .ok (.i2l, 1) := by decide +kernel
theorem dK_plusWord_21 : decode cK_plusWord 21 = .ok (.lor, 1) := by decide +kernel
theorem dK_plusWord_22 : decode cK_plusWord 22 = .ok (.lstore_n 3, 1) := by decide +kernel
theorem dK_plusWord_23 : decode cK_plusWord 23 = .ok (.lload_n 0, 1) := by decide +kernel
theorem dK_plusWord_24 : decode cK_plusWord 24 = .ok (.ldc2_w 15, 3) := by decide +kernel
theorem dK_plusWord_27 : decode cK_plusWord 27 = .ok (.land, 1) := by decide +kernel
theorem dK_plusWord_28 : decode cK_plusWord 28 = .ok (.ldc2_w 17, 3) := by decide +kernel
theorem dK_plusWord_31 : decode cK_plusWord 31 = .ok (.ladd, 1) := by decide +kernel
theorem dK_plusWord_32 : decode cK_plusWord 32 = .ok (.lload_n 3, 1) := by decide +kernel
theorem dK_plusWord_33 : decode cK_plusWord 33 = .ok (.ladd, 1) := by decide +kernel
theorem dK_plusWord_34 : decode cK_plusWord 34 = .ok (.lreturn, 1) := by decide +kernel
theorem dK_costOf_0 : decode cK_costOf 0 = .ok (.lload_n 0, 1) := by decide +kernel
theorem dK_costOf_1 : decode cK_costOf 1 = .ok (.ldc2_w 11, 3) := by decide +kernel
theorem dK_costOf_4 : decode cK_costOf 4 = .ok (.lcmp, 1) := by decide +kernel
theorem dK_costOf_5 : decode cK_costOf 5 = .ok (.ifCond .ne 7, 3) := by decide +kernel
theorem dK_costOf_8 : decode cK_costOf 8 = .ok (.iconst (-1), 1) := by decide +kernel
theorem dK_costOf_9 : decode cK_costOf 9 = .ok (.goto 8, 3) := by decide +kernel
theorem dK_costOf_12 : decode cK_costOf 12 = .ok (.lload_n 0, 1) := by decide +kernel
theorem dK_costOf_13 : decode cK_costOf 13 = .ok (.bipush 16, 2) := by decide +kernel
theorem dK_costOf_15 : decode cK_costOf 15 = .ok (.lshr, 1) := by decide +kernel
theorem dK_costOf_16 : decode cK_costOf 16 = .ok (.l2i, 1) := by decide +kernel
theorem dK_costOf_17 : decode cK_costOf 17 = .ok (.ireturn, 1) := by decide +kernel
theorem dK_countOf_0 : decode cK_countOf 0 = .ok (.lload_n 0, 1) := by decide +kernel
theorem dK_countOf_1 : decode cK_countOf 1 = .ok (.ldc2_w 11, 3) := by decide +kernel
theorem dK_countOf_4 : decode cK_countOf 4 = .ok (.lcmp, 1) := by decide +kernel
theorem dK_countOf_5 : decode cK_countOf 5 = .ok (.ifCond .ne 7, 3) := by decide +kernel
theorem dK_countOf_8 : decode cK_countOf 8 = .ok (.iconst 0, 1) := by decide +kernel
theorem dK_countOf_9 : decode cK_countOf 9 = .ok (.goto 12, 3) := by decide +kernel
theorem dK_countOf_12 : decode cK_countOf 12 = .ok (.lload_n 0, 1) := by decide +kernel
theorem dK_countOf_13 : decode cK_countOf 13 = .ok (.bipush 10, 2) := by decide +kernel
theorem dK_countOf_15 : decode cK_countOf 15 = .ok (.lshr, 1) := by decide +kernel
theorem dK_countOf_16 : decode cK_countOf 16 = .ok (.ldc2_w 19, 3) := by decide +kernel
theorem dK_countOf_19 : decode cK_countOf 19 = .ok (.land, 1) := by decide +kernel
theorem dK_countOf_20 : decode cK_countOf 20 = .ok (.l2i, 1) := by decide +kernel
theorem dK_countOf_21 : decode cK_countOf 21 = .ok (.ireturn, 1) := by decide +kernel
theorem dK_wordOf_0 : decode cK_wordOf 0 = .ok (.lload_n 0, 1) := by decide +kernel
theorem dK_wordOf_1 : decode cK_wordOf 1 = .ok (.invokestatic 21, 3) := by decide +kernel
theorem dK_wordOf_4 : decode cK_wordOf 4 = .ok (.istore_n 3, 1) := by decide +kernel
theorem dK_wordOf_5 : decode cK_wordOf 5 = .ok (.iload_n 2, 1) := by decide +kernel
theorem dK_wordOf_6 : decode cK_wordOf 6 = .ok (.ifCond .lt 8, 3) := by decide +kernel
theorem dK_wordOf_9 : decode cK_wordOf 9 = .ok (.iload_n 2, 1) := by decide +kernel
theorem dK_wordOf_10 : decode cK_wordOf 10 = .ok (.iload_n 3, 1) := by decide +kernel
theorem dK_wordOf_11 : decode cK_wordOf 11 = .ok (.if_icmp .lt 5, 3) := by decide +kernel
theorem dK_wordOf_14 : decode cK_wordOf 14 = .ok (.iconst (-1), 1) := by decide +kernel
theorem dK_wordOf_15 : decode cK_wordOf 15 = .ok (.ireturn, 1) := by decide +kernel
theorem dK_wordOf_16 : decode cK_wordOf 16 = .ok (.lload_n 0, 1) := by decide +kernel
theorem dK_wordOf_17 : decode cK_wordOf 17 = .ok (.iload_n 3, 1) := by decide +kernel
theorem dK_wordOf_18 : decode cK_wordOf 18 = .ok (.iconst 1, 1) := by decide +kernel
theorem dK_wordOf_19 : decode cK_wordOf 19 = .ok (.isub, 1) := by decide +kernel
theorem dK_wordOf_20 : decode cK_wordOf 20 = .ok (.iload_n 2, 1) := by decide +kernel
theorem dK_wordOf_21 : decode cK_wordOf 21 = .ok (.isub, 1) := by decide +kernel
theorem dK_wordOf_22 : decode cK_wordOf 22 = .ok (.iconst 2, 1) := by decide +kernel
theorem dK_wordOf_23 : decode cK_wordOf 23 = .ok (.imul, 1) := by decide +kernel
theorem dK_wordOf_24 : decode cK_wordOf 24 = .ok (.lshr, 1) := by decide +kernel
theorem dK_wordOf_25 : decode cK_wordOf 25 = .ok (.l2i, 1) := by decide +kernel
theorem dK_wordOf_26 : decode cK_wordOf 26 = .ok (.iconst 3, 1) := by decide +kernel
theorem dK_wordOf_27 : decode cK_wordOf 27 = .ok (.iand, 1) := by decide +kernel
theorem dK_wordOf_28 : decode cK_wordOf 28 = .ok (.ireturn, 1) := by decide +kernel
theorem dT_init_0 : decode cT_init 0 = .ok (.aload_n 0, 1) := by decide +kernel
theorem dT_init_1 : decode cT_init 1 = .ok (.invokespecial 5, 3) := by decide +kernel
theorem dT_init_4 : decode cT_init 4 = .ok (.aload_n 0, 1) := by decide +kernel
theorem dT_init_5 : decode cT_init 5 = .ok (.bipush 25, 2) := by decide +kernel
theorem dT_init_7 : decode cT_init 7 = .ok (.newarray .int, 2) := by decide +kernel
theorem dT_init_9 : decode cT_init 9 = .ok (.putfield 11, 3) := by decide +kernel
theorem dT_init_12 : decode cT_init 12 = .ok (.aload_n 0, 1) := by decide +kernel
theorem dT_init_13 : decode cT_init 13 = .ok (.bipush 25, 2) := by decide +kernel
theorem dT_init_15 : decode cT_init 15 = .ok (.newarray .int, 2) := by decide +kernel
theorem dT_init_17 : decode cT_init 17 = .ok (.putfield 15, 3) := by decide +kernel
theorem dT_init_20 : decode cT_init 20 = .ok (.aload_n 0, 1) := by decide +kernel
theorem dT_init_21 : decode cT_init 21 = .ok (.bipush 100, 2) := by decide +kernel
theorem dT_init_23 : decode cT_init 23 = .ok (.newarray .int, 2) := by decide +kernel
theorem dT_init_25 : decode cT_init 25 = .ok (.putfield 18, 3) := by decide +kernel
theorem dT_init_28 : decode cT_init 28 = .ok (.aload_n 0, 1) := by decide +kernel
theorem dT_init_29 : decode cT_init 29 = .ok (.bipush 100, 2) := by decide +kernel
theorem dT_init_31 : decode cT_init 31 = .ok (.newarray .boolean, 2) := by decide +kernel
theorem dT_init_33 : decode cT_init 33 = .ok (.putfield 21, 3) := by decide +kernel
theorem dT_init_36 : decode cT_init 36 = .ok (.aload_n 0, 1) := by decide +kernel
theorem dT_init_37 : decode cT_init 37 = .ok (.iconst 0, 1) := by decide +kernel
theorem dT_init_38 : decode cT_init 38 = .ok (.putfield 25, 3) := by decide +kernel
theorem dT_init_41 : decode cT_init 41 = .ok (.aload_n 0, 1) := by decide +kernel
theorem dT_init_42 : decode cT_init 42 = .ok (.iconst 0, 1) := by decide +kernel
theorem dT_init_43 : decode cT_init 43 = .ok (.putfield 29, 3) := by decide +kernel
theorem dT_init_46 : decode cT_init 46 = .ok (.return_, 1) := by decide +kernel
theorem dT_size_0 : decode cT_size 0 = .ok (.aload_n 0, 1) := by decide +kernel
theorem dT_size_1 : decode cT_size 1 = .ok (.getfield 25, 3) := by decide +kernel
theorem dT_size_4 : decode cT_size 4 = .ok (.ireturn, 1) := by decide +kernel
theorem dT_isFull_0 : decode cT_isFull 0 = .ok (.aload_n 0, 1) := by decide +kernel
theorem dT_isFull_1 : decode cT_isFull 1 = .ok (.getfield 29, 3) := by decide +kernel
theorem dT_isFull_4 : decode cT_isFull 4 = .ok (.bipush 8, 2) := by decide +kernel
theorem dT_isFull_6 : decode cT_isFull 6 = .ok (.if_icmp .lt 7, 3) := by decide +kernel
theorem dT_isFull_9 : decode cT_isFull 9 = .ok (.iconst 1, 1) := by decide +kernel
theorem dT_isFull_10 : decode cT_isFull 10 = .ok (.goto 4, 3) := by decide +kernel
theorem dT_isFull_13 : decode cT_isFull 13 = .ok (.iconst 0, 1) := by decide +kernel
theorem dT_isFull_14 : decode cT_isFull 14 = .ok (.ireturn, 1) := by decide +kernel
theorem dT_phoneOf_0 : decode cT_phoneOf 0 = .ok (.aload_n 0, 1) := by decide +kernel
theorem dT_phoneOf_1 : decode cT_phoneOf 1 = .ok (.getfield 11, 3) := by decide +kernel
theorem dT_phoneOf_4 : decode cT_phoneOf 4 = .ok (.iload_n 1, 1) := by decide +kernel
theorem dT_phoneOf_5 : decode cT_phoneOf 5 = .ok (.iaload, 1) := by decide +kernel
theorem dT_phoneOf_6 : decode cT_phoneOf 6 = .ok (.ireturn, 1) := by decide +kernel
theorem dT_parentOf_0 : decode cT_parentOf 0 = .ok (.aload_n 0, 1) := by decide +kernel
theorem dT_parentOf_1 : decode cT_parentOf 1 = .ok (.getfield 15, 3) := by decide +kernel
theorem dT_parentOf_4 : decode cT_parentOf 4 = .ok (.iload_n 1, 1) := by decide +kernel
theorem dT_parentOf_5 : decode cT_parentOf 5 = .ok (.iaload, 1) := by decide +kernel
theorem dT_parentOf_6 : decode cT_parentOf 6 = .ok (.ireturn, 1) := by decide +kernel
theorem dT_endsWord_0 : decode cT_endsWord 0 = .ok (.aload_n 0, 1) := by decide +kernel
theorem dT_endsWord_1 : decode cT_endsWord 1 = .ok (.getfield 21, 3) := by decide +kernel
theorem dT_endsWord_4 : decode cT_endsWord 4 = .ok (.iload_n 1, 1) := by decide +kernel
theorem dT_endsWord_5 : decode cT_endsWord 5 = .ok (.iconst 4, 1) := by decide +kernel
theorem dT_endsWord_6 : decode cT_endsWord 6 = .ok (.imul, 1) := by decide +kernel
theorem dT_endsWord_7 : decode cT_endsWord 7 = .ok (.iload_n 2, 1) := by decide +kernel
theorem dT_endsWord_8 : decode cT_endsWord 8 = .ok (.iadd, 1) := by decide +kernel
theorem dT_endsWord_9 : decode cT_endsWord 9 = .ok (.baload, 1) := by decide +kernel
theorem dT_endsWord_10 : decode cT_endsWord 10 = .ok (.ireturn, 1) := by decide +kernel
theorem dT_has_0 : decode cT_has 0 = .ok (.aload_n 0, 1) := by decide +kernel
theorem dT_has_1 : decode cT_has 1 = .ok (.iconst 0, 1) := by decide +kernel
theorem dT_has_2 : decode cT_has 2 = .ok (.iload_n 2, 1) := by decide +kernel
theorem dT_has_3 : decode cT_has 3 = .ok (.invokevirtual 32, 3) := by decide +kernel
theorem dT_has_6 : decode cT_has 6 = .ok (.istore 5, 2) := by decide +kernel
theorem dT_has_8 : decode cT_has 8 = .ok (.iload 5, 2) := by decide +kernel
theorem dT_has_10 : decode cT_has 10 = .ok (.iconst (-1), 1) := by decide +kernel
theorem dT_has_11 : decode cT_has 11 = .ok (.if_icmp .eq 17, 3) := by decide +kernel
theorem dT_has_14 : decode cT_has 14 = .ok (.iload_n 3, 1) := by decide +kernel
theorem dT_has_15 : decode cT_has 15 = .ok (.iconst (-1), 1) := by decide +kernel
theorem dT_has_16 : decode cT_has 16 = .ok (.if_icmp .eq 12, 3) := by decide +kernel
theorem dT_has_19 : decode cT_has 19 = .ok (.aload_n 0, 1) := by decide +kernel
theorem dT_has_20 : decode cT_has 20 = .ok (.iload 5, 2) := by decide +kernel
theorem dT_has_22 : decode cT_has 22 = .ok (.iload_n 3, 1) := by decide +kernel
theorem dT_has_23 : decode cT_has 23 = .ok (.invokevirtual 32, 3) := by decide +kernel
theorem dT_has_26 : decode cT_has 26 = .ok (.istore 5, 2) := by decide +kernel
theorem dT_has_28 : decode cT_has 28 = .ok (.iload 5, 2) := by decide +kernel
theorem dT_has_30 : decode cT_has 30 = .ok (.iconst (-1), 1) := by decide +kernel
theorem dT_has_31 : decode cT_has 31 = .ok (.if_icmp .eq 19, 3) := by decide +kernel
theorem dT_has_34 : decode cT_has 34 = .ok (.iload 4, 2) := by decide +kernel
theorem dT_has_36 : decode cT_has 36 = .ok (.iconst (-1), 1) := by decide +kernel
theorem dT_has_37 : decode cT_has 37 = .ok (.if_icmp .eq 13, 3) := by decide +kernel
theorem dT_has_40 : decode cT_has 40 = .ok (.aload_n 0, 1) := by decide +kernel
theorem dT_has_41 : decode cT_has 41 = .ok (.iload 5, 2) := by decide +kernel
theorem dT_has_43 : decode cT_has 43 = .ok (.iload 4, 2) := by decide +kernel
theorem dT_has_45 : decode cT_has 45 = .ok (.invokevirtual 32, 3) := by decide +kernel
theorem dT_has_48 : decode cT_has 48 = .ok (.istore 5, 2) := by decide +kernel
theorem dT_has_50 : decode cT_has 50 = .ok (.iload 5, 2) := by decide +kernel
theorem dT_has_52 : decode cT_has 52 = .ok (.iconst (-1), 1) := by decide +kernel
theorem dT_has_53 : decode cT_has 53 = .ok (.if_icmp .eq 17, 3) := by decide +kernel
theorem dT_has_56 : decode cT_has 56 = .ok (.aload_n 0, 1) := by decide +kernel
theorem dT_has_57 : decode cT_has 57 = .ok (.iload 5, 2) := by decide +kernel
theorem dT_has_59 : decode cT_has 59 = .ok (.iload_n 1, 1) := by decide +kernel
theorem dT_has_60 : decode cT_has 60 = .ok (.invokevirtual 36, 3) := by decide +kernel
theorem dT_has_63 : decode cT_has 63 = .ok (.ifCond .eq 7, 3) := by decide +kernel
theorem dT_has_66 : decode cT_has 66 = .ok (.iconst 1, 1) := by decide +kernel
theorem dT_has_67 : decode cT_has 67 = .ok (.goto 4, 3) := by decide +kernel
theorem dT_has_70 : decode cT_has 70 = .ok (.iconst 0, 1) := by decide +kernel
theorem dT_has_71 : decode cT_has 71 = .ok (.ireturn, 1) := by decide +kernel
theorem dT_add_0 : decode cT_add 0 = .ok (.aload_n 0, 1) := by decide +kernel
theorem dT_add_1 : decode cT_add 1 = .ok (.iconst 0, 1) := by decide +kernel
theorem dT_add_2 : decode cT_add 2 = .ok (.iload_n 2, 1) := by decide +kernel
theorem dT_add_3 : decode cT_add 3 = .ok (.invokevirtual 40, 3) := by decide +kernel
theorem dT_add_6 : decode cT_add 6 = .ok (.istore 5, 2) := by decide +kernel
theorem dT_add_8 : decode cT_add 8 = .ok (.iload_n 3, 1) := by decide +kernel
theorem dT_add_9 : decode cT_add 9 = .ok (.iconst (-1), 1) := by decide +kernel
theorem dT_add_10 : decode cT_add 10 = .ok (.if_icmp .eq 12, 3) := by decide +kernel
theorem dT_add_13 : decode cT_add 13 = .ok (.aload_n 0, 1) := by decide +kernel
theorem dT_add_14 : decode cT_add 14 = .ok (.iload 5, 2) := by decide +kernel
theorem dT_add_16 : decode cT_add 16 = .ok (.iload_n 3, 1) := by decide +kernel
theorem dT_add_17 : decode cT_add 17 = .ok (.invokevirtual 40, 3) := by decide +kernel
theorem dT_add_20 : decode cT_add 20 = .ok (.istore 5, 2) := by decide +kernel
theorem dT_add_22 : decode cT_add 22 = .ok (.iload 4, 2) := by decide +kernel
theorem dT_add_24 : decode cT_add 24 = .ok (.iconst (-1), 1) := by decide +kernel
theorem dT_add_25 : decode cT_add 25 = .ok (.if_icmp .eq 13, 3) := by decide +kernel
theorem dT_add_28 : decode cT_add 28 = .ok (.aload_n 0, 1) := by decide +kernel
theorem dT_add_29 : decode cT_add 29 = .ok (.iload 5, 2) := by decide +kernel
theorem dT_add_31 : decode cT_add 31 = .ok (.iload 4, 2) := by decide +kernel
theorem dT_add_33 : decode cT_add 33 = .ok (.invokevirtual 40, 3) := by decide +kernel
theorem dT_add_36 : decode cT_add 36 = .ok (.istore 5, 2) := by decide +kernel
theorem dT_add_38 : decode cT_add 38 = .ok (.aload_n 0, 1) := by decide +kernel
theorem dT_add_39 : decode cT_add 39 = .ok (.getfield 21, 3) := by decide +kernel
theorem dT_add_42 : decode cT_add 42 = .ok (.iload 5, 2) := by decide +kernel
theorem dT_add_44 : decode cT_add 44 = .ok (.iconst 4, 1) := by decide +kernel
theorem dT_add_45 : decode cT_add 45 = .ok (.imul, 1) := by decide +kernel
theorem dT_add_46 : decode cT_add 46 = .ok (.iload_n 1, 1) := by decide +kernel
theorem dT_add_47 : decode cT_add 47 = .ok (.iadd, 1) := by decide +kernel
theorem dT_add_48 : decode cT_add 48 = .ok (.iconst 1, 1) := by decide +kernel
theorem dT_add_49 : decode cT_add 49 = .ok (.bastore, 1) := by decide +kernel
theorem dT_add_50 : decode cT_add 50 = .ok (.aload_n 0, 1) := by decide +kernel
theorem dT_add_51 : decode cT_add 51 = .ok (.dup, 1) := by decide +kernel
theorem dT_add_52 : decode cT_add 52 = .ok (.getfield 29, 3) := by decide +kernel
theorem dT_add_55 : decode cT_add 55 = .ok (.iconst 1, 1) := by decide +kernel
theorem dT_add_56 : decode cT_add 56 = .ok (.iadd, 1) := by decide +kernel
theorem dT_add_57 : decode cT_add 57 = .ok (.putfield 29, 3) := by decide +kernel
theorem dT_add_60 : decode cT_add 60 = .ok (.return_, 1) := by decide +kernel
theorem dT_childOf_0 : decode cT_childOf 0 = .ok (.aload_n 0, 1) := by decide +kernel
theorem dT_childOf_1 : decode cT_childOf 1 = .ok (.getfield 18, 3) := by decide +kernel
theorem dT_childOf_4 : decode cT_childOf 4 = .ok (.iload_n 1, 1) := by decide +kernel
theorem dT_childOf_5 : decode cT_childOf 5 = .ok (.iconst 4, 1) := by decide +kernel
theorem dT_childOf_6 : decode cT_childOf 6 = .ok (.imul, 1) := by decide +kernel
theorem dT_childOf_7 : decode cT_childOf 7 = .ok (.iload_n 2, 1) := by decide +kernel
theorem dT_childOf_8 : decode cT_childOf 8 = .ok (.iadd, 1) := by decide +kernel
theorem dT_childOf_9 : decode cT_childOf 9 = .ok (.iaload, 1) := by decide +kernel
theorem dT_childOf_10 : decode cT_childOf 10 = .ok (.istore_n 3, 1) := by decide +kernel
theorem dT_childOf_11 : decode cT_childOf 11 = .ok (.iload_n 3, 1) := by decide +kernel
theorem dT_childOf_12 : decode cT_childOf 12 = .ok (.ifCond .ne 7, 3) := by decide +kernel
theorem dT_childOf_15 : decode cT_childOf 15 = .ok (.iconst (-1), 1) := by decide +kernel
theorem dT_childOf_16 : decode cT_childOf 16 = .ok (.goto 4, 3) := by decide +kernel
theorem dT_childOf_19 : decode cT_childOf 19 = .ok (.iload_n 3, 1) := by decide +kernel
theorem dT_childOf_20 : decode cT_childOf 20 = .ok (.ireturn, 1) := by decide +kernel
theorem dT_grow_0 : decode cT_grow 0 = .ok (.aload_n 0, 1) := by decide +kernel
theorem dT_grow_1 : decode cT_grow 1 = .ok (.iload_n 1, 1) := by decide +kernel
theorem dT_grow_2 : decode cT_grow 2 = .ok (.iload_n 2, 1) := by decide +kernel
theorem dT_grow_3 : decode cT_grow 3 = .ok (.invokevirtual 32, 3) := by decide +kernel
theorem dT_grow_6 : decode cT_grow 6 = .ok (.istore_n 3, 1) := by decide +kernel
theorem dT_grow_7 : decode cT_grow 7 = .ok (.iload_n 3, 1) := by decide +kernel
theorem dT_grow_8 : decode cT_grow 8 = .ok (.iconst (-1), 1) := by decide +kernel
theorem dT_grow_9 : decode cT_grow 9 = .ok (.if_icmp .eq 5, 3) := by decide +kernel
theorem dT_grow_12 : decode cT_grow 12 = .ok (.iload_n 3, 1) := by decide +kernel
theorem dT_grow_13 : decode cT_grow 13 = .ok (.ireturn, 1) := by decide +kernel
theorem dT_grow_14 : decode cT_grow 14 = .ok (.aload_n 0, 1) := by decide +kernel
theorem dT_grow_15 : decode cT_grow 15 = .ok (.dup, 1) := by decide +kernel
theorem dT_grow_16 : decode cT_grow 16 = .ok (.getfield 25, 3) := by decide +kernel
theorem dT_grow_19 : decode cT_grow 19 = .ok (.iconst 1, 1) := by decide +kernel
theorem dT_grow_20 : decode cT_grow 20 = .ok (.iadd, 1) := by decide +kernel
theorem dT_grow_21 : decode cT_grow 21 = .ok (.putfield 25, 3) := by decide +kernel
theorem dT_grow_24 : decode cT_grow 24 = .ok (.aload_n 0, 1) := by decide +kernel
theorem dT_grow_25 : decode cT_grow 25 = .ok (.getfield 11, 3) := by decide +kernel
theorem dT_grow_28 : decode cT_grow 28 = .ok (.aload_n 0, 1) := by decide +kernel
theorem dT_grow_29 : decode cT_grow 29 = .ok (.getfield 25, 3) := by decide +kernel
theorem dT_grow_32 : decode cT_grow 32 = .ok (.iload_n 2, 1) := by decide +kernel
theorem dT_grow_33 : decode cT_grow 33 = .ok (.iastore, 1) := by decide +kernel
theorem dT_grow_34 : decode cT_grow 34 = .ok (.aload_n 0, 1) := by decide +kernel
theorem dT_grow_35 : decode cT_grow 35 = .ok (.getfield 15, 3) := by decide +kernel
theorem dT_grow_38 : decode cT_grow 38 = .ok (.aload_n 0, 1) := by decide +kernel
theorem dT_grow_39 : decode cT_grow 39 = .ok (.getfield 25, 3) := by decide +kernel
theorem dT_grow_42 : decode cT_grow 42 = .ok (.iload_n 1, 1) := by decide +kernel
theorem dT_grow_43 : decode cT_grow 43 = .ok (.iastore, 1) := by decide +kernel
theorem dT_grow_44 : decode cT_grow 44 = .ok (.aload_n 0, 1) := by decide +kernel
theorem dT_grow_45 : decode cT_grow 45 = .ok (.getfield 18, 3) := by decide +kernel
theorem dT_grow_48 : decode cT_grow 48 = .ok (.iload_n 1, 1) := by decide +kernel
theorem dT_grow_49 : decode cT_grow 49 = .ok (.iconst 4, 1) := by decide +kernel
theorem dT_grow_50 : decode cT_grow 50 = .ok (.imul, 1) := by decide +kernel
theorem dT_grow_51 : decode cT_grow 51 = .ok (.iload_n 2, 1) := by decide +kernel
theorem dT_grow_52 : decode cT_grow 52 = .ok (.iadd, 1) := by decide +kernel
theorem dT_grow_53 : decode cT_grow 53 = .ok (.aload_n 0, 1) := by decide +kernel
theorem dT_grow_54 : decode cT_grow 54 = .ok (.getfield 25, 3) := by decide +kernel
theorem dT_grow_57 : decode cT_grow 57 = .ok (.iastore, 1) := by decide +kernel
theorem dT_grow_58 : decode cT_grow 58 = .ok (.aload_n 0, 1) := by decide +kernel
theorem dT_grow_59 : decode cT_grow 59 = .ok (.getfield 25, 3) := by decide +kernel
theorem dT_grow_62 : decode cT_grow 62 = .ok (.ireturn, 1) := by decide +kernel
