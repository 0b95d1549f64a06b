theorem dX5_share_10 : decode cX5_share 10 = .ok (.iconst 1, 1) := by decide +kernel
theorem dX5_share_11 : decode cX5_share 11 = .ok (.invokestatic 44, 3) := by decide +kernel
theorem dX5_share_14 : decode cX5_share 14 = .ok (.ifCond .ne 5, 3) := by decide +kernel
theorem dX5_share_17 : decode cX5_share 17 = .ok (.iconst (-1), 1) := by decide +kernel
theorem dX5_share_18 : decode cX5_share 18 = .ok (.ireturn, 1) := by decide +kernel
theorem dX5_share_19 : decode cX5_share 19 = .ok (.aload_n 0, 1) := by decide +kernel
theorem dX5_share_20 : decode cX5_share 20 = .ok (.invokevirtual 165, 3) := by decide +kernel
theorem dX5_share_23 : decode cX5_share 23 = .ok (.pop, 1) := by decide +kernel
theorem dX5_share_24 : decode cX5_share 24 = .ok (.iload_n 2, 1) := by decide +kernel
theorem dX5_share_25 : decode cX5_share 25 = .ok (.ifCond .ne 15, 3) := by decide +kernel
theorem dX5_share_28 : decode cX5_share 28 = .ok (.aload_n 0, 1) := by decide +kernel
theorem dX5_share_29 : decode cX5_share 29 = .ok (.getfield 36, 3) := by decide +kernel
theorem dX5_share_32 : decode cX5_share 32 = .ok (.getfield 168, 3) := by decide +kernel
theorem dX5_share_35 : decode cX5_share 35 = .ok (.iload_n 1, 1) := by decide +kernel
theorem dX5_share_36 : decode cX5_share 36 = .ok (.iaload, 1) := by decide +kernel
theorem dX5_share_37 : decode cX5_share 37 = .ok (.goto 12, 3) := by decide +kernel
theorem dX5_share_40 : decode cX5_share 40 = .ok (.aload_n 0, 1) := by decide +kernel
theorem dX5_share_41 : decode cX5_share 41 = .ok (.getfield 36, 3) := by decide +kernel
theorem dX5_share_44 : decode cX5_share 44 = .ok (.getfield 170, 3) := by decide +kernel
theorem dX5_share_47 : decode cX5_share 47 = .ok (.iload_n 1, 1) := by decide +kernel
theorem dX5_share_48 : decode cX5_share 48 = .ok (.iaload, 1) := by decide +kernel
theorem dX5_share_49 : decode cX5_share 49 = .ok (.ireturn, 1) := by decide +kernel
theorem dX5_pegs_0 : decode cX5_pegs 0 = .ok (.aload_n 0, 1) := by decide +kernel
theorem dX5_pegs_1 : decode cX5_pegs 1 = .ok (.iload_n 1, 1) := by decide +kernel
theorem dX5_pegs_2 : decode cX5_pegs 2 = .ok (.invokevirtual 88, 3) := by decide +kernel
theorem dX5_pegs_5 : decode cX5_pegs 5 = .ok (.ifCond .eq 12, 3) := by decide +kernel
theorem dX5_pegs_8 : decode cX5_pegs 8 = .ok (.iload_n 2, 1) := by decide +kernel
theorem dX5_pegs_9 : decode cX5_pegs 9 = .ok (.iconst 0, 1) := by decide +kernel
theorem dX5_pegs_10 : decode cX5_pegs 10 = .ok (.iconst 1, 1) := by decide +kernel
theorem dX5_pegs_11 : decode cX5_pegs 11 = .ok (.invokestatic 44, 3) := by decide +kernel
theorem dX5_pegs_14 : decode cX5_pegs 14 = .ok (.ifCond .ne 5, 3) := by decide +kernel
theorem dX5_pegs_17 : decode cX5_pegs 17 = .ok (.iconst (-1), 1) := by decide +kernel
theorem dX5_pegs_18 : decode cX5_pegs 18 = .ok (.ireturn, 1) := by decide +kernel
theorem dX5_pegs_19 : decode cX5_pegs 19 = .ok (.bipush 13, 2) := by decide +kernel
theorem dX5_pegs_21 : decode cX5_pegs 21 = .ok (.istore_n 3, 1) := by decide +kernel
theorem dX5_pegs_22 : decode cX5_pegs 22 = .ok (.iconst 0, 1) := by decide +kernel
theorem dX5_pegs_23 : decode cX5_pegs 23 = .ok (.istore 4, 2) := by decide +kernel
theorem dX5_pegs_25 : decode cX5_pegs 25 = .ok (.iconst 0, 1) := by decide +kernel
theorem dX5_pegs_26 : decode cX5_pegs 26 = .ok (.istore 5, 2) := by decide +kernel
theorem dX5_pegs_28 : decode cX5_pegs 28 = .ok (.iload 5, 2) := by decide +kernel
theorem dX5_pegs_30 : decode cX5_pegs 30 = .ok (.bipush 12, 2) := by decide +kernel
theorem dX5_pegs_32 : decode cX5_pegs 32 = .ok (.if_icmp .ge 42, 3) := by decide +kernel
theorem dX5_pegs_35 : decode cX5_pegs 35 = .ok (.aload_n 0, 1) := by decide +kernel
theorem dX5_pegs_36 : decode cX5_pegs 36 = .ok (.getfield 10, 3) := by decide +kernel
theorem dX5_pegs_39 : decode cX5_pegs 39 = .ok (.aload_n 0, 1) := by decide +kernel
theorem dX5_pegs_40 : decode cX5_pegs 40 = .ok (.getfield 10, 3) := by decide +kernel
theorem dX5_pegs_43 : decode cX5_pegs 43 = .ok (.getfield 91, 3) := by decide +kernel
theorem dX5_pegs_46 : decode cX5_pegs 46 = .ok (.iload_n 1, 1) := by decide +kernel
theorem dX5_pegs_47 : decode cX5_pegs 47 = .ok (.aaload, 1) := by decide +kernel
theorem dX5_pegs_48 : decode cX5_pegs 48 = .ok (.iload 5, 2) := by decide +kernel
theorem dX5_pegs_50 : decode cX5_pegs 50 = .ok (.invokevirtual 173, 3) := by decide +kernel
theorem dX5_pegs_53 : decode cX5_pegs 53 = .ok (.istore 6, 2) := by decide +kernel
theorem dX5_pegs_55 : decode cX5_pegs 55 = .ok (.iload 6, 2) := by decide +kernel
theorem dX5_pegs_57 : decode cX5_pegs 57 = .ok (.iload_n 3, 1) := by decide +kernel
theorem dX5_pegs_58 : decode cX5_pegs 58 = .ok (.if_icmp .ge 10, 3) := by decide +kernel
theorem dX5_pegs_61 : decode cX5_pegs 61 = .ok (.iload 6, 2) := by decide +kernel
theorem dX5_pegs_63 : decode cX5_pegs 63 = .ok (.istore_n 3, 1) := by decide +kernel
theorem dX5_pegs_64 : decode cX5_pegs 64 = .ok (.iload 5, 2) := by decide +kernel
theorem dX5_pegs_66 : decode cX5_pegs 66 = .ok (.istore 4, 2) := by decide +kernel
theorem dX5_pegs_68 : decode cX5_pegs 68 = .ok (.iinc 5 1, 3) := by decide +kernel
theorem dX5_pegs_71 : decode cX5_pegs 71 = .ok (.goto (-43), 3) := by decide +kernel
theorem dX5_pegs_74 : decode cX5_pegs 74 = .ok (.iload_n 2, 1) := by decide +kernel
theorem dX5_pegs_75 : decode cX5_pegs 75 = .ok (.ifCond .ne 7, 3) := by decide +kernel
theorem dX5_pegs_78 : decode cX5_pegs 78 = .ok (.iload_n 3, 1) := by decide +kernel
theorem dX5_pegs_79 : decode cX5_pegs 79 = .ok (.goto 5, 3) := by decide +kernel
theorem dX5_pegs_82 : decode cX5_pegs 82 = .ok (.iload 4, 2) := by decide +kernel
theorem dX5_pegs_84 : decode cX5_pegs 84 = .ok (.ireturn, 1) := by decide +kernel
theorem dX5_beats_0 : decode cX5_beats 0 = .ok (.iload_n 1, 1) := by decide +kernel
theorem dX5_beats_1 : decode cX5_beats 1 = .ok (.invokestatic 71, 3) := by decide +kernel
theorem dX5_beats_4 : decode cX5_beats 4 = .ok (.ifCond .eq 13, 3) := by decide +kernel
theorem dX5_beats_7 : decode cX5_beats 7 = .ok (.iload_n 2, 1) := by decide +kernel
theorem dX5_beats_8 : decode cX5_beats 8 = .ok (.iconst 1, 1) := by decide +kernel
theorem dX5_beats_9 : decode cX5_beats 9 = .ok (.bipush 99, 2) := by decide +kernel
theorem dX5_beats_11 : decode cX5_beats 11 = .ok (.invokestatic 44, 3) := by decide +kernel
theorem dX5_beats_14 : decode cX5_beats 14 = .ok (.ifCond .ne 5, 3) := by decide +kernel
theorem dX5_beats_17 : decode cX5_beats 17 = .ok (.iconst (-1), 1) := by decide +kernel
theorem dX5_beats_18 : decode cX5_beats 18 = .ok (.ireturn, 1) := by decide +kernel
theorem dX5_beats_19 : decode cX5_beats 19 = .ok (.aload_n 0, 1) := by decide +kernel
theorem dX5_beats_20 : decode cX5_beats 20 = .ok (.getfield 10, 3) := by decide +kernel
theorem dX5_beats_23 : decode cX5_beats 23 = .ok (.getfield 177, 3) := by decide +kernel
theorem dX5_beats_26 : decode cX5_beats 26 = .ok (.iload_n 1, 1) := by decide +kernel
theorem dX5_beats_27 : decode cX5_beats 27 = .ok (.iaload, 1) := by decide +kernel
theorem dX5_beats_28 : decode cX5_beats 28 = .ok (.istore_n 3, 1) := by decide +kernel
theorem dX5_beats_29 : decode cX5_beats 29 = .ok (.aload_n 0, 1) := by decide +kernel
theorem dX5_beats_30 : decode cX5_beats 30 = .ok (.getfield 10, 3) := by decide +kernel
theorem dX5_beats_33 : decode cX5_beats 33 = .ok (.getfield 177, 3) := by decide +kernel
theorem dX5_beats_36 : decode cX5_beats 36 = .ok (.iload_n 1, 1) := by decide +kernel
theorem dX5_beats_37 : decode cX5_beats 37 = .ok (.iload_n 2, 1) := by decide +kernel
theorem dX5_beats_38 : decode cX5_beats 38 = .ok (.iastore, 1) := by decide +kernel
theorem dX5_beats_39 : decode cX5_beats 39 = .ok (.iload_n 3, 1) := by decide +kernel
theorem dX5_beats_40 : decode cX5_beats 40 = .ok (.ireturn, 1) := by decide +kernel
theorem dX5_when_0 : decode cX5_when 0 = .ok (.iload_n 1, 1) := by decide +kernel
theorem dX5_when_1 : decode cX5_when 1 = .ok (.invokestatic 71, 3) := by decide +kernel
theorem dX5_when_4 : decode cX5_when 4 = .ok (.ifCond .ne 5, 3) := by decide +kernel
theorem dX5_when_7 : decode cX5_when 7 = .ok (.iconst (-1), 1) := by decide +kernel
theorem dX5_when_8 : decode cX5_when 8 = .ok (.ireturn, 1) := by decide +kernel
theorem dX5_when_9 : decode cX5_when 9 = .ok (.aload_n 0, 1) := by decide +kernel
theorem dX5_when_10 : decode cX5_when 10 = .ok (.getfield 10, 3) := by decide +kernel
theorem dX5_when_13 : decode cX5_when 13 = .ok (.iload_n 1, 1) := by decide +kernel
theorem dX5_when_14 : decode cX5_when 14 = .ok (.invokevirtual 180, 3) := by decide +kernel
theorem dX5_when_17 : decode cX5_when 17 = .ok (.ireturn, 1) := by decide +kernel
theorem dX5_at_0 : decode cX5_at 0 = .ok (.iload_n 1, 1) := by decide +kernel
theorem dX5_at_1 : decode cX5_at 1 = .ok (.iconst 0, 1) := by decide +kernel
theorem dX5_at_2 : decode cX5_at 2 = .ok (.ldc 183, 2) := by decide +kernel
theorem dX5_at_4 : decode cX5_at 4 = .ok (.invokestatic 44, 3) := by decide +kernel
theorem dX5_at_7 : decode cX5_at 7 = .ok (.ifCond .ne 5, 3) := by decide +kernel
theorem dX5_at_10 : decode cX5_at 10 = .ok (.iconst (-1), 1) := by decide +kernel
theorem dX5_at_11 : decode cX5_at 11 = .ok (.ireturn, 1) := by decide +kernel
theorem dX5_at_12 : decode cX5_at 12 = .ok (.aload_n 0, 1) := by decide +kernel
theorem dX5_at_13 : decode cX5_at 13 = .ok (.getfield 10, 3) := by decide +kernel
theorem dX5_at_16 : decode cX5_at 16 = .ok (.iload_n 1, 1) := by decide +kernel
theorem dX5_at_17 : decode cX5_at 17 = .ok (.invokevirtual 184, 3) := by decide +kernel
theorem dX5_at_20 : decode cX5_at 20 = .ok (.ireturn, 1) := by decide +kernel
theorem dX5_hand_0 : decode cX5_hand 0 = .ok (.iload_n 1, 1) := by decide +kernel
theorem dX5_hand_1 : decode cX5_hand 1 = .ok (.iconst 0, 1) := by decide +kernel
theorem dX5_hand_2 : decode cX5_hand 2 = .ok (.iconst 3, 1) := by decide +kernel
theorem dX5_hand_3 : decode cX5_hand 3 = .ok (.invokestatic 44, 3) := by decide +kernel
theorem dX5_hand_6 : decode cX5_hand 6 = .ok (.ifCond .eq 14, 3) := by decide +kernel
theorem dX5_hand_9 : decode cX5_hand 9 = .ok (.iload_n 2, 1) := by decide +kernel
theorem dX5_hand_10 : decode cX5_hand 10 = .ok (.iconst 0, 1) := by decide +kernel
theorem dX5_hand_11 : decode cX5_hand 11 = .ok (.sipush 1023, 3) := by decide +kernel
theorem dX5_hand_14 : decode cX5_hand 14 = .ok (.invokestatic 44, 3) := by decide +kernel
theorem dX5_hand_17 : decode cX5_hand 17 = .ok (.ifCond .ne 5, 3) := by decide +kernel
theorem dX5_hand_20 : decode cX5_hand 20 = .ok (.iconst (-1), 1) := by decide +kernel
theorem dX5_hand_21 : decode cX5_hand 21 = .ok (.ireturn, 1) := by decide +kernel
theorem dX5_hand_22 : decode cX5_hand 22 = .ok (.aload_n 0, 1) := by decide +kernel
theorem dX5_hand_23 : decode cX5_hand 23 = .ok (.getfield 10, 3) := by decide +kernel
theorem dX5_hand_26 : decode cX5_hand 26 = .ok (.getfield 187, 3) := by decide +kernel
theorem dX5_hand_29 : decode cX5_hand 29 = .ok (.iload_n 1, 1) := by decide +kernel
theorem dX5_hand_30 : decode cX5_hand 30 = .ok (.iaload, 1) := by decide +kernel
theorem dX5_hand_31 : decode cX5_hand 31 = .ok (.istore_n 3, 1) := by decide +kernel
theorem dX5_hand_32 : decode cX5_hand 32 = .ok (.aload_n 0, 1) := by decide +kernel
theorem dX5_hand_33 : decode cX5_hand 33 = .ok (.getfield 10, 3) := by decide +kernel
theorem dX5_hand_36 : decode cX5_hand 36 = .ok (.getfield 187, 3) := by decide +kernel
theorem dX5_hand_39 : decode cX5_hand 39 = .ok (.iload_n 1, 1) := by decide +kernel
theorem dX5_hand_40 : decode cX5_hand 40 = .ok (.iload_n 2, 1) := by decide +kernel
theorem dX5_hand_41 : decode cX5_hand 41 = .ok (.iastore, 1) := by decide +kernel
theorem dX5_hand_42 : decode cX5_hand 42 = .ok (.iload_n 3, 1) := by decide +kernel
theorem dX5_hand_43 : decode cX5_hand 43 = .ok (.ireturn, 1) := by decide +kernel
theorem dX5_whose_0 : decode cX5_whose 0 = .ok (.aload_n 0, 1) := by decide +kernel
theorem dX5_whose_1 : decode cX5_whose 1 = .ok (.iload_n 1, 1) := by decide +kernel
theorem dX5_whose_2 : decode cX5_whose 2 = .ok (.invokevirtual 67, 3) := by decide +kernel
theorem dX5_whose_5 : decode cX5_whose 5 = .ok (.ifCond .ne 5, 3) := by decide +kernel
theorem dX5_whose_8 : decode cX5_whose 8 = .ok (.iconst (-1), 1) := by decide +kernel
theorem dX5_whose_9 : decode cX5_whose 9 = .ok (.ireturn, 1) := by decide +kernel
theorem dX5_whose_10 : decode cX5_whose 10 = .ok (.aload_n 0, 1) := by decide +kernel
theorem dX5_whose_11 : decode cX5_whose 11 = .ok (.getfield 10, 3) := by decide +kernel
theorem dX5_whose_14 : decode cX5_whose 14 = .ok (.getfield 74, 3) := by decide +kernel
theorem dX5_whose_17 : decode cX5_whose 17 = .ok (.iload_n 1, 1) := by decide +kernel
theorem dX5_whose_18 : decode cX5_whose 18 = .ok (.aaload, 1) := by decide +kernel
theorem dX5_whose_19 : decode cX5_whose 19 = .ok (.invokestatic 190, 3) := by decide +kernel
theorem dX5_whose_22 : decode cX5_whose 22 = .ok (.istore_n 2, 1) := by decide +kernel
theorem dX5_whose_23 : decode cX5_whose 23 = .ok (.iconst 0, 1) := by decide +kernel
theorem dX5_whose_24 : decode cX5_whose 24 = .ok (.istore_n 3, 1) := by decide +kernel
theorem dX5_whose_25 : decode cX5_whose 25 = .ok (.iconst 0, 1) := by decide +kernel
theorem dX5_whose_26 : decode cX5_whose 26 = .ok (.istore 4, 2) := by decide +kernel
theorem dX5_whose_28 : decode cX5_whose 28 = .ok (.iload 4, 2) := by decide +kernel
theorem dX5_whose_30 : decode cX5_whose 30 = .ok (.iconst 4, 1) := by decide +kernel
theorem dX5_whose_31 : decode cX5_whose 31 = .ok (.if_icmp .ge 33, 3) := by decide +kernel
theorem dX5_whose_34 : decode cX5_whose 34 = .ok (.iload_n 2, 1) := by decide +kernel
theorem dX5_whose_35 : decode cX5_whose 35 = .ok (.aload_n 0, 1) := by decide +kernel
theorem dX5_whose_36 : decode cX5_whose 36 = .ok (.getfield 10, 3) := by decide +kernel
theorem dX5_whose_39 : decode cX5_whose 39 = .ok (.getfield 187, 3) := by decide +kernel
theorem dX5_whose_42 : decode cX5_whose 42 = .ok (.iload 4, 2) := by decide +kernel
theorem dX5_whose_44 : decode cX5_whose 44 = .ok (.iaload, 1) := by decide +kernel
theorem dX5_whose_45 : decode cX5_whose 45 = .ok (.iconst (-1), 1) := by decide +kernel
theorem dX5_whose_46 : decode cX5_whose 46 = .ok (.ixor, 1) := by decide +kernel
theorem dX5_whose_47 : decode cX5_whose 47 = .ok (.iand, 1) := by decide +kernel
theorem dX5_whose_48 : decode cX5_whose 48 = .ok (.ifCond .ne 10, 3) := by decide +kernel
theorem dX5_whose_51 : decode cX5_whose 51 = .ok (.iload_n 3, 1) := by decide +kernel
theorem dX5_whose_52 : decode cX5_whose 52 = .ok (.iconst 1, 1) := by decide +kernel
theorem dX5_whose_53 : decode cX5_whose 53 = .ok (.iload 4, 2) := by decide +kernel
theorem dX5_whose_55 : decode cX5_whose 55 = .ok (.ishl, 1) := by decide +kernel
theorem dX5_whose_56 : decode cX5_whose 56 = .ok (.ior, 1) := by decide +kernel
theorem dX5_whose_57 : decode cX5_whose 57 = .ok (.istore_n 3, 1) := by decide +kernel
theorem dX5_whose_58 : decode cX5_whose 58 = .ok (.iinc 4 1, 3) := by decide +kernel
theorem dX5_whose_61 : decode cX5_whose 61 = .ok (.goto (-33), 3) := by decide +kernel
theorem dX5_whose_64 : decode cX5_whose 64 = .ok (.iload_n 3, 1) := by decide +kernel
theorem dX5_whose_65 : decode cX5_whose 65 = .ok (.ireturn, 1) := by decide +kernel
theorem dX5_image_0 : decode cX5_image 0 = .ok (.aload_n 0, 1) := by decide +kernel
theorem dX5_image_1 : decode cX5_image 1 = .ok (.getfield 16, 3) := by decide +kernel
theorem dX5_image_4 : decode cX5_image 4 = .ok (.aload_n 0, 1) := by decide +kernel
theorem dX5_image_5 : decode cX5_image 5 = .ok (.getfield 10, 3) := by decide +kernel
theorem dX5_image_8 : decode cX5_image 8 = .ok (.invokevirtual 193, 3) := by decide +kernel
theorem dX5_image_11 : decode cX5_image 11 = .ok (.aload_n 0, 1) := by decide +kernel
theorem dX5_image_12 : decode cX5_image 12 = .ok (.iconst 1, 1) := by decide +kernel
theorem dX5_image_13 : decode cX5_image 13 = .ok (.putfield 197, 3) := by decide +kernel
theorem dX5_image_16 : decode cX5_image 16 = .ok (.iconst 1, 1) := by decide +kernel
theorem dX5_image_17 : decode cX5_image 17 = .ok (.ireturn, 1) := by decide +kernel
theorem dX5_restore_0 : decode cX5_restore 0 = .ok (.aload_n 0, 1) := by decide +kernel
theorem dX5_restore_1 : decode cX5_restore 1 = .ok (.getfield 197, 3) := by decide +kernel
theorem dX5_restore_4 : decode cX5_restore 4 = .ok (.ifCond .ne 6, 3) := by decide +kernel
theorem dX5_restore_7 : decode cX5_restore 7 = .ok (.bipush (-4), 2) := by decide +kernel
theorem dX5_restore_9 : decode cX5_restore 9 = .ok (.ireturn, 1) := by decide +kernel
theorem dX5_restore_10 : decode cX5_restore 10 = .ok (.aload_n 0, 1) := by decide +kernel
theorem dX5_restore_11 : decode cX5_restore 11 = .ok (.getfield 10, 3) := by decide +kernel
theorem dX5_restore_14 : decode cX5_restore 14 = .ok (.aload_n 0, 1) := by decide +kernel
theorem dX5_restore_15 : decode cX5_restore 15 = .ok (.getfield 16, 3) := by decide +kernel
theorem dX5_restore_18 : decode cX5_restore 18 = .ok (.invokevirtual 193, 3) := by decide +kernel
theorem dX5_restore_21 : decode cX5_restore 21 = .ok (.iconst 1, 1) := by decide +kernel
theorem dX5_restore_22 : decode cX5_restore 22 = .ok (.ireturn, 1) := by decide +kernel
theorem dX5_worn_0 : decode cX5_worn 0 = .ok (.iload_n 1, 1) := by decide +kernel
theorem dX5_worn_1 : decode cX5_worn 1 = .ok (.iconst 1, 1) := by decide +kernel
theorem dX5_worn_2 : decode cX5_worn 2 = .ok (.bipush 9, 2) := by decide +kernel
theorem dX5_worn_4 : decode cX5_worn 4 = .ok (.invokestatic 44, 3) := by decide +kernel
theorem dX5_worn_7 : decode cX5_worn 7 = .ok (.ifCond .ne 5, 3) := by decide +kernel
theorem dX5_worn_10 : decode cX5_worn 10 = .ok (.iconst (-1), 1) := by decide +kernel
theorem dX5_worn_11 : decode cX5_worn 11 = .ok (.ireturn, 1) := by decide +kernel
theorem dX5_worn_12 : decode cX5_worn 12 = .ok (.aload_n 0, 1) := by decide +kernel
theorem dX5_worn_13 : decode cX5_worn 13 = .ok (.iload_n 2, 1) := by decide +kernel
theorem dX5_worn_14 : decode cX5_worn 14 = .ok (.iload_n 3, 1) := by decide +kernel
theorem dX5_worn_15 : decode cX5_worn 15 = .ok (.iload 4, 2) := by decide +kernel
theorem dX5_worn_17 : decode cX5_worn 17 = .ok (.aload_n 0, 1) := by decide +kernel
theorem dX5_worn_18 : decode cX5_worn 18 = .ok (.getfield 10, 3) := by decide +kernel
theorem dX5_worn_21 : decode cX5_worn 21 = .ok (.getfield 123, 3) := by decide +kernel
theorem dX5_worn_24 : decode cX5_worn 24 = .ok (.invokevirtual 201, 3) := by decide +kernel
theorem dX5_worn_27 : decode cX5_worn 27 = .ok (.istore 5, 2) := by decide +kernel
theorem dX5_worn_29 : decode cX5_worn 29 = .ok (.iload 5, 2) := by decide +kernel
theorem dX5_worn_31 : decode cX5_worn 31 = .ok (.ifCond .ge 6, 3) := by decide +kernel
theorem dX5_worn_34 : decode cX5_worn 34 = .ok (.iload 5, 2) := by decide +kernel
theorem dX5_worn_36 : decode cX5_worn 36 = .ok (.ireturn, 1) := by decide +kernel
theorem dX5_worn_37 : decode cX5_worn 37 = .ok (.aload_n 0, 1) := by decide +kernel
theorem dX5_worn_38 : decode cX5_worn 38 = .ok (.getfield 28, 3) := by decide +kernel
theorem dX5_worn_41 : decode cX5_worn 41 = .ok (.iload_n 2, 1) := by decide +kernel
theorem dX5_worn_42 : decode cX5_worn 42 = .ok (.aaload, 1) := by decide +kernel
theorem dX5_worn_43 : decode cX5_worn 43 = .ok (.astore 6, 2) := by decide +kernel
theorem dX5_worn_45 : decode cX5_worn 45 = .ok (.aload_n 0, 1) := by decide +kernel
theorem dX5_worn_46 : decode cX5_worn 46 = .ok (.aload 6, 2) := by decide +kernel
theorem dX5_worn_48 : decode cX5_worn 48 = .ok (.iload 4, 2) := by decide +kernel
theorem dX5_worn_50 : decode cX5_worn 50 = .ok (.iconst (-1), 1) := by decide +kernel
theorem dX5_worn_51 : decode cX5_worn 51 = .ok (.invokevirtual 204, 3) := by decide +kernel
theorem dX5_worn_54 : decode cX5_worn 54 = .ok (.ifCond .eq 8, 3) := by decide +kernel
theorem dX5_worn_57 : decode cX5_worn 57 = .ok (.bipush 64, 2) := by decide +kernel
theorem dX5_worn_59 : decode cX5_worn 59 = .ok (.goto 4, 3) := by decide +kernel
theorem dX5_worn_62 : decode cX5_worn 62 = .ok (.iconst 0, 1) := by decide +kernel
theorem dX5_worn_63 : decode cX5_worn 63 = .ok (.istore 7, 2) := by decide +kernel
theorem dX5_worn_65 : decode cX5_worn 65 = .ok (.iconst 0, 1) := by decide +kernel
theorem dX5_worn_66 : decode cX5_worn 66 = .ok (.istore 8, 2) := by decide +kernel
theorem dX5_worn_68 : decode cX5_worn 68 = .ok (.iload 8, 2) := by decide +kernel
theorem dX5_worn_70 : decode cX5_worn 70 = .ok (.aload_n 0, 1) := by decide +kernel
theorem dX5_worn_71 : decode cX5_worn 71 = .ok (.getfield 10, 3) := by decide +kernel
theorem dX5_worn_74 : decode cX5_worn 74 = .ok (.getfield 120, 3) := by decide +kernel
theorem dX5_worn_77 : decode cX5_worn 77 = .ok (.if_icmp .ge 49, 3) := by decide +kernel
theorem dX5_worn_80 : decode cX5_worn 80 = .ok (.aload_n 0, 1) := by decide +kernel
theorem dX5_worn_81 : decode cX5_worn 81 = .ok (.getfield 40, 3) := by decide +kernel
theorem dX5_worn_84 : decode cX5_worn 84 = .ok (.aload_n 0, 1) := by decide +kernel
theorem dX5_worn_85 : decode cX5_worn 85 = .ok (.getfield 10, 3) := by decide +kernel
theorem dX5_worn_88 : decode cX5_worn 88 = .ok (.getfield 74, 3) := by decide +kernel
theorem dX5_worn_91 : decode cX5_worn 91 = .ok (.iload 8, 2) := by decide +kernel
theorem dX5_worn_93 : decode cX5_worn 93 = .ok (.aaload, 1) := by decide +kernel
theorem dX5_worn_94 : decode cX5_worn 94 = .ok (.iload_n 1, 1) := by decide +kernel
theorem dX5_worn_95 : decode cX5_worn 95 = .ok (.invokestatic 208, 3) := by decide +kernel
theorem dX5_worn_98 : decode cX5_worn 98 = .ok (.aload_n 0, 1) := by decide +kernel
theorem dX5_worn_99 : decode cX5_worn 99 = .ok (.aload 6, 2) := by decide +kernel
theorem dX5_worn_101 : decode cX5_worn 101 = .ok (.iload 4, 2) := by decide +kernel
theorem dX5_worn_103 : decode cX5_worn 103 = .ok (.iload 8, 2) := by decide +kernel
theorem dX5_worn_105 : decode cX5_worn 105 = .ok (.invokevirtual 204, 3) := by decide +kernel
theorem dX5_worn_108 : decode cX5_worn 108 = .ok (.ifCond .eq 12, 3) := by decide +kernel
theorem dX5_worn_111 : decode cX5_worn 111 = .ok (.iload 7, 2) := by decide +kernel
theorem dX5_worn_113 : decode cX5_worn 113 = .ok (.iconst 1, 1) := by decide +kernel
theorem dX5_worn_114 : decode cX5_worn 114 = .ok (.iload 8, 2) := by decide +kernel
theorem dX5_worn_116 : decode cX5_worn 116 = .ok (.ishl, 1) := by decide +kernel
theorem dX5_worn_117 : decode cX5_worn 117 = .ok (.ior, 1) := by decide +kernel
theorem dX5_worn_118 : decode cX5_worn 118 = .ok (.istore 7, 2) := by decide +kernel
theorem dX5_worn_120 : decode cX5_worn 120 = .ok (.iinc 8 1, 3) := by decide +kernel
theorem dX5_worn_123 : decode cX5_worn 123 = .ok (.goto (-55), 3) := by decide +kernel
theorem dX5_worn_126 : decode cX5_worn 126 = .ok (.iload 7, 2) := by decide +kernel
theorem dX5_worn_128 : decode cX5_worn 128 = .ok (.ireturn, 1) := by decide +kernel
theorem dX5_film_0 : decode cX5_film 0 = .ok (.aload_n 0, 1) := by decide +kernel
theorem dX5_film_1 : decode cX5_film 1 = .ok (.iload_n 1, 1) := by decide +kernel
theorem dX5_film_2 : decode cX5_film 2 = .ok (.invokevirtual 88, 3) := by decide +kernel
theorem dX5_film_5 : decode cX5_film 5 = .ok (.ifCond .ne 5, 3) := by decide +kernel
theorem dX5_film_8 : decode cX5_film 8 = .ok (.iconst (-1), 1) := by decide +kernel
theorem dX5_film_9 : decode cX5_film 9 = .ok (.ireturn, 1) := by decide +kernel
theorem dX5_film_10 : decode cX5_film 10 = .ok (.aload_n 0, 1) := by decide +kernel
theorem dX5_film_11 : decode cX5_film 11 = .ok (.iload_n 2, 1) := by decide +kernel
theorem dX5_film_12 : decode cX5_film 12 = .ok (.iload_n 3, 1) := by decide +kernel
theorem dX5_film_13 : decode cX5_film 13 = .ok (.iload 4, 2) := by decide +kernel
theorem dX5_film_15 : decode cX5_film 15 = .ok (.bipush 12, 2) := by decide +kernel
theorem dX5_film_17 : decode cX5_film 17 = .ok (.invokevirtual 201, 3) := by decide +kernel
theorem dX5_film_20 : decode cX5_film 20 = .ok (.istore 5, 2) := by decide +kernel
theorem dX5_film_22 : decode cX5_film 22 = .ok (.iload 5, 2) := by decide +kernel
theorem dX5_film_24 : decode cX5_film 24 = .ok (.ifCond .ge 6, 3) := by decide +kernel
theorem dX5_film_27 : decode cX5_film 27 = .ok (.iload 5, 2) := by decide +kernel
theorem dX5_film_29 : decode cX5_film 29 = .ok (.ireturn, 1) := by decide +kernel
theorem dX5_film_30 : decode cX5_film 30 = .ok (.aload_n 0, 1) := by decide +kernel
theorem dX5_film_31 : decode cX5_film 31 = .ok (.getfield 10, 3) := by decide +kernel
theorem dX5_film_34 : decode cX5_film 34 = .ok (.getfield 91, 3) := by decide +kernel
theorem dX5_film_37 : decode cX5_film 37 = .ok (.iload_n 1, 1) := by decide +kernel
theorem dX5_film_38 : decode cX5_film 38 = .ok (.aaload, 1) := by decide +kernel
theorem dX5_film_39 : decode cX5_film 39 = .ok (.astore 6, 2) := by decide +kernel
theorem dX5_film_41 : decode cX5_film 41 = .ok (.iconst 0, 1) := by decide +kernel
theorem dX5_film_42 : decode cX5_film 42 = .ok (.istore 7, 2) := by decide +kernel
theorem dX5_film_44 : decode cX5_film 44 = .ok (.iload 7, 2) := by decide +kernel
theorem dX5_film_46 : decode cX5_film 46 = .ok (.bipush 12, 2) := by decide +kernel
theorem dX5_film_48 : decode cX5_film 48 = .ok (.if_icmp .ge 48, 3) := by decide +kernel
theorem dX5_film_51 : decode cX5_film 51 = .ok (.aload_n 0, 1) := by decide +kernel
theorem dX5_film_52 : decode cX5_film 52 = .ok (.getfield 28, 3) := by decide +kernel
theorem dX5_film_55 : decode cX5_film 55 = .ok (.iload_n 2, 1) := by decide +kernel
theorem dX5_film_56 : decode cX5_film 56 = .ok (.aaload, 1) := by decide +kernel
theorem dX5_film_57 : decode cX5_film 57 = .ok (.iload 4, 2) := by decide +kernel
theorem dX5_film_59 : decode cX5_film 59 = .ok (.iload 7, 2) := by decide +kernel
theorem dX5_film_61 : decode cX5_film 61 = .ok (.iadd, 1) := by decide +kernel
theorem dX5_film_62 : decode cX5_film 62 = .ok (.aload_n 0, 1) := by decide +kernel
theorem dX5_film_63 : decode cX5_film 63 = .ok (.getfield 10, 3) := by decide +kernel
theorem dX5_film_66 : decode cX5_film 66 = .ok (.aload_n 0, 1) := by decide +kernel
theorem dX5_film_67 : decode cX5_film 67 = .ok (.getfield 10, 3) := by decide +kernel
theorem dX5_film_70 : decode cX5_film 70 = .ok (.getfield 74, 3) := by decide +kernel
theorem dX5_film_73 : decode cX5_film 73 = .ok (.aload 6, 2) := by decide +kernel
theorem dX5_film_75 : decode cX5_film 75 = .ok (.getfield 136, 3) := by decide +kernel
theorem dX5_film_78 : decode cX5_film 78 = .ok (.aaload, 1) := by decide +kernel
theorem dX5_film_79 : decode cX5_film 79 = .ok (.aload 6, 2) := by decide +kernel
theorem dX5_film_81 : decode cX5_film 81 = .ok (.iload 7, 2) := by decide +kernel
theorem dX5_film_83 : decode cX5_film 83 = .ok (.invokevirtual 139, 3) := by decide +kernel
theorem dX5_film_86 : decode cX5_film 86 = .ok (.i2l, 1) := by decide +kernel
theorem dX5_film_87 : decode cX5_film 87 = .ok (.invokevirtual 212, 3) := by decide +kernel
theorem dX5_film_90 : decode cX5_film 90 = .ok (.iinc 7 1, 3) := by decide +kernel
theorem dX5_film_93 : decode cX5_film 93 = .ok (.goto (-49), 3) := by decide +kernel
theorem dX5_film_96 : decode cX5_film 96 = .ok (.bipush 12, 2) := by decide +kernel
theorem dX5_film_98 : decode cX5_film 98 = .ok (.ireturn, 1) := by decide +kernel
theorem dX5_sheet_0 : decode cX5_sheet 0 = .ok (.iload_n 1, 1) := by decide +kernel
theorem dX5_sheet_1 : decode cX5_sheet 1 = .ok (.invokestatic 216, 3) := by decide +kernel
theorem dX5_sheet_4 : decode cX5_sheet 4 = .ok (.ifCond .eq 16, 3) := by decide +kernel
theorem dX5_sheet_7 : decode cX5_sheet 7 = .ok (.iload_n 2, 1) := by decide +kernel
theorem dX5_sheet_8 : decode cX5_sheet 8 = .ok (.invokestatic 219, 3) := by decide +kernel
theorem dX5_sheet_11 : decode cX5_sheet 11 = .ok (.ifCond .eq 9, 3) := by decide +kernel
theorem dX5_sheet_14 : decode cX5_sheet 14 = .ok (.iload_n 3, 1) := by decide +kernel
theorem dX5_sheet_15 : decode cX5_sheet 15 = .ok (.bipush 24, 2) := by decide +kernel
theorem dX5_sheet_17 : decode cX5_sheet 17 = .ok (.if_icmp .le 5, 3) := by decide +kernel
theorem dX5_sheet_20 : decode cX5_sheet 20 = .ok (.iconst (-1), 1) := by decide +kernel
theorem dX5_sheet_21 : decode cX5_sheet 21 = .ok (.ireturn, 1) := by decide +kernel
theorem dX5_sheet_22 : decode cX5_sheet 22 = .ok (.iload_n 3, 1) := by decide +kernel
theorem dX5_sheet_23 : decode cX5_sheet 23 = .ok (.ifCond .ge 6, 3) := by decide +kernel
theorem dX5_sheet_26 : decode cX5_sheet 26 = .ok (.bipush (-14), 2) := by decide +kernel
theorem dX5_sheet_28 : decode cX5_sheet 28 = .ok (.ireturn, 1) := by decide +kernel
theorem dX5_sheet_29 : decode cX5_sheet 29 = .ok (.aload_n 0, 1) := by decide +kernel
theorem dX5_sheet_30 : decode cX5_sheet 30 = .ok (.getfield 28, 3) := by decide +kernel
theorem dX5_sheet_33 : decode cX5_sheet 33 = .ok (.iload_n 1, 1) := by decide +kernel
theorem dX5_sheet_34 : decode cX5_sheet 34 = .ok (.aaload, 1) := by decide +kernel
theorem dX5_sheet_35 : decode cX5_sheet 35 = .ok (.iload_n 2, 1) := by decide +kernel
theorem dX5_sheet_36 : decode cX5_sheet 36 = .ok (.iload_n 3, 1) := by decide +kernel
theorem dX5_sheet_37 : decode cX5_sheet 37 = .ok (.invokevirtual 222, 3) := by decide +kernel
theorem dX5_sheet_40 : decode cX5_sheet 40 = .ok (.iload_n 3, 1) := by decide +kernel
theorem dX5_sheet_41 : decode cX5_sheet 41 = .ok (.ireturn, 1) := by decide +kernel
theorem dX5_drop_0 : decode cX5_drop 0 = .ok (.iload_n 1, 1) := by decide +kernel
theorem dX5_drop_1 : decode cX5_drop 1 = .ok (.invokestatic 216, 3) := by decide +kernel
theorem dX5_drop_4 : decode cX5_drop 4 = .ok (.ifCond .ne 5, 3) := by decide +kernel
theorem dX5_drop_7 : decode cX5_drop 7 = .ok (.iconst (-1), 1) := by decide +kernel
theorem dX5_drop_8 : decode cX5_drop 8 = .ok (.ireturn, 1) := by decide +kernel
theorem dX5_drop_9 : decode cX5_drop 9 = .ok (.aload_n 0, 1) := by decide +kernel
theorem dX5_drop_10 : decode cX5_drop 10 = .ok (.getfield 28, 3) := by decide +kernel
theorem dX5_drop_13 : decode cX5_drop 13 = .ok (.iload_n 1, 1) := by decide +kernel
theorem dX5_drop_14 : decode cX5_drop 14 = .ok (.aaload, 1) := by decide +kernel
theorem dX5_drop_15 : decode cX5_drop 15 = .ok (.invokevirtual 226, 3) := by decide +kernel
theorem dX5_drop_18 : decode cX5_drop 18 = .ok (.ifCond .eq 6, 3) := by decide +kernel
theorem dX5_drop_21 : decode cX5_drop 21 = .ok (.bipush (-11), 2) := by decide +kernel
theorem dX5_drop_23 : decode cX5_drop 23 = .ok (.ireturn, 1) := by decide +kernel
theorem dX5_drop_24 : decode cX5_drop 24 = .ok (.aload_n 0, 1) := by decide +kernel
theorem dX5_drop_25 : decode cX5_drop 25 = .ok (.getfield 28, 3) := by decide +kernel
theorem dX5_drop_28 : decode cX5_drop 28 = .ok (.iload_n 1, 1) := by decide +kernel
theorem dX5_drop_29 : decode cX5_drop 29 = .ok (.aaload, 1) := by decide +kernel
theorem dX5_drop_30 : decode cX5_drop 30 = .ok (.invokevirtual 230, 3) := by decide +kernel
theorem dX5_drop_33 : decode cX5_drop 33 = .ok (.ireturn, 1) := by decide +kernel
theorem dX5_item_0 : decode cX5_item 0 = .ok (.aload_n 0, 1) := by decide +kernel
theorem dX5_item_1 : decode cX5_item 1 = .ok (.iload_n 1, 1) := by decide +kernel
theorem dX5_item_2 : decode cX5_item 2 = .ok (.iload_n 2, 1) := by decide +kernel
theorem dX5_item_3 : decode cX5_item 3 = .ok (.iload_n 3, 1) := by decide +kernel
theorem dX5_item_4 : decode cX5_item 4 = .ok (.iconst 1, 1) := by decide +kernel
theorem dX5_item_5 : decode cX5_item 5 = .ok (.invokevirtual 201, 3) := by decide +kernel
theorem dX5_item_8 : decode cX5_item 8 = .ok (.istore 6, 2) := by decide +kernel
theorem dX5_item_10 : decode cX5_item 10 = .ok (.iload 6, 2) := by decide +kernel
theorem dX5_item_12 : decode cX5_item 12 = .ok (.ifCond .ge 6, 3) := by decide +kernel
theorem dX5_item_15 : decode cX5_item 15 = .ok (.iload 6, 2) := by decide +kernel
theorem dX5_item_17 : decode cX5_item 17 = .ok (.ireturn, 1) := by decide +kernel
theorem dX5_item_18 : decode cX5_item 18 = .ok (.aload_n 0, 1) := by decide +kernel
theorem dX5_item_19 : decode cX5_item 19 = .ok (.getfield 28, 3) := by decide +kernel
theorem dX5_item_22 : decode cX5_item 22 = .ok (.iload_n 1, 1) := by decide +kernel
theorem dX5_item_23 : decode cX5_item 23 = .ok (.aaload, 1) := by decide +kernel
theorem dX5_item_24 : decode cX5_item 24 = .ok (.iload_n 3, 1) := by decide +kernel
theorem dX5_item_25 : decode cX5_item 25 = .ok (.lload 4, 2) := by decide +kernel
theorem dX5_item_27 : decode cX5_item 27 = .ok (.invokevirtual 212, 3) := by decide +kernel
theorem dX5_item_30 : decode cX5_item 30 = .ok (.iconst 1, 1) := by decide +kernel
theorem dX5_item_31 : decode cX5_item 31 = .ok (.ireturn, 1) := by decide +kernel
theorem dX5_copy_0 : decode cX5_copy 0 = .ok (.iload_n 1, 1) := by decide +kernel
theorem dX5_copy_1 : decode cX5_copy 1 = .ok (.invokestatic 216, 3) := by decide +kernel
theorem dX5_copy_4 : decode cX5_copy 4 = .ok (.ifCond .eq 10, 3) := by decide +kernel
theorem dX5_copy_7 : decode cX5_copy 7 = .ok (.iload_n 3, 1) := by decide +kernel
theorem dX5_copy_8 : decode cX5_copy 8 = .ok (.invokestatic 216, 3) := by decide +kernel
theorem dX5_copy_11 : decode cX5_copy 11 = .ok (.ifCond .ne 5, 3) := by decide +kernel
theorem dX5_copy_14 : decode cX5_copy 14 = .ok (.iconst (-1), 1) := by decide +kernel
theorem dX5_copy_15 : decode cX5_copy 15 = .ok (.ireturn, 1) := by decide +kernel
theorem dX5_copy_16 : decode cX5_copy 16 = .ok (.aload_n 0, 1) := by decide +kernel
theorem dX5_copy_17 : decode cX5_copy 17 = .ok (.getfield 28, 3) := by decide +kernel
theorem dX5_copy_20 : decode cX5_copy 20 = .ok (.iload_n 1, 1) := by decide +kernel
theorem dX5_copy_21 : decode cX5_copy 21 = .ok (.aaload, 1) := by decide +kernel
theorem dX5_copy_22 : decode cX5_copy 22 = .ok (.astore 6, 2) := by decide +kernel
theorem dX5_copy_24 : decode cX5_copy 24 = .ok (.aload_n 0, 1) := by decide +kernel
theorem dX5_copy_25 : decode cX5_copy 25 = .ok (.getfield 28, 3) := by decide +kernel
theorem dX5_copy_28 : decode cX5_copy 28 = .ok (.iload_n 3, 1) := by decide +kernel
theorem dX5_copy_29 : decode cX5_copy 29 = .ok (.aaload, 1) := by decide +kernel
theorem dX5_copy_30 : decode cX5_copy 30 = .ok (.astore 7, 2) := by decide +kernel
theorem dX5_copy_32 : decode cX5_copy 32 = .ok (.aload 6, 2) := by decide +kernel
theorem dX5_copy_34 : decode cX5_copy 34 = .ok (.invokevirtual 226, 3) := by decide +kernel
theorem dX5_copy_37 : decode cX5_copy 37 = .ok (.ifCond .ne 11, 3) := by decide +kernel
theorem dX5_copy_40 : decode cX5_copy 40 = .ok (.aload 7, 2) := by decide +kernel
theorem dX5_copy_42 : decode cX5_copy 42 = .ok (.invokevirtual 226, 3) := by decide +kernel
theorem dX5_copy_45 : decode cX5_copy 45 = .ok (.ifCond .eq 6, 3) := by decide +kernel
theorem dX5_copy_48 : decode cX5_copy 48 = .ok (.bipush (-11), 2) := by decide +kernel
theorem dX5_copy_50 : decode cX5_copy 50 = .ok (.ireturn, 1) := by decide +kernel
theorem dX5_copy_51 : decode cX5_copy 51 = .ok (.aload 6, 2) := by decide +kernel
theorem dX5_copy_53 : decode cX5_copy 53 = .ok (.getfield 233, 3) := by decide +kernel
theorem dX5_copy_56 : decode cX5_copy 56 = .ok (.aload 7, 2) := by decide +kernel
theorem dX5_copy_58 : decode cX5_copy 58 = .ok (.getfield 233, 3) := by decide +kernel
theorem dX5_copy_61 : decode cX5_copy 61 = .ok (.if_icmp .eq 6, 3) := by decide +kernel
theorem dX5_copy_64 : decode cX5_copy 64 = .ok (.bipush (-12), 2) := by decide +kernel
theorem dX5_copy_66 : decode cX5_copy 66 = .ok (.ireturn, 1) := by decide +kernel
theorem dX5_copy_67 : decode cX5_copy 67 = .ok (.aload 6, 2) := by decide +kernel
theorem dX5_copy_69 : decode cX5_copy 69 = .ok (.iload_n 2, 1) := by decide +kernel
theorem dX5_copy_70 : decode cX5_copy 70 = .ok (.iload 5, 2) := by decide +kernel
theorem dX5_copy_72 : decode cX5_copy 72 = .ok (.invokevirtual 236, 3) := by decide +kernel
theorem dX5_copy_75 : decode cX5_copy 75 = .ok (.ifCond .eq 15, 3) := by decide +kernel
theorem dX5_copy_78 : decode cX5_copy 78 = .ok (.aload 7, 2) := by decide +kernel
theorem dX5_copy_80 : decode cX5_copy 80 = .ok (.iload 4, 2) := by decide +kernel
theorem dX5_copy_82 : decode cX5_copy 82 = .ok (.iload 5, 2) := by decide +kernel
theorem dX5_copy_84 : decode cX5_copy 84 = .ok (.invokevirtual 236, 3) := by decide +kernel
theorem dX5_copy_87 : decode cX5_copy 87 = .ok (.ifCond .ne 6, 3) := by decide +kernel
theorem dX5_copy_90 : decode cX5_copy 90 = .ok (.bipush (-13), 2) := by decide +kernel
theorem dX5_copy_92 : decode cX5_copy 92 = .ok (.ireturn, 1) := by decide +kernel
theorem dX5_copy_93 : decode cX5_copy 93 = .ok (.aload 6, 2) := by decide +kernel
theorem dX5_copy_95 : decode cX5_copy 95 = .ok (.getfield 240, 3) := by decide +kernel
theorem dX5_copy_98 : decode cX5_copy 98 = .ok (.iload_n 2, 1) := by decide +kernel
theorem dX5_copy_99 : decode cX5_copy 99 = .ok (.aload 7, 2) := by decide +kernel
theorem dX5_copy_101 : decode cX5_copy 101 = .ok (.getfield 240, 3) := by decide +kernel
theorem dX5_copy_104 : decode cX5_copy 104 = .ok (.iload 4, 2) := by decide +kernel
theorem dX5_copy_106 : decode cX5_copy 106 = .ok (.iload 5, 2) := by decide +kernel
theorem dX5_copy_108 : decode cX5_copy 108 = .ok (.invokestatic 244, 3) := by decide +kernel
theorem dX5_copy_111 : decode cX5_copy 111 = .ok (.iload 5, 2) := by decide +kernel
theorem dX5_copy_113 : decode cX5_copy 113 = .ok (.ireturn, 1) := by decide +kernel
theorem dX5_isWithin_0 : decode cX5_isWithin 0 = .ok (.iload_n 0, 1) := by decide +kernel
theorem dX5_isWithin_1 : decode cX5_isWithin 1 = .ok (.iload_n 1, 1) := by decide +kernel
theorem dX5_isWithin_2 : decode cX5_isWithin 2 = .ok (.if_icmp .lt 12, 3) := by decide +kernel
theorem dX5_isWithin_5 : decode cX5_isWithin 5 = .ok (.iload_n 0, 1) := by decide +kernel
theorem dX5_isWithin_6 : decode cX5_isWithin 6 = .ok (.iload_n 2, 1) := by decide +kernel
theorem dX5_isWithin_7 : decode cX5_isWithin 7 = .ok (.if_icmp .gt 7, 3) := by decide +kernel
theorem dX5_isWithin_10 : decode cX5_isWithin 10 = .ok (.iconst 1, 1) := by decide +kernel
theorem dX5_isWithin_11 : decode cX5_isWithin 11 = .ok (.goto 4, 3) := by decide +kernel
theorem dX5_isWithin_14 : decode cX5_isWithin 14 = .ok (.iconst 0, 1) := by decide +kernel
theorem dX5_isWithin_15 : decode cX5_isWithin 15 = .ok (.ireturn, 1) := by decide +kernel
theorem dX5_isAngle_0 : decode cX5_isAngle 0 = .ok (.iload_n 0, 1) := by decide +kernel
theorem dX5_isAngle_1 : decode cX5_isAngle 1 = .ok (.iconst 0, 1) := by decide +kernel
theorem dX5_isAngle_2 : decode cX5_isAngle 2 = .ok (.bipush 11, 2) := by decide +kernel
theorem dX5_isAngle_4 : decode cX5_isAngle 4 = .ok (.invokestatic 44, 3) := by decide +kernel
theorem dX5_isAngle_7 : decode cX5_isAngle 7 = .ok (.ireturn, 1) := by decide +kernel
theorem dX5_isKind_0 : decode cX5_isKind 0 = .ok (.iload_n 0, 1) := by decide +kernel
theorem dX5_isKind_1 : decode cX5_isKind 1 = .ok (.iconst 0, 1) := by decide +kernel
theorem dX5_isKind_2 : decode cX5_isKind 2 = .ok (.iconst 3, 1) := by decide +kernel
theorem dX5_isKind_3 : decode cX5_isKind 3 = .ok (.invokestatic 44, 3) := by decide +kernel
theorem dX5_isKind_6 : decode cX5_isKind 6 = .ok (.ireturn, 1) := by decide +kernel
theorem dX5_isPlace_0 : decode cX5_isPlace 0 = .ok (.iload_n 0, 1) := by decide +kernel
theorem dX5_isPlace_1 : decode cX5_isPlace 1 = .ok (.iconst 0, 1) := by decide +kernel
theorem dX5_isPlace_2 : decode cX5_isPlace 2 = .ok (.iconst 3, 1) := by decide +kernel
theorem dX5_isPlace_3 : decode cX5_isPlace 3 = .ok (.invokestatic 44, 3) := by decide +kernel
theorem dX5_isPlace_6 : decode cX5_isPlace 6 = .ok (.ireturn, 1) := by decide +kernel
theorem dX5_isSheet_0 : decode cX5_isSheet 0 = .ok (.iload_n 0, 1) := by decide +kernel
theorem dX5_isSheet_1 : decode cX5_isSheet 1 = .ok (.iconst 0, 1) := by decide +kernel
theorem dX5_isSheet_2 : decode cX5_isSheet 2 = .ok (.iconst 3, 1) := by decide +kernel
theorem dX5_isSheet_3 : decode cX5_isSheet 3 = .ok (.invokestatic 44, 3) := by decide +kernel
theorem dX5_isSheet_6 : decode cX5_isSheet 6 = .ok (.ireturn, 1) := by decide +kernel
theorem dX5_isLane_0 : decode cX5_isLane 0 = .ok (.iload_n 0, 1) := by decide +kernel
theorem dX5_isLane_1 : decode cX5_isLane 1 = .ok (.iconst 0, 1) := by decide +kernel
theorem dX5_isLane_2 : decode cX5_isLane 2 = .ok (.iconst 2, 1) := by decide +kernel
theorem dX5_isLane_3 : decode cX5_isLane 3 = .ok (.invokestatic 44, 3) := by decide +kernel
theorem dX5_isLane_6 : decode cX5_isLane 6 = .ok (.ireturn, 1) := by decide +kernel
theorem dX5_isCam_0 : decode cX5_isCam 0 = .ok (.iload_n 1, 1) := by decide +kernel
theorem dX5_isCam_1 : decode cX5_isCam 1 = .ok (.iconst 0, 1) := by decide +kernel
theorem dX5_isCam_2 : decode cX5_isCam 2 = .ok (.aload_n 0, 1) := by decide +kernel
theorem dX5_isCam_3 : decode cX5_isCam 3 = .ok (.getfield 10, 3) := by decide +kernel
theorem dX5_isCam_6 : decode cX5_isCam 6 = .ok (.getfield 120, 3) := by decide +kernel
theorem dX5_isCam_9 : decode cX5_isCam 9 = .ok (.iconst 1, 1) := by decide +kernel
theorem dX5_isCam_10 : decode cX5_isCam 10 = .ok (.isub, 1) := by decide +kernel
theorem dX5_isCam_11 : decode cX5_isCam 11 = .ok (.invokestatic 44, 3) := by decide +kernel
theorem dX5_isCam_14 : decode cX5_isCam 14 = .ok (.ireturn, 1) := by decide +kernel
theorem dX5_isFigure_0 : decode cX5_isFigure 0 = .ok (.iload_n 1, 1) := by decide +kernel
theorem dX5_isFigure_1 : decode cX5_isFigure 1 = .ok (.iconst 0, 1) := by decide +kernel
theorem dX5_isFigure_2 : decode cX5_isFigure 2 = .ok (.aload_n 0, 1) := by decide +kernel
theorem dX5_isFigure_3 : decode cX5_isFigure 3 = .ok (.getfield 10, 3) := by decide +kernel
theorem dX5_isFigure_6 : decode cX5_isFigure 6 = .ok (.getfield 123, 3) := by decide +kernel
theorem dX5_isFigure_9 : decode cX5_isFigure 9 = .ok (.iconst 1, 1) := by decide +kernel
theorem dX5_isFigure_10 : decode cX5_isFigure 10 = .ok (.isub, 1) := by decide +kernel
theorem dX5_isFigure_11 : decode cX5_isFigure 11 = .ok (.invokestatic 44, 3) := by decide +kernel
theorem dX5_isFigure_14 : decode cX5_isFigure 14 = .ok (.ireturn, 1) := by decide +kernel
theorem dX5_areBytesOfTape_0 : decode cX5_areBytesOfTape 0 = .ok (.iconst 0, 1) := by decide +kernel
theorem dX5_areBytesOfTape_1 : decode cX5_areBytesOfTape 1 = .ok (.istore_n 3, 1) := by decide +kernel
theorem dX5_areBytesOfTape_2 : decode cX5_areBytesOfTape 2 = .ok (.iload_n 3, 1) := by decide +kernel
theorem dX5_areBytesOfTape_3 : decode cX5_areBytesOfTape 3 = .ok (.iload_n 2, 1) := by decide +kernel
theorem dX5_areBytesOfTape_4 : decode cX5_areBytesOfTape 4 = .ok (.if_icmp .ge 26, 3) := by decide +kernel
theorem dX5_areBytesOfTape_7 : decode cX5_areBytesOfTape 7 = .ok (.lload_n 0, 1) := by decide +kernel
theorem dX5_areBytesOfTape_8 : decode cX5_areBytesOfTape 8 = .ok (.iload_n 3, 1) := by decide +kernel
theorem dX5_areBytesOfTape_9 : decode cX5_areBytesOfTape 9 = .ok (.invokestatic 250, 3) := by decide +kernel
theorem dX5_areBytesOfTape_12 : decode cX5_areBytesOfTape 12 = .ok (.bipush 32, 2) := by decide +kernel
theorem dX5_areBytesOfTape_14 : decode cX5_areBytesOfTape 14 = .ok (.bipush 126, 2) := by decide +kernel
theorem dX5_areBytesOfTape_16 : decode cX5_areBytesOfTape 16 = .ok (.invokestatic 44, 3) := by decide +kernel
theorem dX5_areBytesOfTape_19 : decode cX5_areBytesOfTape 19 = .ok (.ifCond .ne 5, 3) := by decide +kernel
theorem dX5_areBytesOfTape_22 : decode cX5_areBytesOfTape 22 = .ok (.iconst 0, 1) := by decide +kernel
theorem dX5_areBytesOfTape_23 : decode cX5_areBytesOfTape 23 = .ok (.ireturn, 1) := by decide +kernel
theorem dX5_areBytesOfTape_24 : decode cX5_areBytesOfTape 24 = .ok (.iinc 3 1, 3) := by decide +kernel
theorem dX5_areBytesOfTape_27 : decode cX5_areBytesOfTape 27 = .ok (.goto (-25), 3) := by decide +kernel
theorem dX5_areBytesOfTape_30 : decode cX5_areBytesOfTape 30 = .ok (.iconst 1, 1) := by decide +kernel
theorem dX5_areBytesOfTape_31 : decode cX5_areBytesOfTape 31 = .ok (.ireturn, 1) := by decide +kernel
theorem dX5_refusalOf_0 : decode cX5_refusalOf 0 = .ok (.iload_n 1, 1) := by decide +kernel
theorem dX5_refusalOf_1 : decode cX5_refusalOf 1 = .ok (.invokestatic 216, 3) := by decide +kernel
theorem dX5_refusalOf_4 : decode cX5_refusalOf 4 = .ok (.ifCond .eq 10, 3) := by decide +kernel
theorem dX5_refusalOf_7 : decode cX5_refusalOf 7 = .ok (.iload_n 2, 1) := by decide +kernel
theorem dX5_refusalOf_8 : decode cX5_refusalOf 8 = .ok (.invokestatic 219, 3) := by decide +kernel
theorem dX5_refusalOf_11 : decode cX5_refusalOf 11 = .ok (.ifCond .ne 5, 3) := by decide +kernel
theorem dX5_refusalOf_14 : decode cX5_refusalOf 14 = .ok (.iconst (-1), 1) := by decide +kernel
theorem dX5_refusalOf_15 : decode cX5_refusalOf 15 = .ok (.ireturn, 1) := by decide +kernel
theorem dX5_refusalOf_16 : decode cX5_refusalOf 16 = .ok (.aload_n 0, 1) := by decide +kernel
theorem dX5_refusalOf_17 : decode cX5_refusalOf 17 = .ok (.getfield 28, 3) := by decide +kernel
theorem dX5_refusalOf_20 : decode cX5_refusalOf 20 = .ok (.iload_n 1, 1) := by decide +kernel
theorem dX5_refusalOf_21 : decode cX5_refusalOf 21 = .ok (.aaload, 1) := by decide +kernel
theorem dX5_refusalOf_22 : decode cX5_refusalOf 22 = .ok (.invokevirtual 226, 3) := by decide +kernel
theorem dX5_refusalOf_25 : decode cX5_refusalOf 25 = .ok (.ifCond .eq 6, 3) := by decide +kernel
theorem dX5_refusalOf_28 : decode cX5_refusalOf 28 = .ok (.bipush (-11), 2) := by decide +kernel
theorem dX5_refusalOf_30 : decode cX5_refusalOf 30 = .ok (.ireturn, 1) := by decide +kernel
theorem dX5_refusalOf_31 : decode cX5_refusalOf 31 = .ok (.aload_n 0, 1) := by decide +kernel
theorem dX5_refusalOf_32 : decode cX5_refusalOf 32 = .ok (.getfield 28, 3) := by decide +kernel
theorem dX5_refusalOf_35 : decode cX5_refusalOf 35 = .ok (.iload_n 1, 1) := by decide +kernel
theorem dX5_refusalOf_36 : decode cX5_refusalOf 36 = .ok (.aaload, 1) := by decide +kernel
theorem dX5_refusalOf_37 : decode cX5_refusalOf 37 = .ok (.getfield 233, 3) := by decide +kernel
theorem dX5_refusalOf_40 : decode cX5_refusalOf 40 = .ok (.iload_n 2, 1) := by decide +kernel
theorem dX5_refusalOf_41 : decode cX5_refusalOf 41 = .ok (.if_icmp .eq 6, 3) := by decide +kernel
theorem dX5_refusalOf_44 : decode cX5_refusalOf 44 = .ok (.bipush (-12), 2) := by decide +kernel
theorem dX5_refusalOf_46 : decode cX5_refusalOf 46 = .ok (.ireturn, 1) := by decide +kernel
theorem dX5_refusalOf_47 : decode cX5_refusalOf 47 = .ok (.aload_n 0, 1) := by decide +kernel
theorem dX5_refusalOf_48 : decode cX5_refusalOf 48 = .ok (.getfield 28, 3) := by decide +kernel
theorem dX5_refusalOf_51 : decode cX5_refusalOf 51 = .ok (.iload_n 1, 1) := by decide +kernel
theorem dX5_refusalOf_52 : decode cX5_refusalOf 52 = .ok (.aaload, 1) := by decide +kernel
theorem dX5_refusalOf_53 : decode cX5_refusalOf 53 = .ok (.iload_n 3, 1) := by decide +kernel
theorem dX5_refusalOf_54 : decode cX5_refusalOf 54 = .ok (.iload 4, 2) := by decide +kernel
theorem dX5_refusalOf_56 : decode cX5_refusalOf 56 = .ok (.invokevirtual 236, 3) := by decide +kernel
theorem dX5_refusalOf_59 : decode cX5_refusalOf 59 = .ok (.ifCond .eq 7, 3) := by decide +kernel
theorem dX5_refusalOf_62 : decode cX5_refusalOf 62 = .ok (.iconst 0, 1) := by decide +kernel
theorem dX5_refusalOf_63 : decode cX5_refusalOf 63 = .ok (.goto 5, 3) := by decide +kernel
theorem dX5_refusalOf_66 : decode cX5_refusalOf 66 = .ok (.bipush (-13), 2) := by decide +kernel
theorem dX5_refusalOf_68 : decode cX5_refusalOf 68 = .ok (.ireturn, 1) := by decide +kernel
theorem dX5_byteOf_0 : decode cX5_byteOf 0 = .ok (.lload_n 0, 1) := by decide +kernel
theorem dX5_byteOf_1 : decode cX5_byteOf 1 = .ok (.bipush 8, 2) := by decide +kernel
theorem dX5_byteOf_3 : decode cX5_byteOf 3 = .ok (.iload_n 2, 1) := by decide +kernel
theorem dX5_byteOf_4 : decode cX5_byteOf 4 = .ok (.imul, 1) := by decide +kernel
theorem dX5_byteOf_5 : decode cX5_byteOf 5 = .ok (.lushr, 1) := by decide +kernel
theorem dX5_byteOf_6 : decode cX5_byteOf 6 = .ok (.l2i, 1) := by decide +kernel
theorem dX5_byteOf_7 : decode cX5_byteOf 7 = .ok (.sipush 255, 3) := by decide +kernel
theorem dX5_byteOf_10 : decode cX5_byteOf 10 = .ok (.iand, 1) := by decide +kernel
theorem dX5_byteOf_11 : decode cX5_byteOf 11 = .ok (.ireturn, 1) := by decide +kernel
theorem dX5_angleOf_0 : decode cX5_angleOf 0 = .ok (.iload_n 0, 1) := by decide +kernel
theorem dX5_angleOf_1 : decode cX5_angleOf 1 = .ok (.bipush 12, 2) := by decide +kernel
theorem dX5_angleOf_3 : decode cX5_angleOf 3 = .ok (.invokestatic 253, 3) := by decide +kernel
theorem dX5_angleOf_6 : decode cX5_angleOf 6 = .ok (.ireturn, 1) := by decide +kernel
theorem dX5_movedOn_0 : decode cX5_movedOn 0 = .ok (.iload_n 1, 1) := by decide +kernel
theorem dX5_movedOn_1 : decode cX5_movedOn 1 = .ok (.invokestatic 259, 3) := by decide +kernel
theorem dX5_movedOn_4 : decode cX5_movedOn 4 = .ok (.istore_n 2, 1) := by decide +kernel
theorem dX5_movedOn_5 : decode cX5_movedOn 5 = .ok (.iload_n 0, 1) := by decide +kernel
theorem dX5_movedOn_6 : decode cX5_movedOn 6 = .ok (.iload_n 2, 1) := by decide +kernel
theorem dX5_movedOn_7 : decode cX5_movedOn 7 = .ok (.ishl, 1) := by decide +kernel
theorem dX5_movedOn_8 : decode cX5_movedOn 8 = .ok (.iload_n 0, 1) := by decide +kernel
theorem dX5_movedOn_9 : decode cX5_movedOn 9 = .ok (.bipush 12, 2) := by decide +kernel
theorem dX5_movedOn_11 : decode cX5_movedOn 11 = .ok (.iload_n 2, 1) := by decide +kernel
theorem dX5_movedOn_12 : decode cX5_movedOn 12 = .ok (.isub, 1) := by decide +kernel
theorem dX5_movedOn_13 : decode cX5_movedOn 13 = .ok (.iushr, 1) := by decide +kernel
theorem dX5_movedOn_14 : decode cX5_movedOn 14 = .ok (.ior, 1) := by decide +kernel
theorem dX5_movedOn_15 : decode cX5_movedOn 15 = .ok (.sipush 4095, 3) := by decide +kernel
theorem dX5_movedOn_18 : decode cX5_movedOn 18 = .ok (.iand, 1) := by decide +kernel
theorem dX5_movedOn_19 : decode cX5_movedOn 19 = .ok (.ireturn, 1) := by decide +kernel
theorem dX5_takeTape_0 : decode cX5_takeTape 0 = .ok (.aload_n 0, 1) := by decide +kernel
theorem dX5_takeTape_1 : decode cX5_takeTape 1 = .ok (.getfield 22, 3) := by decide +kernel
theorem dX5_takeTape_4 : decode cX5_takeTape 4 = .ok (.iload_n 1, 1) := by decide +kernel
theorem dX5_takeTape_5 : decode cX5_takeTape 5 = .ok (.invokevirtual 262, 3) := by decide +kernel
theorem dX5_takeTape_8 : decode cX5_takeTape 8 = .ok (.istore_n 2, 1) := by decide +kernel
theorem dX5_takeTape_9 : decode cX5_takeTape 9 = .ok (.aload_n 0, 1) := by decide +kernel
theorem dX5_takeTape_10 : decode cX5_takeTape 10 = .ok (.getfield 22, 3) := by decide +kernel
theorem dX5_takeTape_13 : decode cX5_takeTape 13 = .ok (.invokevirtual 265, 3) := by decide +kernel
theorem dX5_takeTape_16 : decode cX5_takeTape 16 = .ok (.iload_n 2, 1) := by decide +kernel
theorem dX5_takeTape_17 : decode cX5_takeTape 17 = .ok (.ireturn, 1) := by decide +kernel
theorem dX5_stepsIn_0 : decode cX5_stepsIn 0 = .ok (.iconst 0, 1) := by decide +kernel
theorem dX5_stepsIn_1 : decode cX5_stepsIn 1 = .ok (.istore_n 1, 1) := by decide +kernel
theorem dX5_stepsIn_2 : decode cX5_stepsIn 2 = .ok (.iconst 0, 1) := by decide +kernel
theorem dX5_stepsIn_3 : decode cX5_stepsIn 3 = .ok (.istore_n 2, 1) := by decide +kernel
theorem dX5_stepsIn_4 : decode cX5_stepsIn 4 = .ok (.iload_n 2, 1) := by decide +kernel
theorem dX5_stepsIn_5 : decode cX5_stepsIn 5 = .ok (.bipush 12, 2) := by decide +kernel
theorem dX5_stepsIn_7 : decode cX5_stepsIn 7 = .ok (.if_icmp .ge 29, 3) := by decide +kernel
theorem dX5_stepsIn_10 : decode cX5_stepsIn 10 = .ok (.iload_n 1, 1) := by decide +kernel
theorem dX5_stepsIn_11 : decode cX5_stepsIn 11 = .ok (.iconst 1, 1) := by decide +kernel
theorem dX5_stepsIn_12 : decode cX5_stepsIn 12 = .ok (.aload_n 0, 1) := by decide +kernel
theorem dX5_stepsIn_13 : decode cX5_stepsIn 13 = .ok (.iload_n 2, 1) := by decide +kernel
theorem dX5_stepsIn_14 : decode cX5_stepsIn 14 = .ok (.iaload, 1) := by decide +kernel
theorem dX5_stepsIn_15 : decode cX5_stepsIn 15 = .ok (.aload_n 0, 1) := by decide +kernel
theorem dX5_stepsIn_16 : decode cX5_stepsIn 16 = .ok (.iload_n 2, 1) := by decide +kernel
theorem dX5_stepsIn_17 : decode cX5_stepsIn 17 = .ok (.iconst 1, 1) := by decide +kernel
theorem dX5_stepsIn_18 : decode cX5_stepsIn 18 = .ok (.iadd, 1) := by decide +kernel
theorem dX5_stepsIn_19 : decode cX5_stepsIn 19 = .ok (.invokestatic 259, 3) := by decide +kernel
theorem dX5_stepsIn_22 : decode cX5_stepsIn 22 = .ok (.iaload, 1) := by decide +kernel
theorem dX5_stepsIn_23 : decode cX5_stepsIn 23 = .ok (.isub, 1) := by decide +kernel
theorem dX5_stepsIn_24 : decode cX5_stepsIn 24 = .ok (.invokestatic 268, 3) := by decide +kernel
theorem dX5_stepsIn_27 : decode cX5_stepsIn 27 = .ok (.ishl, 1) := by decide +kernel
theorem dX5_stepsIn_28 : decode cX5_stepsIn 28 = .ok (.ior, 1) := by decide +kernel
theorem dX5_stepsIn_29 : decode cX5_stepsIn 29 = .ok (.istore_n 1, 1) := by decide +kernel
theorem dX5_stepsIn_30 : decode cX5_stepsIn 30 = .ok (.iinc 2 1, 3) := by decide +kernel
theorem dX5_stepsIn_33 : decode cX5_stepsIn 33 = .ok (.goto (-29), 3) := by decide +kernel
theorem dX5_stepsIn_36 : decode cX5_stepsIn 36 = .ok (.iload_n 1, 1) := by decide +kernel
theorem dX5_stepsIn_37 : decode cX5_stepsIn 37 = .ok (.ireturn, 1) := by decide +kernel
theorem dX5_lessenInto_0 : decode cX5_lessenInto 0 = .ok (.iconst 0, 1) := by decide +kernel
theorem dX5_lessenInto_1 : decode cX5_lessenInto 1 = .ok (.istore_n 3, 1) := by decide +kernel
theorem dX5_lessenInto_2 : decode cX5_lessenInto 2 = .ok (.iload_n 3, 1) := by decide +kernel
theorem dX5_lessenInto_3 : decode cX5_lessenInto 3 = .ok (.bipush 12, 2) := by decide +kernel
theorem dX5_lessenInto_5 : decode cX5_lessenInto 5 = .ok (.if_icmp .ge 21, 3) := by decide +kernel
theorem dX5_lessenInto_8 : decode cX5_lessenInto 8 = .ok (.aload_n 0, 1) := by decide +kernel
theorem dX5_lessenInto_9 : decode cX5_lessenInto 9 = .ok (.iload_n 3, 1) := by decide +kernel
theorem dX5_lessenInto_10 : decode cX5_lessenInto 10 = .ok (.aload_n 1, 1) := by decide +kernel
theorem dX5_lessenInto_11 : decode cX5_lessenInto 11 = .ok (.iload_n 3, 1) := by decide +kernel
theorem dX5_lessenInto_12 : decode cX5_lessenInto 12 = .ok (.iaload, 1) := by decide +kernel
theorem dX5_lessenInto_13 : decode cX5_lessenInto 13 = .ok (.iload_n 2, 1) := by decide +kernel
theorem dX5_lessenInto_14 : decode cX5_lessenInto 14 = .ok (.isub, 1) := by decide +kernel
theorem dX5_lessenInto_15 : decode cX5_lessenInto 15 = .ok (.iconst 0, 1) := by decide +kernel
theorem dX5_lessenInto_16 : decode cX5_lessenInto 16 = .ok (.invokestatic 271, 3) := by decide +kernel
theorem dX5_lessenInto_19 : decode cX5_lessenInto 19 = .ok (.iastore, 1) := by decide +kernel
theorem dX5_lessenInto_20 : decode cX5_lessenInto 20 = .ok (.iinc 3 1, 3) := by decide +kernel
theorem dX5_lessenInto_23 : decode cX5_lessenInto 23 = .ok (.goto (-21), 3) := by decide +kernel
theorem dX5_lessenInto_26 : decode cX5_lessenInto 26 = .ok (.return_, 1) := by decide +kernel
theorem dX5_wornBy_0 : decode cX5_wornBy 0 = .ok (.iconst 0, 1) := by decide +kernel
theorem dX5_wornBy_1 : decode cX5_wornBy 1 = .ok (.istore_n 2, 1) := by decide +kernel
theorem dX5_wornBy_2 : decode cX5_wornBy 2 = .ok (.iconst 0, 1) := by decide +kernel
theorem dX5_wornBy_3 : decode cX5_wornBy 3 = .ok (.istore_n 3, 1) := by decide +kernel
theorem dX5_wornBy_4 : decode cX5_wornBy 4 = .ok (.iload_n 3, 1) := by decide +kernel
theorem dX5_wornBy_5 : decode cX5_wornBy 5 = .ok (.iload_n 1, 1) := by decide +kernel
theorem dX5_wornBy_6 : decode cX5_wornBy 6 = .ok (.if_icmp .ge 16, 3) := by decide +kernel
theorem dX5_wornBy_9 : decode cX5_wornBy 9 = .ok (.iload_n 2, 1) := by decide +kernel
theorem dX5_wornBy_10 : decode cX5_wornBy 10 = .ok (.aload_n 0, 1) := by decide +kernel
theorem dX5_wornBy_11 : decode cX5_wornBy 11 = .ok (.invokestatic 274, 3) := by decide +kernel
theorem dX5_wornBy_14 : decode cX5_wornBy 14 = .ok (.ior, 1) := by decide +kernel
theorem dX5_wornBy_15 : decode cX5_wornBy 15 = .ok (.istore_n 2, 1) := by decide +kernel
theorem dX5_wornBy_16 : decode cX5_wornBy 16 = .ok (.iinc 3 1, 3) := by decide +kernel
theorem dX5_wornBy_19 : decode cX5_wornBy 19 = .ok (.goto (-15), 3) := by decide +kernel
theorem dX5_wornBy_22 : decode cX5_wornBy 22 = .ok (.iload_n 2, 1) := by decide +kernel
theorem dX5_wornBy_23 : decode cX5_wornBy 23 = .ok (.invokestatic 277, 3) := by decide +kernel
theorem dX5_wornBy_26 : decode cX5_wornBy 26 = .ok (.ireturn, 1) := by decide +kernel
theorem dX5_wornByOneTurn_0 : decode cX5_wornByOneTurn 0 = .ok (.iconst 0, 1) := by decide +kernel
theorem dX5_wornByOneTurn_1 : decode cX5_wornByOneTurn 1 = .ok (.istore_n 1, 1) := by decide +kernel
theorem dX5_wornByOneTurn_2 : decode cX5_wornByOneTurn 2 = .ok (.iconst 0, 1) := by decide +kernel
theorem dX5_wornByOneTurn_3 : decode cX5_wornByOneTurn 3 = .ok (.istore_n 2, 1) := by decide +kernel
theorem dX5_wornByOneTurn_4 : decode cX5_wornByOneTurn 4 = .ok (.iload_n 2, 1) := by decide +kernel
theorem dX5_wornByOneTurn_5 : decode cX5_wornByOneTurn 5 = .ok (.bipush 12, 2) := by decide +kernel
theorem dX5_wornByOneTurn_7 : decode cX5_wornByOneTurn 7 = .ok (.if_icmp .ge 31, 3) := by decide +kernel
theorem dX5_wornByOneTurn_10 : decode cX5_wornByOneTurn 10 = .ok (.aload_n 0, 1) := by decide +kernel
theorem dX5_wornByOneTurn_11 : decode cX5_wornByOneTurn 11 = .ok (.iload_n 2, 1) := by decide +kernel
theorem dX5_wornByOneTurn_12 : decode cX5_wornByOneTurn 12 = .ok (.iaload, 1) := by decide +kernel
theorem dX5_wornByOneTurn_13 : decode cX5_wornByOneTurn 13 = .ok (.aload_n 0, 1) := by decide +kernel
theorem dX5_wornByOneTurn_14 : decode cX5_wornByOneTurn 14 = .ok (.iload_n 2, 1) := by decide +kernel
theorem dX5_wornByOneTurn_15 : decode cX5_wornByOneTurn 15 = .ok (.iconst 1, 1) := by decide +kernel
theorem dX5_wornByOneTurn_16 : decode cX5_wornByOneTurn 16 = .ok (.iadd, 1) := by decide +kernel
theorem dX5_wornByOneTurn_17 : decode cX5_wornByOneTurn 17 = .ok (.invokestatic 259, 3) := by decide +kernel
theorem dX5_wornByOneTurn_20 : decode cX5_wornByOneTurn 20 = .ok (.iaload, 1) := by decide +kernel
theorem dX5_wornByOneTurn_21 : decode cX5_wornByOneTurn 21 = .ok (.isub, 1) := by decide +kernel
theorem dX5_wornByOneTurn_22 : decode cX5_wornByOneTurn 22 = .ok (.iconst 2, 1) := by decide +kernel
theorem dX5_wornByOneTurn_23 : decode cX5_wornByOneTurn 23 = .ok (.if_icmp .le 9, 3) := by decide +kernel
theorem dX5_wornByOneTurn_26 : decode cX5_wornByOneTurn 26 = .ok (.iload_n 1, 1) := by decide +kernel
theorem dX5_wornByOneTurn_27 : decode cX5_wornByOneTurn 27 = .ok (.iconst 1, 1) := by decide +kernel
theorem dX5_wornByOneTurn_28 : decode cX5_wornByOneTurn 28 = .ok (.iload_n 2, 1) := by decide +kernel
theorem dX5_wornByOneTurn_29 : decode cX5_wornByOneTurn 29 = .ok (.ishl, 1) := by decide +kernel
theorem dX5_wornByOneTurn_30 : decode cX5_wornByOneTurn 30 = .ok (.ior, 1) := by decide +kernel
theorem dX5_wornByOneTurn_31 : decode cX5_wornByOneTurn 31 = .ok (.istore_n 1, 1) := by decide +kernel
theorem dX5_wornByOneTurn_32 : decode cX5_wornByOneTurn 32 = .ok (.iinc 2 1, 3) := by decide +kernel
theorem dX5_wornByOneTurn_35 : decode cX5_wornByOneTurn 35 = .ok (.goto (-31), 3) := by decide +kernel
theorem dX5_wornByOneTurn_38 : decode cX5_wornByOneTurn 38 = .ok (.iconst 0, 1) := by decide +kernel
theorem dX5_wornByOneTurn_39 : decode cX5_wornByOneTurn 39 = .ok (.istore_n 2, 1) := by decide +kernel
theorem dX5_wornByOneTurn_40 : decode cX5_wornByOneTurn 40 = .ok (.iload_n 2, 1) := by decide +kernel
theorem dX5_wornByOneTurn_41 : decode cX5_wornByOneTurn 41 = .ok (.bipush 12, 2) := by decide +kernel
theorem dX5_wornByOneTurn_43 : decode cX5_wornByOneTurn 43 = .ok (.if_icmp .ge 20, 3) := by decide +kernel
theorem dX5_wornByOneTurn_46 : decode cX5_wornByOneTurn 46 = .ok (.aload_n 0, 1) := by decide +kernel
theorem dX5_wornByOneTurn_47 : decode cX5_wornByOneTurn 47 = .ok (.iload_n 2, 1) := by decide +kernel
theorem dX5_wornByOneTurn_48 : decode cX5_wornByOneTurn 48 = .ok (.dup2, 1) := by decide +kernel
theorem dX5_wornByOneTurn_49 : decode cX5_wornByOneTurn 49 = .ok (.iaload, 1) := by decide +kernel
theorem dX5_wornByOneTurn_50 : decode cX5_wornByOneTurn 50 = .ok (.iload_n 1, 1) := by decide +kernel
theorem dX5_wornByOneTurn_51 : decode cX5_wornByOneTurn 51 = .ok (.iload_n 2, 1) := by decide +kernel
theorem dX5_wornByOneTurn_52 : decode cX5_wornByOneTurn 52 = .ok (.ishr, 1) := by decide +kernel
theorem dX5_wornByOneTurn_53 : decode cX5_wornByOneTurn 53 = .ok (.iconst 1, 1) := by decide +kernel
theorem dX5_wornByOneTurn_54 : decode cX5_wornByOneTurn 54 = .ok (.iand, 1) := by decide +kernel
theorem dX5_wornByOneTurn_55 : decode cX5_wornByOneTurn 55 = .ok (.isub, 1) := by decide +kernel
theorem dX5_wornByOneTurn_56 : decode cX5_wornByOneTurn 56 = .ok (.iastore, 1) := by decide +kernel
theorem dX5_wornByOneTurn_57 : decode cX5_wornByOneTurn 57 = .ok (.iinc 2 1, 3) := by decide +kernel
theorem dX5_wornByOneTurn_60 : decode cX5_wornByOneTurn 60 = .ok (.goto (-20), 3) := by decide +kernel
theorem dX5_wornByOneTurn_63 : decode cX5_wornByOneTurn 63 = .ok (.iload_n 1, 1) := by decide +kernel
theorem dX5_wornByOneTurn_64 : decode cX5_wornByOneTurn 64 = .ok (.ireturn, 1) := by decide +kernel
theorem dX5_isSo_0 : decode cX5_isSo 0 = .ok (.iconst 0, 1) := by decide +kernel
theorem dX5_isSo_1 : decode cX5_isSo 1 = .ok (.istore 4, 2) := by decide +kernel
theorem dX5_isSo_3 : decode cX5_isSo 3 = .ok (.iload 4, 2) := by decide +kernel
theorem dX5_isSo_5 : decode cX5_isSo 5 = .ok (.aload_n 0, 1) := by decide +kernel
theorem dX5_isSo_6 : decode cX5_isSo 6 = .ok (.getfield 10, 3) := by decide +kernel
theorem dX5_isSo_9 : decode cX5_isSo 9 = .ok (.getfield 123, 3) := by decide +kernel
theorem dX5_isSo_12 : decode cX5_isSo 12 = .ok (.if_icmp .ge 79, 3) := by decide +kernel
theorem dX5_isSo_15 : decode cX5_isSo 15 = .ok (.aload_n 0, 1) := by decide +kernel
theorem dX5_isSo_16 : decode cX5_isSo 16 = .ok (.getfield 10, 3) := by decide +kernel
theorem dX5_isSo_19 : decode cX5_isSo 19 = .ok (.getfield 91, 3) := by decide +kernel
theorem dX5_isSo_22 : decode cX5_isSo 22 = .ok (.iload 4, 2) := by decide +kernel
theorem dX5_isSo_24 : decode cX5_isSo 24 = .ok (.aaload, 1) := by decide +kernel
theorem dX5_isSo_25 : decode cX5_isSo 25 = .ok (.astore 5, 2) := by decide +kernel
theorem dX5_isSo_27 : decode cX5_isSo 27 = .ok (.aload 5, 2) := by decide +kernel
theorem dX5_isSo_29 : decode cX5_isSo 29 = .ok (.getfield 136, 3) := by decide +kernel
theorem dX5_isSo_32 : decode cX5_isSo 32 = .ok (.iload_n 3, 1) := by decide +kernel
theorem dX5_isSo_33 : decode cX5_isSo 33 = .ok (.if_icmp .ne 10, 3) := by decide +kernel
theorem dX5_isSo_36 : decode cX5_isSo 36 = .ok (.aload_n 0, 1) := by decide +kernel
theorem dX5_isSo_37 : decode cX5_isSo 37 = .ok (.getfield 40, 3) := by decide +kernel
theorem dX5_isSo_40 : decode cX5_isSo 40 = .ok (.goto 16, 3) := by decide +kernel
theorem dX5_isSo_43 : decode cX5_isSo 43 = .ok (.aload_n 0, 1) := by decide +kernel
theorem dX5_isSo_44 : decode cX5_isSo 44 = .ok (.getfield 10, 3) := by decide +kernel
theorem dX5_isSo_47 : decode cX5_isSo 47 = .ok (.getfield 74, 3) := by decide +kernel
theorem dX5_isSo_50 : decode cX5_isSo 50 = .ok (.aload 5, 2) := by decide +kernel
theorem dX5_isSo_52 : decode cX5_isSo 52 = .ok (.getfield 136, 3) := by decide +kernel
theorem dX5_isSo_55 : decode cX5_isSo 55 = .ok (.aaload, 1) := by decide +kernel
theorem dX5_isSo_56 : decode cX5_isSo 56 = .ok (.astore 6, 2) := by decide +kernel
theorem dX5_isSo_58 : decode cX5_isSo 58 = .ok (.aload_n 1, 1) := by decide +kernel
theorem dX5_isSo_59 : decode cX5_isSo 59 = .ok (.getfield 240, 3) := by decide +kernel
theorem dX5_isSo_62 : decode cX5_isSo 62 = .ok (.iload_n 2, 1) := by decide +kernel
theorem dX5_isSo_63 : decode cX5_isSo 63 = .ok (.iload 4, 2) := by decide +kernel
theorem dX5_isSo_65 : decode cX5_isSo 65 = .ok (.iadd, 1) := by decide +kernel
theorem dX5_isSo_66 : decode cX5_isSo 66 = .ok (.laload, 1) := by decide +kernel
theorem dX5_isSo_67 : decode cX5_isSo 67 = .ok (.aload_n 0, 1) := by decide +kernel
theorem dX5_isSo_68 : decode cX5_isSo 68 = .ok (.getfield 10, 3) := by decide +kernel
theorem dX5_isSo_71 : decode cX5_isSo 71 = .ok (.aload 6, 2) := by decide +kernel
theorem dX5_isSo_73 : decode cX5_isSo 73 = .ok (.aload 5, 2) := by decide +kernel
theorem dX5_isSo_75 : decode cX5_isSo 75 = .ok (.invokevirtual 282, 3) := by decide +kernel
theorem dX5_isSo_78 : decode cX5_isSo 78 = .ok (.i2l, 1) := by decide +kernel
theorem dX5_isSo_79 : decode cX5_isSo 79 = .ok (.lcmp, 1) := by decide +kernel
theorem dX5_isSo_80 : decode cX5_isSo 80 = .ok (.ifCond .eq 5, 3) := by decide +kernel
theorem dX5_isSo_83 : decode cX5_isSo 83 = .ok (.iconst 0, 1) := by decide +kernel
theorem dX5_isSo_84 : decode cX5_isSo 84 = .ok (.ireturn, 1) := by decide +kernel
theorem dX5_isSo_85 : decode cX5_isSo 85 = .ok (.iinc 4 1, 3) := by decide +kernel
theorem dX5_isSo_88 : decode cX5_isSo 88 = .ok (.goto (-85), 3) := by decide +kernel
theorem dX5_isSo_91 : decode cX5_isSo 91 = .ok (.iconst 1, 1) := by decide +kernel
theorem dX5_isSo_92 : decode cX5_isSo 92 = .ok (.ireturn, 1) := by decide +kernel
theorem dX5_shareCams_0 : decode cX5_shareCams 0 = .ok (.aload_n 0, 1) := by decide +kernel
theorem dX5_shareCams_1 : decode cX5_shareCams 1 = .ok (.getfield 36, 3) := by decide +kernel
theorem dX5_shareCams_4 : decode cX5_shareCams 4 = .ok (.aload_n 0, 1) := by decide +kernel
theorem dX5_shareCams_5 : decode cX5_shareCams 5 = .ok (.getfield 10, 3) := by decide +kernel
theorem dX5_shareCams_8 : decode cX5_shareCams 8 = .ok (.getfield 91, 3) := by decide +kernel
theorem dX5_shareCams_11 : decode cX5_shareCams 11 = .ok (.aload_n 0, 1) := by decide +kernel
theorem dX5_shareCams_12 : decode cX5_shareCams 12 = .ok (.getfield 10, 3) := by decide +kernel
theorem dX5_shareCams_15 : decode cX5_shareCams 15 = .ok (.getfield 123, 3) := by decide +kernel
theorem dX5_shareCams_18 : decode cX5_shareCams 18 = .ok (.invokevirtual 286, 3) := by decide +kernel
theorem dX5_shareCams_21 : decode cX5_shareCams 21 = .ok (.iconst 0, 1) := by decide +kernel
theorem dX5_shareCams_22 : decode cX5_shareCams 22 = .ok (.istore_n 1, 1) := by decide +kernel
theorem dX5_shareCams_23 : decode cX5_shareCams 23 = .ok (.iload_n 1, 1) := by decide +kernel
theorem dX5_shareCams_24 : decode cX5_shareCams 24 = .ok (.aload_n 0, 1) := by decide +kernel
theorem dX5_shareCams_25 : decode cX5_shareCams 25 = .ok (.getfield 10, 3) := by decide +kernel
theorem dX5_shareCams_28 : decode cX5_shareCams 28 = .ok (.getfield 123, 3) := by decide +kernel
theorem dX5_shareCams_31 : decode cX5_shareCams 31 = .ok (.if_icmp .ge 31, 3) := by decide +kernel
theorem dX5_shareCams_34 : decode cX5_shareCams 34 = .ok (.aload_n 0, 1) := by decide +kernel
theorem dX5_shareCams_35 : decode cX5_shareCams 35 = .ok (.getfield 36, 3) := by decide +kernel
theorem dX5_shareCams_38 : decode cX5_shareCams 38 = .ok (.aload_n 0, 1) := by decide +kernel
theorem dX5_shareCams_39 : decode cX5_shareCams 39 = .ok (.getfield 10, 3) := by decide +kernel
theorem dX5_shareCams_42 : decode cX5_shareCams 42 = .ok (.getfield 123, 3) := by decide +kernel
theorem dX5_shareCams_45 : decode cX5_shareCams 45 = .ok (.iconst 0, 1) := by decide +kernel
theorem dX5_shareCams_46 : decode cX5_shareCams 46 = .ok (.iconst 0, 1) := by decide +kernel
theorem dX5_shareCams_47 : decode cX5_shareCams 47 = .ok (.iload_n 1, 1) := by decide +kernel
theorem dX5_shareCams_48 : decode cX5_shareCams 48 = .ok (.invokestatic 290, 3) := by decide +kernel
theorem dX5_shareCams_51 : decode cX5_shareCams 51 = .ok (.ifCond .eq 5, 3) := by decide +kernel
theorem dX5_shareCams_54 : decode cX5_shareCams 54 = .ok (.iload_n 1, 1) := by decide +kernel
theorem dX5_shareCams_55 : decode cX5_shareCams 55 = .ok (.ireturn, 1) := by decide +kernel
theorem dX5_shareCams_56 : decode cX5_shareCams 56 = .ok (.iinc 1 1, 3) := by decide +kernel
theorem dX5_shareCams_59 : decode cX5_shareCams 59 = .ok (.goto (-36), 3) := by decide +kernel
theorem dX5_shareCams_62 : decode cX5_shareCams 62 = .ok (.aload_n 0, 1) := by decide +kernel
theorem dX5_shareCams_63 : decode cX5_shareCams 63 = .ok (.getfield 36, 3) := by decide +kernel
theorem dX5_shareCams_66 : decode cX5_shareCams 66 = .ok (.aload_n 0, 1) := by decide +kernel
theorem dX5_shareCams_67 : decode cX5_shareCams 67 = .ok (.getfield 10, 3) := by decide +kernel
theorem dX5_shareCams_70 : decode cX5_shareCams 70 = .ok (.getfield 123, 3) := by decide +kernel
theorem dX5_shareCams_73 : decode cX5_shareCams 73 = .ok (.iconst 0, 1) := by decide +kernel
theorem dX5_shareCams_74 : decode cX5_shareCams 74 = .ok (.iconst 0, 1) := by decide +kernel
theorem dX5_shareCams_75 : decode cX5_shareCams 75 = .ok (.aload_n 0, 1) := by decide +kernel
theorem dX5_shareCams_76 : decode cX5_shareCams 76 = .ok (.getfield 10, 3) := by decide +kernel
theorem dX5_shareCams_79 : decode cX5_shareCams 79 = .ok (.getfield 123, 3) := by decide +kernel
theorem dX5_shareCams_82 : decode cX5_shareCams 82 = .ok (.invokestatic 290, 3) := by decide +kernel
theorem dX5_shareCams_85 : decode cX5_shareCams 85 = .ok (.pop, 1) := by decide +kernel
theorem dX5_shareCams_86 : decode cX5_shareCams 86 = .ok (.aload_n 0, 1) := by decide +kernel
theorem dX5_shareCams_87 : decode cX5_shareCams 87 = .ok (.getfield 10, 3) := by decide +kernel
theorem dX5_shareCams_90 : decode cX5_shareCams 90 = .ok (.getfield 123, 3) := by decide +kernel
theorem dX5_shareCams_93 : decode cX5_shareCams 93 = .ok (.ireturn, 1) := by decide +kernel
theorem dX5_isSeated_0 : decode cX5_isSeated 0 = .ok (.iload_n 2, 1) := by decide +kernel
theorem dX5_isSeated_1 : decode cX5_isSeated 1 = .ok (.iload_n 1, 1) := by decide +kernel
theorem dX5_isSeated_2 : decode cX5_isSeated 2 = .ok (.if_icmp .ge 8, 3) := by decide +kernel
theorem dX5_isSeated_5 : decode cX5_isSeated 5 = .ok (.iload_n 2, 1) := by decide +kernel
theorem dX5_isSeated_6 : decode cX5_isSeated 6 = .ok (.iconst 5, 1) := by decide +kernel
theorem dX5_isSeated_7 : decode cX5_isSeated 7 = .ok (.if_icmp .lt 5, 3) := by decide +kernel
theorem dX5_isSeated_10 : decode cX5_isSeated 10 = .ok (.iconst 1, 1) := by decide +kernel
theorem dX5_isSeated_11 : decode cX5_isSeated 11 = .ok (.ireturn, 1) := by decide +kernel
theorem dX5_isSeated_12 : decode cX5_isSeated 12 = .ok (.iconst 0, 1) := by decide +kernel
theorem dX5_isSeated_13 : decode cX5_isSeated 13 = .ok (.istore 5, 2) := by decide +kernel
theorem dX5_isSeated_15 : decode cX5_isSeated 15 = .ok (.iload 5, 2) := by decide +kernel
theorem dX5_isSeated_17 : decode cX5_isSeated 17 = .ok (.iload_n 3, 1) := by decide +kernel
theorem dX5_isSeated_18 : decode cX5_isSeated 18 = .ok (.if_icmp .gt 101, 3) := by decide +kernel
theorem dX5_isSeated_21 : decode cX5_isSeated 21 = .ok (.iload 5, 2) := by decide +kernel
theorem dX5_isSeated_23 : decode cX5_isSeated 23 = .ok (.iload 4, 2) := by decide +kernel
theorem dX5_isSeated_25 : decode cX5_isSeated 25 = .ok (.if_icmp .ge 94, 3) := by decide +kernel
theorem dX5_isSeated_28 : decode cX5_isSeated 28 = .ok (.iload 5, 2) := by decide +kernel
theorem dX5_isSeated_30 : decode cX5_isSeated 30 = .ok (.iload_n 3, 1) := by decide +kernel
theorem dX5_isSeated_31 : decode cX5_isSeated 31 = .ok (.if_icmp .ge 13, 3) := by decide +kernel
theorem dX5_isSeated_34 : decode cX5_isSeated 34 = .ok (.aload_n 0, 1) := by decide +kernel
theorem dX5_isSeated_35 : decode cX5_isSeated 35 = .ok (.iload 5, 2) := by decide +kernel
theorem dX5_isSeated_37 : decode cX5_isSeated 37 = .ok (.iload_n 2, 1) := by decide +kernel
theorem dX5_isSeated_38 : decode cX5_isSeated 38 = .ok (.invokevirtual 294, 3) := by decide +kernel
theorem dX5_isSeated_41 : decode cX5_isSeated 41 = .ok (.goto 4, 3) := by decide +kernel
theorem dX5_isSeated_44 : decode cX5_isSeated 44 = .ok (.iconst 1, 1) := by decide +kernel
theorem dX5_isSeated_45 : decode cX5_isSeated 45 = .ok (.istore 6, 2) := by decide +kernel
theorem dX5_isSeated_47 : decode cX5_isSeated 47 = .ok (.iconst 0, 1) := by decide +kernel
theorem dX5_isSeated_48 : decode cX5_isSeated 48 = .ok (.istore 7, 2) := by decide +kernel
theorem dX5_isSeated_50 : decode cX5_isSeated 50 = .ok (.iload 7, 2) := by decide +kernel
theorem dX5_isSeated_52 : decode cX5_isSeated 52 = .ok (.bipush 12, 2) := by decide +kernel
theorem dX5_isSeated_54 : decode cX5_isSeated 54 = .ok (.if_icmp .ge 59, 3) := by decide +kernel
theorem dX5_isSeated_57 : decode cX5_isSeated 57 = .ok (.iload 6, 2) := by decide +kernel
theorem dX5_isSeated_59 : decode cX5_isSeated 59 = .ok (.iload 7, 2) := by decide +kernel
theorem dX5_isSeated_61 : decode cX5_isSeated 61 = .ok (.ishr, 1) := by decide +kernel
theorem dX5_isSeated_62 : decode cX5_isSeated 62 = .ok (.iconst 1, 1) := by decide +kernel
theorem dX5_isSeated_63 : decode cX5_isSeated 63 = .ok (.iand, 1) := by decide +kernel
theorem dX5_isSeated_64 : decode cX5_isSeated 64 = .ok (.iconst 1, 1) := by decide +kernel
theorem dX5_isSeated_65 : decode cX5_isSeated 65 = .ok (.if_icmp .ne 42, 3) := by decide +kernel
theorem dX5_isSeated_68 : decode cX5_isSeated 68 = .ok (.aload_n 0, 1) := by decide +kernel
theorem dX5_isSeated_69 : decode cX5_isSeated 69 = .ok (.getfield 168, 3) := by decide +kernel
theorem dX5_isSeated_72 : decode cX5_isSeated 72 = .ok (.iload_n 2, 1) := by decide +kernel
theorem dX5_isSeated_73 : decode cX5_isSeated 73 = .ok (.iload 5, 2) := by decide +kernel
theorem dX5_isSeated_75 : decode cX5_isSeated 75 = .ok (.iastore, 1) := by decide +kernel
theorem dX5_isSeated_76 : decode cX5_isSeated 76 = .ok (.aload_n 0, 1) := by decide +kernel
theorem dX5_isSeated_77 : decode cX5_isSeated 77 = .ok (.getfield 170, 3) := by decide +kernel
theorem dX5_isSeated_80 : decode cX5_isSeated 80 = .ok (.iload_n 2, 1) := by decide +kernel
theorem dX5_isSeated_81 : decode cX5_isSeated 81 = .ok (.iload 7, 2) := by decide +kernel
theorem dX5_isSeated_83 : decode cX5_isSeated 83 = .ok (.iastore, 1) := by decide +kernel
theorem dX5_isSeated_84 : decode cX5_isSeated 84 = .ok (.aload_n 0, 1) := by decide +kernel
theorem dX5_isSeated_85 : decode cX5_isSeated 85 = .ok (.iload_n 1, 1) := by decide +kernel
theorem dX5_isSeated_86 : decode cX5_isSeated 86 = .ok (.iload_n 2, 1) := by decide +kernel
theorem dX5_isSeated_87 : decode cX5_isSeated 87 = .ok (.iconst 1, 1) := by decide +kernel
theorem dX5_isSeated_88 : decode cX5_isSeated 88 = .ok (.iadd, 1) := by decide +kernel
theorem dX5_isSeated_89 : decode cX5_isSeated 89 = .ok (.iload_n 3, 1) := by decide +kernel
theorem dX5_isSeated_90 : decode cX5_isSeated 90 = .ok (.iload 5, 2) := by decide +kernel
theorem dX5_isSeated_92 : decode cX5_isSeated 92 = .ok (.iconst 1, 1) := by decide +kernel
theorem dX5_isSeated_93 : decode cX5_isSeated 93 = .ok (.iadd, 1) := by decide +kernel
theorem dX5_isSeated_94 : decode cX5_isSeated 94 = .ok (.invokestatic 271, 3) := by decide +kernel
theorem dX5_isSeated_97 : decode cX5_isSeated 97 = .ok (.iload 4, 2) := by decide +kernel
theorem dX5_isSeated_99 : decode cX5_isSeated 99 = .ok (.invokestatic 290, 3) := by decide +kernel
theorem dX5_isSeated_102 : decode cX5_isSeated 102 = .ok (.ifCond .eq 5, 3) := by decide +kernel
theorem dX5_isSeated_105 : decode cX5_isSeated 105 = .ok (.iconst 1, 1) := by decide +kernel
theorem dX5_isSeated_106 : decode cX5_isSeated 106 = .ok (.ireturn, 1) := by decide +kernel
theorem dX5_isSeated_107 : decode cX5_isSeated 107 = .ok (.iinc 7 1, 3) := by decide +kernel
theorem dX5_isSeated_110 : decode cX5_isSeated 110 = .ok (.goto (-60), 3) := by decide +kernel
theorem dX5_isSeated_113 : decode cX5_isSeated 113 = .ok (.iinc 5 1, 3) := by decide +kernel
theorem dX5_isSeated_116 : decode cX5_isSeated 116 = .ok (.goto (-101), 3) := by decide +kernel
theorem dX5_isSeated_119 : decode cX5_isSeated 119 = .ok (.iconst 0, 1) := by decide +kernel
theorem dX5_isSeated_120 : decode cX5_isSeated 120 = .ok (.ireturn, 1) := by decide +kernel
theorem dX6_init_0 : decode cX6_init 0 = .ok (.aload_n 0, 1) := by decide +kernel
theorem dX6_init_1 : decode cX6_init 1 = .ok (.invokespecial 1, 3) := by decide +kernel
theorem dX6_init_4 : decode cX6_init 4 = .ok (.aload_n 0, 1) := by decide +kernel
theorem dX6_init_5 : decode cX6_init 5 = .ok (.sipush 248, 3) := by decide +kernel
theorem dX6_init_8 : decode cX6_init 8 = .ok (.newarray .int, 2) := by decide +kernel
theorem dX6_init_10 : decode cX6_init 10 = .ok (.putfield 7, 3) := by decide +kernel
theorem dX6_init_13 : decode cX6_init 13 = .ok (.aload_n 0, 1) := by decide +kernel
theorem dX6_init_14 : decode cX6_init 14 = .ok (.bipush 40, 2) := by decide +kernel
theorem dX6_init_16 : decode cX6_init 16 = .ok (.newarray .int, 2) := by decide +kernel
theorem dX6_init_18 : decode cX6_init 18 = .ok (.putfield 13, 3) := by decide +kernel
theorem dX6_init_21 : decode cX6_init 21 = .ok (.aload_n 0, 1) := by decide +kernel
theorem dX6_init_22 : decode cX6_init 22 = .ok (.bipush 12, 2) := by decide +kernel
theorem dX6_init_24 : decode cX6_init 24 = .ok (.newarray .int, 2) := by decide +kernel
theorem dX6_init_26 : decode cX6_init 26 = .ok (.putfield 16, 3) := by decide +kernel
theorem dX6_init_29 : decode cX6_init 29 = .ok (.aload_n 0, 1) := by decide +kernel
theorem dX6_init_30 : decode cX6_init 30 = .ok (.bipush 72, 2) := by decide +kernel
theorem dX6_init_32 : decode cX6_init 32 = .ok (.newarray .int, 2) := by decide +kernel
theorem dX6_init_34 : decode cX6_init 34 = .ok (.putfield 19, 3) := by decide +kernel
theorem dX6_init_37 : decode cX6_init 37 = .ok (.aload_n 0, 1) := by decide +kernel
theorem dX6_init_38 : decode cX6_init 38 = .ok (.bipush 72, 2) := by decide +kernel
theorem dX6_init_40 : decode cX6_init 40 = .ok (.newarray .int, 2) := by decide +kernel
theorem dX6_init_42 : decode cX6_init 42 = .ok (.putfield 22, 3) := by decide +kernel
theorem dX6_init_45 : decode cX6_init 45 = .ok (.aload_n 0, 1) := by decide +kernel
theorem dX6_init_46 : decode cX6_init 46 = .ok (.bipush 6, 2) := by decide +kernel
theorem dX6_init_48 : decode cX6_init 48 = .ok (.newarray .int, 2) := by decide +kernel
theorem dX6_init_50 : decode cX6_init 50 = .ok (.putfield 25, 3) := by decide +kernel
theorem dX6_init_53 : decode cX6_init 53 = .ok (.aload_n 0, 1) := by decide +kernel
theorem dX6_init_54 : decode cX6_init 54 = .ok (.bipush 6, 2) := by decide +kernel
theorem dX6_init_56 : decode cX6_init 56 = .ok (.newarray .int, 2) := by decide +kernel
theorem dX6_init_58 : decode cX6_init 58 = .ok (.putfield 28, 3) := by decide +kernel
theorem dX6_init_61 : decode cX6_init 61 = .ok (.aload_n 0, 1) := by decide +kernel
theorem dX6_init_62 : decode cX6_init 62 = .ok (.bipush 36, 2) := by decide +kernel
theorem dX6_init_64 : decode cX6_init 64 = .ok (.newarray .int, 2) := by decide +kernel
theorem dX6_init_66 : decode cX6_init 66 = .ok (.putfield 31, 3) := by decide +kernel
theorem dX6_init_69 : decode cX6_init 69 = .ok (.aload_n 0, 1) := by decide +kernel
theorem dX6_init_70 : decode cX6_init 70 = .ok (.bipush 36, 2) := by decide +kernel
theorem dX6_init_72 : decode cX6_init 72 = .ok (.newarray .int, 2) := by decide +kernel
theorem dX6_init_74 : decode cX6_init 74 = .ok (.putfield 34, 3) := by decide +kernel
theorem dX6_init_77 : decode cX6_init 77 = .ok (.aload_n 0, 1) := by decide +kernel
theorem dX6_init_78 : decode cX6_init 78 = .ok (.iconst 4, 1) := by decide +kernel
theorem dX6_init_79 : decode cX6_init 79 = .ok (.newarray .int, 2) := by decide +kernel
theorem dX6_init_81 : decode cX6_init 81 = .ok (.putfield 37, 3) := by decide +kernel
theorem dX6_init_84 : decode cX6_init 84 = .ok (.aload_n 0, 1) := by decide +kernel
theorem dX6_init_85 : decode cX6_init 85 = .ok (.iconst 4, 1) := by decide +kernel
theorem dX6_init_86 : decode cX6_init 86 = .ok (.newarray .int, 2) := by decide +kernel
theorem dX6_init_88 : decode cX6_init 88 = .ok (.putfield 40, 3) := by decide +kernel
theorem dX6_init_91 : decode cX6_init 91 = .ok (.aload_n 0, 1) := by decide +kernel
theorem dX6_init_92 : decode cX6_init 92 = .ok (.bipush 96, 2) := by decide +kernel
theorem dX6_init_94 : decode cX6_init 94 = .ok (.newarray .long, 2) := by decide +kernel
theorem dX6_init_96 : decode cX6_init 96 = .ok (.putfield 43, 3) := by decide +kernel
theorem dX6_init_99 : decode cX6_init 99 = .ok (.aload_n 0, 1) := by decide +kernel
theorem dX6_init_100 : decode cX6_init 100 = .ok (.bipush 24, 2) := by decide +kernel
theorem dX6_init_102 : decode cX6_init 102 = .ok (.newarray .long, 2) := by decide +kernel
theorem dX6_init_104 : decode cX6_init 104 = .ok (.putfield 47, 3) := by decide +kernel
theorem dX6_init_107 : decode cX6_init 107 = .ok (.aload_n 0, 1) := by decide +kernel
theorem dX6_init_108 : decode cX6_init 108 = .ok (.getfield 7, 3) := by decide +kernel
theorem dX6_init_111 : decode cX6_init 111 = .ok (.bipush 104, 2) := by decide +kernel
theorem dX6_init_113 : decode cX6_init 113 = .ok (.iconst 5, 1) := by decide +kernel
theorem dX6_init_114 : decode cX6_init 114 = .ok (.iastore, 1) := by decide +kernel
theorem dX6_init_115 : decode cX6_init 115 = .ok (.iconst 0, 1) := by decide +kernel
theorem dX6_init_116 : decode cX6_init 116 = .ok (.istore_n 1, 1) := by decide +kernel
theorem dX6_init_117 : decode cX6_init 117 = .ok (.iload_n 1, 1) := by decide +kernel
theorem dX6_init_118 : decode cX6_init 118 = .ok (.bipush 12, 2) := by decide +kernel
theorem dX6_init_120 : decode cX6_init 120 = .ok (.if_icmp .ge 19, 3) := by decide +kernel
theorem dX6_init_123 : decode cX6_init 123 = .ok (.aload_n 0, 1) := by decide +kernel
theorem dX6_init_124 : decode cX6_init 124 = .ok (.getfield 7, 3) := by decide +kernel
theorem dX6_init_127 : decode cX6_init 127 = .ok (.bipush 108, 2) := by decide +kernel
theorem dX6_init_129 : decode cX6_init 129 = .ok (.iload_n 1, 1) := by decide +kernel
theorem dX6_init_130 : decode cX6_init 130 = .ok (.iadd, 1) := by decide +kernel
theorem dX6_init_131 : decode cX6_init 131 = .ok (.iconst 1, 1) := by decide +kernel
theorem dX6_init_132 : decode cX6_init 132 = .ok (.iastore, 1) := by decide +kernel
theorem dX6_init_133 : decode cX6_init 133 = .ok (.iinc 1 1, 3) := by decide +kernel
theorem dX6_init_136 : decode cX6_init 136 = .ok (.goto (-19), 3) := by decide +kernel
theorem dX6_init_139 : decode cX6_init 139 = .ok (.iconst 0, 1) := by decide +kernel
theorem dX6_init_140 : decode cX6_init 140 = .ok (.istore_n 1, 1) := by decide +kernel
theorem dX6_init_141 : decode cX6_init 141 = .ok (.iload_n 1, 1) := by decide +kernel
theorem dX6_init_142 : decode cX6_init 142 = .ok (.iconst 4, 1) := by decide +kernel
theorem dX6_init_143 : decode cX6_init 143 = .ok (.if_icmp .ge 28, 3) := by decide +kernel
theorem dX6_init_146 : decode cX6_init 146 = .ok (.aload_n 0, 1) := by decide +kernel
theorem dX6_init_147 : decode cX6_init 147 = .ok (.getfield 7, 3) := by decide +kernel
theorem dX6_init_150 : decode cX6_init 150 = .ok (.bipush 120, 2) := by decide +kernel
theorem dX6_init_152 : decode cX6_init 152 = .ok (.iload_n 1, 1) := by decide +kernel
theorem dX6_init_153 : decode cX6_init 153 = .ok (.iadd, 1) := by decide +kernel
theorem dX6_init_154 : decode cX6_init 154 = .ok (.sipush 1023, 3) := by decide +kernel
theorem dX6_init_157 : decode cX6_init 157 = .ok (.iastore, 1) := by decide +kernel
theorem dX6_init_158 : decode cX6_init 158 = .ok (.aload_n 0, 1) := by decide +kernel
theorem dX6_init_159 : decode cX6_init 159 = .ok (.getfield 37, 3) := by decide +kernel
theorem dX6_init_162 : decode cX6_init 162 = .ok (.iload_n 1, 1) := by decide +kernel
theorem dX6_init_163 : decode cX6_init 163 = .ok (.iconst (-1), 1) := by decide +kernel
theorem dX6_init_164 : decode cX6_init 164 = .ok (.iastore, 1) := by decide +kernel
theorem dX6_init_165 : decode cX6_init 165 = .ok (.iinc 1 1, 3) := by decide +kernel
theorem dX6_init_168 : decode cX6_init 168 = .ok (.goto (-27), 3) := by decide +kernel
theorem dX6_init_171 : decode cX6_init 171 = .ok (.return_, 1) := by decide +kernel
theorem dX6_in_0 : decode cX6_in 0 = .ok (.lload_n 0, 1) := by decide +kernel
theorem dX6_in_1 : decode cX6_in 1 = .ok (.lload_n 2, 1) := by decide +kernel
theorem dX6_in_2 : decode cX6_in 2 = .ok (.lcmp, 1) := by decide +kernel
theorem dX6_in_3 : decode cX6_in 3 = .ok (.ifCond .lt 14, 3) := by decide +kernel
theorem dX6_in_6 : decode cX6_in 6 = .ok (.lload_n 0, 1) := by decide +kernel
theorem dX6_in_7 : decode cX6_in 7 = .ok (.lload 4, 2) := by decide +kernel
theorem dX6_in_9 : decode cX6_in 9 = .ok (.lcmp, 1) := by decide +kernel
theorem dX6_in_10 : decode cX6_in 10 = .ok (.ifCond .gt 7, 3) := by decide +kernel
theorem dX6_in_13 : decode cX6_in 13 = .ok (.iconst 1, 1) := by decide +kernel
theorem dX6_in_14 : decode cX6_in 14 = .ok (.goto 4, 3) := by decide +kernel
theorem dX6_in_17 : decode cX6_in 17 = .ok (.iconst 0, 1) := by decide +kernel
theorem dX6_in_18 : decode cX6_in 18 = .ok (.ireturn, 1) := by decide +kernel
theorem dX6_has_0 : decode cX6_has 0 = .ok (.iload_n 0, 1) := by decide +kernel
theorem dX6_has_1 : decode cX6_has 1 = .ok (.iload_n 1, 1) := by decide +kernel
theorem dX6_has_2 : decode cX6_has 2 = .ok (.ishr, 1) := by decide +kernel
theorem dX6_has_3 : decode cX6_has 3 = .ok (.iconst 1, 1) := by decide +kernel
theorem dX6_has_4 : decode cX6_has 4 = .ok (.iand, 1) := by decide +kernel
theorem dX6_has_5 : decode cX6_has 5 = .ok (.iconst 1, 1) := by decide +kernel
theorem dX6_has_6 : decode cX6_has 6 = .ok (.if_icmp .ne 7, 3) := by decide +kernel
theorem dX6_has_9 : decode cX6_has 9 = .ok (.iconst 1, 1) := by decide +kernel
theorem dX6_has_10 : decode cX6_has 10 = .ok (.goto 4, 3) := by decide +kernel
theorem dX6_has_13 : decode cX6_has 13 = .ok (.iconst 0, 1) := by decide +kernel
theorem dX6_has_14 : decode cX6_has 14 = .ok (.ireturn, 1) := by decide +kernel
theorem dX6_ones_0 : decode cX6_ones 0 = .ok (.iconst 0, 1) := by decide +kernel
theorem dX6_ones_1 : decode cX6_ones 1 = .ok (.istore_n 1, 1) := by decide +kernel
theorem dX6_ones_2 : decode cX6_ones 2 = .ok (.iconst 0, 1) := by decide +kernel
theorem dX6_ones_3 : decode cX6_ones 3 = .ok (.istore_n 2, 1) := by decide +kernel
theorem dX6_ones_4 : decode cX6_ones 4 = .ok (.iload_n 2, 1) := by decide +kernel
theorem dX6_ones_5 : decode cX6_ones 5 = .ok (.bipush 12, 2) := by decide +kernel
theorem dX6_ones_7 : decode cX6_ones 7 = .ok (.if_icmp .ge 17, 3) := by decide +kernel
theorem dX6_ones_10 : decode cX6_ones 10 = .ok (.iload_n 1, 1) := by decide +kernel
theorem dX6_ones_11 : decode cX6_ones 11 = .ok (.iload_n 0, 1) := by decide +kernel
theorem dX6_ones_12 : decode cX6_ones 12 = .ok (.iload_n 2, 1) := by decide +kernel
theorem dX6_ones_13 : decode cX6_ones 13 = .ok (.ishr, 1) := by decide +kernel
theorem dX6_ones_14 : decode cX6_ones 14 = .ok (.iconst 1, 1) := by decide +kernel
theorem dX6_ones_15 : decode cX6_ones 15 = .ok (.iand, 1) := by decide +kernel
theorem dX6_ones_16 : decode cX6_ones 16 = .ok (.iadd, 1) := by decide +kernel
theorem dX6_ones_17 : decode cX6_ones 17 = .ok (.istore_n 1, 1) := by decide +kernel
theorem dX6_ones_18 : decode cX6_ones 18 = .ok (.iinc 2 1, 3) := by decide +kernel
theorem dX6_ones_21 : decode cX6_ones 21 = .ok (.goto (-17), 3) := by decide +kernel
theorem dX6_ones_24 : decode cX6_ones 24 = .ok (.iload_n 1, 1) := by decide +kernel
theorem dX6_ones_25 : decode cX6_ones 25 = .ok (.ireturn, 1) := by decide +kernel
theorem dX6_isAngle_0 : decode cX6_isAngle 0 = .ok (.iload_n 0, 1) := by decide +kernel
theorem dX6_isAngle_1 : decode cX6_isAngle 1 = .ok (.i2l, 1) := by decide +kernel
theorem dX6_isAngle_2 : decode cX6_isAngle 2 = .ok (.lconst 0, 1) := by decide +kernel
theorem dX6_isAngle_3 : decode cX6_isAngle 3 = .ok (.ldc2_w 50, 3) := by decide +kernel
theorem dX6_isAngle_6 : decode cX6_isAngle 6 = .ok (.invokestatic 52, 3) := by decide +kernel
theorem dX6_isAngle_9 : decode cX6_isAngle 9 = .ok (.ireturn, 1) := by decide +kernel
theorem dX6_isCam_0 : decode cX6_isCam 0 = .ok (.iload_n 1, 1) := by decide +kernel
theorem dX6_isCam_1 : decode cX6_isCam 1 = .ok (.i2l, 1) := by decide +kernel
theorem dX6_isCam_2 : decode cX6_isCam 2 = .ok (.lconst 0, 1) := by decide +kernel
theorem dX6_isCam_3 : decode cX6_isCam 3 = .ok (.aload_n 0, 1) := by decide +kernel
theorem dX6_isCam_4 : decode cX6_isCam 4 = .ok (.getfield 7, 3) := by decide +kernel
theorem dX6_isCam_7 : decode cX6_isCam 7 = .ok (.iconst 0, 1) := by decide +kernel
theorem dX6_isCam_8 : decode cX6_isCam 8 = .ok (.iaload, 1) := by decide +kernel
theorem dX6_isCam_9 : decode cX6_isCam 9 = .ok (.iconst 1, 1) := by decide +kernel
theorem dX6_isCam_10 : decode cX6_isCam 10 = .ok (.isub, 1) := by decide +kernel
theorem dX6_isCam_11 : decode cX6_isCam 11 = .ok (.i2l, 1) := by decide +kernel
theorem dX6_isCam_12 : decode cX6_isCam 12 = .ok (.invokestatic 52, 3) := by decide +kernel
theorem dX6_isCam_15 : decode cX6_isCam 15 = .ok (.ireturn, 1) := by decide +kernel
theorem dX6_isFigure_0 : decode cX6_isFigure 0 = .ok (.iload_n 1, 1) := by decide +kernel
theorem dX6_isFigure_1 : decode cX6_isFigure 1 = .ok (.i2l, 1) := by decide +kernel
theorem dX6_isFigure_2 : decode cX6_isFigure 2 = .ok (.lconst 0, 1) := by decide +kernel
theorem dX6_isFigure_3 : decode cX6_isFigure 3 = .ok (.aload_n 0, 1) := by decide +kernel
theorem dX6_isFigure_4 : decode cX6_isFigure 4 = .ok (.getfield 7, 3) := by decide +kernel
theorem dX6_isFigure_7 : decode cX6_isFigure 7 = .ok (.bipush 73, 2) := by decide +kernel
theorem dX6_isFigure_9 : decode cX6_isFigure 9 = .ok (.iaload, 1) := by decide +kernel
theorem dX6_isFigure_10 : decode cX6_isFigure 10 = .ok (.iconst 1, 1) := by decide +kernel
theorem dX6_isFigure_11 : decode cX6_isFigure 11 = .ok (.isub, 1) := by decide +kernel
theorem dX6_isFigure_12 : decode cX6_isFigure 12 = .ok (.i2l, 1) := by decide +kernel
theorem dX6_isFigure_13 : decode cX6_isFigure 13 = .ok (.invokestatic 52, 3) := by decide +kernel
theorem dX6_isFigure_16 : decode cX6_isFigure 16 = .ok (.ireturn, 1) := by decide +kernel
theorem dX6_type_0 : decode cX6_type 0 = .ok (.iload_n 3, 1) := by decide +kernel
theorem dX6_type_1 : decode cX6_type 1 = .ok (.i2l, 1) := by decide +kernel
theorem dX6_type_2 : decode cX6_type 2 = .ok (.lconst 1, 1) := by decide +kernel
theorem dX6_type_3 : decode cX6_type 3 = .ok (.ldc2_w 56, 3) := by decide +kernel
theorem dX6_type_6 : decode cX6_type 6 = .ok (.invokestatic 52, 3) := by decide +kernel
theorem dX6_type_9 : decode cX6_type 9 = .ok (.ifCond .ne 5, 3) := by decide +kernel
theorem dX6_type_12 : decode cX6_type 12 = .ok (.iconst (-1), 1) := by decide +kernel
theorem dX6_type_13 : decode cX6_type 13 = .ok (.ireturn, 1) := by decide +kernel
theorem dX6_type_14 : decode cX6_type 14 = .ok (.iconst 0, 1) := by decide +kernel
theorem dX6_type_15 : decode cX6_type 15 = .ok (.istore 4, 2) := by decide +kernel
theorem dX6_type_17 : decode cX6_type 17 = .ok (.iload 4, 2) := by decide +kernel
theorem dX6_type_19 : decode cX6_type 19 = .ok (.iload_n 3, 1) := by decide +kernel
theorem dX6_type_20 : decode cX6_type 20 = .ok (.if_icmp .ge 34, 3) := by decide +kernel
theorem dX6_type_23 : decode cX6_type 23 = .ok (.lload_n 1, 1) := by decide +kernel
theorem dX6_type_24 : decode cX6_type 24 = .ok (.bipush 8, 2) := by decide +kernel
theorem dX6_type_26 : decode cX6_type 26 = .ok (.iload 4, 2) := by decide +kernel
theorem dX6_type_28 : decode cX6_type 28 = .ok (.imul, 1) := by decide +kernel
theorem dX6_type_29 : decode cX6_type 29 = .ok (.lshr, 1) := by decide +kernel
theorem dX6_type_30 : decode cX6_type 30 = .ok (.ldc2_w 58, 3) := by decide +kernel
theorem dX6_type_33 : decode cX6_type 33 = .ok (.land, 1) := by decide +kernel
theorem dX6_type_34 : decode cX6_type 34 = .ok (.ldc2_w 60, 3) := by decide +kernel
theorem dX6_type_37 : decode cX6_type 37 = .ok (.ldc2_w 62, 3) := by decide +kernel
theorem dX6_type_40 : decode cX6_type 40 = .ok (.invokestatic 52, 3) := by decide +kernel
theorem dX6_type_43 : decode cX6_type 43 = .ok (.ifCond .ne 5, 3) := by decide +kernel
theorem dX6_type_46 : decode cX6_type 46 = .ok (.iconst (-1), 1) := by decide +kernel
theorem dX6_type_47 : decode cX6_type 47 = .ok (.ireturn, 1) := by decide +kernel
theorem dX6_type_48 : decode cX6_type 48 = .ok (.iinc 4 1, 3) := by decide +kernel
theorem dX6_type_51 : decode cX6_type 51 = .ok (.goto (-34), 3) := by decide +kernel
theorem dX6_type_54 : decode cX6_type 54 = .ok (.aload_n 0, 1) := by decide +kernel
theorem dX6_type_55 : decode cX6_type 55 = .ok (.getfield 64, 3) := by decide +kernel
theorem dX6_type_58 : decode cX6_type 58 = .ok (.iload_n 3, 1) := by decide +kernel
theorem dX6_type_59 : decode cX6_type 59 = .ok (.iadd, 1) := by decide +kernel
theorem dX6_type_60 : decode cX6_type 60 = .ok (.bipush 40, 2) := by decide +kernel
theorem dX6_type_62 : decode cX6_type 62 = .ok (.if_icmp .le 6, 3) := by decide +kernel
theorem dX6_type_65 : decode cX6_type 65 = .ok (.bipush (-3), 2) := by decide +kernel
theorem dX6_type_67 : decode cX6_type 67 = .ok (.ireturn, 1) := by decide +kernel
theorem dX6_type_68 : decode cX6_type 68 = .ok (.iload_n 3, 1) := by decide +kernel
theorem dX6_type_69 : decode cX6_type 69 = .ok (.iconst 1, 1) := by decide +kernel
theorem dX6_type_70 : decode cX6_type 70 = .ok (.isub, 1) := by decide +kernel
theorem dX6_type_71 : decode cX6_type 71 = .ok (.istore 4, 2) := by decide +kernel
theorem dX6_type_73 : decode cX6_type 73 = .ok (.iload 4, 2) := by decide +kernel
theorem dX6_type_75 : decode cX6_type 75 = .ok (.ifCond .lt 40, 3) := by decide +kernel
theorem dX6_type_78 : decode cX6_type 78 = .ok (.aload_n 0, 1) := by decide +kernel
theorem dX6_type_79 : decode cX6_type 79 = .ok (.getfield 13, 3) := by decide +kernel
theorem dX6_type_82 : decode cX6_type 82 = .ok (.aload_n 0, 1) := by decide +kernel
theorem dX6_type_83 : decode cX6_type 83 = .ok (.getfield 64, 3) := by decide +kernel
theorem dX6_type_86 : decode cX6_type 86 = .ok (.lload_n 1, 1) := by decide +kernel
theorem dX6_type_87 : decode cX6_type 87 = .ok (.bipush 8, 2) := by decide +kernel
theorem dX6_type_89 : decode cX6_type 89 = .ok (.iload 4, 2) := by decide +kernel
theorem dX6_type_91 : decode cX6_type 91 = .ok (.imul, 1) := by decide +kernel
theorem dX6_type_92 : decode cX6_type 92 = .ok (.lshr, 1) := by decide +kernel
theorem dX6_type_93 : decode cX6_type 93 = .ok (.ldc2_w 58, 3) := by decide +kernel
theorem dX6_type_96 : decode cX6_type 96 = .ok (.land, 1) := by decide +kernel
theorem dX6_type_97 : decode cX6_type 97 = .ok (.l2i, 1) := by decide +kernel
theorem dX6_type_98 : decode cX6_type 98 = .ok (.iastore, 1) := by decide +kernel
theorem dX6_type_99 : decode cX6_type 99 = .ok (.aload_n 0, 1) := by decide +kernel
theorem dX6_type_100 : decode cX6_type 100 = .ok (.dup, 1) := by decide +kernel
theorem dX6_type_101 : decode cX6_type 101 = .ok (.getfield 64, 3) := by decide +kernel
theorem dX6_type_104 : decode cX6_type 104 = .ok (.iconst 1, 1) := by decide +kernel
theorem dX6_type_105 : decode cX6_type 105 = .ok (.iadd, 1) := by decide +kernel
theorem dX6_type_106 : decode cX6_type 106 = .ok (.putfield 64, 3) := by decide +kernel
theorem dX6_type_109 : decode cX6_type 109 = .ok (.iinc 4 (-1), 3) := by decide +kernel
theorem dX6_type_112 : decode cX6_type 112 = .ok (.goto (-39), 3) := by decide +kernel
theorem dX6_type_115 : decode cX6_type 115 = .ok (.aload_n 0, 1) := by decide +kernel
theorem dX6_type_116 : decode cX6_type 116 = .ok (.getfield 64, 3) := by decide +kernel
theorem dX6_type_119 : decode cX6_type 119 = .ok (.ireturn, 1) := by decide +kernel
theorem dX6_isSign_0 : decode cX6_isSign 0 = .ok (.iload_n 1, 1) := by decide +kernel
theorem dX6_isSign_1 : decode cX6_isSign 1 = .ok (.ifCond .eq 17, 3) := by decide +kernel
theorem dX6_isSign_4 : decode cX6_isSign 4 = .ok (.iload_n 0, 1) := by decide +kernel
theorem dX6_isSign_5 : decode cX6_isSign 5 = .ok (.i2l, 1) := by decide +kernel
theorem dX6_isSign_6 : decode cX6_isSign 6 = .ok (.ldc2_w 68, 3) := by decide +kernel
theorem dX6_isSign_9 : decode cX6_isSign 9 = .ok (.ldc2_w 70, 3) := by decide +kernel
theorem dX6_isSign_12 : decode cX6_isSign 12 = .ok (.invokestatic 52, 3) := by decide +kernel
theorem dX6_isSign_15 : decode cX6_isSign 15 = .ok (.goto 26, 3) := by decide +kernel
theorem dX6_isSign_18 : decode cX6_isSign 18 = .ok (.iload_n 0, 1) := by decide +kernel
theorem dX6_isSign_19 : decode cX6_isSign 19 = .ok (.bipush 117, 2) := by decide +kernel
theorem dX6_isSign_21 : decode cX6_isSign 21 = .ok (.if_icmp .eq 15, 3) := by decide +kernel
theorem dX6_isSign_24 : decode cX6_isSign 24 = .ok (.iload_n 0, 1) := by decide +kernel
theorem dX6_isSign_25 : decode cX6_isSign 25 = .ok (.bipush 100, 2) := by decide +kernel
theorem dX6_isSign_27 : decode cX6_isSign 27 = .ok (.if_icmp .eq 9, 3) := by decide +kernel
theorem dX6_isSign_30 : decode cX6_isSign 30 = .ok (.iload_n 0, 1) := by decide +kernel
theorem dX6_isSign_31 : decode cX6_isSign 31 = .ok (.bipush 46, 2) := by decide +kernel
theorem dX6_isSign_33 : decode cX6_isSign 33 = .ok (.if_icmp .ne 7, 3) := by decide +kernel
theorem dX6_isSign_36 : decode cX6_isSign 36 = .ok (.iconst 1, 1) := by decide +kernel
theorem dX6_isSign_37 : decode cX6_isSign 37 = .ok (.goto 4, 3) := by decide +kernel
theorem dX6_isSign_40 : decode cX6_isSign 40 = .ok (.iconst 0, 1) := by decide +kernel
theorem dX6_isSign_41 : decode cX6_isSign 41 = .ok (.ireturn, 1) := by decide +kernel
theorem dX6_takeSigns_0 : decode cX6_takeSigns 0 = .ok (.aload_n 0, 1) := by decide +kernel
theorem dX6_takeSigns_1 : decode cX6_takeSigns 1 = .ok (.getfield 64, 3) := by decide +kernel
theorem dX6_takeSigns_4 : decode cX6_takeSigns 4 = .ok (.istore_n 2, 1) := by decide +kernel
theorem dX6_takeSigns_5 : decode cX6_takeSigns 5 = .ok (.aload_n 0, 1) := by decide +kernel
theorem dX6_takeSigns_6 : decode cX6_takeSigns 6 = .ok (.iconst 0, 1) := by decide +kernel
theorem dX6_takeSigns_7 : decode cX6_takeSigns 7 = .ok (.putfield 64, 3) := by decide +kernel
theorem dX6_takeSigns_10 : decode cX6_takeSigns 10 = .ok (.iconst 0, 1) := by decide +kernel
theorem dX6_takeSigns_11 : decode cX6_takeSigns 11 = .ok (.istore_n 3, 1) := by decide +kernel
theorem dX6_takeSigns_12 : decode cX6_takeSigns 12 = .ok (.iconst 0, 1) := by decide +kernel
theorem dX6_takeSigns_13 : decode cX6_takeSigns 13 = .ok (.istore 4, 2) := by decide +kernel
theorem dX6_takeSigns_15 : decode cX6_takeSigns 15 = .ok (.iload 4, 2) := by decide +kernel
theorem dX6_takeSigns_17 : decode cX6_takeSigns 17 = .ok (.iload_n 2, 1) := by decide +kernel
theorem dX6_takeSigns_18 : decode cX6_takeSigns 18 = .ok (.if_icmp .ge 60, 3) := by decide +kernel
theorem dX6_takeSigns_21 : decode cX6_takeSigns 21 = .ok (.aload_n 0, 1) := by decide +kernel
theorem dX6_takeSigns_22 : decode cX6_takeSigns 22 = .ok (.getfield 13, 3) := by decide +kernel
theorem dX6_takeSigns_25 : decode cX6_takeSigns 25 = .ok (.iload 4, 2) := by decide +kernel
theorem dX6_takeSigns_27 : decode cX6_takeSigns 27 = .ok (.iaload, 1) := by decide +kernel
theorem dX6_takeSigns_28 : decode cX6_takeSigns 28 = .ok (.bipush 32, 2) := by decide +kernel
theorem dX6_takeSigns_30 : decode cX6_takeSigns 30 = .ok (.if_icmp .eq 42, 3) := by decide +kernel
theorem dX6_takeSigns_33 : decode cX6_takeSigns 33 = .ok (.iload_n 3, 1) := by decide +kernel
theorem dX6_takeSigns_34 : decode cX6_takeSigns 34 = .ok (.bipush 12, 2) := by decide +kernel
theorem dX6_takeSigns_36 : decode cX6_takeSigns 36 = .ok (.if_icmp .eq 17, 3) := by decide +kernel
theorem dX6_takeSigns_39 : decode cX6_takeSigns 39 = .ok (.aload_n 0, 1) := by decide +kernel
theorem dX6_takeSigns_40 : decode cX6_takeSigns 40 = .ok (.getfield 13, 3) := by decide +kernel
theorem dX6_takeSigns_43 : decode cX6_takeSigns 43 = .ok (.iload 4, 2) := by decide +kernel
theorem dX6_takeSigns_45 : decode cX6_takeSigns 45 = .ok (.iaload, 1) := by decide +kernel
theorem dX6_takeSigns_46 : decode cX6_takeSigns 46 = .ok (.iload_n 1, 1) := by decide +kernel
theorem dX6_takeSigns_47 : decode cX6_takeSigns 47 = .ok (.invokestatic 72, 3) := by decide +kernel
theorem dX6_takeSigns_50 : decode cX6_takeSigns 50 = .ok (.ifCond .ne 6, 3) := by decide +kernel
theorem dX6_takeSigns_53 : decode cX6_takeSigns 53 = .ok (.iload 4, 2) := by decide +kernel
theorem dX6_takeSigns_55 : decode cX6_takeSigns 55 = .ok (.ireturn, 1) := by decide +kernel
theorem dX6_takeSigns_56 : decode cX6_takeSigns 56 = .ok (.aload_n 0, 1) := by decide +kernel
theorem dX6_takeSigns_57 : decode cX6_takeSigns 57 = .ok (.getfield 16, 3) := by decide +kernel
theorem dX6_takeSigns_60 : decode cX6_takeSigns 60 = .ok (.iload_n 3, 1) := by decide +kernel
theorem dX6_takeSigns_61 : decode cX6_takeSigns 61 = .ok (.aload_n 0, 1) := by decide +kernel
theorem dX6_takeSigns_62 : decode cX6_takeSigns 62 = .ok (.getfield 13, 3) := by decide +kernel
theorem dX6_takeSigns_65 : decode cX6_takeSigns 65 = .ok (.iload 4, 2) := by decide +kernel
theorem dX6_takeSigns_67 : decode cX6_takeSigns 67 = .ok (.iaload, 1) := by decide +kernel
theorem dX6_takeSigns_68 : decode cX6_takeSigns 68 = .ok (.iastore, 1) := by decide +kernel
theorem dX6_takeSigns_69 : decode cX6_takeSigns 69 = .ok (.iinc 3 1, 3) := by decide +kernel
theorem dX6_takeSigns_72 : decode cX6_takeSigns 72 = .ok (.iinc 4 1, 3) := by decide +kernel
theorem dX6_takeSigns_75 : decode cX6_takeSigns 75 = .ok (.goto (-60), 3) := by decide +kernel
theorem dX6_takeSigns_78 : decode cX6_takeSigns 78 = .ok (.iload_n 3, 1) := by decide +kernel
theorem dX6_takeSigns_79 : decode cX6_takeSigns 79 = .ok (.bipush 12, 2) := by decide +kernel
theorem dX6_takeSigns_81 : decode cX6_takeSigns 81 = .ok (.if_icmp .ge 7, 3) := by decide +kernel
theorem dX6_takeSigns_84 : decode cX6_takeSigns 84 = .ok (.iload_n 2, 1) := by decide +kernel
theorem dX6_takeSigns_85 : decode cX6_takeSigns 85 = .ok (.goto 4, 3) := by decide +kernel
theorem dX6_takeSigns_88 : decode cX6_takeSigns 88 = .ok (.iconst (-1), 1) := by decide +kernel
theorem dX6_takeSigns_89 : decode cX6_takeSigns 89 = .ok (.ireturn, 1) := by decide +kernel
theorem dX6_cam_0 : decode cX6_cam 0 = .ok (.aload_n 0, 1) := by decide +kernel
theorem dX6_cam_1 : decode cX6_cam 1 = .ok (.iconst 1, 1) := by decide +kernel
theorem dX6_cam_2 : decode cX6_cam 2 = .ok (.invokevirtual 76, 3) := by decide +kernel
theorem dX6_cam_5 : decode cX6_cam 5 = .ok (.istore_n 1, 1) := by decide +kernel
theorem dX6_cam_6 : decode cX6_cam 6 = .ok (.iload_n 1, 1) := by decide +kernel
theorem dX6_cam_7 : decode cX6_cam 7 = .ok (.ifCond .lt 8, 3) := by decide +kernel
theorem dX6_cam_10 : decode cX6_cam 10 = .ok (.bipush (-20), 2) := by decide +kernel
theorem dX6_cam_12 : decode cX6_cam 12 = .ok (.iload_n 1, 1) := by decide +kernel
theorem dX6_cam_13 : decode cX6_cam 13 = .ok (.isub, 1) := by decide +kernel
theorem dX6_cam_14 : decode cX6_cam 14 = .ok (.ireturn, 1) := by decide +kernel
theorem dX6_cam_15 : decode cX6_cam 15 = .ok (.aload_n 0, 1) := by decide +kernel
theorem dX6_cam_16 : decode cX6_cam 16 = .ok (.getfield 7, 3) := by decide +kernel
theorem dX6_cam_19 : decode cX6_cam 19 = .ok (.iconst 0, 1) := by decide +kernel
theorem dX6_cam_20 : decode cX6_cam 20 = .ok (.iaload, 1) := by decide +kernel
theorem dX6_cam_21 : decode cX6_cam 21 = .ok (.istore_n 2, 1) := by decide +kernel
theorem dX6_cam_22 : decode cX6_cam 22 = .ok (.iload_n 2, 1) := by decide +kernel
theorem dX6_cam_23 : decode cX6_cam 23 = .ok (.bipush 6, 2) := by decide +kernel
theorem dX6_cam_25 : decode cX6_cam 25 = .ok (.if_icmp .ne 6, 3) := by decide +kernel
theorem dX6_cam_28 : decode cX6_cam 28 = .ok (.bipush (-3), 2) := by decide +kernel
theorem dX6_cam_30 : decode cX6_cam 30 = .ok (.ireturn, 1) := by decide +kernel
theorem dX6_cam_31 : decode cX6_cam 31 = .ok (.iconst 0, 1) := by decide +kernel
theorem dX6_cam_32 : decode cX6_cam 32 = .ok (.istore_n 3, 1) := by decide +kernel
theorem dX6_cam_33 : decode cX6_cam 33 = .ok (.iload_n 3, 1) := by decide +kernel
theorem dX6_cam_34 : decode cX6_cam 34 = .ok (.bipush 12, 2) := by decide +kernel
theorem dX6_cam_36 : decode cX6_cam 36 = .ok (.if_icmp .ge 31, 3) := by decide +kernel
theorem dX6_cam_39 : decode cX6_cam 39 = .ok (.aload_n 0, 1) := by decide +kernel
theorem dX6_cam_40 : decode cX6_cam 40 = .ok (.getfield 7, 3) := by decide +kernel
theorem dX6_cam_43 : decode cX6_cam 43 = .ok (.iconst 1, 1) := by decide +kernel
theorem dX6_cam_44 : decode cX6_cam 44 = .ok (.bipush 12, 2) := by decide +kernel
theorem dX6_cam_46 : decode cX6_cam 46 = .ok (.iload_n 2, 1) := by decide +kernel
theorem dX6_cam_47 : decode cX6_cam 47 = .ok (.imul, 1) := by decide +kernel
theorem dX6_cam_48 : decode cX6_cam 48 = .ok (.iadd, 1) := by decide +kernel
theorem dX6_cam_49 : decode cX6_cam 49 = .ok (.iload_n 3, 1) := by decide +kernel
theorem dX6_cam_50 : decode cX6_cam 50 = .ok (.iadd, 1) := by decide +kernel
theorem dX6_cam_51 : decode cX6_cam 51 = .ok (.aload_n 0, 1) := by decide +kernel
theorem dX6_cam_52 : decode cX6_cam 52 = .ok (.getfield 16, 3) := by decide +kernel
theorem dX6_cam_55 : decode cX6_cam 55 = .ok (.iload_n 3, 1) := by decide +kernel
theorem dX6_cam_56 : decode cX6_cam 56 = .ok (.iaload, 1) := by decide +kernel
theorem dX6_cam_57 : decode cX6_cam 57 = .ok (.bipush 48, 2) := by decide +kernel
theorem dX6_cam_59 : decode cX6_cam 59 = .ok (.isub, 1) := by decide +kernel
theorem dX6_cam_60 : decode cX6_cam 60 = .ok (.iastore, 1) := by decide +kernel
theorem dX6_cam_61 : decode cX6_cam 61 = .ok (.iinc 3 1, 3) := by decide +kernel
theorem dX6_cam_64 : decode cX6_cam 64 = .ok (.goto (-31), 3) := by decide +kernel
theorem dX6_cam_67 : decode cX6_cam 67 = .ok (.aload_n 0, 1) := by decide +kernel
theorem dX6_cam_68 : decode cX6_cam 68 = .ok (.getfield 7, 3) := by decide +kernel
theorem dX6_cam_71 : decode cX6_cam 71 = .ok (.iconst 0, 1) := by decide +kernel
theorem dX6_cam_72 : decode cX6_cam 72 = .ok (.dup2, 1) := by decide +kernel
theorem dX6_cam_73 : decode cX6_cam 73 = .ok (.iaload, 1) := by decide +kernel
theorem dX6_cam_74 : decode cX6_cam 74 = .ok (.iconst 1, 1) := by decide +kernel
theorem dX6_cam_75 : decode cX6_cam 75 = .ok (.iadd, 1) := by decide +kernel
theorem dX6_cam_76 : decode cX6_cam 76 = .ok (.iastore, 1) := by decide +kernel
theorem dX6_cam_77 : decode cX6_cam 77 = .ok (.iload_n 2, 1) := by decide +kernel
theorem dX6_cam_78 : decode cX6_cam 78 = .ok (.ireturn, 1) := by decide +kernel
theorem dX6_cut_0 : decode cX6_cut 0 = .ok (.aload_n 0, 1) := by decide +kernel
theorem dX6_cut_1 : decode cX6_cut 1 = .ok (.iload_n 1, 1) := by decide +kernel
theorem dX6_cut_2 : decode cX6_cut 2 = .ok (.invokevirtual 80, 3) := by decide +kernel
theorem dX6_cut_5 : decode cX6_cut 5 = .ok (.ifCond .eq 22, 3) := by decide +kernel
theorem dX6_cut_8 : decode cX6_cut 8 = .ok (.iload_n 2, 1) := by decide +kernel
theorem dX6_cut_9 : decode cX6_cut 9 = .ok (.invokestatic 84, 3) := by decide +kernel
theorem dX6_cut_12 : decode cX6_cut 12 = .ok (.ifCond .eq 15, 3) := by decide +kernel
theorem dX6_cut_15 : decode cX6_cut 15 = .ok (.iload_n 3, 1) := by decide +kernel
theorem dX6_cut_16 : decode cX6_cut 16 = .ok (.i2l, 1) := by decide +kernel
theorem dX6_cut_17 : decode cX6_cut 17 = .ok (.lconst 0, 1) := by decide +kernel
theorem dX6_cut_18 : decode cX6_cut 18 = .ok (.ldc2_w 87, 3) := by decide +kernel
theorem dX6_cut_21 : decode cX6_cut 21 = .ok (.invokestatic 52, 3) := by decide +kernel
theorem dX6_cut_24 : decode cX6_cut 24 = .ok (.ifCond .ne 5, 3) := by decide +kernel
theorem dX6_cut_27 : decode cX6_cut 27 = .ok (.iconst (-1), 1) := by decide +kernel
theorem dX6_cut_28 : decode cX6_cut 28 = .ok (.ireturn, 1) := by decide +kernel
theorem dX6_cut_29 : decode cX6_cut 29 = .ok (.iconst 1, 1) := by decide +kernel
theorem dX6_cut_30 : decode cX6_cut 30 = .ok (.bipush 12, 2) := by decide +kernel
theorem dX6_cut_32 : decode cX6_cut 32 = .ok (.iload_n 1, 1) := by decide +kernel
theorem dX6_cut_33 : decode cX6_cut 33 = .ok (.imul, 1) := by decide +kernel
theorem dX6_cut_34 : decode cX6_cut 34 = .ok (.iadd, 1) := by decide +kernel
theorem dX6_cut_35 : decode cX6_cut 35 = .ok (.iload_n 2, 1) := by decide +kernel
theorem dX6_cut_36 : decode cX6_cut 36 = .ok (.iadd, 1) := by decide +kernel
theorem dX6_cut_37 : decode cX6_cut 37 = .ok (.istore 4, 2) := by decide +kernel
theorem dX6_cut_39 : decode cX6_cut 39 = .ok (.aload_n 0, 1) := by decide +kernel
theorem dX6_cut_40 : decode cX6_cut 40 = .ok (.getfield 7, 3) := by decide +kernel
theorem dX6_cut_43 : decode cX6_cut 43 = .ok (.iload 4, 2) := by decide +kernel
theorem dX6_cut_45 : decode cX6_cut 45 = .ok (.iaload, 1) := by decide +kernel
theorem dX6_cut_46 : decode cX6_cut 46 = .ok (.istore 5, 2) := by decide +kernel
theorem dX6_cut_48 : decode cX6_cut 48 = .ok (.aload_n 0, 1) := by decide +kernel
theorem dX6_cut_49 : decode cX6_cut 49 = .ok (.getfield 7, 3) := by decide +kernel
theorem dX6_cut_52 : decode cX6_cut 52 = .ok (.iload 4, 2) := by decide +kernel
theorem dX6_cut_54 : decode cX6_cut 54 = .ok (.iload_n 3, 1) := by decide +kernel
theorem dX6_cut_55 : decode cX6_cut 55 = .ok (.iastore, 1) := by decide +kernel
theorem dX6_cut_56 : decode cX6_cut 56 = .ok (.iload 5, 2) := by decide +kernel
theorem dX6_cut_58 : decode cX6_cut 58 = .ok (.ireturn, 1) := by decide +kernel
theorem dX6_told_0 : decode cX6_told 0 = .ok (.aload_n 0, 1) := by decide +kernel
theorem dX6_told_1 : decode cX6_told 1 = .ok (.iload_n 1, 1) := by decide +kernel
theorem dX6_told_2 : decode cX6_told 2 = .ok (.invokevirtual 80, 3) := by decide +kernel
theorem dX6_told_5 : decode cX6_told 5 = .ok (.ifCond .eq 26, 3) := by decide +kernel
theorem dX6_told_8 : decode cX6_told 8 = .ok (.iload_n 2, 1) := by decide +kernel
theorem dX6_told_9 : decode cX6_told 9 = .ok (.invokestatic 84, 3) := by decide +kernel
theorem dX6_told_12 : decode cX6_told 12 = .ok (.ifCond .eq 19, 3) := by decide +kernel
theorem dX6_told_15 : decode cX6_told 15 = .ok (.aload_n 0, 1) := by decide +kernel
theorem dX6_told_16 : decode cX6_told 16 = .ok (.getfield 7, 3) := by decide +kernel
theorem dX6_told_19 : decode cX6_told 19 = .ok (.iconst 1, 1) := by decide +kernel
theorem dX6_told_20 : decode cX6_told 20 = .ok (.bipush 12, 2) := by decide +kernel
theorem dX6_told_22 : decode cX6_told 22 = .ok (.iload_n 1, 1) := by decide +kernel
theorem dX6_told_23 : decode cX6_told 23 = .ok (.imul, 1) := by decide +kernel
theorem dX6_told_24 : decode cX6_told 24 = .ok (.iadd, 1) := by decide +kernel
theorem dX6_told_25 : decode cX6_told 25 = .ok (.iload_n 2, 1) := by decide +kernel
theorem dX6_told_26 : decode cX6_told 26 = .ok (.iadd, 1) := by decide +kernel
theorem dX6_told_27 : decode cX6_told 27 = .ok (.iaload, 1) := by decide +kernel
theorem dX6_told_28 : decode cX6_told 28 = .ok (.goto 4, 3) := by decide +kernel
theorem dX6_told_31 : decode cX6_told 31 = .ok (.iconst (-1), 1) := by decide +kernel
theorem dX6_told_32 : decode cX6_told 32 = .ok (.ireturn, 1) := by decide +kernel
theorem dX6_isGood_0 : decode cX6_isGood 0 = .ok (.iload_n 1, 1) := by decide +kernel
theorem dX6_isGood_1 : decode cX6_isGood 1 = .ok (.ifCond .ne 15, 3) := by decide +kernel
theorem dX6_isGood_4 : decode cX6_isGood 4 = .ok (.iload_n 2, 1) := by decide +kernel
theorem dX6_isGood_5 : decode cX6_isGood 5 = .ok (.i2l, 1) := by decide +kernel
theorem dX6_isGood_6 : decode cX6_isGood 6 = .ok (.lconst 0, 1) := by decide +kernel
theorem dX6_isGood_7 : decode cX6_isGood 7 = .ok (.ldc2_w 89, 3) := by decide +kernel
theorem dX6_isGood_10 : decode cX6_isGood 10 = .ok (.invokestatic 52, 3) := by decide +kernel
theorem dX6_isGood_13 : decode cX6_isGood 13 = .ok (.goto 37, 3) := by decide +kernel
theorem dX6_isGood_16 : decode cX6_isGood 16 = .ok (.iload_n 1, 1) := by decide +kernel
theorem dX6_isGood_17 : decode cX6_isGood 17 = .ok (.iconst 1, 1) := by decide +kernel
theorem dX6_isGood_18 : decode cX6_isGood 18 = .ok (.if_icmp .ne 11, 3) := by decide +kernel
theorem dX6_isGood_21 : decode cX6_isGood 21 = .ok (.aload_n 0, 1) := by decide +kernel
theorem dX6_isGood_22 : decode cX6_isGood 22 = .ok (.iload_n 2, 1) := by decide +kernel
theorem dX6_isGood_23 : decode cX6_isGood 23 = .ok (.invokevirtual 80, 3) := by decide +kernel
theorem dX6_isGood_26 : decode cX6_isGood 26 = .ok (.goto 24, 3) := by decide +kernel
theorem dX6_isGood_29 : decode cX6_isGood 29 = .ok (.iload_n 1, 1) := by decide +kernel
theorem dX6_isGood_30 : decode cX6_isGood 30 = .ok (.iconst 2, 1) := by decide +kernel
theorem dX6_isGood_31 : decode cX6_isGood 31 = .ok (.if_icmp .ne 10, 3) := by decide +kernel
theorem dX6_isGood_34 : decode cX6_isGood 34 = .ok (.iload_n 2, 1) := by decide +kernel
theorem dX6_isGood_35 : decode cX6_isGood 35 = .ok (.invokestatic 84, 3) := by decide +kernel
theorem dX6_isGood_38 : decode cX6_isGood 38 = .ok (.goto 12, 3) := by decide +kernel
theorem dX6_isGood_41 : decode cX6_isGood 41 = .ok (.iload_n 2, 1) := by decide +kernel
theorem dX6_isGood_42 : decode cX6_isGood 42 = .ok (.i2l, 1) := by decide +kernel
theorem dX6_isGood_43 : decode cX6_isGood 43 = .ok (.lconst 0, 1) := by decide +kernel
theorem dX6_isGood_44 : decode cX6_isGood 44 = .ok (.ldc2_w 89, 3) := by decide +kernel
theorem dX6_isGood_47 : decode cX6_isGood 47 = .ok (.invokestatic 52, 3) := by decide +kernel
theorem dX6_isGood_50 : decode cX6_isGood 50 = .ok (.ireturn, 1) := by decide +kernel
theorem dX6_figure_0 : decode cX6_figure 0 = .ok (.aload_n 0, 1) := by decide +kernel
theorem dX6_figure_1 : decode cX6_figure 1 = .ok (.iconst 0, 1) := by decide +kernel
theorem dX6_figure_2 : decode cX6_figure 2 = .ok (.iload_n 1, 1) := by decide +kernel
theorem dX6_figure_3 : decode cX6_figure 3 = .ok (.invokevirtual 91, 3) := by decide +kernel
theorem dX6_figure_6 : decode cX6_figure 6 = .ok (.ifCond .eq 31, 3) := by decide +kernel
theorem dX6_figure_9 : decode cX6_figure 9 = .ok (.aload_n 0, 1) := by decide +kernel
theorem dX6_figure_10 : decode cX6_figure 10 = .ok (.iconst 1, 1) := by decide +kernel
theorem dX6_figure_11 : decode cX6_figure 11 = .ok (.iload_n 2, 1) := by decide +kernel
theorem dX6_figure_12 : decode cX6_figure 12 = .ok (.invokevirtual 91, 3) := by decide +kernel
theorem dX6_figure_15 : decode cX6_figure 15 = .ok (.ifCond .eq 22, 3) := by decide +kernel
theorem dX6_figure_18 : decode cX6_figure 18 = .ok (.aload_n 0, 1) := by decide +kernel
theorem dX6_figure_19 : decode cX6_figure 19 = .ok (.iconst 2, 1) := by decide +kernel
theorem dX6_figure_20 : decode cX6_figure 20 = .ok (.iload_n 3, 1) := by decide +kernel
theorem dX6_figure_21 : decode cX6_figure 21 = .ok (.invokevirtual 91, 3) := by decide +kernel
theorem dX6_figure_24 : decode cX6_figure 24 = .ok (.ifCond .eq 13, 3) := by decide +kernel
theorem dX6_figure_27 : decode cX6_figure 27 = .ok (.aload_n 0, 1) := by decide +kernel
theorem dX6_figure_28 : decode cX6_figure 28 = .ok (.iconst 3, 1) := by decide +kernel
theorem dX6_figure_29 : decode cX6_figure 29 = .ok (.iload 4, 2) := by decide +kernel
theorem dX6_figure_31 : decode cX6_figure 31 = .ok (.invokevirtual 91, 3) := by decide +kernel
theorem dX6_figure_34 : decode cX6_figure 34 = .ok (.ifCond .ne 5, 3) := by decide +kernel
theorem dX6_figure_37 : decode cX6_figure 37 = .ok (.iconst (-1), 1) := by decide +kernel
theorem dX6_figure_38 : decode cX6_figure 38 = .ok (.ireturn, 1) := by decide +kernel
theorem dX6_figure_39 : decode cX6_figure 39 = .ok (.aload_n 0, 1) := by decide +kernel
theorem dX6_figure_40 : decode cX6_figure 40 = .ok (.getfield 7, 3) := by decide +kernel
theorem dX6_figure_43 : decode cX6_figure 43 = .ok (.bipush 73, 2) := by decide +kernel
theorem dX6_figure_45 : decode cX6_figure 45 = .ok (.iaload, 1) := by decide +kernel
theorem dX6_figure_46 : decode cX6_figure 46 = .ok (.istore 5, 2) := by decide +kernel
theorem dX6_figure_48 : decode cX6_figure 48 = .ok (.iload 5, 2) := by decide +kernel
theorem dX6_figure_50 : decode cX6_figure 50 = .ok (.iconst 5, 1) := by decide +kernel
theorem dX6_figure_51 : decode cX6_figure 51 = .ok (.if_icmp .ne 6, 3) := by decide +kernel
theorem dX6_figure_54 : decode cX6_figure 54 = .ok (.bipush (-3), 2) := by decide +kernel
theorem dX6_figure_56 : decode cX6_figure 56 = .ok (.ireturn, 1) := by decide +kernel
theorem dX6_figure_57 : decode cX6_figure 57 = .ok (.aload_n 0, 1) := by decide +kernel
theorem dX6_figure_58 : decode cX6_figure 58 = .ok (.getfield 7, 3) := by decide +kernel
theorem dX6_figure_61 : decode cX6_figure 61 = .ok (.bipush 74, 2) := by decide +kernel
theorem dX6_figure_63 : decode cX6_figure 63 = .ok (.iload 5, 2) := by decide +kernel
theorem dX6_figure_65 : decode cX6_figure 65 = .ok (.iadd, 1) := by decide +kernel
theorem dX6_figure_66 : decode cX6_figure 66 = .ok (.iload_n 1, 1) := by decide +kernel
theorem dX6_figure_67 : decode cX6_figure 67 = .ok (.iastore, 1) := by decide +kernel
theorem dX6_figure_68 : decode cX6_figure 68 = .ok (.aload_n 0, 1) := by decide +kernel
theorem dX6_figure_69 : decode cX6_figure 69 = .ok (.getfield 7, 3) := by decide +kernel
theorem dX6_figure_72 : decode cX6_figure 72 = .ok (.bipush 79, 2) := by decide +kernel
theorem dX6_figure_74 : decode cX6_figure 74 = .ok (.iload 5, 2) := by decide +kernel
theorem dX6_figure_76 : decode cX6_figure 76 = .ok (.iadd, 1) := by decide +kernel
theorem dX6_figure_77 : decode cX6_figure 77 = .ok (.iload_n 2, 1) := by decide +kernel
theorem dX6_figure_78 : decode cX6_figure 78 = .ok (.iastore, 1) := by decide +kernel
theorem dX6_figure_79 : decode cX6_figure 79 = .ok (.aload_n 0, 1) := by decide +kernel
theorem dX6_figure_80 : decode cX6_figure 80 = .ok (.getfield 7, 3) := by decide +kernel
theorem dX6_figure_83 : decode cX6_figure 83 = .ok (.bipush 84, 2) := by decide +kernel
theorem dX6_figure_85 : decode cX6_figure 85 = .ok (.iload 5, 2) := by decide +kernel
theorem dX6_figure_87 : decode cX6_figure 87 = .ok (.iadd, 1) := by decide +kernel
theorem dX6_figure_88 : decode cX6_figure 88 = .ok (.iload_n 3, 1) := by decide +kernel
theorem dX6_figure_89 : decode cX6_figure 89 = .ok (.iastore, 1) := by decide +kernel
theorem dX6_figure_90 : decode cX6_figure 90 = .ok (.aload_n 0, 1) := by decide +kernel
theorem dX6_figure_91 : decode cX6_figure 91 = .ok (.getfield 7, 3) := by decide +kernel
theorem dX6_figure_94 : decode cX6_figure 94 = .ok (.bipush 89, 2) := by decide +kernel
theorem dX6_figure_96 : decode cX6_figure 96 = .ok (.iload 5, 2) := by decide +kernel
theorem dX6_figure_98 : decode cX6_figure 98 = .ok (.iadd, 1) := by decide +kernel
theorem dX6_figure_99 : decode cX6_figure 99 = .ok (.iload 4, 2) := by decide +kernel
theorem dX6_figure_101 : decode cX6_figure 101 = .ok (.iastore, 1) := by decide +kernel
theorem dX6_figure_102 : decode cX6_figure 102 = .ok (.aload_n 0, 1) := by decide +kernel
theorem dX6_figure_103 : decode cX6_figure 103 = .ok (.getfield 7, 3) := by decide +kernel
theorem dX6_figure_106 : decode cX6_figure 106 = .ok (.bipush 94, 2) := by decide +kernel
theorem dX6_figure_108 : decode cX6_figure 108 = .ok (.iload 5, 2) := by decide +kernel
theorem dX6_figure_110 : decode cX6_figure 110 = .ok (.iadd, 1) := by decide +kernel
theorem dX6_figure_111 : decode cX6_figure 111 = .ok (.iconst 0, 1) := by decide +kernel
theorem dX6_figure_112 : decode cX6_figure 112 = .ok (.iastore, 1) := by decide +kernel
theorem dX6_figure_113 : decode cX6_figure 113 = .ok (.aload_n 0, 1) := by decide +kernel
theorem dX6_figure_114 : decode cX6_figure 114 = .ok (.getfield 7, 3) := by decide +kernel
theorem dX6_figure_117 : decode cX6_figure 117 = .ok (.bipush 99, 2) := by decide +kernel
theorem dX6_figure_119 : decode cX6_figure 119 = .ok (.iload 5, 2) := by decide +kernel
theorem dX6_figure_121 : decode cX6_figure 121 = .ok (.iadd, 1) := by decide +kernel
theorem dX6_figure_122 : decode cX6_figure 122 = .ok (.iconst 0, 1) := by decide +kernel
theorem dX6_figure_123 : decode cX6_figure 123 = .ok (.iastore, 1) := by decide +kernel
theorem dX6_figure_124 : decode cX6_figure 124 = .ok (.aload_n 0, 1) := by decide +kernel
theorem dX6_figure_125 : decode cX6_figure 125 = .ok (.getfield 7, 3) := by decide +kernel
theorem dX6_figure_128 : decode cX6_figure 128 = .ok (.bipush 73, 2) := by decide +kernel
theorem dX6_figure_130 : decode cX6_figure 130 = .ok (.dup2, 1) := by decide +kernel
theorem dX6_figure_131 : decode cX6_figure 131 = .ok (.iaload, 1) := by decide +kernel
theorem dX6_figure_132 : decode cX6_figure 132 = .ok (.iconst 1, 1) := by decide +kernel
theorem dX6_figure_133 : decode cX6_figure 133 = .ok (.iadd, 1) := by decide +kernel
theorem dX6_figure_134 : decode cX6_figure 134 = .ok (.iastore, 1) := by decide +kernel
theorem dX6_figure_135 : decode cX6_figure 135 = .ok (.iload 5, 2) := by decide +kernel
theorem dX6_figure_137 : decode cX6_figure 137 = .ok (.ireturn, 1) := by decide +kernel
theorem dX6_set_0 : decode cX6_set 0 = .ok (.aload_n 0, 1) := by decide +kernel
theorem dX6_set_1 : decode cX6_set 1 = .ok (.iload_n 1, 1) := by decide +kernel
theorem dX6_set_2 : decode cX6_set 2 = .ok (.invokevirtual 95, 3) := by decide +kernel
theorem dX6_set_5 : decode cX6_set 5 = .ok (.ifCond .eq 24, 3) := by decide +kernel
theorem dX6_set_8 : decode cX6_set 8 = .ok (.iload_n 2, 1) := by decide +kernel
theorem dX6_set_9 : decode cX6_set 9 = .ok (.i2l, 1) := by decide +kernel
theorem dX6_set_10 : decode cX6_set 10 = .ok (.lconst 0, 1) := by decide +kernel
theorem dX6_set_11 : decode cX6_set 11 = .ok (.ldc2_w 89, 3) := by decide +kernel
theorem dX6_set_14 : decode cX6_set 14 = .ok (.invokestatic 52, 3) := by decide +kernel
theorem dX6_set_17 : decode cX6_set 17 = .ok (.ifCond .eq 12, 3) := by decide +kernel
theorem dX6_set_20 : decode cX6_set 20 = .ok (.aload_n 0, 1) := by decide +kernel
theorem dX6_set_21 : decode cX6_set 21 = .ok (.iload_n 2, 1) := by decide +kernel
theorem dX6_set_22 : decode cX6_set 22 = .ok (.iload_n 3, 1) := by decide +kernel
theorem dX6_set_23 : decode cX6_set 23 = .ok (.invokevirtual 91, 3) := by decide +kernel
theorem dX6_set_26 : decode cX6_set 26 = .ok (.ifCond .ne 5, 3) := by decide +kernel
theorem dX6_set_29 : decode cX6_set 29 = .ok (.iconst (-1), 1) := by decide +kernel
theorem dX6_set_30 : decode cX6_set 30 = .ok (.ireturn, 1) := by decide +kernel
theorem dX6_set_31 : decode cX6_set 31 = .ok (.bipush 74, 2) := by decide +kernel
theorem dX6_set_33 : decode cX6_set 33 = .ok (.iconst 5, 1) := by decide +kernel
theorem dX6_set_34 : decode cX6_set 34 = .ok (.iload_n 2, 1) := by decide +kernel
theorem dX6_set_35 : decode cX6_set 35 = .ok (.imul, 1) := by decide +kernel
theorem dX6_set_36 : decode cX6_set 36 = .ok (.iadd, 1) := by decide +kernel
theorem dX6_set_37 : decode cX6_set 37 = .ok (.iload_n 1, 1) := by decide +kernel
theorem dX6_set_38 : decode cX6_set 38 = .ok (.iadd, 1) := by decide +kernel
theorem dX6_set_39 : decode cX6_set 39 = .ok (.istore 4, 2) := by decide +kernel
theorem dX6_set_41 : decode cX6_set 41 = .ok (.aload_n 0, 1) := by decide +kernel
theorem dX6_set_42 : decode cX6_set 42 = .ok (.getfield 7, 3) := by decide +kernel
theorem dX6_set_45 : decode cX6_set 45 = .ok (.iload 4, 2) := by decide +kernel
theorem dX6_set_47 : decode cX6_set 47 = .ok (.iaload, 1) := by decide +kernel
theorem dX6_set_48 : decode cX6_set 48 = .ok (.istore 5, 2) := by decide +kernel
theorem dX6_set_50 : decode cX6_set 50 = .ok (.aload_n 0, 1) := by decide +kernel
theorem dX6_set_51 : decode cX6_set 51 = .ok (.getfield 7, 3) := by decide +kernel
theorem dX6_set_54 : decode cX6_set 54 = .ok (.iload 4, 2) := by decide +kernel
theorem dX6_set_56 : decode cX6_set 56 = .ok (.iload_n 3, 1) := by decide +kernel
theorem dX6_set_57 : decode cX6_set 57 = .ok (.iastore, 1) := by decide +kernel
theorem dX6_set_58 : decode cX6_set 58 = .ok (.iload 5, 2) := by decide +kernel
theorem dX6_set_60 : decode cX6_set 60 = .ok (.ireturn, 1) := by decide +kernel
theorem dX6_wish_0 : decode cX6_wish 0 = .ok (.aload_n 0, 1) := by decide +kernel
theorem dX6_wish_1 : decode cX6_wish 1 = .ok (.iload_n 1, 1) := by decide +kernel
theorem dX6_wish_2 : decode cX6_wish 2 = .ok (.invokevirtual 95, 3) := by decide +kernel
theorem dX6_wish_5 : decode cX6_wish 5 = .ok (.ifCond .ne 5, 3) := by decide +kernel
theorem dX6_wish_8 : decode cX6_wish 8 = .ok (.iconst (-1), 1) := by decide +kernel
theorem dX6_wish_9 : decode cX6_wish 9 = .ok (.ireturn, 1) := by decide +kernel
theorem dX6_wish_10 : decode cX6_wish 10 = .ok (.aload_n 0, 1) := by decide +kernel
theorem dX6_wish_11 : decode cX6_wish 11 = .ok (.iconst 0, 1) := by decide +kernel
theorem dX6_wish_12 : decode cX6_wish 12 = .ok (.invokevirtual 76, 3) := by decide +kernel
theorem dX6_wish_15 : decode cX6_wish 15 = .ok (.istore_n 2, 1) := by decide +kernel
theorem dX6_wish_16 : decode cX6_wish 16 = .ok (.iload_n 2, 1) := by decide +kernel
theorem dX6_wish_17 : decode cX6_wish 17 = .ok (.ifCond .lt 8, 3) := by decide +kernel
theorem dX6_wish_20 : decode cX6_wish 20 = .ok (.bipush (-20), 2) := by decide +kernel
theorem dX6_wish_22 : decode cX6_wish 22 = .ok (.iload_n 2, 1) := by decide +kernel
theorem dX6_wish_23 : decode cX6_wish 23 = .ok (.isub, 1) := by decide +kernel
theorem dX6_wish_24 : decode cX6_wish 24 = .ok (.ireturn, 1) := by decide +kernel
theorem dX6_wish_25 : decode cX6_wish 25 = .ok (.iconst 0, 1) := by decide +kernel
theorem dX6_wish_26 : decode cX6_wish 26 = .ok (.istore_n 3, 1) := by decide +kernel
theorem dX6_wish_27 : decode cX6_wish 27 = .ok (.iconst 0, 1) := by decide +kernel
theorem dX6_wish_28 : decode cX6_wish 28 = .ok (.istore 4, 2) := by decide +kernel
theorem dX6_wish_30 : decode cX6_wish 30 = .ok (.iconst 0, 1) := by decide +kernel
theorem dX6_wish_31 : decode cX6_wish 31 = .ok (.istore 5, 2) := by decide +kernel
theorem dX6_wish_33 : decode cX6_wish 33 = .ok (.iload 5, 2) := by decide +kernel
theorem dX6_wish_35 : decode cX6_wish 35 = .ok (.bipush 12, 2) := by decide +kernel
theorem dX6_wish_37 : decode cX6_wish 37 = .ok (.if_icmp .ge 57, 3) := by decide +kernel
theorem dX6_wish_40 : decode cX6_wish 40 = .ok (.iload_n 3, 1) := by decide +kernel
theorem dX6_wish_41 : decode cX6_wish 41 = .ok (.aload_n 0, 1) := by decide +kernel
theorem dX6_wish_42 : decode cX6_wish 42 = .ok (.getfield 16, 3) := by decide +kernel
theorem dX6_wish_45 : decode cX6_wish 45 = .ok (.iload 5, 2) := by decide +kernel
theorem dX6_wish_47 : decode cX6_wish 47 = .ok (.iaload, 1) := by decide +kernel
theorem dX6_wish_48 : decode cX6_wish 48 = .ok (.bipush 117, 2) := by decide +kernel
theorem dX6_wish_50 : decode cX6_wish 50 = .ok (.if_icmp .ne 10, 3) := by decide +kernel
theorem dX6_wish_53 : decode cX6_wish 53 = .ok (.iconst 1, 1) := by decide +kernel
theorem dX6_wish_54 : decode cX6_wish 54 = .ok (.iload 5, 2) := by decide +kernel
theorem dX6_wish_56 : decode cX6_wish 56 = .ok (.ishl, 1) := by decide +kernel
theorem dX6_wish_57 : decode cX6_wish 57 = .ok (.goto 4, 3) := by decide +kernel
theorem dX6_wish_60 : decode cX6_wish 60 = .ok (.iconst 0, 1) := by decide +kernel
theorem dX6_wish_61 : decode cX6_wish 61 = .ok (.ior, 1) := by decide +kernel
theorem dX6_wish_62 : decode cX6_wish 62 = .ok (.istore_n 3, 1) := by decide +kernel
theorem dX6_wish_63 : decode cX6_wish 63 = .ok (.iload 4, 2) := by decide +kernel
theorem dX6_wish_65 : decode cX6_wish 65 = .ok (.aload_n 0, 1) := by decide +kernel
theorem dX6_wish_66 : decode cX6_wish 66 = .ok (.getfield 16, 3) := by decide +kernel
theorem dX6_wish_69 : decode cX6_wish 69 = .ok (.iload 5, 2) := by decide +kernel
theorem dX6_wish_71 : decode cX6_wish 71 = .ok (.iaload, 1) := by decide +kernel
theorem dX6_wish_72 : decode cX6_wish 72 = .ok (.bipush 100, 2) := by decide +kernel
theorem dX6_wish_74 : decode cX6_wish 74 = .ok (.if_icmp .ne 10, 3) := by decide +kernel
theorem dX6_wish_77 : decode cX6_wish 77 = .ok (.iconst 1, 1) := by decide +kernel
theorem dX6_wish_78 : decode cX6_wish 78 = .ok (.iload 5, 2) := by decide +kernel
theorem dX6_wish_80 : decode cX6_wish 80 = .ok (.ishl, 1) := by decide +kernel
theorem dX6_wish_81 : decode cX6_wish 81 = .ok (.goto 4, 3) := by decide +kernel
theorem dX6_wish_84 : decode cX6_wish 84 = .ok (.iconst 0, 1) := by decide +kernel
theorem dX6_wish_85 : decode cX6_wish 85 = .ok (.ior, 1) := by decide +kernel
theorem dX6_wish_86 : decode cX6_wish 86 = .ok (.istore 4, 2) := by decide +kernel
theorem dX6_wish_88 : decode cX6_wish 88 = .ok (.iinc 5 1, 3) := by decide +kernel
theorem dX6_wish_91 : decode cX6_wish 91 = .ok (.goto (-58), 3) := by decide +kernel
theorem dX6_wish_94 : decode cX6_wish 94 = .ok (.aload_n 0, 1) := by decide +kernel
theorem dX6_wish_95 : decode cX6_wish 95 = .ok (.getfield 7, 3) := by decide +kernel
theorem dX6_wish_98 : decode cX6_wish 98 = .ok (.bipush 94, 2) := by decide +kernel
theorem dX6_wish_100 : decode cX6_wish 100 = .ok (.iload_n 1, 1) := by decide +kernel
theorem dX6_wish_101 : decode cX6_wish 101 = .ok (.iadd, 1) := by decide +kernel
theorem dX6_wish_102 : decode cX6_wish 102 = .ok (.iload_n 3, 1) := by decide +kernel
theorem dX6_wish_103 : decode cX6_wish 103 = .ok (.iastore, 1) := by decide +kernel
theorem dX6_wish_104 : decode cX6_wish 104 = .ok (.aload_n 0, 1) := by decide +kernel
theorem dX6_wish_105 : decode cX6_wish 105 = .ok (.getfield 7, 3) := by decide +kernel
theorem dX6_wish_108 : decode cX6_wish 108 = .ok (.bipush 99, 2) := by decide +kernel
theorem dX6_wish_110 : decode cX6_wish 110 = .ok (.iload_n 1, 1) := by decide +kernel
theorem dX6_wish_111 : decode cX6_wish 111 = .ok (.iadd, 1) := by decide +kernel
theorem dX6_wish_112 : decode cX6_wish 112 = .ok (.iload 4, 2) := by decide +kernel
theorem dX6_wish_114 : decode cX6_wish 114 = .ok (.iastore, 1) := by decide +kernel
theorem dX6_wish_115 : decode cX6_wish 115 = .ok (.iload_n 3, 1) := by decide +kernel
theorem dX6_wish_116 : decode cX6_wish 116 = .ok (.iload 4, 2) := by decide +kernel
theorem dX6_wish_118 : decode cX6_wish 118 = .ok (.ior, 1) := by decide +kernel
theorem dX6_wish_119 : decode cX6_wish 119 = .ok (.invokestatic 98, 3) := by decide +kernel
theorem dX6_wish_122 : decode cX6_wish 122 = .ok (.ireturn, 1) := by decide +kernel
theorem dX6_line_0 : decode cX6_line 0 = .ok (.iload_n 1, 1) := by decide +kernel
theorem dX6_line_1 : decode cX6_line 1 = .ok (.i2l, 1) := by decide +kernel
theorem dX6_line_2 : decode cX6_line 2 = .ok (.lconst 1, 1) := by decide +kernel
theorem dX6_line_3 : decode cX6_line 3 = .ok (.ldc2_w 87, 3) := by decide +kernel
theorem dX6_line_6 : decode cX6_line 6 = .ok (.invokestatic 52, 3) := by decide +kernel
theorem dX6_line_9 : decode cX6_line 9 = .ok (.ifCond .ne 5, 3) := by decide +kernel
theorem dX6_line_12 : decode cX6_line 12 = .ok (.iconst (-1), 1) := by decide +kernel
theorem dX6_line_13 : decode cX6_line 13 = .ok (.ireturn, 1) := by decide +kernel
theorem dX6_line_14 : decode cX6_line 14 = .ok (.aload_n 0, 1) := by decide +kernel
theorem dX6_line_15 : decode cX6_line 15 = .ok (.getfield 7, 3) := by decide +kernel
theorem dX6_line_18 : decode cX6_line 18 = .ok (.bipush 104, 2) := by decide +kernel
theorem dX6_line_20 : decode cX6_line 20 = .ok (.iaload, 1) := by decide +kernel
theorem dX6_line_21 : decode cX6_line 21 = .ok (.istore_n 2, 1) := by decide +kernel
theorem dX6_line_22 : decode cX6_line 22 = .ok (.aload_n 0, 1) := by decide +kernel
