theorem dX6_line_23 : decode cX6_line 23 = .ok (.getfield 7, 3) := by decide +kernel
theorem dX6_line_26 : decode cX6_line 26 = .ok (.bipush 104, 2) := by decide +kernel
theorem dX6_line_28 : decode cX6_line 28 = .ok (.iload_n 1, 1) := by decide +kernel
theorem dX6_line_29 : decode cX6_line 29 = .ok (.iastore, 1) := by decide +kernel
theorem dX6_line_30 : decode cX6_line 30 = .ok (.iload_n 2, 1) := by decide +kernel
theorem dX6_line_31 : decode cX6_line 31 = .ok (.ireturn, 1) := by decide +kernel
theorem dX6_way_0 : decode cX6_way 0 = .ok (.iload_n 1, 1) := by decide +kernel
theorem dX6_way_1 : decode cX6_way 1 = .ok (.i2l, 1) := by decide +kernel
theorem dX6_way_2 : decode cX6_way 2 = .ok (.lconst 0, 1) := by decide +kernel
theorem dX6_way_3 : decode cX6_way 3 = .ok (.lconst 1, 1) := by decide +kernel
theorem dX6_way_4 : decode cX6_way 4 = .ok (.invokestatic 52, 3) := by decide +kernel
theorem dX6_way_7 : decode cX6_way 7 = .ok (.ifCond .ne 5, 3) := by decide +kernel
theorem dX6_way_10 : decode cX6_way 10 = .ok (.iconst (-1), 1) := by decide +kernel
theorem dX6_way_11 : decode cX6_way 11 = .ok (.ireturn, 1) := by decide +kernel
theorem dX6_way_12 : decode cX6_way 12 = .ok (.aload_n 0, 1) := by decide +kernel
theorem dX6_way_13 : decode cX6_way 13 = .ok (.getfield 7, 3) := by decide +kernel
theorem dX6_way_16 : decode cX6_way 16 = .ok (.bipush 105, 2) := by decide +kernel
theorem dX6_way_18 : decode cX6_way 18 = .ok (.iaload, 1) := by decide +kernel
theorem dX6_way_19 : decode cX6_way 19 = .ok (.istore_n 2, 1) := by decide +kernel
theorem dX6_way_20 : decode cX6_way 20 = .ok (.aload_n 0, 1) := by decide +kernel
theorem dX6_way_21 : decode cX6_way 21 = .ok (.getfield 7, 3) := by decide +kernel
theorem dX6_way_24 : decode cX6_way 24 = .ok (.bipush 105, 2) := by decide +kernel
theorem dX6_way_26 : decode cX6_way 26 = .ok (.iload_n 1, 1) := by decide +kernel
theorem dX6_way_27 : decode cX6_way 27 = .ok (.iastore, 1) := by decide +kernel
theorem dX6_way_28 : decode cX6_way 28 = .ok (.iload_n 2, 1) := by decide +kernel
theorem dX6_way_29 : decode cX6_way 29 = .ok (.ireturn, 1) := by decide +kernel
theorem dX6_aheadOf_0 : decode cX6_aheadOf 0 = .ok (.iload_n 1, 1) := by decide +kernel
theorem dX6_aheadOf_1 : decode cX6_aheadOf 1 = .ok (.aload_n 0, 1) := by decide +kernel
theorem dX6_aheadOf_2 : decode cX6_aheadOf 2 = .ok (.getfield 7, 3) := by decide +kernel
theorem dX6_aheadOf_5 : decode cX6_aheadOf 5 = .ok (.bipush 105, 2) := by decide +kernel
theorem dX6_aheadOf_7 : decode cX6_aheadOf 7 = .ok (.iaload, 1) := by decide +kernel
theorem dX6_aheadOf_8 : decode cX6_aheadOf 8 = .ok (.ifCond .ne 8, 3) := by decide +kernel
theorem dX6_aheadOf_11 : decode cX6_aheadOf 11 = .ok (.bipush 11, 2) := by decide +kernel
theorem dX6_aheadOf_13 : decode cX6_aheadOf 13 = .ok (.goto 4, 3) := by decide +kernel
theorem dX6_aheadOf_16 : decode cX6_aheadOf 16 = .ok (.iconst 1, 1) := by decide +kernel
theorem dX6_aheadOf_17 : decode cX6_aheadOf 17 = .ok (.iadd, 1) := by decide +kernel
theorem dX6_aheadOf_18 : decode cX6_aheadOf 18 = .ok (.bipush 12, 2) := by decide +kernel
theorem dX6_aheadOf_20 : decode cX6_aheadOf 20 = .ok (.irem, 1) := by decide +kernel
theorem dX6_aheadOf_21 : decode cX6_aheadOf 21 = .ok (.ireturn, 1) := by decide +kernel
theorem dX6_behind_0 : decode cX6_behind 0 = .ok (.iload_n 1, 1) := by decide +kernel
theorem dX6_behind_1 : decode cX6_behind 1 = .ok (.aload_n 0, 1) := by decide +kernel
theorem dX6_behind_2 : decode cX6_behind 2 = .ok (.getfield 7, 3) := by decide +kernel
theorem dX6_behind_5 : decode cX6_behind 5 = .ok (.bipush 105, 2) := by decide +kernel
theorem dX6_behind_7 : decode cX6_behind 7 = .ok (.iaload, 1) := by decide +kernel
theorem dX6_behind_8 : decode cX6_behind 8 = .ok (.ifCond .ne 7, 3) := by decide +kernel
theorem dX6_behind_11 : decode cX6_behind 11 = .ok (.iconst 1, 1) := by decide +kernel
theorem dX6_behind_12 : decode cX6_behind 12 = .ok (.goto 5, 3) := by decide +kernel
theorem dX6_behind_15 : decode cX6_behind 15 = .ok (.bipush 11, 2) := by decide +kernel
theorem dX6_behind_17 : decode cX6_behind 17 = .ok (.iadd, 1) := by decide +kernel
theorem dX6_behind_18 : decode cX6_behind 18 = .ok (.bipush 12, 2) := by decide +kernel
theorem dX6_behind_20 : decode cX6_behind 20 = .ok (.irem, 1) := by decide +kernel
theorem dX6_behind_21 : decode cX6_behind 21 = .ok (.ireturn, 1) := by decide +kernel
theorem dX6_hairOf_0 : decode cX6_hairOf 0 = .ok (.aload_n 0, 1) := by decide +kernel
theorem dX6_hairOf_1 : decode cX6_hairOf 1 = .ok (.getfield 7, 3) := by decide +kernel
theorem dX6_hairOf_4 : decode cX6_hairOf 4 = .ok (.iconst 1, 1) := by decide +kernel
theorem dX6_hairOf_5 : decode cX6_hairOf 5 = .ok (.bipush 12, 2) := by decide +kernel
theorem dX6_hairOf_7 : decode cX6_hairOf 7 = .ok (.aload_n 0, 1) := by decide +kernel
theorem dX6_hairOf_8 : decode cX6_hairOf 8 = .ok (.getfield 7, 3) := by decide +kernel
theorem dX6_hairOf_11 : decode cX6_hairOf 11 = .ok (.bipush 79, 2) := by decide +kernel
theorem dX6_hairOf_13 : decode cX6_hairOf 13 = .ok (.iload_n 1, 1) := by decide +kernel
theorem dX6_hairOf_14 : decode cX6_hairOf 14 = .ok (.iadd, 1) := by decide +kernel
theorem dX6_hairOf_15 : decode cX6_hairOf 15 = .ok (.iaload, 1) := by decide +kernel
theorem dX6_hairOf_16 : decode cX6_hairOf 16 = .ok (.imul, 1) := by decide +kernel
theorem dX6_hairOf_17 : decode cX6_hairOf 17 = .ok (.iadd, 1) := by decide +kernel
theorem dX6_hairOf_18 : decode cX6_hairOf 18 = .ok (.iload_n 2, 1) := by decide +kernel
theorem dX6_hairOf_19 : decode cX6_hairOf 19 = .ok (.aload_n 0, 1) := by decide +kernel
theorem dX6_hairOf_20 : decode cX6_hairOf 20 = .ok (.getfield 7, 3) := by decide +kernel
theorem dX6_hairOf_23 : decode cX6_hairOf 23 = .ok (.bipush 84, 2) := by decide +kernel
theorem dX6_hairOf_25 : decode cX6_hairOf 25 = .ok (.iload_n 1, 1) := by decide +kernel
theorem dX6_hairOf_26 : decode cX6_hairOf 26 = .ok (.iadd, 1) := by decide +kernel
theorem dX6_hairOf_27 : decode cX6_hairOf 27 = .ok (.iaload, 1) := by decide +kernel
theorem dX6_hairOf_28 : decode cX6_hairOf 28 = .ok (.iadd, 1) := by decide +kernel
theorem dX6_hairOf_29 : decode cX6_hairOf 29 = .ok (.bipush 12, 2) := by decide +kernel
theorem dX6_hairOf_31 : decode cX6_hairOf 31 = .ok (.irem, 1) := by decide +kernel
theorem dX6_hairOf_32 : decode cX6_hairOf 32 = .ok (.iadd, 1) := by decide +kernel
theorem dX6_hairOf_33 : decode cX6_hairOf 33 = .ok (.iaload, 1) := by decide +kernel
theorem dX6_hairOf_34 : decode cX6_hairOf 34 = .ok (.ireturn, 1) := by decide +kernel
theorem dX6_heightOf_0 : decode cX6_heightOf 0 = .ok (.aload_n 0, 1) := by decide +kernel
theorem dX6_heightOf_1 : decode cX6_heightOf 1 = .ok (.iload_n 1, 1) := by decide +kernel
theorem dX6_heightOf_2 : decode cX6_heightOf 2 = .ok (.iload_n 2, 1) := by decide +kernel
theorem dX6_heightOf_3 : decode cX6_heightOf 3 = .ok (.invokevirtual 102, 3) := by decide +kernel
theorem dX6_heightOf_6 : decode cX6_heightOf 6 = .ok (.istore_n 3, 1) := by decide +kernel
theorem dX6_heightOf_7 : decode cX6_heightOf 7 = .ok (.aload_n 0, 1) := by decide +kernel
theorem dX6_heightOf_8 : decode cX6_heightOf 8 = .ok (.getfield 7, 3) := by decide +kernel
theorem dX6_heightOf_11 : decode cX6_heightOf 11 = .ok (.bipush 74, 2) := by decide +kernel
theorem dX6_heightOf_13 : decode cX6_heightOf 13 = .ok (.iload_n 1, 1) := by decide +kernel
theorem dX6_heightOf_14 : decode cX6_heightOf 14 = .ok (.iadd, 1) := by decide +kernel
theorem dX6_heightOf_15 : decode cX6_heightOf 15 = .ok (.iaload, 1) := by decide +kernel
theorem dX6_heightOf_16 : decode cX6_heightOf 16 = .ok (.tableswitch 121 1 3 #[28, 56, 32], 28) := by decide +kernel
theorem dX6_heightOf_44 : decode cX6_heightOf 44 = .ok (.iconst 2, 1) := by decide +kernel
theorem dX6_heightOf_45 : decode cX6_heightOf 45 = .ok (.iload_n 3, 1) := by decide +kernel
theorem dX6_heightOf_46 : decode cX6_heightOf 46 = .ok (.imul, 1) := by decide +kernel
theorem dX6_heightOf_47 : decode cX6_heightOf 47 = .ok (.ireturn, 1) := by decide +kernel
theorem dX6_heightOf_48 : decode cX6_heightOf 48 = .ok (.iconst 2, 1) := by decide +kernel
theorem dX6_heightOf_49 : decode cX6_heightOf 49 = .ok (.iload_n 3, 1) := by decide +kernel
theorem dX6_heightOf_50 : decode cX6_heightOf 50 = .ok (.imul, 1) := by decide +kernel
theorem dX6_heightOf_51 : decode cX6_heightOf 51 = .ok (.iload_n 3, 1) := by decide +kernel
theorem dX6_heightOf_52 : decode cX6_heightOf 52 = .ok (.aload_n 0, 1) := by decide +kernel
theorem dX6_heightOf_53 : decode cX6_heightOf 53 = .ok (.iload_n 1, 1) := by decide +kernel
theorem dX6_heightOf_54 : decode cX6_heightOf 54 = .ok (.aload_n 0, 1) := by decide +kernel
theorem dX6_heightOf_55 : decode cX6_heightOf 55 = .ok (.iload_n 2, 1) := by decide +kernel
theorem dX6_heightOf_56 : decode cX6_heightOf 56 = .ok (.invokevirtual 106, 3) := by decide +kernel
theorem dX6_heightOf_59 : decode cX6_heightOf 59 = .ok (.invokevirtual 102, 3) := by decide +kernel
theorem dX6_heightOf_62 : decode cX6_heightOf 62 = .ok (.if_icmp .le 7, 3) := by decide +kernel
theorem dX6_heightOf_65 : decode cX6_heightOf 65 = .ok (.iconst 1, 1) := by decide +kernel
theorem dX6_heightOf_66 : decode cX6_heightOf 66 = .ok (.goto 4, 3) := by decide +kernel
theorem dX6_heightOf_69 : decode cX6_heightOf 69 = .ok (.iconst 0, 1) := by decide +kernel
theorem dX6_heightOf_70 : decode cX6_heightOf 70 = .ok (.iadd, 1) := by decide +kernel
theorem dX6_heightOf_71 : decode cX6_heightOf 71 = .ok (.ireturn, 1) := by decide +kernel
theorem dX6_heightOf_72 : decode cX6_heightOf 72 = .ok (.iload_n 3, 1) := by decide +kernel
theorem dX6_heightOf_73 : decode cX6_heightOf 73 = .ok (.istore 4, 2) := by decide +kernel
theorem dX6_heightOf_75 : decode cX6_heightOf 75 = .ok (.iload_n 2, 1) := by decide +kernel
theorem dX6_heightOf_76 : decode cX6_heightOf 76 = .ok (.istore 5, 2) := by decide +kernel
theorem dX6_heightOf_78 : decode cX6_heightOf 78 = .ok (.iconst 1, 1) := by decide +kernel
theorem dX6_heightOf_79 : decode cX6_heightOf 79 = .ok (.istore 6, 2) := by decide +kernel
theorem dX6_heightOf_81 : decode cX6_heightOf 81 = .ok (.iload 6, 2) := by decide +kernel
theorem dX6_heightOf_83 : decode cX6_heightOf 83 = .ok (.bipush 12, 2) := by decide +kernel
theorem dX6_heightOf_85 : decode cX6_heightOf 85 = .ok (.if_icmp .ge 49, 3) := by decide +kernel
theorem dX6_heightOf_88 : decode cX6_heightOf 88 = .ok (.aload_n 0, 1) := by decide +kernel
theorem dX6_heightOf_89 : decode cX6_heightOf 89 = .ok (.iload 5, 2) := by decide +kernel
theorem dX6_heightOf_91 : decode cX6_heightOf 91 = .ok (.invokevirtual 106, 3) := by decide +kernel
theorem dX6_heightOf_94 : decode cX6_heightOf 94 = .ok (.istore 5, 2) := by decide +kernel
theorem dX6_heightOf_96 : decode cX6_heightOf 96 = .ok (.aload_n 0, 1) := by decide +kernel
theorem dX6_heightOf_97 : decode cX6_heightOf 97 = .ok (.iload_n 1, 1) := by decide +kernel
theorem dX6_heightOf_98 : decode cX6_heightOf 98 = .ok (.iload 5, 2) := by decide +kernel
theorem dX6_heightOf_100 : decode cX6_heightOf 100 = .ok (.invokevirtual 102, 3) := by decide +kernel
theorem dX6_heightOf_103 : decode cX6_heightOf 103 = .ok (.iload 6, 2) := by decide +kernel
theorem dX6_heightOf_105 : decode cX6_heightOf 105 = .ok (.isub, 1) := by decide +kernel
theorem dX6_heightOf_106 : decode cX6_heightOf 106 = .ok (.iload 4, 2) := by decide +kernel
theorem dX6_heightOf_108 : decode cX6_heightOf 108 = .ok (.if_icmp .le 16, 3) := by decide +kernel
theorem dX6_heightOf_111 : decode cX6_heightOf 111 = .ok (.aload_n 0, 1) := by decide +kernel
theorem dX6_heightOf_112 : decode cX6_heightOf 112 = .ok (.iload_n 1, 1) := by decide +kernel
theorem dX6_heightOf_113 : decode cX6_heightOf 113 = .ok (.iload 5, 2) := by decide +kernel
theorem dX6_heightOf_115 : decode cX6_heightOf 115 = .ok (.invokevirtual 102, 3) := by decide +kernel
theorem dX6_heightOf_118 : decode cX6_heightOf 118 = .ok (.iload 6, 2) := by decide +kernel
theorem dX6_heightOf_120 : decode cX6_heightOf 120 = .ok (.isub, 1) := by decide +kernel
theorem dX6_heightOf_121 : decode cX6_heightOf 121 = .ok (.goto 5, 3) := by decide +kernel
theorem dX6_heightOf_124 : decode cX6_heightOf 124 = .ok (.iload 4, 2) := by decide +kernel
theorem dX6_heightOf_126 : decode cX6_heightOf 126 = .ok (.istore 4, 2) := by decide +kernel
theorem dX6_heightOf_128 : decode cX6_heightOf 128 = .ok (.iinc 6 1, 3) := by decide +kernel
theorem dX6_heightOf_131 : decode cX6_heightOf 131 = .ok (.goto (-50), 3) := by decide +kernel
theorem dX6_heightOf_134 : decode cX6_heightOf 134 = .ok (.iload 4, 2) := by decide +kernel
theorem dX6_heightOf_136 : decode cX6_heightOf 136 = .ok (.ireturn, 1) := by decide +kernel
theorem dX6_heightOf_137 : decode cX6_heightOf 137 = .ok (.iload_n 3, 1) := by decide +kernel
theorem dX6_heightOf_138 : decode cX6_heightOf 138 = .ok (.ireturn, 1) := by decide +kernel
theorem dX6_upsOf_0 : decode cX6_upsOf 0 = .ok (.iconst 0, 1) := by decide +kernel
theorem dX6_upsOf_1 : decode cX6_upsOf 1 = .ok (.istore_n 2, 1) := by decide +kernel
theorem dX6_upsOf_2 : decode cX6_upsOf 2 = .ok (.iconst 0, 1) := by decide +kernel
theorem dX6_upsOf_3 : decode cX6_upsOf 3 = .ok (.istore_n 3, 1) := by decide +kernel
theorem dX6_upsOf_4 : decode cX6_upsOf 4 = .ok (.iload_n 3, 1) := by decide +kernel
theorem dX6_upsOf_5 : decode cX6_upsOf 5 = .ok (.bipush 12, 2) := by decide +kernel
theorem dX6_upsOf_7 : decode cX6_upsOf 7 = .ok (.if_icmp .ge 35, 3) := by decide +kernel
theorem dX6_upsOf_10 : decode cX6_upsOf 10 = .ok (.iload_n 2, 1) := by decide +kernel
theorem dX6_upsOf_11 : decode cX6_upsOf 11 = .ok (.aload_n 0, 1) := by decide +kernel
theorem dX6_upsOf_12 : decode cX6_upsOf 12 = .ok (.iload_n 1, 1) := by decide +kernel
theorem dX6_upsOf_13 : decode cX6_upsOf 13 = .ok (.iload_n 3, 1) := by decide +kernel
theorem dX6_upsOf_14 : decode cX6_upsOf 14 = .ok (.invokevirtual 109, 3) := by decide +kernel
theorem dX6_upsOf_17 : decode cX6_upsOf 17 = .ok (.aload_n 0, 1) := by decide +kernel
theorem dX6_upsOf_18 : decode cX6_upsOf 18 = .ok (.getfield 7, 3) := by decide +kernel
theorem dX6_upsOf_21 : decode cX6_upsOf 21 = .ok (.bipush 104, 2) := by decide +kernel
theorem dX6_upsOf_23 : decode cX6_upsOf 23 = .ok (.iaload, 1) := by decide +kernel
theorem dX6_upsOf_24 : decode cX6_upsOf 24 = .ok (.if_icmp .lt 9, 3) := by decide +kernel
theorem dX6_upsOf_27 : decode cX6_upsOf 27 = .ok (.iconst 1, 1) := by decide +kernel
theorem dX6_upsOf_28 : decode cX6_upsOf 28 = .ok (.iload_n 3, 1) := by decide +kernel
theorem dX6_upsOf_29 : decode cX6_upsOf 29 = .ok (.ishl, 1) := by decide +kernel
theorem dX6_upsOf_30 : decode cX6_upsOf 30 = .ok (.goto 4, 3) := by decide +kernel
theorem dX6_upsOf_33 : decode cX6_upsOf 33 = .ok (.iconst 0, 1) := by decide +kernel
theorem dX6_upsOf_34 : decode cX6_upsOf 34 = .ok (.ior, 1) := by decide +kernel
theorem dX6_upsOf_35 : decode cX6_upsOf 35 = .ok (.istore_n 2, 1) := by decide +kernel
theorem dX6_upsOf_36 : decode cX6_upsOf 36 = .ok (.iinc 3 1, 3) := by decide +kernel
theorem dX6_upsOf_39 : decode cX6_upsOf 39 = .ok (.goto (-35), 3) := by decide +kernel
theorem dX6_upsOf_42 : decode cX6_upsOf 42 = .ok (.iload_n 2, 1) := by decide +kernel
theorem dX6_upsOf_43 : decode cX6_upsOf 43 = .ok (.ireturn, 1) := by decide +kernel
theorem dX6_height_0 : decode cX6_height 0 = .ok (.aload_n 0, 1) := by decide +kernel
theorem dX6_height_1 : decode cX6_height 1 = .ok (.iload_n 1, 1) := by decide +kernel
theorem dX6_height_2 : decode cX6_height 2 = .ok (.invokevirtual 95, 3) := by decide +kernel
theorem dX6_height_5 : decode cX6_height 5 = .ok (.ifCond .eq 19, 3) := by decide +kernel
theorem dX6_height_8 : decode cX6_height 8 = .ok (.iload_n 2, 1) := by decide +kernel
theorem dX6_height_9 : decode cX6_height 9 = .ok (.invokestatic 84, 3) := by decide +kernel
theorem dX6_height_12 : decode cX6_height 12 = .ok (.ifCond .eq 12, 3) := by decide +kernel
theorem dX6_height_15 : decode cX6_height 15 = .ok (.aload_n 0, 1) := by decide +kernel
theorem dX6_height_16 : decode cX6_height 16 = .ok (.iload_n 1, 1) := by decide +kernel
theorem dX6_height_17 : decode cX6_height 17 = .ok (.iload_n 2, 1) := by decide +kernel
theorem dX6_height_18 : decode cX6_height 18 = .ok (.invokevirtual 109, 3) := by decide +kernel
theorem dX6_height_21 : decode cX6_height 21 = .ok (.goto 4, 3) := by decide +kernel
theorem dX6_height_24 : decode cX6_height 24 = .ok (.iconst (-1), 1) := by decide +kernel
theorem dX6_height_25 : decode cX6_height 25 = .ok (.ireturn, 1) := by decide +kernel
theorem dX6_ups_0 : decode cX6_ups 0 = .ok (.aload_n 0, 1) := by decide +kernel
theorem dX6_ups_1 : decode cX6_ups 1 = .ok (.iload_n 1, 1) := by decide +kernel
theorem dX6_ups_2 : decode cX6_ups 2 = .ok (.invokevirtual 95, 3) := by decide +kernel
theorem dX6_ups_5 : decode cX6_ups 5 = .ok (.ifCond .eq 11, 3) := by decide +kernel
theorem dX6_ups_8 : decode cX6_ups 8 = .ok (.aload_n 0, 1) := by decide +kernel
theorem dX6_ups_9 : decode cX6_ups 9 = .ok (.iload_n 1, 1) := by decide +kernel
theorem dX6_ups_10 : decode cX6_ups 10 = .ok (.invokevirtual 112, 3) := by decide +kernel
theorem dX6_ups_13 : decode cX6_ups 13 = .ok (.goto 4, 3) := by decide +kernel
theorem dX6_ups_16 : decode cX6_ups 16 = .ok (.iconst (-1), 1) := by decide +kernel
theorem dX6_ups_17 : decode cX6_ups 17 = .ok (.ireturn, 1) := by decide +kernel
theorem dX6_strikesOf_0 : decode cX6_strikesOf 0 = .ok (.aload_n 0, 1) := by decide +kernel
theorem dX6_strikesOf_1 : decode cX6_strikesOf 1 = .ok (.getfield 7, 3) := by decide +kernel
theorem dX6_strikesOf_4 : decode cX6_strikesOf 4 = .ok (.bipush 89, 2) := by decide +kernel
theorem dX6_strikesOf_6 : decode cX6_strikesOf 6 = .ok (.iload_n 1, 1) := by decide +kernel
theorem dX6_strikesOf_7 : decode cX6_strikesOf 7 = .ok (.iadd, 1) := by decide +kernel
theorem dX6_strikesOf_8 : decode cX6_strikesOf 8 = .ok (.iaload, 1) := by decide +kernel
theorem dX6_strikesOf_9 : decode cX6_strikesOf 9 = .ok (.aload_n 0, 1) := by decide +kernel
theorem dX6_strikesOf_10 : decode cX6_strikesOf 10 = .ok (.getfield 7, 3) := by decide +kernel
theorem dX6_strikesOf_13 : decode cX6_strikesOf 13 = .ok (.bipush 89, 2) := by decide +kernel
theorem dX6_strikesOf_15 : decode cX6_strikesOf 15 = .ok (.iload_n 2, 1) := by decide +kernel
theorem dX6_strikesOf_16 : decode cX6_strikesOf 16 = .ok (.iadd, 1) := by decide +kernel
theorem dX6_strikesOf_17 : decode cX6_strikesOf 17 = .ok (.iaload, 1) := by decide +kernel
theorem dX6_strikesOf_18 : decode cX6_strikesOf 18 = .ok (.if_icmp .eq 5, 3) := by decide +kernel
theorem dX6_strikesOf_21 : decode cX6_strikesOf 21 = .ok (.iconst 0, 1) := by decide +kernel
theorem dX6_strikesOf_22 : decode cX6_strikesOf 22 = .ok (.ireturn, 1) := by decide +kernel
theorem dX6_strikesOf_23 : decode cX6_strikesOf 23 = .ok (.aload_n 0, 1) := by decide +kernel
theorem dX6_strikesOf_24 : decode cX6_strikesOf 24 = .ok (.iload_n 1, 1) := by decide +kernel
theorem dX6_strikesOf_25 : decode cX6_strikesOf 25 = .ok (.invokevirtual 112, 3) := by decide +kernel
theorem dX6_strikesOf_28 : decode cX6_strikesOf 28 = .ok (.aload_n 0, 1) := by decide +kernel
theorem dX6_strikesOf_29 : decode cX6_strikesOf 29 = .ok (.iload_n 2, 1) := by decide +kernel
theorem dX6_strikesOf_30 : decode cX6_strikesOf 30 = .ok (.invokevirtual 112, 3) := by decide +kernel
theorem dX6_strikesOf_33 : decode cX6_strikesOf 33 = .ok (.iand, 1) := by decide +kernel
theorem dX6_strikesOf_34 : decode cX6_strikesOf 34 = .ok (.istore_n 3, 1) := by decide +kernel
theorem dX6_strikesOf_35 : decode cX6_strikesOf 35 = .ok (.iconst 0, 1) := by decide +kernel
theorem dX6_strikesOf_36 : decode cX6_strikesOf 36 = .ok (.istore 4, 2) := by decide +kernel
theorem dX6_strikesOf_38 : decode cX6_strikesOf 38 = .ok (.iconst 0, 1) := by decide +kernel
theorem dX6_strikesOf_39 : decode cX6_strikesOf 39 = .ok (.istore 5, 2) := by decide +kernel
theorem dX6_strikesOf_41 : decode cX6_strikesOf 41 = .ok (.iload 5, 2) := by decide +kernel
theorem dX6_strikesOf_43 : decode cX6_strikesOf 43 = .ok (.bipush 12, 2) := by decide +kernel
theorem dX6_strikesOf_45 : decode cX6_strikesOf 45 = .ok (.if_icmp .ge 44, 3) := by decide +kernel
theorem dX6_strikesOf_48 : decode cX6_strikesOf 48 = .ok (.iload 4, 2) := by decide +kernel
theorem dX6_strikesOf_50 : decode cX6_strikesOf 50 = .ok (.iload_n 3, 1) := by decide +kernel
theorem dX6_strikesOf_51 : decode cX6_strikesOf 51 = .ok (.iload 5, 2) := by decide +kernel
theorem dX6_strikesOf_53 : decode cX6_strikesOf 53 = .ok (.invokestatic 115, 3) := by decide +kernel
theorem dX6_strikesOf_56 : decode cX6_strikesOf 56 = .ok (.ifCond .eq 23, 3) := by decide +kernel
theorem dX6_strikesOf_59 : decode cX6_strikesOf 59 = .ok (.iload_n 3, 1) := by decide +kernel
theorem dX6_strikesOf_60 : decode cX6_strikesOf 60 = .ok (.aload_n 0, 1) := by decide +kernel
theorem dX6_strikesOf_61 : decode cX6_strikesOf 61 = .ok (.iload 5, 2) := by decide +kernel
theorem dX6_strikesOf_63 : decode cX6_strikesOf 63 = .ok (.invokevirtual 106, 3) := by decide +kernel
theorem dX6_strikesOf_66 : decode cX6_strikesOf 66 = .ok (.invokestatic 115, 3) := by decide +kernel
theorem dX6_strikesOf_69 : decode cX6_strikesOf 69 = .ok (.ifCond .ne 10, 3) := by decide +kernel
theorem dX6_strikesOf_72 : decode cX6_strikesOf 72 = .ok (.iconst 1, 1) := by decide +kernel
theorem dX6_strikesOf_73 : decode cX6_strikesOf 73 = .ok (.iload 5, 2) := by decide +kernel
theorem dX6_strikesOf_75 : decode cX6_strikesOf 75 = .ok (.ishl, 1) := by decide +kernel
theorem dX6_strikesOf_76 : decode cX6_strikesOf 76 = .ok (.goto 4, 3) := by decide +kernel
theorem dX6_strikesOf_79 : decode cX6_strikesOf 79 = .ok (.iconst 0, 1) := by decide +kernel
theorem dX6_strikesOf_80 : decode cX6_strikesOf 80 = .ok (.ior, 1) := by decide +kernel
theorem dX6_strikesOf_81 : decode cX6_strikesOf 81 = .ok (.istore 4, 2) := by decide +kernel
theorem dX6_strikesOf_83 : decode cX6_strikesOf 83 = .ok (.iinc 5 1, 3) := by decide +kernel
theorem dX6_strikesOf_86 : decode cX6_strikesOf 86 = .ok (.goto (-45), 3) := by decide +kernel
theorem dX6_strikesOf_89 : decode cX6_strikesOf 89 = .ok (.iload 4, 2) := by decide +kernel
theorem dX6_strikesOf_91 : decode cX6_strikesOf 91 = .ok (.ireturn, 1) := by decide +kernel
theorem dX6_strikes_0 : decode cX6_strikes 0 = .ok (.aload_n 0, 1) := by decide +kernel
theorem dX6_strikes_1 : decode cX6_strikes 1 = .ok (.iload_n 1, 1) := by decide +kernel
theorem dX6_strikes_2 : decode cX6_strikes 2 = .ok (.invokevirtual 95, 3) := by decide +kernel
theorem dX6_strikes_5 : decode cX6_strikes 5 = .ok (.ifCond .eq 25, 3) := by decide +kernel
theorem dX6_strikes_8 : decode cX6_strikes 8 = .ok (.aload_n 0, 1) := by decide +kernel
theorem dX6_strikes_9 : decode cX6_strikes 9 = .ok (.iload_n 2, 1) := by decide +kernel
theorem dX6_strikes_10 : decode cX6_strikes 10 = .ok (.invokevirtual 95, 3) := by decide +kernel
theorem dX6_strikes_13 : decode cX6_strikes 13 = .ok (.ifCond .eq 17, 3) := by decide +kernel
theorem dX6_strikes_16 : decode cX6_strikes 16 = .ok (.iload_n 1, 1) := by decide +kernel
theorem dX6_strikes_17 : decode cX6_strikes 17 = .ok (.iload_n 2, 1) := by decide +kernel
theorem dX6_strikes_18 : decode cX6_strikes 18 = .ok (.if_icmp .eq 12, 3) := by decide +kernel
theorem dX6_strikes_21 : decode cX6_strikes 21 = .ok (.aload_n 0, 1) := by decide +kernel
theorem dX6_strikes_22 : decode cX6_strikes 22 = .ok (.iload_n 1, 1) := by decide +kernel
theorem dX6_strikes_23 : decode cX6_strikes 23 = .ok (.iload_n 2, 1) := by decide +kernel
theorem dX6_strikes_24 : decode cX6_strikes 24 = .ok (.invokevirtual 118, 3) := by decide +kernel
theorem dX6_strikes_27 : decode cX6_strikes 27 = .ok (.goto 4, 3) := by decide +kernel
theorem dX6_strikes_30 : decode cX6_strikes 30 = .ok (.iconst (-1), 1) := by decide +kernel
theorem dX6_strikes_31 : decode cX6_strikes 31 = .ok (.ireturn, 1) := by decide +kernel
theorem dX6_turn_0 : decode cX6_turn 0 = .ok (.iload_n 1, 1) := by decide +kernel
theorem dX6_turn_1 : decode cX6_turn 1 = .ok (.i2l, 1) := by decide +kernel
theorem dX6_turn_2 : decode cX6_turn 2 = .ok (.lconst 1, 1) := by decide +kernel
theorem dX6_turn_3 : decode cX6_turn 3 = .ok (.ldc2_w 121, 3) := by decide +kernel
theorem dX6_turn_6 : decode cX6_turn 6 = .ok (.invokestatic 52, 3) := by decide +kernel
theorem dX6_turn_9 : decode cX6_turn 9 = .ok (.ifCond .ne 5, 3) := by decide +kernel
theorem dX6_turn_12 : decode cX6_turn 12 = .ok (.iconst (-1), 1) := by decide +kernel
theorem dX6_turn_13 : decode cX6_turn 13 = .ok (.ireturn, 1) := by decide +kernel
theorem dX6_turn_14 : decode cX6_turn 14 = .ok (.iconst 0, 1) := by decide +kernel
theorem dX6_turn_15 : decode cX6_turn 15 = .ok (.istore_n 2, 1) := by decide +kernel
theorem dX6_turn_16 : decode cX6_turn 16 = .ok (.iconst 0, 1) := by decide +kernel
theorem dX6_turn_17 : decode cX6_turn 17 = .ok (.istore_n 3, 1) := by decide +kernel
theorem dX6_turn_18 : decode cX6_turn 18 = .ok (.iload_n 3, 1) := by decide +kernel
theorem dX6_turn_19 : decode cX6_turn 19 = .ok (.aload_n 0, 1) := by decide +kernel
theorem dX6_turn_20 : decode cX6_turn 20 = .ok (.getfield 7, 3) := by decide +kernel
theorem dX6_turn_23 : decode cX6_turn 23 = .ok (.bipush 73, 2) := by decide +kernel
theorem dX6_turn_25 : decode cX6_turn 25 = .ok (.iaload, 1) := by decide +kernel
theorem dX6_turn_26 : decode cX6_turn 26 = .ok (.if_icmp .ge 99, 3) := by decide +kernel
theorem dX6_turn_29 : decode cX6_turn 29 = .ok (.iload_n 3, 1) := by decide +kernel
theorem dX6_turn_30 : decode cX6_turn 30 = .ok (.iconst 1, 1) := by decide +kernel
theorem dX6_turn_31 : decode cX6_turn 31 = .ok (.iadd, 1) := by decide +kernel
theorem dX6_turn_32 : decode cX6_turn 32 = .ok (.istore 4, 2) := by decide +kernel
theorem dX6_turn_34 : decode cX6_turn 34 = .ok (.iload 4, 2) := by decide +kernel
theorem dX6_turn_36 : decode cX6_turn 36 = .ok (.aload_n 0, 1) := by decide +kernel
theorem dX6_turn_37 : decode cX6_turn 37 = .ok (.getfield 7, 3) := by decide +kernel
theorem dX6_turn_40 : decode cX6_turn 40 = .ok (.bipush 73, 2) := by decide +kernel
theorem dX6_turn_42 : decode cX6_turn 42 = .ok (.iaload, 1) := by decide +kernel
theorem dX6_turn_43 : decode cX6_turn 43 = .ok (.if_icmp .ge 76, 3) := by decide +kernel
theorem dX6_turn_46 : decode cX6_turn 46 = .ok (.aload_n 0, 1) := by decide +kernel
theorem dX6_turn_47 : decode cX6_turn 47 = .ok (.iload_n 3, 1) := by decide +kernel
theorem dX6_turn_48 : decode cX6_turn 48 = .ok (.iload 4, 2) := by decide +kernel
theorem dX6_turn_50 : decode cX6_turn 50 = .ok (.invokevirtual 118, 3) := by decide +kernel
theorem dX6_turn_53 : decode cX6_turn 53 = .ok (.istore 5, 2) := by decide +kernel
theorem dX6_turn_55 : decode cX6_turn 55 = .ok (.aload_n 0, 1) := by decide +kernel
theorem dX6_turn_56 : decode cX6_turn 56 = .ok (.getfield 7, 3) := by decide +kernel
theorem dX6_turn_59 : decode cX6_turn 59 = .ok (.bipush 106, 2) := by decide +kernel
theorem dX6_turn_61 : decode cX6_turn 61 = .ok (.iaload, 1) := by decide +kernel
theorem dX6_turn_62 : decode cX6_turn 62 = .ok (.istore 6, 2) := by decide +kernel
theorem dX6_turn_64 : decode cX6_turn 64 = .ok (.iload_n 2, 1) := by decide +kernel
theorem dX6_turn_65 : decode cX6_turn 65 = .ok (.iload_n 1, 1) := by decide +kernel
theorem dX6_turn_66 : decode cX6_turn 66 = .ok (.bipush 12, 2) := by decide +kernel
theorem dX6_turn_68 : decode cX6_turn 68 = .ok (.idiv, 1) := by decide +kernel
theorem dX6_turn_69 : decode cX6_turn 69 = .ok (.iload 5, 2) := by decide +kernel
theorem dX6_turn_71 : decode cX6_turn 71 = .ok (.invokestatic 98, 3) := by decide +kernel
theorem dX6_turn_74 : decode cX6_turn 74 = .ok (.imul, 1) := by decide +kernel
theorem dX6_turn_75 : decode cX6_turn 75 = .ok (.iadd, 1) := by decide +kernel
theorem dX6_turn_76 : decode cX6_turn 76 = .ok (.istore_n 2, 1) := by decide +kernel
theorem dX6_turn_77 : decode cX6_turn 77 = .ok (.iconst 0, 1) := by decide +kernel
theorem dX6_turn_78 : decode cX6_turn 78 = .ok (.istore 7, 2) := by decide +kernel
theorem dX6_turn_80 : decode cX6_turn 80 = .ok (.iload 7, 2) := by decide +kernel
theorem dX6_turn_82 : decode cX6_turn 82 = .ok (.iload_n 1, 1) := by decide +kernel
theorem dX6_turn_83 : decode cX6_turn 83 = .ok (.bipush 12, 2) := by decide +kernel
theorem dX6_turn_85 : decode cX6_turn 85 = .ok (.irem, 1) := by decide +kernel
theorem dX6_turn_86 : decode cX6_turn 86 = .ok (.if_icmp .ge 27, 3) := by decide +kernel
theorem dX6_turn_89 : decode cX6_turn 89 = .ok (.aload_n 0, 1) := by decide +kernel
theorem dX6_turn_90 : decode cX6_turn 90 = .ok (.iload 6, 2) := by decide +kernel
theorem dX6_turn_92 : decode cX6_turn 92 = .ok (.invokevirtual 123, 3) := by decide +kernel
theorem dX6_turn_95 : decode cX6_turn 95 = .ok (.istore 6, 2) := by decide +kernel
theorem dX6_turn_97 : decode cX6_turn 97 = .ok (.iload_n 2, 1) := by decide +kernel
theorem dX6_turn_98 : decode cX6_turn 98 = .ok (.iload 5, 2) := by decide +kernel
theorem dX6_turn_100 : decode cX6_turn 100 = .ok (.iload 6, 2) := by decide +kernel
theorem dX6_turn_102 : decode cX6_turn 102 = .ok (.ishr, 1) := by decide +kernel
theorem dX6_turn_103 : decode cX6_turn 103 = .ok (.iconst 1, 1) := by decide +kernel
theorem dX6_turn_104 : decode cX6_turn 104 = .ok (.iand, 1) := by decide +kernel
theorem dX6_turn_105 : decode cX6_turn 105 = .ok (.iadd, 1) := by decide +kernel
theorem dX6_turn_106 : decode cX6_turn 106 = .ok (.istore_n 2, 1) := by decide +kernel
theorem dX6_turn_107 : decode cX6_turn 107 = .ok (.iinc 7 1, 3) := by decide +kernel
theorem dX6_turn_110 : decode cX6_turn 110 = .ok (.goto (-30), 3) := by decide +kernel
theorem dX6_turn_113 : decode cX6_turn 113 = .ok (.iinc 4 1, 3) := by decide +kernel
theorem dX6_turn_116 : decode cX6_turn 116 = .ok (.goto (-82), 3) := by decide +kernel
theorem dX6_turn_119 : decode cX6_turn 119 = .ok (.iinc 3 1, 3) := by decide +kernel
theorem dX6_turn_122 : decode cX6_turn 122 = .ok (.goto (-104), 3) := by decide +kernel
theorem dX6_turn_125 : decode cX6_turn 125 = .ok (.iconst 0, 1) := by decide +kernel
theorem dX6_turn_126 : decode cX6_turn 126 = .ok (.istore_n 3, 1) := by decide +kernel
theorem dX6_turn_127 : decode cX6_turn 127 = .ok (.iload_n 3, 1) := by decide +kernel
theorem dX6_turn_128 : decode cX6_turn 128 = .ok (.iload_n 1, 1) := by decide +kernel
theorem dX6_turn_129 : decode cX6_turn 129 = .ok (.bipush 12, 2) := by decide +kernel
theorem dX6_turn_131 : decode cX6_turn 131 = .ok (.irem, 1) := by decide +kernel
theorem dX6_turn_132 : decode cX6_turn 132 = .ok (.if_icmp .ge 27, 3) := by decide +kernel
theorem dX6_turn_135 : decode cX6_turn 135 = .ok (.aload_n 0, 1) := by decide +kernel
theorem dX6_turn_136 : decode cX6_turn 136 = .ok (.getfield 7, 3) := by decide +kernel
theorem dX6_turn_139 : decode cX6_turn 139 = .ok (.bipush 106, 2) := by decide +kernel
theorem dX6_turn_141 : decode cX6_turn 141 = .ok (.aload_n 0, 1) := by decide +kernel
theorem dX6_turn_142 : decode cX6_turn 142 = .ok (.aload_n 0, 1) := by decide +kernel
theorem dX6_turn_143 : decode cX6_turn 143 = .ok (.getfield 7, 3) := by decide +kernel
theorem dX6_turn_146 : decode cX6_turn 146 = .ok (.bipush 106, 2) := by decide +kernel
theorem dX6_turn_148 : decode cX6_turn 148 = .ok (.iaload, 1) := by decide +kernel
theorem dX6_turn_149 : decode cX6_turn 149 = .ok (.invokevirtual 123, 3) := by decide +kernel
theorem dX6_turn_152 : decode cX6_turn 152 = .ok (.iastore, 1) := by decide +kernel
theorem dX6_turn_153 : decode cX6_turn 153 = .ok (.iinc 3 1, 3) := by decide +kernel
theorem dX6_turn_156 : decode cX6_turn 156 = .ok (.goto (-29), 3) := by decide +kernel
theorem dX6_turn_159 : decode cX6_turn 159 = .ok (.aload_n 0, 1) := by decide +kernel
theorem dX6_turn_160 : decode cX6_turn 160 = .ok (.getfield 7, 3) := by decide +kernel
theorem dX6_turn_163 : decode cX6_turn 163 = .ok (.bipush 107, 2) := by decide +kernel
theorem dX6_turn_165 : decode cX6_turn 165 = .ok (.aload_n 0, 1) := by decide +kernel
theorem dX6_turn_166 : decode cX6_turn 166 = .ok (.getfield 7, 3) := by decide +kernel
theorem dX6_turn_169 : decode cX6_turn 169 = .ok (.bipush 107, 2) := by decide +kernel
theorem dX6_turn_171 : decode cX6_turn 171 = .ok (.iaload, 1) := by decide +kernel
theorem dX6_turn_172 : decode cX6_turn 172 = .ok (.iload_n 1, 1) := by decide +kernel
theorem dX6_turn_173 : decode cX6_turn 173 = .ok (.iadd, 1) := by decide +kernel
theorem dX6_turn_174 : decode cX6_turn 174 = .ok (.ldc 126, 2) := by decide +kernel
theorem dX6_turn_176 : decode cX6_turn 176 = .ok (.if_icmp .le 8, 3) := by decide +kernel
theorem dX6_turn_179 : decode cX6_turn 179 = .ok (.ldc 126, 2) := by decide +kernel
theorem dX6_turn_181 : decode cX6_turn 181 = .ok (.goto 12, 3) := by decide +kernel
theorem dX6_turn_184 : decode cX6_turn 184 = .ok (.aload_n 0, 1) := by decide +kernel
theorem dX6_turn_185 : decode cX6_turn 185 = .ok (.getfield 7, 3) := by decide +kernel
theorem dX6_turn_188 : decode cX6_turn 188 = .ok (.bipush 107, 2) := by decide +kernel
theorem dX6_turn_190 : decode cX6_turn 190 = .ok (.iaload, 1) := by decide +kernel
theorem dX6_turn_191 : decode cX6_turn 191 = .ok (.iload_n 1, 1) := by decide +kernel
theorem dX6_turn_192 : decode cX6_turn 192 = .ok (.iadd, 1) := by decide +kernel
theorem dX6_turn_193 : decode cX6_turn 193 = .ok (.iastore, 1) := by decide +kernel
theorem dX6_turn_194 : decode cX6_turn 194 = .ok (.iload_n 2, 1) := by decide +kernel
theorem dX6_turn_195 : decode cX6_turn 195 = .ok (.ireturn, 1) := by decide +kernel
theorem dX6_wear_0 : decode cX6_wear 0 = .ok (.iload_n 1, 1) := by decide +kernel
theorem dX6_wear_1 : decode cX6_wear 1 = .ok (.i2l, 1) := by decide +kernel
theorem dX6_wear_2 : decode cX6_wear 2 = .ok (.lconst 1, 1) := by decide +kernel
theorem dX6_wear_3 : decode cX6_wear 3 = .ok (.ldc2_w 87, 3) := by decide +kernel
theorem dX6_wear_6 : decode cX6_wear 6 = .ok (.invokestatic 52, 3) := by decide +kernel
theorem dX6_wear_9 : decode cX6_wear 9 = .ok (.ifCond .ne 5, 3) := by decide +kernel
theorem dX6_wear_12 : decode cX6_wear 12 = .ok (.iconst (-1), 1) := by decide +kernel
theorem dX6_wear_13 : decode cX6_wear 13 = .ok (.ireturn, 1) := by decide +kernel
theorem dX6_wear_14 : decode cX6_wear 14 = .ok (.bipush 12, 2) := by decide +kernel
theorem dX6_wear_16 : decode cX6_wear 16 = .ok (.aload_n 0, 1) := by decide +kernel
theorem dX6_wear_17 : decode cX6_wear 17 = .ok (.getfield 7, 3) := by decide +kernel
theorem dX6_wear_20 : decode cX6_wear 20 = .ok (.iconst 0, 1) := by decide +kernel
theorem dX6_wear_21 : decode cX6_wear 21 = .ok (.iaload, 1) := by decide +kernel
theorem dX6_wear_22 : decode cX6_wear 22 = .ok (.imul, 1) := by decide +kernel
theorem dX6_wear_23 : decode cX6_wear 23 = .ok (.istore_n 2, 1) := by decide +kernel
theorem dX6_wear_24 : decode cX6_wear 24 = .ok (.iconst 0, 1) := by decide +kernel
theorem dX6_wear_25 : decode cX6_wear 25 = .ok (.istore_n 3, 1) := by decide +kernel
theorem dX6_wear_26 : decode cX6_wear 26 = .ok (.iload_n 3, 1) := by decide +kernel
theorem dX6_wear_27 : decode cX6_wear 27 = .ok (.iload_n 2, 1) := by decide +kernel
theorem dX6_wear_28 : decode cX6_wear 28 = .ok (.if_icmp .ge 23, 3) := by decide +kernel
theorem dX6_wear_31 : decode cX6_wear 31 = .ok (.aload_n 0, 1) := by decide +kernel
theorem dX6_wear_32 : decode cX6_wear 32 = .ok (.getfield 22, 3) := by decide +kernel
theorem dX6_wear_35 : decode cX6_wear 35 = .ok (.iload_n 3, 1) := by decide +kernel
theorem dX6_wear_36 : decode cX6_wear 36 = .ok (.aload_n 0, 1) := by decide +kernel
theorem dX6_wear_37 : decode cX6_wear 37 = .ok (.getfield 7, 3) := by decide +kernel
theorem dX6_wear_40 : decode cX6_wear 40 = .ok (.iconst 1, 1) := by decide +kernel
theorem dX6_wear_41 : decode cX6_wear 41 = .ok (.iload_n 3, 1) := by decide +kernel
theorem dX6_wear_42 : decode cX6_wear 42 = .ok (.iadd, 1) := by decide +kernel
theorem dX6_wear_43 : decode cX6_wear 43 = .ok (.iaload, 1) := by decide +kernel
theorem dX6_wear_44 : decode cX6_wear 44 = .ok (.iastore, 1) := by decide +kernel
theorem dX6_wear_45 : decode cX6_wear 45 = .ok (.iinc 3 1, 3) := by decide +kernel
theorem dX6_wear_48 : decode cX6_wear 48 = .ok (.goto (-22), 3) := by decide +kernel
theorem dX6_wear_51 : decode cX6_wear 51 = .ok (.iconst 0, 1) := by decide +kernel
theorem dX6_wear_52 : decode cX6_wear 52 = .ok (.istore_n 3, 1) := by decide +kernel
theorem dX6_wear_53 : decode cX6_wear 53 = .ok (.iload_n 3, 1) := by decide +kernel
theorem dX6_wear_54 : decode cX6_wear 54 = .ok (.iload_n 1, 1) := by decide +kernel
theorem dX6_wear_55 : decode cX6_wear 55 = .ok (.if_icmp .ge 109, 3) := by decide +kernel
theorem dX6_wear_58 : decode cX6_wear 58 = .ok (.iconst 0, 1) := by decide +kernel
theorem dX6_wear_59 : decode cX6_wear 59 = .ok (.istore 4, 2) := by decide +kernel
theorem dX6_wear_61 : decode cX6_wear 61 = .ok (.iload 4, 2) := by decide +kernel
theorem dX6_wear_63 : decode cX6_wear 63 = .ok (.iload_n 2, 1) := by decide +kernel
theorem dX6_wear_64 : decode cX6_wear 64 = .ok (.if_icmp .ge 25, 3) := by decide +kernel
theorem dX6_wear_67 : decode cX6_wear 67 = .ok (.aload_n 0, 1) := by decide +kernel
theorem dX6_wear_68 : decode cX6_wear 68 = .ok (.getfield 19, 3) := by decide +kernel
theorem dX6_wear_71 : decode cX6_wear 71 = .ok (.iload 4, 2) := by decide +kernel
theorem dX6_wear_73 : decode cX6_wear 73 = .ok (.aload_n 0, 1) := by decide +kernel
theorem dX6_wear_74 : decode cX6_wear 74 = .ok (.getfield 7, 3) := by decide +kernel
theorem dX6_wear_77 : decode cX6_wear 77 = .ok (.iconst 1, 1) := by decide +kernel
theorem dX6_wear_78 : decode cX6_wear 78 = .ok (.iload 4, 2) := by decide +kernel
theorem dX6_wear_80 : decode cX6_wear 80 = .ok (.iadd, 1) := by decide +kernel
theorem dX6_wear_81 : decode cX6_wear 81 = .ok (.iaload, 1) := by decide +kernel
theorem dX6_wear_82 : decode cX6_wear 82 = .ok (.iastore, 1) := by decide +kernel
theorem dX6_wear_83 : decode cX6_wear 83 = .ok (.iinc 4 1, 3) := by decide +kernel
theorem dX6_wear_86 : decode cX6_wear 86 = .ok (.goto (-25), 3) := by decide +kernel
theorem dX6_wear_89 : decode cX6_wear 89 = .ok (.iconst 0, 1) := by decide +kernel
theorem dX6_wear_90 : decode cX6_wear 90 = .ok (.istore 4, 2) := by decide +kernel
theorem dX6_wear_92 : decode cX6_wear 92 = .ok (.iload 4, 2) := by decide +kernel
theorem dX6_wear_94 : decode cX6_wear 94 = .ok (.iload_n 2, 1) := by decide +kernel
theorem dX6_wear_95 : decode cX6_wear 95 = .ok (.if_icmp .ge 63, 3) := by decide +kernel
theorem dX6_wear_98 : decode cX6_wear 98 = .ok (.iload 4, 2) := by decide +kernel
theorem dX6_wear_100 : decode cX6_wear 100 = .ok (.bipush 12, 2) := by decide +kernel
theorem dX6_wear_102 : decode cX6_wear 102 = .ok (.idiv, 1) := by decide +kernel
theorem dX6_wear_103 : decode cX6_wear 103 = .ok (.bipush 12, 2) := by decide +kernel
theorem dX6_wear_105 : decode cX6_wear 105 = .ok (.imul, 1) := by decide +kernel
theorem dX6_wear_106 : decode cX6_wear 106 = .ok (.iload 4, 2) := by decide +kernel
theorem dX6_wear_108 : decode cX6_wear 108 = .ok (.iconst 1, 1) := by decide +kernel
theorem dX6_wear_109 : decode cX6_wear 109 = .ok (.iadd, 1) := by decide +kernel
theorem dX6_wear_110 : decode cX6_wear 110 = .ok (.bipush 12, 2) := by decide +kernel
theorem dX6_wear_112 : decode cX6_wear 112 = .ok (.irem, 1) := by decide +kernel
theorem dX6_wear_113 : decode cX6_wear 113 = .ok (.iadd, 1) := by decide +kernel
theorem dX6_wear_114 : decode cX6_wear 114 = .ok (.istore 5, 2) := by decide +kernel
theorem dX6_wear_116 : decode cX6_wear 116 = .ok (.aload_n 0, 1) := by decide +kernel
theorem dX6_wear_117 : decode cX6_wear 117 = .ok (.getfield 7, 3) := by decide +kernel
theorem dX6_wear_120 : decode cX6_wear 120 = .ok (.iconst 1, 1) := by decide +kernel
theorem dX6_wear_121 : decode cX6_wear 121 = .ok (.iload 4, 2) := by decide +kernel
theorem dX6_wear_123 : decode cX6_wear 123 = .ok (.iadd, 1) := by decide +kernel
theorem dX6_wear_124 : decode cX6_wear 124 = .ok (.dup2, 1) := by decide +kernel
theorem dX6_wear_125 : decode cX6_wear 125 = .ok (.iaload, 1) := by decide +kernel
theorem dX6_wear_126 : decode cX6_wear 126 = .ok (.aload_n 0, 1) := by decide +kernel
theorem dX6_wear_127 : decode cX6_wear 127 = .ok (.getfield 19, 3) := by decide +kernel
theorem dX6_wear_130 : decode cX6_wear 130 = .ok (.iload 4, 2) := by decide +kernel
theorem dX6_wear_132 : decode cX6_wear 132 = .ok (.iaload, 1) := by decide +kernel
theorem dX6_wear_133 : decode cX6_wear 133 = .ok (.aload_n 0, 1) := by decide +kernel
theorem dX6_wear_134 : decode cX6_wear 134 = .ok (.getfield 19, 3) := by decide +kernel
theorem dX6_wear_137 : decode cX6_wear 137 = .ok (.iload 5, 2) := by decide +kernel
theorem dX6_wear_139 : decode cX6_wear 139 = .ok (.iaload, 1) := by decide +kernel
theorem dX6_wear_140 : decode cX6_wear 140 = .ok (.isub, 1) := by decide +kernel
theorem dX6_wear_141 : decode cX6_wear 141 = .ok (.iconst 2, 1) := by decide +kernel
theorem dX6_wear_142 : decode cX6_wear 142 = .ok (.if_icmp .le 7, 3) := by decide +kernel
theorem dX6_wear_145 : decode cX6_wear 145 = .ok (.iconst 1, 1) := by decide +kernel
theorem dX6_wear_146 : decode cX6_wear 146 = .ok (.goto 4, 3) := by decide +kernel
theorem dX6_wear_149 : decode cX6_wear 149 = .ok (.iconst 0, 1) := by decide +kernel
theorem dX6_wear_150 : decode cX6_wear 150 = .ok (.isub, 1) := by decide +kernel
theorem dX6_wear_151 : decode cX6_wear 151 = .ok (.iastore, 1) := by decide +kernel
theorem dX6_wear_152 : decode cX6_wear 152 = .ok (.iinc 4 1, 3) := by decide +kernel
theorem dX6_wear_155 : decode cX6_wear 155 = .ok (.goto (-63), 3) := by decide +kernel
theorem dX6_wear_158 : decode cX6_wear 158 = .ok (.iinc 3 1, 3) := by decide +kernel
theorem dX6_wear_161 : decode cX6_wear 161 = .ok (.goto (-108), 3) := by decide +kernel
theorem dX6_wear_164 : decode cX6_wear 164 = .ok (.iconst 0, 1) := by decide +kernel
theorem dX6_wear_165 : decode cX6_wear 165 = .ok (.istore_n 3, 1) := by decide +kernel
theorem dX6_wear_166 : decode cX6_wear 166 = .ok (.iconst 0, 1) := by decide +kernel
theorem dX6_wear_167 : decode cX6_wear 167 = .ok (.istore 4, 2) := by decide +kernel
theorem dX6_wear_169 : decode cX6_wear 169 = .ok (.iload 4, 2) := by decide +kernel
theorem dX6_wear_171 : decode cX6_wear 171 = .ok (.iload_n 2, 1) := by decide +kernel
theorem dX6_wear_172 : decode cX6_wear 172 = .ok (.if_icmp .ge 36, 3) := by decide +kernel
theorem dX6_wear_175 : decode cX6_wear 175 = .ok (.iload_n 3, 1) := by decide +kernel
theorem dX6_wear_176 : decode cX6_wear 176 = .ok (.aload_n 0, 1) := by decide +kernel
theorem dX6_wear_177 : decode cX6_wear 177 = .ok (.getfield 7, 3) := by decide +kernel
theorem dX6_wear_180 : decode cX6_wear 180 = .ok (.iconst 1, 1) := by decide +kernel
theorem dX6_wear_181 : decode cX6_wear 181 = .ok (.iload 4, 2) := by decide +kernel
theorem dX6_wear_183 : decode cX6_wear 183 = .ok (.iadd, 1) := by decide +kernel
theorem dX6_wear_184 : decode cX6_wear 184 = .ok (.iaload, 1) := by decide +kernel
theorem dX6_wear_185 : decode cX6_wear 185 = .ok (.aload_n 0, 1) := by decide +kernel
theorem dX6_wear_186 : decode cX6_wear 186 = .ok (.getfield 22, 3) := by decide +kernel
theorem dX6_wear_189 : decode cX6_wear 189 = .ok (.iload 4, 2) := by decide +kernel
theorem dX6_wear_191 : decode cX6_wear 191 = .ok (.iaload, 1) := by decide +kernel
theorem dX6_wear_192 : decode cX6_wear 192 = .ok (.if_icmp .ge 7, 3) := by decide +kernel
theorem dX6_wear_195 : decode cX6_wear 195 = .ok (.iconst 1, 1) := by decide +kernel
theorem dX6_wear_196 : decode cX6_wear 196 = .ok (.goto 4, 3) := by decide +kernel
theorem dX6_wear_199 : decode cX6_wear 199 = .ok (.iconst 0, 1) := by decide +kernel
theorem dX6_wear_200 : decode cX6_wear 200 = .ok (.iadd, 1) := by decide +kernel
theorem dX6_wear_201 : decode cX6_wear 201 = .ok (.istore_n 3, 1) := by decide +kernel
theorem dX6_wear_202 : decode cX6_wear 202 = .ok (.iinc 4 1, 3) := by decide +kernel
theorem dX6_wear_205 : decode cX6_wear 205 = .ok (.goto (-36), 3) := by decide +kernel
theorem dX6_wear_208 : decode cX6_wear 208 = .ok (.iload_n 3, 1) := by decide +kernel
theorem dX6_wear_209 : decode cX6_wear 209 = .ok (.ireturn, 1) := by decide +kernel
theorem dX6_missed_0 : decode cX6_missed 0 = .ok (.aload_n 0, 1) := by decide +kernel
theorem dX6_missed_1 : decode cX6_missed 1 = .ok (.iload_n 1, 1) := by decide +kernel
theorem dX6_missed_2 : decode cX6_missed 2 = .ok (.invokevirtual 95, 3) := by decide +kernel
theorem dX6_missed_5 : decode cX6_missed 5 = .ok (.ifCond .ne 5, 3) := by decide +kernel
theorem dX6_missed_8 : decode cX6_missed 8 = .ok (.iconst (-1), 1) := by decide +kernel
theorem dX6_missed_9 : decode cX6_missed 9 = .ok (.ireturn, 1) := by decide +kernel
theorem dX6_missed_10 : decode cX6_missed 10 = .ok (.aload_n 0, 1) := by decide +kernel
theorem dX6_missed_11 : decode cX6_missed 11 = .ok (.iload_n 1, 1) := by decide +kernel
theorem dX6_missed_12 : decode cX6_missed 12 = .ok (.invokevirtual 112, 3) := by decide +kernel
theorem dX6_missed_15 : decode cX6_missed 15 = .ok (.istore_n 2, 1) := by decide +kernel
theorem dX6_missed_16 : decode cX6_missed 16 = .ok (.aload_n 0, 1) := by decide +kernel
theorem dX6_missed_17 : decode cX6_missed 17 = .ok (.getfield 7, 3) := by decide +kernel
theorem dX6_missed_20 : decode cX6_missed 20 = .ok (.bipush 94, 2) := by decide +kernel
theorem dX6_missed_22 : decode cX6_missed 22 = .ok (.iload_n 1, 1) := by decide +kernel
theorem dX6_missed_23 : decode cX6_missed 23 = .ok (.iadd, 1) := by decide +kernel
theorem dX6_missed_24 : decode cX6_missed 24 = .ok (.iaload, 1) := by decide +kernel
theorem dX6_missed_25 : decode cX6_missed 25 = .ok (.iload_n 2, 1) := by decide +kernel
theorem dX6_missed_26 : decode cX6_missed 26 = .ok (.iconst (-1), 1) := by decide +kernel
theorem dX6_missed_27 : decode cX6_missed 27 = .ok (.ixor, 1) := by decide +kernel
theorem dX6_missed_28 : decode cX6_missed 28 = .ok (.iand, 1) := by decide +kernel
theorem dX6_missed_29 : decode cX6_missed 29 = .ok (.aload_n 0, 1) := by decide +kernel
theorem dX6_missed_30 : decode cX6_missed 30 = .ok (.getfield 7, 3) := by decide +kernel
theorem dX6_missed_33 : decode cX6_missed 33 = .ok (.bipush 99, 2) := by decide +kernel
theorem dX6_missed_35 : decode cX6_missed 35 = .ok (.iload_n 1, 1) := by decide +kernel
theorem dX6_missed_36 : decode cX6_missed 36 = .ok (.iadd, 1) := by decide +kernel
theorem dX6_missed_37 : decode cX6_missed 37 = .ok (.iaload, 1) := by decide +kernel
theorem dX6_missed_38 : decode cX6_missed 38 = .ok (.iload_n 2, 1) := by decide +kernel
theorem dX6_missed_39 : decode cX6_missed 39 = .ok (.iand, 1) := by decide +kernel
theorem dX6_missed_40 : decode cX6_missed 40 = .ok (.ior, 1) := by decide +kernel
theorem dX6_missed_41 : decode cX6_missed 41 = .ok (.istore_n 3, 1) := by decide +kernel
theorem dX6_missed_42 : decode cX6_missed 42 = .ok (.iconst 0, 1) := by decide +kernel
theorem dX6_missed_43 : decode cX6_missed 43 = .ok (.istore 4, 2) := by decide +kernel
theorem dX6_missed_45 : decode cX6_missed 45 = .ok (.iload 4, 2) := by decide +kernel
theorem dX6_missed_47 : decode cX6_missed 47 = .ok (.bipush 12, 2) := by decide +kernel
theorem dX6_missed_49 : decode cX6_missed 49 = .ok (.if_icmp .ge 18, 3) := by decide +kernel
theorem dX6_missed_52 : decode cX6_missed 52 = .ok (.iload_n 3, 1) := by decide +kernel
theorem dX6_missed_53 : decode cX6_missed 53 = .ok (.iload 4, 2) := by decide +kernel
theorem dX6_missed_55 : decode cX6_missed 55 = .ok (.invokestatic 115, 3) := by decide +kernel
theorem dX6_missed_58 : decode cX6_missed 58 = .ok (.ifCond .ne 9, 3) := by decide +kernel
theorem dX6_missed_61 : decode cX6_missed 61 = .ok (.iinc 4 1, 3) := by decide +kernel
theorem dX6_missed_64 : decode cX6_missed 64 = .ok (.goto (-19), 3) := by decide +kernel
theorem dX6_missed_67 : decode cX6_missed 67 = .ok (.iload 4, 2) := by decide +kernel
theorem dX6_missed_69 : decode cX6_missed 69 = .ok (.bipush 12, 2) := by decide +kernel
theorem dX6_missed_71 : decode cX6_missed 71 = .ok (.if_icmp .ge 8, 3) := by decide +kernel
theorem dX6_missed_74 : decode cX6_missed 74 = .ok (.iload 4, 2) := by decide +kernel
theorem dX6_missed_76 : decode cX6_missed 76 = .ok (.goto 5, 3) := by decide +kernel
theorem dX6_missed_79 : decode cX6_missed 79 = .ok (.bipush (-4), 2) := by decide +kernel
theorem dX6_missed_81 : decode cX6_missed 81 = .ok (.ireturn, 1) := by decide +kernel
theorem dX6_turned_0 : decode cX6_turned 0 = .ok (.iload_n 0, 1) := by decide +kernel
theorem dX6_turned_1 : decode cX6_turned 1 = .ok (.iload_n 1, 1) := by decide +kernel
theorem dX6_turned_2 : decode cX6_turned 2 = .ok (.ishl, 1) := by decide +kernel
theorem dX6_turned_3 : decode cX6_turned 3 = .ok (.iload_n 0, 1) := by decide +kernel
theorem dX6_turned_4 : decode cX6_turned 4 = .ok (.bipush 12, 2) := by decide +kernel
theorem dX6_turned_6 : decode cX6_turned 6 = .ok (.iload_n 1, 1) := by decide +kernel
theorem dX6_turned_7 : decode cX6_turned 7 = .ok (.isub, 1) := by decide +kernel
theorem dX6_turned_8 : decode cX6_turned 8 = .ok (.ishr, 1) := by decide +kernel
theorem dX6_turned_9 : decode cX6_turned 9 = .ok (.ior, 1) := by decide +kernel
theorem dX6_turned_10 : decode cX6_turned 10 = .ok (.sipush 4095, 3) := by decide +kernel
theorem dX6_turned_13 : decode cX6_turned 13 = .ok (.iand, 1) := by decide +kernel
theorem dX6_turned_14 : decode cX6_turned 14 = .ok (.ireturn, 1) := by decide +kernel
theorem dX6_puts_0 : decode cX6_puts 0 = .ok (.iconst 0, 1) := by decide +kernel
theorem dX6_puts_1 : decode cX6_puts 1 = .ok (.istore_n 2, 1) := by decide +kernel
theorem dX6_puts_2 : decode cX6_puts 2 = .ok (.iload_n 2, 1) := by decide +kernel
theorem dX6_puts_3 : decode cX6_puts 3 = .ok (.bipush 6, 2) := by decide +kernel
theorem dX6_puts_5 : decode cX6_puts 5 = .ok (.if_icmp .ge 57, 3) := by decide +kernel
theorem dX6_puts_8 : decode cX6_puts 8 = .ok (.aload_n 0, 1) := by decide +kernel
theorem dX6_puts_9 : decode cX6_puts 9 = .ok (.getfield 31, 3) := by decide +kernel
theorem dX6_puts_12 : decode cX6_puts 12 = .ok (.bipush 6, 2) := by decide +kernel
theorem dX6_puts_14 : decode cX6_puts 14 = .ok (.iload_n 1, 1) := by decide +kernel
theorem dX6_puts_15 : decode cX6_puts 15 = .ok (.iconst 1, 1) := by decide +kernel
theorem dX6_puts_16 : decode cX6_puts 16 = .ok (.iadd, 1) := by decide +kernel
theorem dX6_puts_17 : decode cX6_puts 17 = .ok (.imul, 1) := by decide +kernel
theorem dX6_puts_18 : decode cX6_puts 18 = .ok (.iload_n 2, 1) := by decide +kernel
theorem dX6_puts_19 : decode cX6_puts 19 = .ok (.iadd, 1) := by decide +kernel
theorem dX6_puts_20 : decode cX6_puts 20 = .ok (.aload_n 0, 1) := by decide +kernel
theorem dX6_puts_21 : decode cX6_puts 21 = .ok (.getfield 31, 3) := by decide +kernel
theorem dX6_puts_24 : decode cX6_puts 24 = .ok (.bipush 6, 2) := by decide +kernel
theorem dX6_puts_26 : decode cX6_puts 26 = .ok (.iload_n 1, 1) := by decide +kernel
theorem dX6_puts_27 : decode cX6_puts 27 = .ok (.imul, 1) := by decide +kernel
theorem dX6_puts_28 : decode cX6_puts 28 = .ok (.iload_n 2, 1) := by decide +kernel
theorem dX6_puts_29 : decode cX6_puts 29 = .ok (.iadd, 1) := by decide +kernel
theorem dX6_puts_30 : decode cX6_puts 30 = .ok (.iaload, 1) := by decide +kernel
theorem dX6_puts_31 : decode cX6_puts 31 = .ok (.iastore, 1) := by decide +kernel
theorem dX6_puts_32 : decode cX6_puts 32 = .ok (.aload_n 0, 1) := by decide +kernel
theorem dX6_puts_33 : decode cX6_puts 33 = .ok (.getfield 34, 3) := by decide +kernel
theorem dX6_puts_36 : decode cX6_puts 36 = .ok (.bipush 6, 2) := by decide +kernel
theorem dX6_puts_38 : decode cX6_puts 38 = .ok (.iload_n 1, 1) := by decide +kernel
theorem dX6_puts_39 : decode cX6_puts 39 = .ok (.iconst 1, 1) := by decide +kernel
theorem dX6_puts_40 : decode cX6_puts 40 = .ok (.iadd, 1) := by decide +kernel
theorem dX6_puts_41 : decode cX6_puts 41 = .ok (.imul, 1) := by decide +kernel
theorem dX6_puts_42 : decode cX6_puts 42 = .ok (.iload_n 2, 1) := by decide +kernel
theorem dX6_puts_43 : decode cX6_puts 43 = .ok (.iadd, 1) := by decide +kernel
theorem dX6_puts_44 : decode cX6_puts 44 = .ok (.aload_n 0, 1) := by decide +kernel
theorem dX6_puts_45 : decode cX6_puts 45 = .ok (.getfield 34, 3) := by decide +kernel
theorem dX6_puts_48 : decode cX6_puts 48 = .ok (.bipush 6, 2) := by decide +kernel
theorem dX6_puts_50 : decode cX6_puts 50 = .ok (.iload_n 1, 1) := by decide +kernel
theorem dX6_puts_51 : decode cX6_puts 51 = .ok (.imul, 1) := by decide +kernel
theorem dX6_puts_52 : decode cX6_puts 52 = .ok (.iload_n 2, 1) := by decide +kernel
theorem dX6_puts_53 : decode cX6_puts 53 = .ok (.iadd, 1) := by decide +kernel
theorem dX6_puts_54 : decode cX6_puts 54 = .ok (.iaload, 1) := by decide +kernel
theorem dX6_puts_55 : decode cX6_puts 55 = .ok (.iastore, 1) := by decide +kernel
theorem dX6_puts_56 : decode cX6_puts 56 = .ok (.iinc 2 1, 3) := by decide +kernel
theorem dX6_puts_59 : decode cX6_puts 59 = .ok (.goto (-57), 3) := by decide +kernel
theorem dX6_puts_62 : decode cX6_puts 62 = .ok (.bipush 6, 2) := by decide +kernel
theorem dX6_puts_64 : decode cX6_puts 64 = .ok (.iload_n 1, 1) := by decide +kernel
theorem dX6_puts_65 : decode cX6_puts 65 = .ok (.iconst 1, 1) := by decide +kernel
theorem dX6_puts_66 : decode cX6_puts 66 = .ok (.iadd, 1) := by decide +kernel
theorem dX6_puts_67 : decode cX6_puts 67 = .ok (.imul, 1) := by decide +kernel
theorem dX6_puts_68 : decode cX6_puts 68 = .ok (.aload_n 0, 1) := by decide +kernel
theorem dX6_puts_69 : decode cX6_puts 69 = .ok (.getfield 25, 3) := by decide +kernel
theorem dX6_puts_72 : decode cX6_puts 72 = .ok (.iload_n 1, 1) := by decide +kernel
theorem dX6_puts_73 : decode cX6_puts 73 = .ok (.iaload, 1) := by decide +kernel
theorem dX6_puts_74 : decode cX6_puts 74 = .ok (.iadd, 1) := by decide +kernel
theorem dX6_puts_75 : decode cX6_puts 75 = .ok (.istore_n 2, 1) := by decide +kernel
theorem dX6_puts_76 : decode cX6_puts 76 = .ok (.aload_n 0, 1) := by decide +kernel
theorem dX6_puts_77 : decode cX6_puts 77 = .ok (.getfield 31, 3) := by decide +kernel
theorem dX6_puts_80 : decode cX6_puts 80 = .ok (.iload_n 2, 1) := by decide +kernel
theorem dX6_puts_81 : decode cX6_puts 81 = .ok (.dup2, 1) := by decide +kernel
theorem dX6_puts_82 : decode cX6_puts 82 = .ok (.iaload, 1) := by decide +kernel
theorem dX6_puts_83 : decode cX6_puts 83 = .ok (.aload_n 0, 1) := by decide +kernel
theorem dX6_puts_84 : decode cX6_puts 84 = .ok (.getfield 7, 3) := by decide +kernel
theorem dX6_puts_87 : decode cX6_puts 87 = .ok (.bipush 94, 2) := by decide +kernel
theorem dX6_puts_89 : decode cX6_puts 89 = .ok (.iload_n 1, 1) := by decide +kernel
theorem dX6_puts_90 : decode cX6_puts 90 = .ok (.iadd, 1) := by decide +kernel
theorem dX6_puts_91 : decode cX6_puts 91 = .ok (.iaload, 1) := by decide +kernel
theorem dX6_puts_92 : decode cX6_puts 92 = .ok (.aload_n 0, 1) := by decide +kernel
theorem dX6_puts_93 : decode cX6_puts 93 = .ok (.getfield 28, 3) := by decide +kernel
theorem dX6_puts_96 : decode cX6_puts 96 = .ok (.iload_n 1, 1) := by decide +kernel
theorem dX6_puts_97 : decode cX6_puts 97 = .ok (.iaload, 1) := by decide +kernel
theorem dX6_puts_98 : decode cX6_puts 98 = .ok (.invokestatic 127, 3) := by decide +kernel
theorem dX6_puts_101 : decode cX6_puts 101 = .ok (.ior, 1) := by decide +kernel
theorem dX6_puts_102 : decode cX6_puts 102 = .ok (.iastore, 1) := by decide +kernel
theorem dX6_puts_103 : decode cX6_puts 103 = .ok (.aload_n 0, 1) := by decide +kernel
theorem dX6_puts_104 : decode cX6_puts 104 = .ok (.getfield 34, 3) := by decide +kernel
theorem dX6_puts_107 : decode cX6_puts 107 = .ok (.iload_n 2, 1) := by decide +kernel
theorem dX6_puts_108 : decode cX6_puts 108 = .ok (.dup2, 1) := by decide +kernel
theorem dX6_puts_109 : decode cX6_puts 109 = .ok (.iaload, 1) := by decide +kernel
theorem dX6_puts_110 : decode cX6_puts 110 = .ok (.aload_n 0, 1) := by decide +kernel
theorem dX6_puts_111 : decode cX6_puts 111 = .ok (.getfield 7, 3) := by decide +kernel
theorem dX6_puts_114 : decode cX6_puts 114 = .ok (.bipush 99, 2) := by decide +kernel
theorem dX6_puts_116 : decode cX6_puts 116 = .ok (.iload_n 1, 1) := by decide +kernel
theorem dX6_puts_117 : decode cX6_puts 117 = .ok (.iadd, 1) := by decide +kernel
theorem dX6_puts_118 : decode cX6_puts 118 = .ok (.iaload, 1) := by decide +kernel
theorem dX6_puts_119 : decode cX6_puts 119 = .ok (.aload_n 0, 1) := by decide +kernel
theorem dX6_puts_120 : decode cX6_puts 120 = .ok (.getfield 28, 3) := by decide +kernel
theorem dX6_puts_123 : decode cX6_puts 123 = .ok (.iload_n 1, 1) := by decide +kernel
theorem dX6_puts_124 : decode cX6_puts 124 = .ok (.iaload, 1) := by decide +kernel
theorem dX6_puts_125 : decode cX6_puts 125 = .ok (.invokestatic 127, 3) := by decide +kernel
theorem dX6_puts_128 : decode cX6_puts 128 = .ok (.ior, 1) := by decide +kernel
theorem dX6_puts_129 : decode cX6_puts 129 = .ok (.iastore, 1) := by decide +kernel
theorem dX6_puts_130 : decode cX6_puts 130 = .ok (.aload_n 0, 1) := by decide +kernel
theorem dX6_puts_131 : decode cX6_puts 131 = .ok (.getfield 31, 3) := by decide +kernel
theorem dX6_puts_134 : decode cX6_puts 134 = .ok (.iload_n 2, 1) := by decide +kernel
theorem dX6_puts_135 : decode cX6_puts 135 = .ok (.iaload, 1) := by decide +kernel
theorem dX6_puts_136 : decode cX6_puts 136 = .ok (.aload_n 0, 1) := by decide +kernel
theorem dX6_puts_137 : decode cX6_puts 137 = .ok (.getfield 34, 3) := by decide +kernel
theorem dX6_puts_140 : decode cX6_puts 140 = .ok (.iload_n 2, 1) := by decide +kernel
theorem dX6_puts_141 : decode cX6_puts 141 = .ok (.iaload, 1) := by decide +kernel
theorem dX6_puts_142 : decode cX6_puts 142 = .ok (.iand, 1) := by decide +kernel
theorem dX6_puts_143 : decode cX6_puts 143 = .ok (.ifCond .ne 7, 3) := by decide +kernel
theorem dX6_puts_146 : decode cX6_puts 146 = .ok (.iconst 1, 1) := by decide +kernel
theorem dX6_puts_147 : decode cX6_puts 147 = .ok (.goto 4, 3) := by decide +kernel
theorem dX6_puts_150 : decode cX6_puts 150 = .ok (.iconst 0, 1) := by decide +kernel
theorem dX6_puts_151 : decode cX6_puts 151 = .ok (.ireturn, 1) := by decide +kernel
theorem dX6_camsUsed_0 : decode cX6_camsUsed 0 = .ok (.iconst 0, 1) := by decide +kernel
theorem dX6_camsUsed_1 : decode cX6_camsUsed 1 = .ok (.istore_n 2, 1) := by decide +kernel
theorem dX6_camsUsed_2 : decode cX6_camsUsed 2 = .ok (.iconst 0, 1) := by decide +kernel
theorem dX6_camsUsed_3 : decode cX6_camsUsed 3 = .ok (.istore_n 3, 1) := by decide +kernel
theorem dX6_camsUsed_4 : decode cX6_camsUsed 4 = .ok (.iload_n 3, 1) := by decide +kernel
theorem dX6_camsUsed_5 : decode cX6_camsUsed 5 = .ok (.iload_n 1, 1) := by decide +kernel
theorem dX6_camsUsed_6 : decode cX6_camsUsed 6 = .ok (.if_icmp .ge 32, 3) := by decide +kernel
theorem dX6_camsUsed_9 : decode cX6_camsUsed 9 = .ok (.aload_n 0, 1) := by decide +kernel
theorem dX6_camsUsed_10 : decode cX6_camsUsed 10 = .ok (.getfield 25, 3) := by decide +kernel
theorem dX6_camsUsed_13 : decode cX6_camsUsed 13 = .ok (.iload_n 3, 1) := by decide +kernel
theorem dX6_camsUsed_14 : decode cX6_camsUsed 14 = .ok (.iaload, 1) := by decide +kernel
theorem dX6_camsUsed_15 : decode cX6_camsUsed 15 = .ok (.iload_n 2, 1) := by decide +kernel
theorem dX6_camsUsed_16 : decode cX6_camsUsed 16 = .ok (.if_icmp .lt 14, 3) := by decide +kernel
theorem dX6_camsUsed_19 : decode cX6_camsUsed 19 = .ok (.aload_n 0, 1) := by decide +kernel
theorem dX6_camsUsed_20 : decode cX6_camsUsed 20 = .ok (.getfield 25, 3) := by decide +kernel
theorem dX6_camsUsed_23 : decode cX6_camsUsed 23 = .ok (.iload_n 3, 1) := by decide +kernel
theorem dX6_camsUsed_24 : decode cX6_camsUsed 24 = .ok (.iaload, 1) := by decide +kernel
theorem dX6_camsUsed_25 : decode cX6_camsUsed 25 = .ok (.iconst 1, 1) := by decide +kernel
theorem dX6_camsUsed_26 : decode cX6_camsUsed 26 = .ok (.iadd, 1) := by decide +kernel
theorem dX6_camsUsed_27 : decode cX6_camsUsed 27 = .ok (.goto 4, 3) := by decide +kernel
theorem dX6_camsUsed_30 : decode cX6_camsUsed 30 = .ok (.iload_n 2, 1) := by decide +kernel
theorem dX6_camsUsed_31 : decode cX6_camsUsed 31 = .ok (.istore_n 2, 1) := by decide +kernel
theorem dX6_camsUsed_32 : decode cX6_camsUsed 32 = .ok (.iinc 3 1, 3) := by decide +kernel
theorem dX6_camsUsed_35 : decode cX6_camsUsed 35 = .ok (.goto (-31), 3) := by decide +kernel
theorem dX6_camsUsed_38 : decode cX6_camsUsed 38 = .ok (.iload_n 2, 1) := by decide +kernel
theorem dX6_camsUsed_39 : decode cX6_camsUsed 39 = .ok (.ireturn, 1) := by decide +kernel
theorem dX6_sharesBy_0 : decode cX6_sharesBy 0 = .ok (.iconst 0, 1) := by decide +kernel
theorem dX6_sharesBy_1 : decode cX6_sharesBy 1 = .ok (.istore_n 2, 1) := by decide +kernel
theorem dX6_sharesBy_2 : decode cX6_sharesBy 2 = .ok (.aload_n 0, 1) := by decide +kernel
theorem dX6_sharesBy_3 : decode cX6_sharesBy 3 = .ok (.getfield 25, 3) := by decide +kernel
theorem dX6_sharesBy_6 : decode cX6_sharesBy 6 = .ok (.iconst 0, 1) := by decide +kernel
theorem dX6_sharesBy_7 : decode cX6_sharesBy 7 = .ok (.iconst 0, 1) := by decide +kernel
theorem dX6_sharesBy_8 : decode cX6_sharesBy 8 = .ok (.iastore, 1) := by decide +kernel
theorem dX6_sharesBy_9 : decode cX6_sharesBy 9 = .ok (.aload_n 0, 1) := by decide +kernel
theorem dX6_sharesBy_10 : decode cX6_sharesBy 10 = .ok (.getfield 28, 3) := by decide +kernel
theorem dX6_sharesBy_13 : decode cX6_sharesBy 13 = .ok (.iconst 0, 1) := by decide +kernel
theorem dX6_sharesBy_14 : decode cX6_sharesBy 14 = .ok (.iconst (-1), 1) := by decide +kernel
theorem dX6_sharesBy_15 : decode cX6_sharesBy 15 = .ok (.iastore, 1) := by decide +kernel
theorem dX6_sharesBy_16 : decode cX6_sharesBy 16 = .ok (.iload_n 2, 1) := by decide +kernel
theorem dX6_sharesBy_17 : decode cX6_sharesBy 17 = .ok (.ifCond .lt 160, 3) := by decide +kernel
theorem dX6_sharesBy_20 : decode cX6_sharesBy 20 = .ok (.iload_n 2, 1) := by decide +kernel
theorem dX6_sharesBy_21 : decode cX6_sharesBy 21 = .ok (.aload_n 0, 1) := by decide +kernel
theorem dX6_sharesBy_22 : decode cX6_sharesBy 22 = .ok (.getfield 7, 3) := by decide +kernel
theorem dX6_sharesBy_25 : decode cX6_sharesBy 25 = .ok (.bipush 73, 2) := by decide +kernel
theorem dX6_sharesBy_27 : decode cX6_sharesBy 27 = .ok (.iaload, 1) := by decide +kernel
theorem dX6_sharesBy_28 : decode cX6_sharesBy 28 = .ok (.if_icmp .ge 149, 3) := by decide +kernel
theorem dX6_sharesBy_31 : decode cX6_sharesBy 31 = .ok (.aload_n 0, 1) := by decide +kernel
theorem dX6_sharesBy_32 : decode cX6_sharesBy 32 = .ok (.iload_n 2, 1) := by decide +kernel
theorem dX6_sharesBy_33 : decode cX6_sharesBy 33 = .ok (.invokevirtual 130, 3) := by decide +kernel
theorem dX6_sharesBy_36 : decode cX6_sharesBy 36 = .ok (.istore_n 3, 1) := by decide +kernel
theorem dX6_sharesBy_37 : decode cX6_sharesBy 37 = .ok (.aload_n 0, 1) := by decide +kernel
theorem dX6_sharesBy_38 : decode cX6_sharesBy 38 = .ok (.getfield 28, 3) := by decide +kernel
theorem dX6_sharesBy_41 : decode cX6_sharesBy 41 = .ok (.iload_n 2, 1) := by decide +kernel
theorem dX6_sharesBy_42 : decode cX6_sharesBy 42 = .ok (.dup2, 1) := by decide +kernel
theorem dX6_sharesBy_43 : decode cX6_sharesBy 43 = .ok (.iaload, 1) := by decide +kernel
theorem dX6_sharesBy_44 : decode cX6_sharesBy 44 = .ok (.iconst 1, 1) := by decide +kernel
theorem dX6_sharesBy_45 : decode cX6_sharesBy 45 = .ok (.iadd, 1) := by decide +kernel
theorem dX6_sharesBy_46 : decode cX6_sharesBy 46 = .ok (.iastore, 1) := by decide +kernel
theorem dX6_sharesBy_47 : decode cX6_sharesBy 47 = .ok (.aload_n 0, 1) := by decide +kernel
theorem dX6_sharesBy_48 : decode cX6_sharesBy 48 = .ok (.getfield 25, 3) := by decide +kernel
theorem dX6_sharesBy_51 : decode cX6_sharesBy 51 = .ok (.iload_n 2, 1) := by decide +kernel
theorem dX6_sharesBy_52 : decode cX6_sharesBy 52 = .ok (.iaload, 1) := by decide +kernel
theorem dX6_sharesBy_53 : decode cX6_sharesBy 53 = .ok (.iload_n 3, 1) := by decide +kernel
theorem dX6_sharesBy_54 : decode cX6_sharesBy 54 = .ok (.if_icmp .ne 7, 3) := by decide +kernel
theorem dX6_sharesBy_57 : decode cX6_sharesBy 57 = .ok (.iconst 1, 1) := by decide +kernel
theorem dX6_sharesBy_58 : decode cX6_sharesBy 58 = .ok (.goto 4, 3) := by decide +kernel
theorem dX6_sharesBy_61 : decode cX6_sharesBy 61 = .ok (.iconst 0, 1) := by decide +kernel
theorem dX6_sharesBy_62 : decode cX6_sharesBy 62 = .ok (.istore 4, 2) := by decide +kernel
theorem dX6_sharesBy_64 : decode cX6_sharesBy 64 = .ok (.aload_n 0, 1) := by decide +kernel
theorem dX6_sharesBy_65 : decode cX6_sharesBy 65 = .ok (.getfield 28, 3) := by decide +kernel
theorem dX6_sharesBy_68 : decode cX6_sharesBy 68 = .ok (.iload_n 2, 1) := by decide +kernel
theorem dX6_sharesBy_69 : decode cX6_sharesBy 69 = .ok (.iaload, 1) := by decide +kernel
theorem dX6_sharesBy_70 : decode cX6_sharesBy 70 = .ok (.bipush 12, 2) := by decide +kernel
theorem dX6_sharesBy_72 : decode cX6_sharesBy 72 = .ok (.if_icmp .eq 17, 3) := by decide +kernel
theorem dX6_sharesBy_75 : decode cX6_sharesBy 75 = .ok (.iload 4, 2) := by decide +kernel
theorem dX6_sharesBy_77 : decode cX6_sharesBy 77 = .ok (.ifCond .eq 46, 3) := by decide +kernel
theorem dX6_sharesBy_80 : decode cX6_sharesBy 80 = .ok (.aload_n 0, 1) := by decide +kernel
theorem dX6_sharesBy_81 : decode cX6_sharesBy 81 = .ok (.getfield 28, 3) := by decide +kernel
theorem dX6_sharesBy_84 : decode cX6_sharesBy 84 = .ok (.iload_n 2, 1) := by decide +kernel
theorem dX6_sharesBy_85 : decode cX6_sharesBy 85 = .ok (.iaload, 1) := by decide +kernel
theorem dX6_sharesBy_86 : decode cX6_sharesBy 86 = .ok (.ifCond .le 37, 3) := by decide +kernel
theorem dX6_sharesBy_89 : decode cX6_sharesBy 89 = .ok (.aload_n 0, 1) := by decide +kernel
theorem dX6_sharesBy_90 : decode cX6_sharesBy 90 = .ok (.getfield 25, 3) := by decide +kernel
theorem dX6_sharesBy_93 : decode cX6_sharesBy 93 = .ok (.iload_n 2, 1) := by decide +kernel
theorem dX6_sharesBy_94 : decode cX6_sharesBy 94 = .ok (.dup2, 1) := by decide +kernel
theorem dX6_sharesBy_95 : decode cX6_sharesBy 95 = .ok (.iaload, 1) := by decide +kernel
theorem dX6_sharesBy_96 : decode cX6_sharesBy 96 = .ok (.iconst 1, 1) := by decide +kernel
theorem dX6_sharesBy_97 : decode cX6_sharesBy 97 = .ok (.iadd, 1) := by decide +kernel
theorem dX6_sharesBy_98 : decode cX6_sharesBy 98 = .ok (.iastore, 1) := by decide +kernel
theorem dX6_sharesBy_99 : decode cX6_sharesBy 99 = .ok (.aload_n 0, 1) := by decide +kernel
theorem dX6_sharesBy_100 : decode cX6_sharesBy 100 = .ok (.getfield 28, 3) := by decide +kernel
theorem dX6_sharesBy_103 : decode cX6_sharesBy 103 = .ok (.iload_n 2, 1) := by decide +kernel
theorem dX6_sharesBy_104 : decode cX6_sharesBy 104 = .ok (.iconst 0, 1) := by decide +kernel
theorem dX6_sharesBy_105 : decode cX6_sharesBy 105 = .ok (.iastore, 1) := by decide +kernel
theorem dX6_sharesBy_106 : decode cX6_sharesBy 106 = .ok (.aload_n 0, 1) := by decide +kernel
theorem dX6_sharesBy_107 : decode cX6_sharesBy 107 = .ok (.getfield 25, 3) := by decide +kernel
theorem dX6_sharesBy_110 : decode cX6_sharesBy 110 = .ok (.iload_n 2, 1) := by decide +kernel
theorem dX6_sharesBy_111 : decode cX6_sharesBy 111 = .ok (.iaload, 1) := by decide +kernel
theorem dX6_sharesBy_112 : decode cX6_sharesBy 112 = .ok (.iload_n 3, 1) := by decide +kernel
theorem dX6_sharesBy_113 : decode cX6_sharesBy 113 = .ok (.if_icmp .ne 7, 3) := by decide +kernel
theorem dX6_sharesBy_116 : decode cX6_sharesBy 116 = .ok (.iconst 1, 1) := by decide +kernel
theorem dX6_sharesBy_117 : decode cX6_sharesBy 117 = .ok (.goto 4, 3) := by decide +kernel
theorem dX6_sharesBy_120 : decode cX6_sharesBy 120 = .ok (.iconst 0, 1) := by decide +kernel
theorem dX6_sharesBy_121 : decode cX6_sharesBy 121 = .ok (.istore 4, 2) := by decide +kernel
theorem dX6_sharesBy_123 : decode cX6_sharesBy 123 = .ok (.aload_n 0, 1) := by decide +kernel
theorem dX6_sharesBy_124 : decode cX6_sharesBy 124 = .ok (.getfield 25, 3) := by decide +kernel
theorem dX6_sharesBy_127 : decode cX6_sharesBy 127 = .ok (.iload_n 2, 1) := by decide +kernel
theorem dX6_sharesBy_128 : decode cX6_sharesBy 128 = .ok (.iaload, 1) := by decide +kernel
theorem dX6_sharesBy_129 : decode cX6_sharesBy 129 = .ok (.iload_n 3, 1) := by decide +kernel
theorem dX6_sharesBy_130 : decode cX6_sharesBy 130 = .ok (.if_icmp .gt 13, 3) := by decide +kernel
theorem dX6_sharesBy_133 : decode cX6_sharesBy 133 = .ok (.aload_n 0, 1) := by decide +kernel
theorem dX6_sharesBy_134 : decode cX6_sharesBy 134 = .ok (.getfield 25, 3) := by decide +kernel
theorem dX6_sharesBy_137 : decode cX6_sharesBy 137 = .ok (.iload_n 2, 1) := by decide +kernel
theorem dX6_sharesBy_138 : decode cX6_sharesBy 138 = .ok (.iaload, 1) := by decide +kernel
theorem dX6_sharesBy_139 : decode cX6_sharesBy 139 = .ok (.iload_n 1, 1) := by decide +kernel
theorem dX6_sharesBy_140 : decode cX6_sharesBy 140 = .ok (.if_icmp .lt 9, 3) := by decide +kernel
theorem dX6_sharesBy_143 : decode cX6_sharesBy 143 = .ok (.iinc 2 (-1), 3) := by decide +kernel
theorem dX6_sharesBy_146 : decode cX6_sharesBy 146 = .ok (.goto 28, 3) := by decide +kernel
theorem dX6_sharesBy_149 : decode cX6_sharesBy 149 = .ok (.aload_n 0, 1) := by decide +kernel
theorem dX6_sharesBy_150 : decode cX6_sharesBy 150 = .ok (.iload_n 2, 1) := by decide +kernel
theorem dX6_sharesBy_151 : decode cX6_sharesBy 151 = .ok (.invokevirtual 133, 3) := by decide +kernel
theorem dX6_sharesBy_154 : decode cX6_sharesBy 154 = .ok (.ifCond .eq 20, 3) := by decide +kernel
theorem dX6_sharesBy_157 : decode cX6_sharesBy 157 = .ok (.iinc 2 1, 3) := by decide +kernel
theorem dX6_sharesBy_160 : decode cX6_sharesBy 160 = .ok (.aload_n 0, 1) := by decide +kernel
theorem dX6_sharesBy_161 : decode cX6_sharesBy 161 = .ok (.getfield 25, 3) := by decide +kernel
theorem dX6_sharesBy_164 : decode cX6_sharesBy 164 = .ok (.iload_n 2, 1) := by decide +kernel
theorem dX6_sharesBy_165 : decode cX6_sharesBy 165 = .ok (.iconst 0, 1) := by decide +kernel
theorem dX6_sharesBy_166 : decode cX6_sharesBy 166 = .ok (.iastore, 1) := by decide +kernel
theorem dX6_sharesBy_167 : decode cX6_sharesBy 167 = .ok (.aload_n 0, 1) := by decide +kernel
theorem dX6_sharesBy_168 : decode cX6_sharesBy 168 = .ok (.getfield 28, 3) := by decide +kernel
theorem dX6_sharesBy_171 : decode cX6_sharesBy 171 = .ok (.iload_n 2, 1) := by decide +kernel
theorem dX6_sharesBy_172 : decode cX6_sharesBy 172 = .ok (.iconst (-1), 1) := by decide +kernel
theorem dX6_sharesBy_173 : decode cX6_sharesBy 173 = .ok (.iastore, 1) := by decide +kernel
theorem dX6_sharesBy_174 : decode cX6_sharesBy 174 = .ok (.goto (-158), 3) := by decide +kernel
theorem dX6_sharesBy_177 : decode cX6_sharesBy 177 = .ok (.iload_n 2, 1) := by decide +kernel
theorem dX6_sharesBy_178 : decode cX6_sharesBy 178 = .ok (.ifCond .lt 7, 3) := by decide +kernel
theorem dX6_sharesBy_181 : decode cX6_sharesBy 181 = .ok (.iconst 1, 1) := by decide +kernel
theorem dX6_sharesBy_182 : decode cX6_sharesBy 182 = .ok (.goto 4, 3) := by decide +kernel
theorem dX6_sharesBy_185 : decode cX6_sharesBy 185 = .ok (.iconst 0, 1) := by decide +kernel
theorem dX6_sharesBy_186 : decode cX6_sharesBy 186 = .ok (.ireturn, 1) := by decide +kernel
theorem dX6_fewest_0 : decode cX6_fewest 0 = .ok (.iconst 0, 1) := by decide +kernel
theorem dX6_fewest_1 : decode cX6_fewest 1 = .ok (.istore_n 1, 1) := by decide +kernel
theorem dX6_fewest_2 : decode cX6_fewest 2 = .ok (.iload_n 1, 1) := by decide +kernel
theorem dX6_fewest_3 : decode cX6_fewest 3 = .ok (.aload_n 0, 1) := by decide +kernel
theorem dX6_fewest_4 : decode cX6_fewest 4 = .ok (.getfield 7, 3) := by decide +kernel
theorem dX6_fewest_7 : decode cX6_fewest 7 = .ok (.bipush 73, 2) := by decide +kernel
theorem dX6_fewest_9 : decode cX6_fewest 9 = .ok (.iaload, 1) := by decide +kernel
theorem dX6_fewest_10 : decode cX6_fewest 10 = .ok (.if_icmp .ge 19, 3) := by decide +kernel
theorem dX6_fewest_13 : decode cX6_fewest 13 = .ok (.aload_n 0, 1) := by decide +kernel
theorem dX6_fewest_14 : decode cX6_fewest 14 = .ok (.iload_n 1, 1) := by decide +kernel
theorem dX6_fewest_15 : decode cX6_fewest 15 = .ok (.invokevirtual 136, 3) := by decide +kernel
theorem dX6_fewest_18 : decode cX6_fewest 18 = .ok (.ifCond .eq 5, 3) := by decide +kernel
theorem dX6_fewest_21 : decode cX6_fewest 21 = .ok (.iload_n 1, 1) := by decide +kernel
theorem dX6_fewest_22 : decode cX6_fewest 22 = .ok (.ireturn, 1) := by decide +kernel
theorem dX6_fewest_23 : decode cX6_fewest 23 = .ok (.iinc 1 1, 3) := by decide +kernel
theorem dX6_fewest_26 : decode cX6_fewest 26 = .ok (.goto (-24), 3) := by decide +kernel
theorem dX6_fewest_29 : decode cX6_fewest 29 = .ok (.aload_n 0, 1) := by decide +kernel
theorem dX6_fewest_30 : decode cX6_fewest 30 = .ok (.getfield 7, 3) := by decide +kernel
theorem dX6_fewest_33 : decode cX6_fewest 33 = .ok (.bipush 73, 2) := by decide +kernel
theorem dX6_fewest_35 : decode cX6_fewest 35 = .ok (.iaload, 1) := by decide +kernel
theorem dX6_fewest_36 : decode cX6_fewest 36 = .ok (.ireturn, 1) := by decide +kernel
theorem dX6_share_0 : decode cX6_share 0 = .ok (.aload_n 0, 1) := by decide +kernel
theorem dX6_share_1 : decode cX6_share 1 = .ok (.iload_n 1, 1) := by decide +kernel
theorem dX6_share_2 : decode cX6_share 2 = .ok (.invokevirtual 95, 3) := by decide +kernel
theorem dX6_share_5 : decode cX6_share 5 = .ok (.ifCond .eq 13, 3) := by decide +kernel
theorem dX6_share_8 : decode cX6_share 8 = .ok (.iload_n 2, 1) := by decide +kernel
theorem dX6_share_9 : decode cX6_share 9 = .ok (.i2l, 1) := by decide +kernel
theorem dX6_share_10 : decode cX6_share 10 = .ok (.lconst 0, 1) := by decide +kernel
theorem dX6_share_11 : decode cX6_share 11 = .ok (.lconst 1, 1) := by decide +kernel
theorem dX6_share_12 : decode cX6_share 12 = .ok (.invokestatic 52, 3) := by decide +kernel
theorem dX6_share_15 : decode cX6_share 15 = .ok (.ifCond .ne 5, 3) := by decide +kernel
theorem dX6_share_18 : decode cX6_share 18 = .ok (.iconst (-1), 1) := by decide +kernel
theorem dX6_share_19 : decode cX6_share 19 = .ok (.ireturn, 1) := by decide +kernel
theorem dX6_share_20 : decode cX6_share 20 = .ok (.iconst 1, 1) := by decide +kernel
theorem dX6_share_21 : decode cX6_share 21 = .ok (.istore_n 3, 1) := by decide +kernel
theorem dX6_share_22 : decode cX6_share 22 = .ok (.aload_n 0, 1) := by decide +kernel
theorem dX6_share_23 : decode cX6_share 23 = .ok (.iload_n 3, 1) := by decide +kernel
theorem dX6_share_24 : decode cX6_share 24 = .ok (.invokevirtual 136, 3) := by decide +kernel
theorem dX6_share_27 : decode cX6_share 27 = .ok (.ifCond .ne 9, 3) := by decide +kernel
theorem dX6_share_30 : decode cX6_share 30 = .ok (.iinc 3 1, 3) := by decide +kernel
theorem dX6_share_33 : decode cX6_share 33 = .ok (.goto (-11), 3) := by decide +kernel
theorem dX6_share_36 : decode cX6_share 36 = .ok (.iload_n 2, 1) := by decide +kernel
theorem dX6_share_37 : decode cX6_share 37 = .ok (.ifCond .ne 12, 3) := by decide +kernel
theorem dX6_share_40 : decode cX6_share 40 = .ok (.aload_n 0, 1) := by decide +kernel
theorem dX6_share_41 : decode cX6_share 41 = .ok (.getfield 25, 3) := by decide +kernel
theorem dX6_share_44 : decode cX6_share 44 = .ok (.iload_n 1, 1) := by decide +kernel
theorem dX6_share_45 : decode cX6_share 45 = .ok (.iaload, 1) := by decide +kernel
theorem dX6_share_46 : decode cX6_share 46 = .ok (.goto 9, 3) := by decide +kernel
theorem dX6_share_49 : decode cX6_share 49 = .ok (.aload_n 0, 1) := by decide +kernel
theorem dX6_share_50 : decode cX6_share 50 = .ok (.getfield 28, 3) := by decide +kernel
theorem dX6_share_53 : decode cX6_share 53 = .ok (.iload_n 1, 1) := by decide +kernel
theorem dX6_share_54 : decode cX6_share 54 = .ok (.iaload, 1) := by decide +kernel
theorem dX6_share_55 : decode cX6_share 55 = .ok (.ireturn, 1) := by decide +kernel
theorem dX6_pegs_0 : decode cX6_pegs 0 = .ok (.aload_n 0, 1) := by decide +kernel
theorem dX6_pegs_1 : decode cX6_pegs 1 = .ok (.iload_n 1, 1) := by decide +kernel
theorem dX6_pegs_2 : decode cX6_pegs 2 = .ok (.invokevirtual 95, 3) := by decide +kernel
theorem dX6_pegs_5 : decode cX6_pegs 5 = .ok (.ifCond .eq 13, 3) := by decide +kernel
theorem dX6_pegs_8 : decode cX6_pegs 8 = .ok (.iload_n 2, 1) := by decide +kernel
theorem dX6_pegs_9 : decode cX6_pegs 9 = .ok (.i2l, 1) := by decide +kernel
theorem dX6_pegs_10 : decode cX6_pegs 10 = .ok (.lconst 0, 1) := by decide +kernel
theorem dX6_pegs_11 : decode cX6_pegs 11 = .ok (.lconst 1, 1) := by decide +kernel
theorem dX6_pegs_12 : decode cX6_pegs 12 = .ok (.invokestatic 52, 3) := by decide +kernel
theorem dX6_pegs_15 : decode cX6_pegs 15 = .ok (.ifCond .ne 5, 3) := by decide +kernel
theorem dX6_pegs_18 : decode cX6_pegs 18 = .ok (.iconst (-1), 1) := by decide +kernel
theorem dX6_pegs_19 : decode cX6_pegs 19 = .ok (.ireturn, 1) := by decide +kernel
theorem dX6_pegs_20 : decode cX6_pegs 20 = .ok (.iconst 0, 1) := by decide +kernel
theorem dX6_pegs_21 : decode cX6_pegs 21 = .ok (.istore_n 3, 1) := by decide +kernel
theorem dX6_pegs_22 : decode cX6_pegs 22 = .ok (.iconst 0, 1) := by decide +kernel
theorem dX6_pegs_23 : decode cX6_pegs 23 = .ok (.istore 4, 2) := by decide +kernel
theorem dX6_pegs_25 : decode cX6_pegs 25 = .ok (.iload 4, 2) := by decide +kernel
theorem dX6_pegs_27 : decode cX6_pegs 27 = .ok (.bipush 12, 2) := by decide +kernel
theorem dX6_pegs_29 : decode cX6_pegs 29 = .ok (.if_icmp .ge 52, 3) := by decide +kernel
theorem dX6_pegs_32 : decode cX6_pegs 32 = .ok (.iload_n 3, 1) := by decide +kernel
theorem dX6_pegs_33 : decode cX6_pegs 33 = .ok (.aload_n 0, 1) := by decide +kernel
theorem dX6_pegs_34 : decode cX6_pegs 34 = .ok (.getfield 7, 3) := by decide +kernel
theorem dX6_pegs_37 : decode cX6_pegs 37 = .ok (.iconst 1, 1) := by decide +kernel
theorem dX6_pegs_38 : decode cX6_pegs 38 = .ok (.bipush 12, 2) := by decide +kernel
theorem dX6_pegs_40 : decode cX6_pegs 40 = .ok (.aload_n 0, 1) := by decide +kernel
theorem dX6_pegs_41 : decode cX6_pegs 41 = .ok (.getfield 7, 3) := by decide +kernel
theorem dX6_pegs_44 : decode cX6_pegs 44 = .ok (.bipush 79, 2) := by decide +kernel
theorem dX6_pegs_46 : decode cX6_pegs 46 = .ok (.iload_n 1, 1) := by decide +kernel
theorem dX6_pegs_47 : decode cX6_pegs 47 = .ok (.iadd, 1) := by decide +kernel
theorem dX6_pegs_48 : decode cX6_pegs 48 = .ok (.iaload, 1) := by decide +kernel
theorem dX6_pegs_49 : decode cX6_pegs 49 = .ok (.imul, 1) := by decide +kernel
theorem dX6_pegs_50 : decode cX6_pegs 50 = .ok (.iadd, 1) := by decide +kernel
theorem dX6_pegs_51 : decode cX6_pegs 51 = .ok (.iload 4, 2) := by decide +kernel
theorem dX6_pegs_53 : decode cX6_pegs 53 = .ok (.iadd, 1) := by decide +kernel
theorem dX6_pegs_54 : decode cX6_pegs 54 = .ok (.iaload, 1) := by decide +kernel
theorem dX6_pegs_55 : decode cX6_pegs 55 = .ok (.aload_n 0, 1) := by decide +kernel
theorem dX6_pegs_56 : decode cX6_pegs 56 = .ok (.getfield 7, 3) := by decide +kernel
theorem dX6_pegs_59 : decode cX6_pegs 59 = .ok (.bipush 104, 2) := by decide +kernel
theorem dX6_pegs_61 : decode cX6_pegs 61 = .ok (.iaload, 1) := by decide +kernel
theorem dX6_pegs_62 : decode cX6_pegs 62 = .ok (.if_icmp .lt 10, 3) := by decide +kernel
theorem dX6_pegs_65 : decode cX6_pegs 65 = .ok (.iconst 1, 1) := by decide +kernel
theorem dX6_pegs_66 : decode cX6_pegs 66 = .ok (.iload 4, 2) := by decide +kernel
theorem dX6_pegs_68 : decode cX6_pegs 68 = .ok (.ishl, 1) := by decide +kernel
theorem dX6_pegs_69 : decode cX6_pegs 69 = .ok (.goto 4, 3) := by decide +kernel
theorem dX6_pegs_72 : decode cX6_pegs 72 = .ok (.iconst 0, 1) := by decide +kernel
theorem dX6_pegs_73 : decode cX6_pegs 73 = .ok (.ior, 1) := by decide +kernel
theorem dX6_pegs_74 : decode cX6_pegs 74 = .ok (.istore_n 3, 1) := by decide +kernel
theorem dX6_pegs_75 : decode cX6_pegs 75 = .ok (.iinc 4 1, 3) := by decide +kernel
theorem dX6_pegs_78 : decode cX6_pegs 78 = .ok (.goto (-53), 3) := by decide +kernel
theorem dX6_pegs_81 : decode cX6_pegs 81 = .ok (.iconst 0, 1) := by decide +kernel
theorem dX6_pegs_82 : decode cX6_pegs 82 = .ok (.istore 4, 2) := by decide +kernel
theorem dX6_pegs_84 : decode cX6_pegs 84 = .ok (.bipush 13, 2) := by decide +kernel
theorem dX6_pegs_86 : decode cX6_pegs 86 = .ok (.istore 5, 2) := by decide +kernel
theorem dX6_pegs_88 : decode cX6_pegs 88 = .ok (.iconst 0, 1) := by decide +kernel
theorem dX6_pegs_89 : decode cX6_pegs 89 = .ok (.istore 6, 2) := by decide +kernel
theorem dX6_pegs_91 : decode cX6_pegs 91 = .ok (.iload 6, 2) := by decide +kernel
theorem dX6_pegs_93 : decode cX6_pegs 93 = .ok (.bipush 12, 2) := by decide +kernel
theorem dX6_pegs_95 : decode cX6_pegs 95 = .ok (.if_icmp .ge 81, 3) := by decide +kernel
theorem dX6_pegs_98 : decode cX6_pegs 98 = .ok (.aload_n 0, 1) := by decide +kernel
theorem dX6_pegs_99 : decode cX6_pegs 99 = .ok (.getfield 7, 3) := by decide +kernel
theorem dX6_pegs_102 : decode cX6_pegs 102 = .ok (.bipush 94, 2) := by decide +kernel
theorem dX6_pegs_104 : decode cX6_pegs 104 = .ok (.iload_n 1, 1) := by decide +kernel
theorem dX6_pegs_105 : decode cX6_pegs 105 = .ok (.iadd, 1) := by decide +kernel
theorem dX6_pegs_106 : decode cX6_pegs 106 = .ok (.iaload, 1) := by decide +kernel
theorem dX6_pegs_107 : decode cX6_pegs 107 = .ok (.iload 6, 2) := by decide +kernel
theorem dX6_pegs_109 : decode cX6_pegs 109 = .ok (.invokestatic 127, 3) := by decide +kernel
theorem dX6_pegs_112 : decode cX6_pegs 112 = .ok (.iload_n 3, 1) := by decide +kernel
theorem dX6_pegs_113 : decode cX6_pegs 113 = .ok (.iconst (-1), 1) := by decide +kernel
theorem dX6_pegs_114 : decode cX6_pegs 114 = .ok (.ixor, 1) := by decide +kernel
theorem dX6_pegs_115 : decode cX6_pegs 115 = .ok (.iand, 1) := by decide +kernel
theorem dX6_pegs_116 : decode cX6_pegs 116 = .ok (.aload_n 0, 1) := by decide +kernel
theorem dX6_pegs_117 : decode cX6_pegs 117 = .ok (.getfield 7, 3) := by decide +kernel
theorem dX6_pegs_120 : decode cX6_pegs 120 = .ok (.bipush 99, 2) := by decide +kernel
theorem dX6_pegs_122 : decode cX6_pegs 122 = .ok (.iload_n 1, 1) := by decide +kernel
theorem dX6_pegs_123 : decode cX6_pegs 123 = .ok (.iadd, 1) := by decide +kernel
theorem dX6_pegs_124 : decode cX6_pegs 124 = .ok (.iaload, 1) := by decide +kernel
theorem dX6_pegs_125 : decode cX6_pegs 125 = .ok (.iload 6, 2) := by decide +kernel
theorem dX6_pegs_127 : decode cX6_pegs 127 = .ok (.invokestatic 127, 3) := by decide +kernel
theorem dX6_pegs_130 : decode cX6_pegs 130 = .ok (.iload_n 3, 1) := by decide +kernel
theorem dX6_pegs_131 : decode cX6_pegs 131 = .ok (.iand, 1) := by decide +kernel
theorem dX6_pegs_132 : decode cX6_pegs 132 = .ok (.ior, 1) := by decide +kernel
theorem dX6_pegs_133 : decode cX6_pegs 133 = .ok (.invokestatic 98, 3) := by decide +kernel
theorem dX6_pegs_136 : decode cX6_pegs 136 = .ok (.istore 7, 2) := by decide +kernel
theorem dX6_pegs_138 : decode cX6_pegs 138 = .ok (.iload 7, 2) := by decide +kernel
theorem dX6_pegs_140 : decode cX6_pegs 140 = .ok (.iload 5, 2) := by decide +kernel
theorem dX6_pegs_142 : decode cX6_pegs 142 = .ok (.if_icmp .ge 8, 3) := by decide +kernel
theorem dX6_pegs_145 : decode cX6_pegs 145 = .ok (.iload 6, 2) := by decide +kernel
theorem dX6_pegs_147 : decode cX6_pegs 147 = .ok (.goto 5, 3) := by decide +kernel
theorem dX6_pegs_150 : decode cX6_pegs 150 = .ok (.iload 4, 2) := by decide +kernel
theorem dX6_pegs_152 : decode cX6_pegs 152 = .ok (.istore 4, 2) := by decide +kernel
theorem dX6_pegs_154 : decode cX6_pegs 154 = .ok (.iload 7, 2) := by decide +kernel
theorem dX6_pegs_156 : decode cX6_pegs 156 = .ok (.iload 5, 2) := by decide +kernel
theorem dX6_pegs_158 : decode cX6_pegs 158 = .ok (.if_icmp .ge 8, 3) := by decide +kernel
theorem dX6_pegs_161 : decode cX6_pegs 161 = .ok (.iload 7, 2) := by decide +kernel
theorem dX6_pegs_163 : decode cX6_pegs 163 = .ok (.goto 5, 3) := by decide +kernel
theorem dX6_pegs_166 : decode cX6_pegs 166 = .ok (.iload 5, 2) := by decide +kernel
theorem dX6_pegs_168 : decode cX6_pegs 168 = .ok (.istore 5, 2) := by decide +kernel
theorem dX6_pegs_170 : decode cX6_pegs 170 = .ok (.iinc 6 1, 3) := by decide +kernel
theorem dX6_pegs_173 : decode cX6_pegs 173 = .ok (.goto (-82), 3) := by decide +kernel
theorem dX6_pegs_176 : decode cX6_pegs 176 = .ok (.iload_n 2, 1) := by decide +kernel
theorem dX6_pegs_177 : decode cX6_pegs 177 = .ok (.ifCond .ne 8, 3) := by decide +kernel
theorem dX6_pegs_180 : decode cX6_pegs 180 = .ok (.iload 5, 2) := by decide +kernel
theorem dX6_pegs_182 : decode cX6_pegs 182 = .ok (.goto 5, 3) := by decide +kernel
theorem dX6_pegs_185 : decode cX6_pegs 185 = .ok (.iload 4, 2) := by decide +kernel
theorem dX6_pegs_187 : decode cX6_pegs 187 = .ok (.ireturn, 1) := by decide +kernel
theorem dX6_beats_0 : decode cX6_beats 0 = .ok (.iload_n 1, 1) := by decide +kernel
theorem dX6_beats_1 : decode cX6_beats 1 = .ok (.invokestatic 84, 3) := by decide +kernel
theorem dX6_beats_4 : decode cX6_beats 4 = .ok (.ifCond .eq 15, 3) := by decide +kernel
theorem dX6_beats_7 : decode cX6_beats 7 = .ok (.iload_n 2, 1) := by decide +kernel
theorem dX6_beats_8 : decode cX6_beats 8 = .ok (.i2l, 1) := by decide +kernel
theorem dX6_beats_9 : decode cX6_beats 9 = .ok (.lconst 1, 1) := by decide +kernel
theorem dX6_beats_10 : decode cX6_beats 10 = .ok (.ldc2_w 139, 3) := by decide +kernel
theorem dX6_beats_13 : decode cX6_beats 13 = .ok (.invokestatic 52, 3) := by decide +kernel
theorem dX6_beats_16 : decode cX6_beats 16 = .ok (.ifCond .ne 5, 3) := by decide +kernel
theorem dX6_beats_19 : decode cX6_beats 19 = .ok (.iconst (-1), 1) := by decide +kernel
theorem dX6_beats_20 : decode cX6_beats 20 = .ok (.ireturn, 1) := by decide +kernel
theorem dX6_beats_21 : decode cX6_beats 21 = .ok (.aload_n 0, 1) := by decide +kernel
theorem dX6_beats_22 : decode cX6_beats 22 = .ok (.getfield 7, 3) := by decide +kernel
theorem dX6_beats_25 : decode cX6_beats 25 = .ok (.bipush 108, 2) := by decide +kernel
theorem dX6_beats_27 : decode cX6_beats 27 = .ok (.iload_n 1, 1) := by decide +kernel
theorem dX6_beats_28 : decode cX6_beats 28 = .ok (.iadd, 1) := by decide +kernel
theorem dX6_beats_29 : decode cX6_beats 29 = .ok (.iaload, 1) := by decide +kernel
theorem dX6_beats_30 : decode cX6_beats 30 = .ok (.istore_n 3, 1) := by decide +kernel
theorem dX6_beats_31 : decode cX6_beats 31 = .ok (.aload_n 0, 1) := by decide +kernel
theorem dX6_beats_32 : decode cX6_beats 32 = .ok (.getfield 7, 3) := by decide +kernel
theorem dX6_beats_35 : decode cX6_beats 35 = .ok (.bipush 108, 2) := by decide +kernel
theorem dX6_beats_37 : decode cX6_beats 37 = .ok (.iload_n 1, 1) := by decide +kernel
theorem dX6_beats_38 : decode cX6_beats 38 = .ok (.iadd, 1) := by decide +kernel
theorem dX6_beats_39 : decode cX6_beats 39 = .ok (.iload_n 2, 1) := by decide +kernel
theorem dX6_beats_40 : decode cX6_beats 40 = .ok (.iastore, 1) := by decide +kernel
theorem dX6_beats_41 : decode cX6_beats 41 = .ok (.iload_n 3, 1) := by decide +kernel
theorem dX6_beats_42 : decode cX6_beats 42 = .ok (.ireturn, 1) := by decide +kernel
theorem dX6_when_0 : decode cX6_when 0 = .ok (.iload_n 1, 1) := by decide +kernel
theorem dX6_when_1 : decode cX6_when 1 = .ok (.invokestatic 84, 3) := by decide +kernel
theorem dX6_when_4 : decode cX6_when 4 = .ok (.ifCond .ne 5, 3) := by decide +kernel
theorem dX6_when_7 : decode cX6_when 7 = .ok (.iconst (-1), 1) := by decide +kernel
theorem dX6_when_8 : decode cX6_when 8 = .ok (.ireturn, 1) := by decide +kernel
theorem dX6_when_9 : decode cX6_when 9 = .ok (.iconst 0, 1) := by decide +kernel
theorem dX6_when_10 : decode cX6_when 10 = .ok (.istore_n 2, 1) := by decide +kernel
theorem dX6_when_11 : decode cX6_when 11 = .ok (.aload_n 0, 1) := by decide +kernel
theorem dX6_when_12 : decode cX6_when 12 = .ok (.getfield 7, 3) := by decide +kernel
theorem dX6_when_15 : decode cX6_when 15 = .ok (.bipush 106, 2) := by decide +kernel
theorem dX6_when_17 : decode cX6_when 17 = .ok (.iaload, 1) := by decide +kernel
theorem dX6_when_18 : decode cX6_when 18 = .ok (.istore_n 3, 1) := by decide +kernel
theorem dX6_when_19 : decode cX6_when 19 = .ok (.iload_n 3, 1) := by decide +kernel
theorem dX6_when_20 : decode cX6_when 20 = .ok (.iload_n 1, 1) := by decide +kernel
theorem dX6_when_21 : decode cX6_when 21 = .ok (.if_icmp .eq 24, 3) := by decide +kernel
theorem dX6_when_24 : decode cX6_when 24 = .ok (.iload_n 2, 1) := by decide +kernel
theorem dX6_when_25 : decode cX6_when 25 = .ok (.aload_n 0, 1) := by decide +kernel
theorem dX6_when_26 : decode cX6_when 26 = .ok (.getfield 7, 3) := by decide +kernel
theorem dX6_when_29 : decode cX6_when 29 = .ok (.bipush 108, 2) := by decide +kernel
theorem dX6_when_31 : decode cX6_when 31 = .ok (.iload_n 3, 1) := by decide +kernel
theorem dX6_when_32 : decode cX6_when 32 = .ok (.iadd, 1) := by decide +kernel
theorem dX6_when_33 : decode cX6_when 33 = .ok (.iaload, 1) := by decide +kernel
theorem dX6_when_34 : decode cX6_when 34 = .ok (.iadd, 1) := by decide +kernel
theorem dX6_when_35 : decode cX6_when 35 = .ok (.istore_n 2, 1) := by decide +kernel
theorem dX6_when_36 : decode cX6_when 36 = .ok (.aload_n 0, 1) := by decide +kernel
theorem dX6_when_37 : decode cX6_when 37 = .ok (.iload_n 3, 1) := by decide +kernel
theorem dX6_when_38 : decode cX6_when 38 = .ok (.invokevirtual 123, 3) := by decide +kernel
theorem dX6_when_41 : decode cX6_when 41 = .ok (.istore_n 3, 1) := by decide +kernel
theorem dX6_when_42 : decode cX6_when 42 = .ok (.goto (-23), 3) := by decide +kernel
theorem dX6_when_45 : decode cX6_when 45 = .ok (.iload_n 2, 1) := by decide +kernel
theorem dX6_when_46 : decode cX6_when 46 = .ok (.ireturn, 1) := by decide +kernel
theorem dX6_at_0 : decode cX6_at 0 = .ok (.iload_n 1, 1) := by decide +kernel
theorem dX6_at_1 : decode cX6_at 1 = .ok (.i2l, 1) := by decide +kernel
theorem dX6_at_2 : decode cX6_at 2 = .ok (.lconst 0, 1) := by decide +kernel
theorem dX6_at_3 : decode cX6_at 3 = .ok (.ldc2_w 141, 3) := by decide +kernel
theorem dX6_at_6 : decode cX6_at 6 = .ok (.invokestatic 52, 3) := by decide +kernel
theorem dX6_at_9 : decode cX6_at 9 = .ok (.ifCond .ne 5, 3) := by decide +kernel
theorem dX6_at_12 : decode cX6_at 12 = .ok (.iconst (-1), 1) := by decide +kernel
theorem dX6_at_13 : decode cX6_at 13 = .ok (.ireturn, 1) := by decide +kernel
theorem dX6_at_14 : decode cX6_at 14 = .ok (.iconst 0, 1) := by decide +kernel
theorem dX6_at_15 : decode cX6_at 15 = .ok (.istore_n 2, 1) := by decide +kernel
theorem dX6_at_16 : decode cX6_at 16 = .ok (.iconst 0, 1) := by decide +kernel
theorem dX6_at_17 : decode cX6_at 17 = .ok (.istore_n 3, 1) := by decide +kernel
theorem dX6_at_18 : decode cX6_at 18 = .ok (.iload_n 3, 1) := by decide +kernel
theorem dX6_at_19 : decode cX6_at 19 = .ok (.bipush 12, 2) := by decide +kernel
theorem dX6_at_21 : decode cX6_at 21 = .ok (.if_icmp .ge 21, 3) := by decide +kernel
theorem dX6_at_24 : decode cX6_at 24 = .ok (.iload_n 2, 1) := by decide +kernel
theorem dX6_at_25 : decode cX6_at 25 = .ok (.aload_n 0, 1) := by decide +kernel
theorem dX6_at_26 : decode cX6_at 26 = .ok (.getfield 7, 3) := by decide +kernel
theorem dX6_at_29 : decode cX6_at 29 = .ok (.bipush 108, 2) := by decide +kernel
theorem dX6_at_31 : decode cX6_at 31 = .ok (.iload_n 3, 1) := by decide +kernel
theorem dX6_at_32 : decode cX6_at 32 = .ok (.iadd, 1) := by decide +kernel
theorem dX6_at_33 : decode cX6_at 33 = .ok (.iaload, 1) := by decide +kernel
theorem dX6_at_34 : decode cX6_at 34 = .ok (.iadd, 1) := by decide +kernel
theorem dX6_at_35 : decode cX6_at 35 = .ok (.istore_n 2, 1) := by decide +kernel
theorem dX6_at_36 : decode cX6_at 36 = .ok (.iinc 3 1, 3) := by decide +kernel
theorem dX6_at_39 : decode cX6_at 39 = .ok (.goto (-21), 3) := by decide +kernel
theorem dX6_at_42 : decode cX6_at 42 = .ok (.iload_n 1, 1) := by decide +kernel
theorem dX6_at_43 : decode cX6_at 43 = .ok (.iload_n 2, 1) := by decide +kernel
theorem dX6_at_44 : decode cX6_at 44 = .ok (.irem, 1) := by decide +kernel
theorem dX6_at_45 : decode cX6_at 45 = .ok (.istore_n 3, 1) := by decide +kernel
theorem dX6_at_46 : decode cX6_at 46 = .ok (.aload_n 0, 1) := by decide +kernel
theorem dX6_at_47 : decode cX6_at 47 = .ok (.getfield 7, 3) := by decide +kernel
theorem dX6_at_50 : decode cX6_at 50 = .ok (.bipush 106, 2) := by decide +kernel
theorem dX6_at_52 : decode cX6_at 52 = .ok (.iaload, 1) := by decide +kernel
theorem dX6_at_53 : decode cX6_at 53 = .ok (.istore 4, 2) := by decide +kernel
theorem dX6_at_55 : decode cX6_at 55 = .ok (.iload_n 3, 1) := by decide +kernel
theorem dX6_at_56 : decode cX6_at 56 = .ok (.aload_n 0, 1) := by decide +kernel
theorem dX6_at_57 : decode cX6_at 57 = .ok (.getfield 7, 3) := by decide +kernel
theorem dX6_at_60 : decode cX6_at 60 = .ok (.bipush 108, 2) := by decide +kernel
theorem dX6_at_62 : decode cX6_at 62 = .ok (.iload 4, 2) := by decide +kernel
theorem dX6_at_64 : decode cX6_at 64 = .ok (.iadd, 1) := by decide +kernel
theorem dX6_at_65 : decode cX6_at 65 = .ok (.iaload, 1) := by decide +kernel
theorem dX6_at_66 : decode cX6_at 66 = .ok (.if_icmp .lt 27, 3) := by decide +kernel
theorem dX6_at_69 : decode cX6_at 69 = .ok (.iload_n 3, 1) := by decide +kernel
theorem dX6_at_70 : decode cX6_at 70 = .ok (.aload_n 0, 1) := by decide +kernel
theorem dX6_at_71 : decode cX6_at 71 = .ok (.getfield 7, 3) := by decide +kernel
theorem dX6_at_74 : decode cX6_at 74 = .ok (.bipush 108, 2) := by decide +kernel
theorem dX6_at_76 : decode cX6_at 76 = .ok (.iload 4, 2) := by decide +kernel
theorem dX6_at_78 : decode cX6_at 78 = .ok (.iadd, 1) := by decide +kernel
theorem dX6_at_79 : decode cX6_at 79 = .ok (.iaload, 1) := by decide +kernel
theorem dX6_at_80 : decode cX6_at 80 = .ok (.isub, 1) := by decide +kernel
theorem dX6_at_81 : decode cX6_at 81 = .ok (.istore_n 3, 1) := by decide +kernel
theorem dX6_at_82 : decode cX6_at 82 = .ok (.aload_n 0, 1) := by decide +kernel
theorem dX6_at_83 : decode cX6_at 83 = .ok (.iload 4, 2) := by decide +kernel
theorem dX6_at_85 : decode cX6_at 85 = .ok (.invokevirtual 123, 3) := by decide +kernel
theorem dX6_at_88 : decode cX6_at 88 = .ok (.istore 4, 2) := by decide +kernel
theorem dX6_at_90 : decode cX6_at 90 = .ok (.goto (-35), 3) := by decide +kernel
theorem dX6_at_93 : decode cX6_at 93 = .ok (.iload 4, 2) := by decide +kernel
theorem dX6_at_95 : decode cX6_at 95 = .ok (.ireturn, 1) := by decide +kernel
theorem dX6_hand_0 : decode cX6_hand 0 = .ok (.iload_n 1, 1) := by decide +kernel
theorem dX6_hand_1 : decode cX6_hand 1 = .ok (.i2l, 1) := by decide +kernel
theorem dX6_hand_2 : decode cX6_hand 2 = .ok (.lconst 0, 1) := by decide +kernel
theorem dX6_hand_3 : decode cX6_hand 3 = .ok (.ldc2_w 89, 3) := by decide +kernel
theorem dX6_hand_6 : decode cX6_hand 6 = .ok (.invokestatic 52, 3) := by decide +kernel
theorem dX6_hand_9 : decode cX6_hand 9 = .ok (.ifCond .eq 15, 3) := by decide +kernel
theorem dX6_hand_12 : decode cX6_hand 12 = .ok (.iload_n 2, 1) := by decide +kernel
theorem dX6_hand_13 : decode cX6_hand 13 = .ok (.i2l, 1) := by decide +kernel
theorem dX6_hand_14 : decode cX6_hand 14 = .ok (.lconst 0, 1) := by decide +kernel
theorem dX6_hand_15 : decode cX6_hand 15 = .ok (.ldc2_w 143, 3) := by decide +kernel
theorem dX6_hand_18 : decode cX6_hand 18 = .ok (.invokestatic 52, 3) := by decide +kernel
theorem dX6_hand_21 : decode cX6_hand 21 = .ok (.ifCond .ne 5, 3) := by decide +kernel
theorem dX6_hand_24 : decode cX6_hand 24 = .ok (.iconst (-1), 1) := by decide +kernel
theorem dX6_hand_25 : decode cX6_hand 25 = .ok (.ireturn, 1) := by decide +kernel
theorem dX6_hand_26 : decode cX6_hand 26 = .ok (.aload_n 0, 1) := by decide +kernel
theorem dX6_hand_27 : decode cX6_hand 27 = .ok (.getfield 7, 3) := by decide +kernel
theorem dX6_hand_30 : decode cX6_hand 30 = .ok (.bipush 120, 2) := by decide +kernel
theorem dX6_hand_32 : decode cX6_hand 32 = .ok (.iload_n 1, 1) := by decide +kernel
theorem dX6_hand_33 : decode cX6_hand 33 = .ok (.iadd, 1) := by decide +kernel
theorem dX6_hand_34 : decode cX6_hand 34 = .ok (.iaload, 1) := by decide +kernel
theorem dX6_hand_35 : decode cX6_hand 35 = .ok (.istore_n 3, 1) := by decide +kernel
theorem dX6_hand_36 : decode cX6_hand 36 = .ok (.aload_n 0, 1) := by decide +kernel
theorem dX6_hand_37 : decode cX6_hand 37 = .ok (.getfield 7, 3) := by decide +kernel
theorem dX6_hand_40 : decode cX6_hand 40 = .ok (.bipush 120, 2) := by decide +kernel
theorem dX6_hand_42 : decode cX6_hand 42 = .ok (.iload_n 1, 1) := by decide +kernel
theorem dX6_hand_43 : decode cX6_hand 43 = .ok (.iadd, 1) := by decide +kernel
theorem dX6_hand_44 : decode cX6_hand 44 = .ok (.iload_n 2, 1) := by decide +kernel
theorem dX6_hand_45 : decode cX6_hand 45 = .ok (.iastore, 1) := by decide +kernel
theorem dX6_hand_46 : decode cX6_hand 46 = .ok (.iload_n 3, 1) := by decide +kernel
theorem dX6_hand_47 : decode cX6_hand 47 = .ok (.ireturn, 1) := by decide +kernel
theorem dX6_whose_0 : decode cX6_whose 0 = .ok (.aload_n 0, 1) := by decide +kernel
theorem dX6_whose_1 : decode cX6_whose 1 = .ok (.iload_n 1, 1) := by decide +kernel
theorem dX6_whose_2 : decode cX6_whose 2 = .ok (.invokevirtual 80, 3) := by decide +kernel
theorem dX6_whose_5 : decode cX6_whose 5 = .ok (.ifCond .ne 5, 3) := by decide +kernel
theorem dX6_whose_8 : decode cX6_whose 8 = .ok (.iconst (-1), 1) := by decide +kernel
theorem dX6_whose_9 : decode cX6_whose 9 = .ok (.ireturn, 1) := by decide +kernel
theorem dX6_whose_10 : decode cX6_whose 10 = .ok (.iconst 0, 1) := by decide +kernel
theorem dX6_whose_11 : decode cX6_whose 11 = .ok (.istore_n 2, 1) := by decide +kernel
theorem dX6_whose_12 : decode cX6_whose 12 = .ok (.iconst 0, 1) := by decide +kernel
theorem dX6_whose_13 : decode cX6_whose 13 = .ok (.istore_n 3, 1) := by decide +kernel
theorem dX6_whose_14 : decode cX6_whose 14 = .ok (.iload_n 3, 1) := by decide +kernel
theorem dX6_whose_15 : decode cX6_whose 15 = .ok (.bipush 12, 2) := by decide +kernel
theorem dX6_whose_17 : decode cX6_whose 17 = .ok (.if_icmp .ge 61, 3) := by decide +kernel
theorem dX6_whose_20 : decode cX6_whose 20 = .ok (.aload_n 0, 1) := by decide +kernel
theorem dX6_whose_21 : decode cX6_whose 21 = .ok (.getfield 7, 3) := by decide +kernel
theorem dX6_whose_24 : decode cX6_whose 24 = .ok (.iconst 1, 1) := by decide +kernel
theorem dX6_whose_25 : decode cX6_whose 25 = .ok (.bipush 12, 2) := by decide +kernel
theorem dX6_whose_27 : decode cX6_whose 27 = .ok (.iload_n 1, 1) := by decide +kernel
theorem dX6_whose_28 : decode cX6_whose 28 = .ok (.imul, 1) := by decide +kernel
theorem dX6_whose_29 : decode cX6_whose 29 = .ok (.iadd, 1) := by decide +kernel
theorem dX6_whose_30 : decode cX6_whose 30 = .ok (.iload_n 3, 1) := by decide +kernel
theorem dX6_whose_31 : decode cX6_whose 31 = .ok (.iadd, 1) := by decide +kernel
theorem dX6_whose_32 : decode cX6_whose 32 = .ok (.iaload, 1) := by decide +kernel
theorem dX6_whose_33 : decode cX6_whose 33 = .ok (.aload_n 0, 1) := by decide +kernel
theorem dX6_whose_34 : decode cX6_whose 34 = .ok (.getfield 7, 3) := by decide +kernel
theorem dX6_whose_37 : decode cX6_whose 37 = .ok (.iconst 1, 1) := by decide +kernel
theorem dX6_whose_38 : decode cX6_whose 38 = .ok (.bipush 12, 2) := by decide +kernel
theorem dX6_whose_40 : decode cX6_whose 40 = .ok (.iload_n 1, 1) := by decide +kernel
theorem dX6_whose_41 : decode cX6_whose 41 = .ok (.imul, 1) := by decide +kernel
theorem dX6_whose_42 : decode cX6_whose 42 = .ok (.iadd, 1) := by decide +kernel
theorem dX6_whose_43 : decode cX6_whose 43 = .ok (.iload_n 3, 1) := by decide +kernel
theorem dX6_whose_44 : decode cX6_whose 44 = .ok (.iconst 1, 1) := by decide +kernel
theorem dX6_whose_45 : decode cX6_whose 45 = .ok (.iadd, 1) := by decide +kernel
theorem dX6_whose_46 : decode cX6_whose 46 = .ok (.bipush 12, 2) := by decide +kernel
theorem dX6_whose_48 : decode cX6_whose 48 = .ok (.irem, 1) := by decide +kernel
theorem dX6_whose_49 : decode cX6_whose 49 = .ok (.iadd, 1) := by decide +kernel
theorem dX6_whose_50 : decode cX6_whose 50 = .ok (.iaload, 1) := by decide +kernel
theorem dX6_whose_51 : decode cX6_whose 51 = .ok (.isub, 1) := by decide +kernel
theorem dX6_whose_52 : decode cX6_whose 52 = .ok (.istore 4, 2) := by decide +kernel
theorem dX6_whose_54 : decode cX6_whose 54 = .ok (.iload_n 2, 1) := by decide +kernel
theorem dX6_whose_55 : decode cX6_whose 55 = .ok (.iconst 1, 1) := by decide +kernel
theorem dX6_whose_56 : decode cX6_whose 56 = .ok (.iload 4, 2) := by decide +kernel
theorem dX6_whose_58 : decode cX6_whose 58 = .ok (.ifCond .ge 9, 3) := by decide +kernel
theorem dX6_whose_61 : decode cX6_whose 61 = .ok (.iload 4, 2) := by decide +kernel
theorem dX6_whose_63 : decode cX6_whose 63 = .ok (.ineg, 1) := by decide +kernel
theorem dX6_whose_64 : decode cX6_whose 64 = .ok (.goto 5, 3) := by decide +kernel
theorem dX6_whose_67 : decode cX6_whose 67 = .ok (.iload 4, 2) := by decide +kernel
theorem dX6_whose_69 : decode cX6_whose 69 = .ok (.ishl, 1) := by decide +kernel
theorem dX6_whose_70 : decode cX6_whose 70 = .ok (.ior, 1) := by decide +kernel
theorem dX6_whose_71 : decode cX6_whose 71 = .ok (.istore_n 2, 1) := by decide +kernel
theorem dX6_whose_72 : decode cX6_whose 72 = .ok (.iinc 3 1, 3) := by decide +kernel
theorem dX6_whose_75 : decode cX6_whose 75 = .ok (.goto (-61), 3) := by decide +kernel
theorem dX6_whose_78 : decode cX6_whose 78 = .ok (.iconst 0, 1) := by decide +kernel
theorem dX6_whose_79 : decode cX6_whose 79 = .ok (.istore_n 3, 1) := by decide +kernel
theorem dX6_whose_80 : decode cX6_whose 80 = .ok (.iconst 0, 1) := by decide +kernel
theorem dX6_whose_81 : decode cX6_whose 81 = .ok (.istore 4, 2) := by decide +kernel
theorem dX6_whose_83 : decode cX6_whose 83 = .ok (.iload 4, 2) := by decide +kernel
theorem dX6_whose_85 : decode cX6_whose 85 = .ok (.iconst 4, 1) := by decide +kernel
theorem dX6_whose_86 : decode cX6_whose 86 = .ok (.if_icmp .ge 37, 3) := by decide +kernel
theorem dX6_whose_89 : decode cX6_whose 89 = .ok (.iload_n 3, 1) := by decide +kernel
theorem dX6_whose_90 : decode cX6_whose 90 = .ok (.iload_n 2, 1) := by decide +kernel
theorem dX6_whose_91 : decode cX6_whose 91 = .ok (.aload_n 0, 1) := by decide +kernel
theorem dX6_whose_92 : decode cX6_whose 92 = .ok (.getfield 7, 3) := by decide +kernel
theorem dX6_whose_95 : decode cX6_whose 95 = .ok (.bipush 120, 2) := by decide +kernel
theorem dX6_whose_97 : decode cX6_whose 97 = .ok (.iload 4, 2) := by decide +kernel
theorem dX6_whose_99 : decode cX6_whose 99 = .ok (.iadd, 1) := by decide +kernel
theorem dX6_whose_100 : decode cX6_whose 100 = .ok (.iaload, 1) := by decide +kernel
theorem dX6_whose_101 : decode cX6_whose 101 = .ok (.iconst (-1), 1) := by decide +kernel
theorem dX6_whose_102 : decode cX6_whose 102 = .ok (.ixor, 1) := by decide +kernel
theorem dX6_whose_103 : decode cX6_whose 103 = .ok (.iand, 1) := by decide +kernel
theorem dX6_whose_104 : decode cX6_whose 104 = .ok (.ifCond .ne 10, 3) := by decide +kernel
theorem dX6_whose_107 : decode cX6_whose 107 = .ok (.iconst 1, 1) := by decide +kernel
theorem dX6_whose_108 : decode cX6_whose 108 = .ok (.iload 4, 2) := by decide +kernel
theorem dX6_whose_110 : decode cX6_whose 110 = .ok (.ishl, 1) := by decide +kernel
theorem dX6_whose_111 : decode cX6_whose 111 = .ok (.goto 4, 3) := by decide +kernel
theorem dX6_whose_114 : decode cX6_whose 114 = .ok (.iconst 0, 1) := by decide +kernel
theorem dX6_whose_115 : decode cX6_whose 115 = .ok (.ior, 1) := by decide +kernel
theorem dX6_whose_116 : decode cX6_whose 116 = .ok (.istore_n 3, 1) := by decide +kernel
theorem dX6_whose_117 : decode cX6_whose 117 = .ok (.iinc 4 1, 3) := by decide +kernel
theorem dX6_whose_120 : decode cX6_whose 120 = .ok (.goto (-37), 3) := by decide +kernel
theorem dX6_whose_123 : decode cX6_whose 123 = .ok (.iload_n 3, 1) := by decide +kernel
theorem dX6_whose_124 : decode cX6_whose 124 = .ok (.ireturn, 1) := by decide +kernel
theorem dX6_image_0 : decode cX6_image 0 = .ok (.iconst 0, 1) := by decide +kernel
theorem dX6_image_1 : decode cX6_image 1 = .ok (.istore_n 1, 1) := by decide +kernel
theorem dX6_image_2 : decode cX6_image 2 = .ok (.iload_n 1, 1) := by decide +kernel
theorem dX6_image_3 : decode cX6_image 3 = .ok (.bipush 124, 2) := by decide +kernel
theorem dX6_image_5 : decode cX6_image 5 = .ok (.if_icmp .ge 24, 3) := by decide +kernel
theorem dX6_image_8 : decode cX6_image 8 = .ok (.aload_n 0, 1) := by decide +kernel
theorem dX6_image_9 : decode cX6_image 9 = .ok (.getfield 7, 3) := by decide +kernel
theorem dX6_image_12 : decode cX6_image 12 = .ok (.bipush 124, 2) := by decide +kernel
theorem dX6_image_14 : decode cX6_image 14 = .ok (.iload_n 1, 1) := by decide +kernel
theorem dX6_image_15 : decode cX6_image 15 = .ok (.iadd, 1) := by decide +kernel
theorem dX6_image_16 : decode cX6_image 16 = .ok (.aload_n 0, 1) := by decide +kernel
theorem dX6_image_17 : decode cX6_image 17 = .ok (.getfield 7, 3) := by decide +kernel
theorem dX6_image_20 : decode cX6_image 20 = .ok (.iload_n 1, 1) := by decide +kernel
theorem dX6_image_21 : decode cX6_image 21 = .ok (.iaload, 1) := by decide +kernel
theorem dX6_image_22 : decode cX6_image 22 = .ok (.iastore, 1) := by decide +kernel
theorem dX6_image_23 : decode cX6_image 23 = .ok (.iinc 1 1, 3) := by decide +kernel
theorem dX6_image_26 : decode cX6_image 26 = .ok (.goto (-24), 3) := by decide +kernel
theorem dX6_image_29 : decode cX6_image 29 = .ok (.aload_n 0, 1) := by decide +kernel
theorem dX6_image_30 : decode cX6_image 30 = .ok (.iconst 1, 1) := by decide +kernel
theorem dX6_image_31 : decode cX6_image 31 = .ok (.putfield 145, 3) := by decide +kernel
theorem dX6_image_34 : decode cX6_image 34 = .ok (.iconst 1, 1) := by decide +kernel
theorem dX6_image_35 : decode cX6_image 35 = .ok (.ireturn, 1) := by decide +kernel
theorem dX6_restore_0 : decode cX6_restore 0 = .ok (.aload_n 0, 1) := by decide +kernel
theorem dX6_restore_1 : decode cX6_restore 1 = .ok (.getfield 145, 3) := by decide +kernel
theorem dX6_restore_4 : decode cX6_restore 4 = .ok (.ifCond .ne 6, 3) := by decide +kernel
theorem dX6_restore_7 : decode cX6_restore 7 = .ok (.bipush (-4), 2) := by decide +kernel
theorem dX6_restore_9 : decode cX6_restore 9 = .ok (.ireturn, 1) := by decide +kernel
theorem dX6_restore_10 : decode cX6_restore 10 = .ok (.iconst 0, 1) := by decide +kernel
theorem dX6_restore_11 : decode cX6_restore 11 = .ok (.istore_n 1, 1) := by decide +kernel
theorem dX6_restore_12 : decode cX6_restore 12 = .ok (.iload_n 1, 1) := by decide +kernel
theorem dX6_restore_13 : decode cX6_restore 13 = .ok (.bipush 124, 2) := by decide +kernel
theorem dX6_restore_15 : decode cX6_restore 15 = .ok (.if_icmp .ge 24, 3) := by decide +kernel
theorem dX6_restore_18 : decode cX6_restore 18 = .ok (.aload_n 0, 1) := by decide +kernel
theorem dX6_restore_19 : decode cX6_restore 19 = .ok (.getfield 7, 3) := by decide +kernel
theorem dX6_restore_22 : decode cX6_restore 22 = .ok (.iload_n 1, 1) := by decide +kernel
theorem dX6_restore_23 : decode cX6_restore 23 = .ok (.aload_n 0, 1) := by decide +kernel
theorem dX6_restore_24 : decode cX6_restore 24 = .ok (.getfield 7, 3) := by decide +kernel
theorem dX6_restore_27 : decode cX6_restore 27 = .ok (.bipush 124, 2) := by decide +kernel
theorem dX6_restore_29 : decode cX6_restore 29 = .ok (.iload_n 1, 1) := by decide +kernel
theorem dX6_restore_30 : decode cX6_restore 30 = .ok (.iadd, 1) := by decide +kernel
theorem dX6_restore_31 : decode cX6_restore 31 = .ok (.iaload, 1) := by decide +kernel
theorem dX6_restore_32 : decode cX6_restore 32 = .ok (.iastore, 1) := by decide +kernel
theorem dX6_restore_33 : decode cX6_restore 33 = .ok (.iinc 1 1, 3) := by decide +kernel
theorem dX6_restore_36 : decode cX6_restore 36 = .ok (.goto (-24), 3) := by decide +kernel
theorem dX6_restore_39 : decode cX6_restore 39 = .ok (.iconst 1, 1) := by decide +kernel
theorem dX6_restore_40 : decode cX6_restore 40 = .ok (.ireturn, 1) := by decide +kernel
theorem dX6_count_0 : decode cX6_count 0 = .ok (.iconst 0, 1) := by decide +kernel
theorem dX6_count_1 : decode cX6_count 1 = .ok (.istore_n 2, 1) := by decide +kernel
theorem dX6_count_2 : decode cX6_count 2 = .ok (.iconst 0, 1) := by decide +kernel
theorem dX6_count_3 : decode cX6_count 3 = .ok (.istore_n 3, 1) := by decide +kernel
theorem dX6_count_4 : decode cX6_count 4 = .ok (.iload_n 3, 1) := by decide +kernel
theorem dX6_count_5 : decode cX6_count 5 = .ok (.aload_n 0, 1) := by decide +kernel
theorem dX6_count_6 : decode cX6_count 6 = .ok (.getfield 7, 3) := by decide +kernel
theorem dX6_count_9 : decode cX6_count 9 = .ok (.bipush 73, 2) := by decide +kernel
theorem dX6_count_11 : decode cX6_count 11 = .ok (.iaload, 1) := by decide +kernel
theorem dX6_count_12 : decode cX6_count 12 = .ok (.if_icmp .ge 41, 3) := by decide +kernel
theorem dX6_count_15 : decode cX6_count 15 = .ok (.iload_n 2, 1) := by decide +kernel
theorem dX6_count_16 : decode cX6_count 16 = .ok (.aload_n 0, 1) := by decide +kernel
theorem dX6_count_17 : decode cX6_count 17 = .ok (.iload_n 3, 1) := by decide +kernel
theorem dX6_count_18 : decode cX6_count 18 = .ok (.aload_n 0, 1) := by decide +kernel
theorem dX6_count_19 : decode cX6_count 19 = .ok (.getfield 7, 3) := by decide +kernel
theorem dX6_count_22 : decode cX6_count 22 = .ok (.bipush 106, 2) := by decide +kernel
theorem dX6_count_24 : decode cX6_count 24 = .ok (.iaload, 1) := by decide +kernel
theorem dX6_count_25 : decode cX6_count 25 = .ok (.invokevirtual 109, 3) := by decide +kernel
theorem dX6_count_28 : decode cX6_count 28 = .ok (.aload_n 0, 1) := by decide +kernel
theorem dX6_count_29 : decode cX6_count 29 = .ok (.getfield 7, 3) := by decide +kernel
theorem dX6_count_32 : decode cX6_count 32 = .ok (.bipush 104, 2) := by decide +kernel
theorem dX6_count_34 : decode cX6_count 34 = .ok (.iaload, 1) := by decide +kernel
theorem dX6_count_35 : decode cX6_count 35 = .ok (.if_icmp .lt 9, 3) := by decide +kernel
theorem dX6_count_38 : decode cX6_count 38 = .ok (.iconst 1, 1) := by decide +kernel
theorem dX6_count_39 : decode cX6_count 39 = .ok (.iload_n 3, 1) := by decide +kernel
theorem dX6_count_40 : decode cX6_count 40 = .ok (.ishl, 1) := by decide +kernel
theorem dX6_count_41 : decode cX6_count 41 = .ok (.goto 4, 3) := by decide +kernel
theorem dX6_count_44 : decode cX6_count 44 = .ok (.iconst 0, 1) := by decide +kernel
theorem dX6_count_45 : decode cX6_count 45 = .ok (.ior, 1) := by decide +kernel
theorem dX6_count_46 : decode cX6_count 46 = .ok (.istore_n 2, 1) := by decide +kernel
theorem dX6_count_47 : decode cX6_count 47 = .ok (.iinc 3 1, 3) := by decide +kernel
theorem dX6_count_50 : decode cX6_count 50 = .ok (.goto (-46), 3) := by decide +kernel
theorem dX6_count_53 : decode cX6_count 53 = .ok (.iload_n 1, 1) := by decide +kernel
theorem dX6_count_54 : decode cX6_count 54 = .ok (.tableswitch 79 0 5 #[38, 45, 53, 61, 69, 77], 38) := by decide +kernel
theorem dX6_count_92 : decode cX6_count 92 = .ok (.aload_n 0, 1) := by decide +kernel
theorem dX6_count_93 : decode cX6_count 93 = .ok (.getfield 7, 3) := by decide +kernel
theorem dX6_count_96 : decode cX6_count 96 = .ok (.iconst 0, 1) := by decide +kernel
theorem dX6_count_97 : decode cX6_count 97 = .ok (.iaload, 1) := by decide +kernel
theorem dX6_count_98 : decode cX6_count 98 = .ok (.ireturn, 1) := by decide +kernel
theorem dX6_count_99 : decode cX6_count 99 = .ok (.aload_n 0, 1) := by decide +kernel
theorem dX6_count_100 : decode cX6_count 100 = .ok (.getfield 7, 3) := by decide +kernel
theorem dX6_count_103 : decode cX6_count 103 = .ok (.bipush 73, 2) := by decide +kernel
theorem dX6_count_105 : decode cX6_count 105 = .ok (.iaload, 1) := by decide +kernel
theorem dX6_count_106 : decode cX6_count 106 = .ok (.ireturn, 1) := by decide +kernel
theorem dX6_count_107 : decode cX6_count 107 = .ok (.aload_n 0, 1) := by decide +kernel
theorem dX6_count_108 : decode cX6_count 108 = .ok (.getfield 7, 3) := by decide +kernel
theorem dX6_count_111 : decode cX6_count 111 = .ok (.bipush 106, 2) := by decide +kernel
theorem dX6_count_113 : decode cX6_count 113 = .ok (.iaload, 1) := by decide +kernel
theorem dX6_count_114 : decode cX6_count 114 = .ok (.ireturn, 1) := by decide +kernel
theorem dX6_count_115 : decode cX6_count 115 = .ok (.aload_n 0, 1) := by decide +kernel
theorem dX6_count_116 : decode cX6_count 116 = .ok (.getfield 7, 3) := by decide +kernel
theorem dX6_count_119 : decode cX6_count 119 = .ok (.bipush 105, 2) := by decide +kernel
theorem dX6_count_121 : decode cX6_count 121 = .ok (.iaload, 1) := by decide +kernel
theorem dX6_count_122 : decode cX6_count 122 = .ok (.ireturn, 1) := by decide +kernel
theorem dX6_count_123 : decode cX6_count 123 = .ok (.aload_n 0, 1) := by decide +kernel
theorem dX6_count_124 : decode cX6_count 124 = .ok (.getfield 7, 3) := by decide +kernel
theorem dX6_count_127 : decode cX6_count 127 = .ok (.bipush 107, 2) := by decide +kernel
theorem dX6_count_129 : decode cX6_count 129 = .ok (.iaload, 1) := by decide +kernel
theorem dX6_count_130 : decode cX6_count 130 = .ok (.ireturn, 1) := by decide +kernel
theorem dX6_count_131 : decode cX6_count 131 = .ok (.iload_n 2, 1) := by decide +kernel
theorem dX6_count_132 : decode cX6_count 132 = .ok (.ireturn, 1) := by decide +kernel
theorem dX6_count_133 : decode cX6_count 133 = .ok (.iconst (-1), 1) := by decide +kernel
theorem dX6_count_134 : decode cX6_count 134 = .ok (.ireturn, 1) := by decide +kernel
theorem dX6_isSheet_0 : decode cX6_isSheet 0 = .ok (.iload_n 0, 1) := by decide +kernel
theorem dX6_isSheet_1 : decode cX6_isSheet 1 = .ok (.i2l, 1) := by decide +kernel
theorem dX6_isSheet_2 : decode cX6_isSheet 2 = .ok (.lconst 0, 1) := by decide +kernel
theorem dX6_isSheet_3 : decode cX6_isSheet 3 = .ok (.ldc2_w 89, 3) := by decide +kernel
theorem dX6_isSheet_6 : decode cX6_isSheet 6 = .ok (.invokestatic 52, 3) := by decide +kernel
theorem dX6_isSheet_9 : decode cX6_isSheet 9 = .ok (.ireturn, 1) := by decide +kernel
theorem dX6_bars_0 : decode cX6_bars 0 = .ok (.aload_n 0, 1) := by decide +kernel
theorem dX6_bars_1 : decode cX6_bars 1 = .ok (.getfield 37, 3) := by decide +kernel
theorem dX6_bars_4 : decode cX6_bars 4 = .ok (.iload_n 1, 1) := by decide +kernel
theorem dX6_bars_5 : decode cX6_bars 5 = .ok (.iaload, 1) := by decide +kernel
theorem dX6_bars_6 : decode cX6_bars 6 = .ok (.ifCond .ge 8, 3) := by decide +kernel
theorem dX6_bars_9 : decode cX6_bars 9 = .ok (.bipush (-11), 2) := by decide +kernel
theorem dX6_bars_11 : decode cX6_bars 11 = .ok (.goto 50, 3) := by decide +kernel
theorem dX6_bars_14 : decode cX6_bars 14 = .ok (.aload_n 0, 1) := by decide +kernel
theorem dX6_bars_15 : decode cX6_bars 15 = .ok (.getfield 37, 3) := by decide +kernel
theorem dX6_bars_18 : decode cX6_bars 18 = .ok (.iload_n 1, 1) := by decide +kernel
theorem dX6_bars_19 : decode cX6_bars 19 = .ok (.iaload, 1) := by decide +kernel
theorem dX6_bars_20 : decode cX6_bars 20 = .ok (.iload_n 2, 1) := by decide +kernel
theorem dX6_bars_21 : decode cX6_bars 21 = .ok (.if_icmp .eq 8, 3) := by decide +kernel
theorem dX6_bars_24 : decode cX6_bars 24 = .ok (.bipush (-12), 2) := by decide +kernel
theorem dX6_bars_26 : decode cX6_bars 26 = .ok (.goto 35, 3) := by decide +kernel
theorem dX6_bars_29 : decode cX6_bars 29 = .ok (.iload_n 3, 1) := by decide +kernel
theorem dX6_bars_30 : decode cX6_bars 30 = .ok (.ifCond .lt 25, 3) := by decide +kernel
theorem dX6_bars_33 : decode cX6_bars 33 = .ok (.iload 4, 2) := by decide +kernel
theorem dX6_bars_35 : decode cX6_bars 35 = .ok (.ifCond .lt 20, 3) := by decide +kernel
theorem dX6_bars_38 : decode cX6_bars 38 = .ok (.iload_n 3, 1) := by decide +kernel
theorem dX6_bars_39 : decode cX6_bars 39 = .ok (.i2l, 1) := by decide +kernel
theorem dX6_bars_40 : decode cX6_bars 40 = .ok (.iload 4, 2) := by decide +kernel
theorem dX6_bars_42 : decode cX6_bars 42 = .ok (.i2l, 1) := by decide +kernel
theorem dX6_bars_43 : decode cX6_bars 43 = .ok (.ladd, 1) := by decide +kernel
theorem dX6_bars_44 : decode cX6_bars 44 = .ok (.aload_n 0, 1) := by decide +kernel
theorem dX6_bars_45 : decode cX6_bars 45 = .ok (.getfield 40, 3) := by decide +kernel
theorem dX6_bars_48 : decode cX6_bars 48 = .ok (.iload_n 1, 1) := by decide +kernel
theorem dX6_bars_49 : decode cX6_bars 49 = .ok (.iaload, 1) := by decide +kernel
theorem dX6_bars_50 : decode cX6_bars 50 = .ok (.i2l, 1) := by decide +kernel
theorem dX6_bars_51 : decode cX6_bars 51 = .ok (.lcmp, 1) := by decide +kernel
theorem dX6_bars_52 : decode cX6_bars 52 = .ok (.ifCond .le 8, 3) := by decide +kernel
theorem dX6_bars_55 : decode cX6_bars 55 = .ok (.bipush (-13), 2) := by decide +kernel
theorem dX6_bars_57 : decode cX6_bars 57 = .ok (.goto 4, 3) := by decide +kernel
theorem dX6_bars_60 : decode cX6_bars 60 = .ok (.iconst 0, 1) := by decide +kernel
theorem dX6_bars_61 : decode cX6_bars 61 = .ok (.ireturn, 1) := by decide +kernel
theorem dX6_cutTo_0 : decode cX6_cutTo 0 = .ok (.iload_n 0, 1) := by decide +kernel
theorem dX6_cutTo_1 : decode cX6_cutTo 1 = .ok (.ifCond .ne 10, 3) := by decide +kernel
theorem dX6_cutTo_4 : decode cX6_cutTo 4 = .ok (.lload_n 1, 1) := by decide +kernel
theorem dX6_cutTo_5 : decode cX6_cutTo 5 = .ok (.l2i, 1) := by decide +kernel
theorem dX6_cutTo_6 : decode cX6_cutTo 6 = .ok (.i2s, 1) := by decide +kernel
theorem dX6_cutTo_7 : decode cX6_cutTo 7 = .ok (.i2l, 1) := by decide +kernel
theorem dX6_cutTo_8 : decode cX6_cutTo 8 = .ok (.goto 15, 3) := by decide +kernel
theorem dX6_cutTo_11 : decode cX6_cutTo 11 = .ok (.iload_n 0, 1) := by decide +kernel
theorem dX6_cutTo_12 : decode cX6_cutTo 12 = .ok (.iconst 1, 1) := by decide +kernel
theorem dX6_cutTo_13 : decode cX6_cutTo 13 = .ok (.if_icmp .ne 9, 3) := by decide +kernel
theorem dX6_cutTo_16 : decode cX6_cutTo 16 = .ok (.lload_n 1, 1) := by decide +kernel
theorem dX6_cutTo_17 : decode cX6_cutTo 17 = .ok (.l2i, 1) := by decide +kernel
theorem dX6_cutTo_18 : decode cX6_cutTo 18 = .ok (.i2l, 1) := by decide +kernel
theorem dX6_cutTo_19 : decode cX6_cutTo 19 = .ok (.goto 4, 3) := by decide +kernel
theorem dX6_cutTo_22 : decode cX6_cutTo 22 = .ok (.lload_n 1, 1) := by decide +kernel
theorem dX6_cutTo_23 : decode cX6_cutTo 23 = .ok (.lreturn, 1) := by decide +kernel
theorem dX6_isSo_0 : decode cX6_isSo 0 = .ok (.iconst 1, 1) := by decide +kernel
theorem dX6_isSo_1 : decode cX6_isSo 1 = .ok (.istore_n 2, 1) := by decide +kernel
theorem dX6_isSo_2 : decode cX6_isSo 2 = .ok (.iconst 0, 1) := by decide +kernel
theorem dX6_isSo_3 : decode cX6_isSo 3 = .ok (.istore_n 3, 1) := by decide +kernel
theorem dX6_isSo_4 : decode cX6_isSo 4 = .ok (.iload_n 3, 1) := by decide +kernel
theorem dX6_isSo_5 : decode cX6_isSo 5 = .ok (.aload_n 0, 1) := by decide +kernel
theorem dX6_isSo_6 : decode cX6_isSo 6 = .ok (.getfield 7, 3) := by decide +kernel
theorem dX6_isSo_9 : decode cX6_isSo 9 = .ok (.bipush 73, 2) := by decide +kernel
theorem dX6_isSo_11 : decode cX6_isSo 11 = .ok (.iaload, 1) := by decide +kernel
theorem dX6_isSo_12 : decode cX6_isSo 12 = .ok (.if_icmp .ge 37, 3) := by decide +kernel
theorem dX6_isSo_15 : decode cX6_isSo 15 = .ok (.iload_n 2, 1) := by decide +kernel
theorem dX6_isSo_16 : decode cX6_isSo 16 = .ok (.ifCond .eq 25, 3) := by decide +kernel
theorem dX6_isSo_19 : decode cX6_isSo 19 = .ok (.aload_n 0, 1) := by decide +kernel
theorem dX6_isSo_20 : decode cX6_isSo 20 = .ok (.iload_n 3, 1) := by decide +kernel
theorem dX6_isSo_21 : decode cX6_isSo 21 = .ok (.invokevirtual 112, 3) := by decide +kernel
theorem dX6_isSo_24 : decode cX6_isSo 24 = .ok (.i2l, 1) := by decide +kernel
theorem dX6_isSo_25 : decode cX6_isSo 25 = .ok (.aload_n 0, 1) := by decide +kernel
theorem dX6_isSo_26 : decode cX6_isSo 26 = .ok (.getfield 43, 3) := by decide +kernel
theorem dX6_isSo_29 : decode cX6_isSo 29 = .ok (.iload_n 1, 1) := by decide +kernel
theorem dX6_isSo_30 : decode cX6_isSo 30 = .ok (.iload_n 3, 1) := by decide +kernel
theorem dX6_isSo_31 : decode cX6_isSo 31 = .ok (.iadd, 1) := by decide +kernel
theorem dX6_isSo_32 : decode cX6_isSo 32 = .ok (.laload, 1) := by decide +kernel
theorem dX6_isSo_33 : decode cX6_isSo 33 = .ok (.lcmp, 1) := by decide +kernel
theorem dX6_isSo_34 : decode cX6_isSo 34 = .ok (.ifCond .ne 7, 3) := by decide +kernel
theorem dX6_isSo_37 : decode cX6_isSo 37 = .ok (.iconst 1, 1) := by decide +kernel
theorem dX6_isSo_38 : decode cX6_isSo 38 = .ok (.goto 4, 3) := by decide +kernel
theorem dX6_isSo_41 : decode cX6_isSo 41 = .ok (.iconst 0, 1) := by decide +kernel
theorem dX6_isSo_42 : decode cX6_isSo 42 = .ok (.istore_n 2, 1) := by decide +kernel
theorem dX6_isSo_43 : decode cX6_isSo 43 = .ok (.iinc 3 1, 3) := by decide +kernel
theorem dX6_isSo_46 : decode cX6_isSo 46 = .ok (.goto (-42), 3) := by decide +kernel
theorem dX6_isSo_49 : decode cX6_isSo 49 = .ok (.iload_n 2, 1) := by decide +kernel
theorem dX6_isSo_50 : decode cX6_isSo 50 = .ok (.ireturn, 1) := by decide +kernel
theorem dX6_worn_0 : decode cX6_worn 0 = .ok (.iload_n 1, 1) := by decide +kernel
theorem dX6_worn_1 : decode cX6_worn 1 = .ok (.i2l, 1) := by decide +kernel
theorem dX6_worn_2 : decode cX6_worn 2 = .ok (.lconst 1, 1) := by decide +kernel
theorem dX6_worn_3 : decode cX6_worn 3 = .ok (.ldc2_w 87, 3) := by decide +kernel
theorem dX6_worn_6 : decode cX6_worn 6 = .ok (.invokestatic 52, 3) := by decide +kernel
theorem dX6_worn_9 : decode cX6_worn 9 = .ok (.ifCond .eq 22, 3) := by decide +kernel
theorem dX6_worn_12 : decode cX6_worn 12 = .ok (.iload_n 2, 1) := by decide +kernel
theorem dX6_worn_13 : decode cX6_worn 13 = .ok (.invokestatic 149, 3) := by decide +kernel
theorem dX6_worn_16 : decode cX6_worn 16 = .ok (.ifCond .eq 15, 3) := by decide +kernel
theorem dX6_worn_19 : decode cX6_worn 19 = .ok (.iload_n 3, 1) := by decide +kernel
theorem dX6_worn_20 : decode cX6_worn 20 = .ok (.i2l, 1) := by decide +kernel
theorem dX6_worn_21 : decode cX6_worn 21 = .ok (.lconst 0, 1) := by decide +kernel
theorem dX6_worn_22 : decode cX6_worn 22 = .ok (.ldc2_w 152, 3) := by decide +kernel
theorem dX6_worn_25 : decode cX6_worn 25 = .ok (.invokestatic 52, 3) := by decide +kernel
theorem dX6_worn_28 : decode cX6_worn 28 = .ok (.ifCond .ne 5, 3) := by decide +kernel
theorem dX6_worn_31 : decode cX6_worn 31 = .ok (.iconst (-1), 1) := by decide +kernel
theorem dX6_worn_32 : decode cX6_worn 32 = .ok (.ireturn, 1) := by decide +kernel
theorem dX6_worn_33 : decode cX6_worn 33 = .ok (.aload_n 0, 1) := by decide +kernel
theorem dX6_worn_34 : decode cX6_worn 34 = .ok (.iload_n 2, 1) := by decide +kernel
theorem dX6_worn_35 : decode cX6_worn 35 = .ok (.iload_n 3, 1) := by decide +kernel
theorem dX6_worn_36 : decode cX6_worn 36 = .ok (.iload 4, 2) := by decide +kernel
theorem dX6_worn_38 : decode cX6_worn 38 = .ok (.aload_n 0, 1) := by decide +kernel
theorem dX6_worn_39 : decode cX6_worn 39 = .ok (.getfield 7, 3) := by decide +kernel
theorem dX6_worn_42 : decode cX6_worn 42 = .ok (.bipush 73, 2) := by decide +kernel
theorem dX6_worn_44 : decode cX6_worn 44 = .ok (.iaload, 1) := by decide +kernel
theorem dX6_worn_45 : decode cX6_worn 45 = .ok (.invokevirtual 154, 3) := by decide +kernel
theorem dX6_worn_48 : decode cX6_worn 48 = .ok (.istore 5, 2) := by decide +kernel
theorem dX6_worn_50 : decode cX6_worn 50 = .ok (.iload 5, 2) := by decide +kernel
theorem dX6_worn_52 : decode cX6_worn 52 = .ok (.ifCond .eq 6, 3) := by decide +kernel
theorem dX6_worn_55 : decode cX6_worn 55 = .ok (.iload 5, 2) := by decide +kernel
theorem dX6_worn_57 : decode cX6_worn 57 = .ok (.ireturn, 1) := by decide +kernel
theorem dX6_worn_58 : decode cX6_worn 58 = .ok (.aload_n 0, 1) := by decide +kernel
theorem dX6_worn_59 : decode cX6_worn 59 = .ok (.bipush 24, 2) := by decide +kernel
theorem dX6_worn_61 : decode cX6_worn 61 = .ok (.iload_n 2, 1) := by decide +kernel
theorem dX6_worn_62 : decode cX6_worn 62 = .ok (.imul, 1) := by decide +kernel
theorem dX6_worn_63 : decode cX6_worn 63 = .ok (.iload 4, 2) := by decide +kernel
theorem dX6_worn_65 : decode cX6_worn 65 = .ok (.iadd, 1) := by decide +kernel
theorem dX6_worn_66 : decode cX6_worn 66 = .ok (.invokevirtual 158, 3) := by decide +kernel
theorem dX6_worn_69 : decode cX6_worn 69 = .ok (.ifCond .eq 8, 3) := by decide +kernel
theorem dX6_worn_72 : decode cX6_worn 72 = .ok (.bipush 64, 2) := by decide +kernel
theorem dX6_worn_74 : decode cX6_worn 74 = .ok (.goto 4, 3) := by decide +kernel
theorem dX6_worn_77 : decode cX6_worn 77 = .ok (.iconst 0, 1) := by decide +kernel
theorem dX6_worn_78 : decode cX6_worn 78 = .ok (.istore 6, 2) := by decide +kernel
theorem dX6_worn_80 : decode cX6_worn 80 = .ok (.iconst 0, 1) := by decide +kernel
theorem dX6_worn_81 : decode cX6_worn 81 = .ok (.istore 7, 2) := by decide +kernel
theorem dX6_worn_83 : decode cX6_worn 83 = .ok (.iload 7, 2) := by decide +kernel
theorem dX6_worn_85 : decode cX6_worn 85 = .ok (.aload_n 0, 1) := by decide +kernel
theorem dX6_worn_86 : decode cX6_worn 86 = .ok (.getfield 7, 3) := by decide +kernel
theorem dX6_worn_89 : decode cX6_worn 89 = .ok (.iconst 0, 1) := by decide +kernel
theorem dX6_worn_90 : decode cX6_worn 90 = .ok (.iaload, 1) := by decide +kernel
theorem dX6_worn_91 : decode cX6_worn 91 = .ok (.if_icmp .ge 147, 3) := by decide +kernel
theorem dX6_worn_94 : decode cX6_worn 94 = .ok (.iconst 0, 1) := by decide +kernel
theorem dX6_worn_95 : decode cX6_worn 95 = .ok (.istore 8, 2) := by decide +kernel
theorem dX6_worn_97 : decode cX6_worn 97 = .ok (.iload 8, 2) := by decide +kernel
theorem dX6_worn_99 : decode cX6_worn 99 = .ok (.bipush 12, 2) := by decide +kernel
theorem dX6_worn_101 : decode cX6_worn 101 = .ok (.if_icmp .ge 66, 3) := by decide +kernel
theorem dX6_worn_104 : decode cX6_worn 104 = .ok (.iconst 1, 1) := by decide +kernel
theorem dX6_worn_105 : decode cX6_worn 105 = .ok (.bipush 12, 2) := by decide +kernel
theorem dX6_worn_107 : decode cX6_worn 107 = .ok (.iload 7, 2) := by decide +kernel
theorem dX6_worn_109 : decode cX6_worn 109 = .ok (.imul, 1) := by decide +kernel
theorem dX6_worn_110 : decode cX6_worn 110 = .ok (.iadd, 1) := by decide +kernel
theorem dX6_worn_111 : decode cX6_worn 111 = .ok (.iload 8, 2) := by decide +kernel
theorem dX6_worn_113 : decode cX6_worn 113 = .ok (.iadd, 1) := by decide +kernel
theorem dX6_worn_114 : decode cX6_worn 114 = .ok (.istore 9, 2) := by decide +kernel
theorem dX6_worn_116 : decode cX6_worn 116 = .ok (.aload_n 0, 1) := by decide +kernel
theorem dX6_worn_117 : decode cX6_worn 117 = .ok (.getfield 19, 3) := by decide +kernel
theorem dX6_worn_120 : decode cX6_worn 120 = .ok (.iload 8, 2) := by decide +kernel
theorem dX6_worn_122 : decode cX6_worn 122 = .ok (.aload_n 0, 1) := by decide +kernel
theorem dX6_worn_123 : decode cX6_worn 123 = .ok (.getfield 7, 3) := by decide +kernel
theorem dX6_worn_126 : decode cX6_worn 126 = .ok (.iload 9, 2) := by decide +kernel
theorem dX6_worn_128 : decode cX6_worn 128 = .ok (.iaload, 1) := by decide +kernel
theorem dX6_worn_129 : decode cX6_worn 129 = .ok (.iastore, 1) := by decide +kernel
theorem dX6_worn_130 : decode cX6_worn 130 = .ok (.aload_n 0, 1) := by decide +kernel
theorem dX6_worn_131 : decode cX6_worn 131 = .ok (.getfield 7, 3) := by decide +kernel
theorem dX6_worn_134 : decode cX6_worn 134 = .ok (.iload 9, 2) := by decide +kernel
theorem dX6_worn_136 : decode cX6_worn 136 = .ok (.aload_n 0, 1) := by decide +kernel
theorem dX6_worn_137 : decode cX6_worn 137 = .ok (.getfield 7, 3) := by decide +kernel
theorem dX6_worn_140 : decode cX6_worn 140 = .ok (.iload 9, 2) := by decide +kernel
theorem dX6_worn_142 : decode cX6_worn 142 = .ok (.iaload, 1) := by decide +kernel
theorem dX6_worn_143 : decode cX6_worn 143 = .ok (.iload_n 1, 1) := by decide +kernel
theorem dX6_worn_144 : decode cX6_worn 144 = .ok (.if_icmp .le 15, 3) := by decide +kernel
theorem dX6_worn_147 : decode cX6_worn 147 = .ok (.aload_n 0, 1) := by decide +kernel
theorem dX6_worn_148 : decode cX6_worn 148 = .ok (.getfield 7, 3) := by decide +kernel
theorem dX6_worn_151 : decode cX6_worn 151 = .ok (.iload 9, 2) := by decide +kernel
theorem dX6_worn_153 : decode cX6_worn 153 = .ok (.iaload, 1) := by decide +kernel
theorem dX6_worn_154 : decode cX6_worn 154 = .ok (.iload_n 1, 1) := by decide +kernel
theorem dX6_worn_155 : decode cX6_worn 155 = .ok (.isub, 1) := by decide +kernel
theorem dX6_worn_156 : decode cX6_worn 156 = .ok (.goto 4, 3) := by decide +kernel
theorem dX6_worn_159 : decode cX6_worn 159 = .ok (.iconst 0, 1) := by decide +kernel
theorem dX6_worn_160 : decode cX6_worn 160 = .ok (.iastore, 1) := by decide +kernel
theorem dX6_worn_161 : decode cX6_worn 161 = .ok (.iinc 8 1, 3) := by decide +kernel
theorem dX6_worn_164 : decode cX6_worn 164 = .ok (.goto (-67), 3) := by decide +kernel
theorem dX6_worn_167 : decode cX6_worn 167 = .ok (.iload 6, 2) := by decide +kernel
theorem dX6_worn_169 : decode cX6_worn 169 = .ok (.aload_n 0, 1) := by decide +kernel
theorem dX6_worn_170 : decode cX6_worn 170 = .ok (.bipush 24, 2) := by decide +kernel
theorem dX6_worn_172 : decode cX6_worn 172 = .ok (.iload_n 2, 1) := by decide +kernel
theorem dX6_worn_173 : decode cX6_worn 173 = .ok (.imul, 1) := by decide +kernel
theorem dX6_worn_174 : decode cX6_worn 174 = .ok (.iload 4, 2) := by decide +kernel
theorem dX6_worn_176 : decode cX6_worn 176 = .ok (.iadd, 1) := by decide +kernel
theorem dX6_worn_177 : decode cX6_worn 177 = .ok (.invokevirtual 158, 3) := by decide +kernel
theorem dX6_worn_180 : decode cX6_worn 180 = .ok (.ifCond .eq 10, 3) := by decide +kernel
theorem dX6_worn_183 : decode cX6_worn 183 = .ok (.iconst 1, 1) := by decide +kernel
theorem dX6_worn_184 : decode cX6_worn 184 = .ok (.iload 7, 2) := by decide +kernel
theorem dX6_worn_186 : decode cX6_worn 186 = .ok (.ishl, 1) := by decide +kernel
theorem dX6_worn_187 : decode cX6_worn 187 = .ok (.goto 4, 3) := by decide +kernel
