theorem dX0_init_0 : decode cX0_init 0 = .ok (.aload_n 0, 1) := by decide +kernel
theorem dX0_init_1 : decode cX0_init 1 = .ok (.invokespecial 3, 3) := by decide +kernel
theorem dX0_init_4 : decode cX0_init 4 = .ok (.return_, 1) := by decide +kernel
theorem dX0_changeKind_0 : decode cX0_changeKind 0 = .ok (.aload_n 0, 1) := by decide +kernel
theorem dX0_changeKind_1 : decode cX0_changeKind 1 = .ok (.getfield 9, 3) := by decide +kernel
theorem dX0_changeKind_4 : decode cX0_changeKind 4 = .ok (.istore_n 2, 1) := by decide +kernel
theorem dX0_changeKind_5 : decode cX0_changeKind 5 = .ok (.aload_n 0, 1) := by decide +kernel
theorem dX0_changeKind_6 : decode cX0_changeKind 6 = .ok (.iload_n 1, 1) := by decide +kernel
theorem dX0_changeKind_7 : decode cX0_changeKind 7 = .ok (.putfield 9, 3) := by decide +kernel
theorem dX0_changeKind_10 : decode cX0_changeKind 10 = .ok (.iload_n 2, 1) := by decide +kernel
theorem dX0_changeKind_11 : decode cX0_changeKind 11 = .ok (.ireturn, 1) := by decide +kernel
theorem dX0_changeCam_0 : decode cX0_changeCam 0 = .ok (.aload_n 0, 1) := by decide +kernel
theorem dX0_changeCam_1 : decode cX0_changeCam 1 = .ok (.getfield 15, 3) := by decide +kernel
theorem dX0_changeCam_4 : decode cX0_changeCam 4 = .ok (.istore_n 2, 1) := by decide +kernel
theorem dX0_changeCam_5 : decode cX0_changeCam 5 = .ok (.aload_n 0, 1) := by decide +kernel
theorem dX0_changeCam_6 : decode cX0_changeCam 6 = .ok (.iload_n 1, 1) := by decide +kernel
theorem dX0_changeCam_7 : decode cX0_changeCam 7 = .ok (.putfield 15, 3) := by decide +kernel
theorem dX0_changeCam_10 : decode cX0_changeCam 10 = .ok (.iload_n 2, 1) := by decide +kernel
theorem dX0_changeCam_11 : decode cX0_changeCam 11 = .ok (.ireturn, 1) := by decide +kernel
theorem dX0_changeLag_0 : decode cX0_changeLag 0 = .ok (.aload_n 0, 1) := by decide +kernel
theorem dX0_changeLag_1 : decode cX0_changeLag 1 = .ok (.getfield 18, 3) := by decide +kernel
theorem dX0_changeLag_4 : decode cX0_changeLag 4 = .ok (.istore_n 2, 1) := by decide +kernel
theorem dX0_changeLag_5 : decode cX0_changeLag 5 = .ok (.aload_n 0, 1) := by decide +kernel
theorem dX0_changeLag_6 : decode cX0_changeLag 6 = .ok (.iload_n 1, 1) := by decide +kernel
theorem dX0_changeLag_7 : decode cX0_changeLag 7 = .ok (.putfield 18, 3) := by decide +kernel
theorem dX0_changeLag_10 : decode cX0_changeLag 10 = .ok (.iload_n 2, 1) := by decide +kernel
theorem dX0_changeLag_11 : decode cX0_changeLag 11 = .ok (.ireturn, 1) := by decide +kernel
theorem dX0_changePlace_0 : decode cX0_changePlace 0 = .ok (.aload_n 0, 1) := by decide +kernel
theorem dX0_changePlace_1 : decode cX0_changePlace 1 = .ok (.getfield 21, 3) := by decide +kernel
theorem dX0_changePlace_4 : decode cX0_changePlace 4 = .ok (.istore_n 2, 1) := by decide +kernel
theorem dX0_changePlace_5 : decode cX0_changePlace 5 = .ok (.aload_n 0, 1) := by decide +kernel
theorem dX0_changePlace_6 : decode cX0_changePlace 6 = .ok (.iload_n 1, 1) := by decide +kernel
theorem dX0_changePlace_7 : decode cX0_changePlace 7 = .ok (.putfield 21, 3) := by decide +kernel
theorem dX0_changePlace_10 : decode cX0_changePlace 10 = .ok (.iload_n 2, 1) := by decide +kernel
theorem dX0_changePlace_11 : decode cX0_changePlace 11 = .ok (.ireturn, 1) := by decide +kernel
theorem dX0_wishFor_0 : decode cX0_wishFor 0 = .ok (.aload_n 0, 1) := by decide +kernel
theorem dX0_wishFor_1 : decode cX0_wishFor 1 = .ok (.iconst 0, 1) := by decide +kernel
theorem dX0_wishFor_2 : decode cX0_wishFor 2 = .ok (.putfield 24, 3) := by decide +kernel
theorem dX0_wishFor_5 : decode cX0_wishFor 5 = .ok (.aload_n 0, 1) := by decide +kernel
theorem dX0_wishFor_6 : decode cX0_wishFor 6 = .ok (.iconst 0, 1) := by decide +kernel
theorem dX0_wishFor_7 : decode cX0_wishFor 7 = .ok (.putfield 27, 3) := by decide +kernel
theorem dX0_wishFor_10 : decode cX0_wishFor 10 = .ok (.iconst 0, 1) := by decide +kernel
theorem dX0_wishFor_11 : decode cX0_wishFor 11 = .ok (.istore_n 2, 1) := by decide +kernel
theorem dX0_wishFor_12 : decode cX0_wishFor 12 = .ok (.iload_n 2, 1) := by decide +kernel
theorem dX0_wishFor_13 : decode cX0_wishFor 13 = .ok (.bipush 12, 2) := by decide +kernel
theorem dX0_wishFor_15 : decode cX0_wishFor 15 = .ok (.if_icmp .ge 52, 3) := by decide +kernel
theorem dX0_wishFor_18 : decode cX0_wishFor 18 = .ok (.aload_n 1, 1) := by decide +kernel
theorem dX0_wishFor_19 : decode cX0_wishFor 19 = .ok (.iload_n 2, 1) := by decide +kernel
theorem dX0_wishFor_20 : decode cX0_wishFor 20 = .ok (.iaload, 1) := by decide +kernel
theorem dX0_wishFor_21 : decode cX0_wishFor 21 = .ok (.bipush 117, 2) := by decide +kernel
theorem dX0_wishFor_23 : decode cX0_wishFor 23 = .ok (.if_icmp .ne 18, 3) := by decide +kernel
theorem dX0_wishFor_26 : decode cX0_wishFor 26 = .ok (.aload_n 0, 1) := by decide +kernel
theorem dX0_wishFor_27 : decode cX0_wishFor 27 = .ok (.dup, 1) := by decide +kernel
theorem dX0_wishFor_28 : decode cX0_wishFor 28 = .ok (.getfield 24, 3) := by decide +kernel
theorem dX0_wishFor_31 : decode cX0_wishFor 31 = .ok (.iconst 1, 1) := by decide +kernel
theorem dX0_wishFor_32 : decode cX0_wishFor 32 = .ok (.iload_n 2, 1) := by decide +kernel
theorem dX0_wishFor_33 : decode cX0_wishFor 33 = .ok (.ishl, 1) := by decide +kernel
theorem dX0_wishFor_34 : decode cX0_wishFor 34 = .ok (.ior, 1) := by decide +kernel
theorem dX0_wishFor_35 : decode cX0_wishFor 35 = .ok (.putfield 24, 3) := by decide +kernel
theorem dX0_wishFor_38 : decode cX0_wishFor 38 = .ok (.goto 23, 3) := by decide +kernel
theorem dX0_wishFor_41 : decode cX0_wishFor 41 = .ok (.aload_n 1, 1) := by decide +kernel
theorem dX0_wishFor_42 : decode cX0_wishFor 42 = .ok (.iload_n 2, 1) := by decide +kernel
theorem dX0_wishFor_43 : decode cX0_wishFor 43 = .ok (.iaload, 1) := by decide +kernel
theorem dX0_wishFor_44 : decode cX0_wishFor 44 = .ok (.bipush 100, 2) := by decide +kernel
theorem dX0_wishFor_46 : decode cX0_wishFor 46 = .ok (.if_icmp .ne 15, 3) := by decide +kernel
theorem dX0_wishFor_49 : decode cX0_wishFor 49 = .ok (.aload_n 0, 1) := by decide +kernel
theorem dX0_wishFor_50 : decode cX0_wishFor 50 = .ok (.dup, 1) := by decide +kernel
theorem dX0_wishFor_51 : decode cX0_wishFor 51 = .ok (.getfield 27, 3) := by decide +kernel
theorem dX0_wishFor_54 : decode cX0_wishFor 54 = .ok (.iconst 1, 1) := by decide +kernel
theorem dX0_wishFor_55 : decode cX0_wishFor 55 = .ok (.iload_n 2, 1) := by decide +kernel
theorem dX0_wishFor_56 : decode cX0_wishFor 56 = .ok (.ishl, 1) := by decide +kernel
theorem dX0_wishFor_57 : decode cX0_wishFor 57 = .ok (.ior, 1) := by decide +kernel
theorem dX0_wishFor_58 : decode cX0_wishFor 58 = .ok (.putfield 27, 3) := by decide +kernel
theorem dX0_wishFor_61 : decode cX0_wishFor 61 = .ok (.iinc 2 1, 3) := by decide +kernel
theorem dX0_wishFor_64 : decode cX0_wishFor 64 = .ok (.goto (-52), 3) := by decide +kernel
theorem dX0_wishFor_67 : decode cX0_wishFor 67 = .ok (.aload_n 0, 1) := by decide +kernel
theorem dX0_wishFor_68 : decode cX0_wishFor 68 = .ok (.getfield 24, 3) := by decide +kernel
theorem dX0_wishFor_71 : decode cX0_wishFor 71 = .ok (.aload_n 0, 1) := by decide +kernel
theorem dX0_wishFor_72 : decode cX0_wishFor 72 = .ok (.getfield 27, 3) := by decide +kernel
theorem dX0_wishFor_75 : decode cX0_wishFor 75 = .ok (.ior, 1) := by decide +kernel
theorem dX0_wishFor_76 : decode cX0_wishFor 76 = .ok (.invokestatic 30, 3) := by decide +kernel
theorem dX0_wishFor_79 : decode cX0_wishFor 79 = .ok (.ireturn, 1) := by decide +kernel
theorem dX0_missedWith_0 : decode cX0_missedWith 0 = .ok (.aload_n 0, 1) := by decide +kernel
theorem dX0_missedWith_1 : decode cX0_missedWith 1 = .ok (.getfield 24, 3) := by decide +kernel
theorem dX0_missedWith_4 : decode cX0_missedWith 4 = .ok (.iload_n 1, 1) := by decide +kernel
theorem dX0_missedWith_5 : decode cX0_missedWith 5 = .ok (.iconst (-1), 1) := by decide +kernel
theorem dX0_missedWith_6 : decode cX0_missedWith 6 = .ok (.ixor, 1) := by decide +kernel
theorem dX0_missedWith_7 : decode cX0_missedWith 7 = .ok (.iand, 1) := by decide +kernel
theorem dX0_missedWith_8 : decode cX0_missedWith 8 = .ok (.aload_n 0, 1) := by decide +kernel
theorem dX0_missedWith_9 : decode cX0_missedWith 9 = .ok (.getfield 27, 3) := by decide +kernel
theorem dX0_missedWith_12 : decode cX0_missedWith 12 = .ok (.iload_n 1, 1) := by decide +kernel
theorem dX0_missedWith_13 : decode cX0_missedWith 13 = .ok (.iand, 1) := by decide +kernel
theorem dX0_missedWith_14 : decode cX0_missedWith 14 = .ok (.ior, 1) := by decide +kernel
theorem dX0_missedWith_15 : decode cX0_missedWith 15 = .ok (.ireturn, 1) := by decide +kernel
theorem dX0_becomeLike_0 : decode cX0_becomeLike 0 = .ok (.aload_n 0, 1) := by decide +kernel
theorem dX0_becomeLike_1 : decode cX0_becomeLike 1 = .ok (.aload_n 1, 1) := by decide +kernel
theorem dX0_becomeLike_2 : decode cX0_becomeLike 2 = .ok (.getfield 9, 3) := by decide +kernel
theorem dX0_becomeLike_5 : decode cX0_becomeLike 5 = .ok (.putfield 9, 3) := by decide +kernel
theorem dX0_becomeLike_8 : decode cX0_becomeLike 8 = .ok (.aload_n 0, 1) := by decide +kernel
theorem dX0_becomeLike_9 : decode cX0_becomeLike 9 = .ok (.aload_n 1, 1) := by decide +kernel
theorem dX0_becomeLike_10 : decode cX0_becomeLike 10 = .ok (.getfield 15, 3) := by decide +kernel
theorem dX0_becomeLike_13 : decode cX0_becomeLike 13 = .ok (.putfield 15, 3) := by decide +kernel
theorem dX0_becomeLike_16 : decode cX0_becomeLike 16 = .ok (.aload_n 0, 1) := by decide +kernel
theorem dX0_becomeLike_17 : decode cX0_becomeLike 17 = .ok (.aload_n 1, 1) := by decide +kernel
theorem dX0_becomeLike_18 : decode cX0_becomeLike 18 = .ok (.getfield 18, 3) := by decide +kernel
theorem dX0_becomeLike_21 : decode cX0_becomeLike 21 = .ok (.putfield 18, 3) := by decide +kernel
theorem dX0_becomeLike_24 : decode cX0_becomeLike 24 = .ok (.aload_n 0, 1) := by decide +kernel
theorem dX0_becomeLike_25 : decode cX0_becomeLike 25 = .ok (.aload_n 1, 1) := by decide +kernel
theorem dX0_becomeLike_26 : decode cX0_becomeLike 26 = .ok (.getfield 21, 3) := by decide +kernel
theorem dX0_becomeLike_29 : decode cX0_becomeLike 29 = .ok (.putfield 21, 3) := by decide +kernel
theorem dX0_becomeLike_32 : decode cX0_becomeLike 32 = .ok (.aload_n 0, 1) := by decide +kernel
theorem dX0_becomeLike_33 : decode cX0_becomeLike 33 = .ok (.aload_n 1, 1) := by decide +kernel
theorem dX0_becomeLike_34 : decode cX0_becomeLike 34 = .ok (.getfield 24, 3) := by decide +kernel
theorem dX0_becomeLike_37 : decode cX0_becomeLike 37 = .ok (.putfield 24, 3) := by decide +kernel
theorem dX0_becomeLike_40 : decode cX0_becomeLike 40 = .ok (.aload_n 0, 1) := by decide +kernel
theorem dX0_becomeLike_41 : decode cX0_becomeLike 41 = .ok (.aload_n 1, 1) := by decide +kernel
theorem dX0_becomeLike_42 : decode cX0_becomeLike 42 = .ok (.getfield 27, 3) := by decide +kernel
theorem dX0_becomeLike_45 : decode cX0_becomeLike 45 = .ok (.putfield 27, 3) := by decide +kernel
theorem dX0_becomeLike_48 : decode cX0_becomeLike 48 = .ok (.return_, 1) := by decide +kernel
theorem dX1_init_0 : decode cX1_init 0 = .ok (.aload_n 0, 1) := by decide +kernel
theorem dX1_init_1 : decode cX1_init 1 = .ok (.invokespecial 3, 3) := by decide +kernel
theorem dX1_init_4 : decode cX1_init 4 = .ok (.aload_n 0, 1) := by decide +kernel
theorem dX1_init_5 : decode cX1_init 5 = .ok (.bipush 6, 2) := by decide +kernel
theorem dX1_init_7 : decode cX1_init 7 = .ok (.bipush 12, 2) := by decide +kernel
theorem dX1_init_9 : decode cX1_init 9 = .ok (.multianewarray 9 2, 4) := by decide +kernel
theorem dX1_init_13 : decode cX1_init 13 = .ok (.putfield 11, 3) := by decide +kernel
theorem dX1_init_16 : decode cX1_init 16 = .ok (.aload_n 0, 1) := by decide +kernel
theorem dX1_init_17 : decode cX1_init 17 = .ok (.iconst 5, 1) := by decide +kernel
theorem dX1_init_18 : decode cX1_init 18 = .ok (.anewarray 16, 3) := by decide +kernel
theorem dX1_init_21 : decode cX1_init 21 = .ok (.putfield 18, 3) := by decide +kernel
theorem dX1_init_24 : decode cX1_init 24 = .ok (.iconst 0, 1) := by decide +kernel
theorem dX1_init_25 : decode cX1_init 25 = .ok (.istore_n 1, 1) := by decide +kernel
theorem dX1_init_26 : decode cX1_init 26 = .ok (.iload_n 1, 1) := by decide +kernel
theorem dX1_init_27 : decode cX1_init 27 = .ok (.iconst 5, 1) := by decide +kernel
theorem dX1_init_28 : decode cX1_init 28 = .ok (.if_icmp .ge 22, 3) := by decide +kernel
theorem dX1_init_31 : decode cX1_init 31 = .ok (.aload_n 0, 1) := by decide +kernel
theorem dX1_init_32 : decode cX1_init 32 = .ok (.getfield 18, 3) := by decide +kernel
theorem dX1_init_35 : decode cX1_init 35 = .ok (.iload_n 1, 1) := by decide +kernel
theorem dX1_init_36 : decode cX1_init 36 = .ok (.new 16, 3) := by decide +kernel
theorem dX1_init_39 : decode cX1_init 39 = .ok (.dup, 1) := by decide +kernel
theorem dX1_init_40 : decode cX1_init 40 = .ok (.invokespecial 22, 3) := by decide +kernel
theorem dX1_init_43 : decode cX1_init 43 = .ok (.aastore, 1) := by decide +kernel
theorem dX1_init_44 : decode cX1_init 44 = .ok (.iinc 1 1, 3) := by decide +kernel
theorem dX1_init_47 : decode cX1_init 47 = .ok (.goto (-21), 3) := by decide +kernel
theorem dX1_init_50 : decode cX1_init 50 = .ok (.aload_n 0, 1) := by decide +kernel
theorem dX1_init_51 : decode cX1_init 51 = .ok (.iconst 5, 1) := by decide +kernel
theorem dX1_init_52 : decode cX1_init 52 = .ok (.putfield 23, 3) := by decide +kernel
theorem dX1_init_55 : decode cX1_init 55 = .ok (.aload_n 0, 1) := by decide +kernel
theorem dX1_init_56 : decode cX1_init 56 = .ok (.bipush 12, 2) := by decide +kernel
theorem dX1_init_58 : decode cX1_init 58 = .ok (.newarray .int, 2) := by decide +kernel
theorem dX1_init_60 : decode cX1_init 60 = .ok (.putfield 27, 3) := by decide +kernel
theorem dX1_init_63 : decode cX1_init 63 = .ok (.aload_n 0, 1) := by decide +kernel
theorem dX1_init_64 : decode cX1_init 64 = .ok (.getfield 27, 3) := by decide +kernel
theorem dX1_init_67 : decode cX1_init 67 = .ok (.iconst 1, 1) := by decide +kernel
theorem dX1_init_68 : decode cX1_init 68 = .ok (.invokestatic 31, 3) := by decide +kernel
theorem dX1_init_71 : decode cX1_init 71 = .ok (.aload_n 0, 1) := by decide +kernel
theorem dX1_init_72 : decode cX1_init 72 = .ok (.iconst 4, 1) := by decide +kernel
theorem dX1_init_73 : decode cX1_init 73 = .ok (.newarray .int, 2) := by decide +kernel
theorem dX1_init_75 : decode cX1_init 75 = .ok (.putfield 37, 3) := by decide +kernel
theorem dX1_init_78 : decode cX1_init 78 = .ok (.aload_n 0, 1) := by decide +kernel
theorem dX1_init_79 : decode cX1_init 79 = .ok (.getfield 37, 3) := by decide +kernel
theorem dX1_init_82 : decode cX1_init 82 = .ok (.sipush 1023, 3) := by decide +kernel
theorem dX1_init_85 : decode cX1_init 85 = .ok (.invokestatic 31, 3) := by decide +kernel
theorem dX1_init_88 : decode cX1_init 88 = .ok (.return_, 1) := by decide +kernel
theorem dX1_becomeLike_0 : decode cX1_becomeLike 0 = .ok (.iconst 0, 1) := by decide +kernel
theorem dX1_becomeLike_1 : decode cX1_becomeLike 1 = .ok (.istore_n 2, 1) := by decide +kernel
theorem dX1_becomeLike_2 : decode cX1_becomeLike 2 = .ok (.iload_n 2, 1) := by decide +kernel
theorem dX1_becomeLike_3 : decode cX1_becomeLike 3 = .ok (.bipush 6, 2) := by decide +kernel
theorem dX1_becomeLike_5 : decode cX1_becomeLike 5 = .ok (.if_icmp .ge 28, 3) := by decide +kernel
theorem dX1_becomeLike_8 : decode cX1_becomeLike 8 = .ok (.aload_n 1, 1) := by decide +kernel
theorem dX1_becomeLike_9 : decode cX1_becomeLike 9 = .ok (.getfield 11, 3) := by decide +kernel
theorem dX1_becomeLike_12 : decode cX1_becomeLike 12 = .ok (.iload_n 2, 1) := by decide +kernel
theorem dX1_becomeLike_13 : decode cX1_becomeLike 13 = .ok (.aaload, 1) := by decide +kernel
theorem dX1_becomeLike_14 : decode cX1_becomeLike 14 = .ok (.iconst 0, 1) := by decide +kernel
theorem dX1_becomeLike_15 : decode cX1_becomeLike 15 = .ok (.aload_n 0, 1) := by decide +kernel
theorem dX1_becomeLike_16 : decode cX1_becomeLike 16 = .ok (.getfield 11, 3) := by decide +kernel
theorem dX1_becomeLike_19 : decode cX1_becomeLike 19 = .ok (.iload_n 2, 1) := by decide +kernel
theorem dX1_becomeLike_20 : decode cX1_becomeLike 20 = .ok (.aaload, 1) := by decide +kernel
theorem dX1_becomeLike_21 : decode cX1_becomeLike 21 = .ok (.iconst 0, 1) := by decide +kernel
theorem dX1_becomeLike_22 : decode cX1_becomeLike 22 = .ok (.bipush 12, 2) := by decide +kernel
theorem dX1_becomeLike_24 : decode cX1_becomeLike 24 = .ok (.invokestatic 40, 3) := by decide +kernel
theorem dX1_becomeLike_27 : decode cX1_becomeLike 27 = .ok (.iinc 2 1, 3) := by decide +kernel
theorem dX1_becomeLike_30 : decode cX1_becomeLike 30 = .ok (.goto (-28), 3) := by decide +kernel
theorem dX1_becomeLike_33 : decode cX1_becomeLike 33 = .ok (.aload_n 0, 1) := by decide +kernel
theorem dX1_becomeLike_34 : decode cX1_becomeLike 34 = .ok (.aload_n 1, 1) := by decide +kernel
theorem dX1_becomeLike_35 : decode cX1_becomeLike 35 = .ok (.getfield 46, 3) := by decide +kernel
theorem dX1_becomeLike_38 : decode cX1_becomeLike 38 = .ok (.putfield 46, 3) := by decide +kernel
theorem dX1_becomeLike_41 : decode cX1_becomeLike 41 = .ok (.iconst 0, 1) := by decide +kernel
theorem dX1_becomeLike_42 : decode cX1_becomeLike 42 = .ok (.istore_n 2, 1) := by decide +kernel
theorem dX1_becomeLike_43 : decode cX1_becomeLike 43 = .ok (.iload_n 2, 1) := by decide +kernel
theorem dX1_becomeLike_44 : decode cX1_becomeLike 44 = .ok (.iconst 5, 1) := by decide +kernel
theorem dX1_becomeLike_45 : decode cX1_becomeLike 45 = .ok (.if_icmp .ge 24, 3) := by decide +kernel
theorem dX1_becomeLike_48 : decode cX1_becomeLike 48 = .ok (.aload_n 0, 1) := by decide +kernel
theorem dX1_becomeLike_49 : decode cX1_becomeLike 49 = .ok (.getfield 18, 3) := by decide +kernel
theorem dX1_becomeLike_52 : decode cX1_becomeLike 52 = .ok (.iload_n 2, 1) := by decide +kernel
theorem dX1_becomeLike_53 : decode cX1_becomeLike 53 = .ok (.aaload, 1) := by decide +kernel
theorem dX1_becomeLike_54 : decode cX1_becomeLike 54 = .ok (.aload_n 1, 1) := by decide +kernel
theorem dX1_becomeLike_55 : decode cX1_becomeLike 55 = .ok (.getfield 18, 3) := by decide +kernel
theorem dX1_becomeLike_58 : decode cX1_becomeLike 58 = .ok (.iload_n 2, 1) := by decide +kernel
theorem dX1_becomeLike_59 : decode cX1_becomeLike 59 = .ok (.aaload, 1) := by decide +kernel
theorem dX1_becomeLike_60 : decode cX1_becomeLike 60 = .ok (.invokevirtual 49, 3) := by decide +kernel
theorem dX1_becomeLike_63 : decode cX1_becomeLike 63 = .ok (.iinc 2 1, 3) := by decide +kernel
theorem dX1_becomeLike_66 : decode cX1_becomeLike 66 = .ok (.goto (-23), 3) := by decide +kernel
theorem dX1_becomeLike_69 : decode cX1_becomeLike 69 = .ok (.aload_n 0, 1) := by decide +kernel
theorem dX1_becomeLike_70 : decode cX1_becomeLike 70 = .ok (.aload_n 1, 1) := by decide +kernel
theorem dX1_becomeLike_71 : decode cX1_becomeLike 71 = .ok (.getfield 53, 3) := by decide +kernel
theorem dX1_becomeLike_74 : decode cX1_becomeLike 74 = .ok (.putfield 53, 3) := by decide +kernel
theorem dX1_becomeLike_77 : decode cX1_becomeLike 77 = .ok (.aload_n 0, 1) := by decide +kernel
theorem dX1_becomeLike_78 : decode cX1_becomeLike 78 = .ok (.aload_n 1, 1) := by decide +kernel
theorem dX1_becomeLike_79 : decode cX1_becomeLike 79 = .ok (.getfield 23, 3) := by decide +kernel
theorem dX1_becomeLike_82 : decode cX1_becomeLike 82 = .ok (.putfield 23, 3) := by decide +kernel
theorem dX1_becomeLike_85 : decode cX1_becomeLike 85 = .ok (.aload_n 0, 1) := by decide +kernel
theorem dX1_becomeLike_86 : decode cX1_becomeLike 86 = .ok (.aload_n 1, 1) := by decide +kernel
theorem dX1_becomeLike_87 : decode cX1_becomeLike 87 = .ok (.getfield 56, 3) := by decide +kernel
theorem dX1_becomeLike_90 : decode cX1_becomeLike 90 = .ok (.putfield 56, 3) := by decide +kernel
theorem dX1_becomeLike_93 : decode cX1_becomeLike 93 = .ok (.aload_n 0, 1) := by decide +kernel
theorem dX1_becomeLike_94 : decode cX1_becomeLike 94 = .ok (.aload_n 1, 1) := by decide +kernel
theorem dX1_becomeLike_95 : decode cX1_becomeLike 95 = .ok (.getfield 59, 3) := by decide +kernel
theorem dX1_becomeLike_98 : decode cX1_becomeLike 98 = .ok (.putfield 59, 3) := by decide +kernel
theorem dX1_becomeLike_101 : decode cX1_becomeLike 101 = .ok (.aload_n 0, 1) := by decide +kernel
theorem dX1_becomeLike_102 : decode cX1_becomeLike 102 = .ok (.aload_n 1, 1) := by decide +kernel
theorem dX1_becomeLike_103 : decode cX1_becomeLike 103 = .ok (.getfield 62, 3) := by decide +kernel
theorem dX1_becomeLike_106 : decode cX1_becomeLike 106 = .ok (.putfield 62, 3) := by decide +kernel
theorem dX1_becomeLike_109 : decode cX1_becomeLike 109 = .ok (.aload_n 1, 1) := by decide +kernel
theorem dX1_becomeLike_110 : decode cX1_becomeLike 110 = .ok (.getfield 27, 3) := by decide +kernel
theorem dX1_becomeLike_113 : decode cX1_becomeLike 113 = .ok (.iconst 0, 1) := by decide +kernel
theorem dX1_becomeLike_114 : decode cX1_becomeLike 114 = .ok (.aload_n 0, 1) := by decide +kernel
theorem dX1_becomeLike_115 : decode cX1_becomeLike 115 = .ok (.getfield 27, 3) := by decide +kernel
theorem dX1_becomeLike_118 : decode cX1_becomeLike 118 = .ok (.iconst 0, 1) := by decide +kernel
theorem dX1_becomeLike_119 : decode cX1_becomeLike 119 = .ok (.bipush 12, 2) := by decide +kernel
theorem dX1_becomeLike_121 : decode cX1_becomeLike 121 = .ok (.invokestatic 40, 3) := by decide +kernel
theorem dX1_becomeLike_124 : decode cX1_becomeLike 124 = .ok (.aload_n 1, 1) := by decide +kernel
theorem dX1_becomeLike_125 : decode cX1_becomeLike 125 = .ok (.getfield 37, 3) := by decide +kernel
theorem dX1_becomeLike_128 : decode cX1_becomeLike 128 = .ok (.iconst 0, 1) := by decide +kernel
theorem dX1_becomeLike_129 : decode cX1_becomeLike 129 = .ok (.aload_n 0, 1) := by decide +kernel
theorem dX1_becomeLike_130 : decode cX1_becomeLike 130 = .ok (.getfield 37, 3) := by decide +kernel
theorem dX1_becomeLike_133 : decode cX1_becomeLike 133 = .ok (.iconst 0, 1) := by decide +kernel
theorem dX1_becomeLike_134 : decode cX1_becomeLike 134 = .ok (.iconst 4, 1) := by decide +kernel
theorem dX1_becomeLike_135 : decode cX1_becomeLike 135 = .ok (.invokestatic 40, 3) := by decide +kernel
theorem dX1_becomeLike_138 : decode cX1_becomeLike 138 = .ok (.return_, 1) := by decide +kernel
theorem dX1_addCam_0 : decode cX1_addCam 0 = .ok (.aload_n 0, 1) := by decide +kernel
theorem dX1_addCam_1 : decode cX1_addCam 1 = .ok (.getfield 46, 3) := by decide +kernel
theorem dX1_addCam_4 : decode cX1_addCam 4 = .ok (.bipush 6, 2) := by decide +kernel
theorem dX1_addCam_6 : decode cX1_addCam 6 = .ok (.if_icmp .lt 6, 3) := by decide +kernel
theorem dX1_addCam_9 : decode cX1_addCam 9 = .ok (.bipush (-3), 2) := by decide +kernel
theorem dX1_addCam_11 : decode cX1_addCam 11 = .ok (.ireturn, 1) := by decide +kernel
theorem dX1_addCam_12 : decode cX1_addCam 12 = .ok (.aload_n 1, 1) := by decide +kernel
theorem dX1_addCam_13 : decode cX1_addCam 13 = .ok (.iconst 0, 1) := by decide +kernel
theorem dX1_addCam_14 : decode cX1_addCam 14 = .ok (.aload_n 0, 1) := by decide +kernel
theorem dX1_addCam_15 : decode cX1_addCam 15 = .ok (.getfield 11, 3) := by decide +kernel
theorem dX1_addCam_18 : decode cX1_addCam 18 = .ok (.aload_n 0, 1) := by decide +kernel
theorem dX1_addCam_19 : decode cX1_addCam 19 = .ok (.getfield 46, 3) := by decide +kernel
theorem dX1_addCam_22 : decode cX1_addCam 22 = .ok (.aaload, 1) := by decide +kernel
theorem dX1_addCam_23 : decode cX1_addCam 23 = .ok (.iconst 0, 1) := by decide +kernel
theorem dX1_addCam_24 : decode cX1_addCam 24 = .ok (.bipush 12, 2) := by decide +kernel
theorem dX1_addCam_26 : decode cX1_addCam 26 = .ok (.invokestatic 40, 3) := by decide +kernel
theorem dX1_addCam_29 : decode cX1_addCam 29 = .ok (.aload_n 0, 1) := by decide +kernel
theorem dX1_addCam_30 : decode cX1_addCam 30 = .ok (.dup, 1) := by decide +kernel
theorem dX1_addCam_31 : decode cX1_addCam 31 = .ok (.getfield 46, 3) := by decide +kernel
theorem dX1_addCam_34 : decode cX1_addCam 34 = .ok (.iconst 1, 1) := by decide +kernel
theorem dX1_addCam_35 : decode cX1_addCam 35 = .ok (.iadd, 1) := by decide +kernel
theorem dX1_addCam_36 : decode cX1_addCam 36 = .ok (.putfield 46, 3) := by decide +kernel
theorem dX1_addCam_39 : decode cX1_addCam 39 = .ok (.aload_n 0, 1) := by decide +kernel
theorem dX1_addCam_40 : decode cX1_addCam 40 = .ok (.getfield 46, 3) := by decide +kernel
theorem dX1_addCam_43 : decode cX1_addCam 43 = .ok (.iconst 1, 1) := by decide +kernel
theorem dX1_addCam_44 : decode cX1_addCam 44 = .ok (.isub, 1) := by decide +kernel
theorem dX1_addCam_45 : decode cX1_addCam 45 = .ok (.ireturn, 1) := by decide +kernel
theorem dX1_addFigure_0 : decode cX1_addFigure 0 = .ok (.aload_n 0, 1) := by decide +kernel
theorem dX1_addFigure_1 : decode cX1_addFigure 1 = .ok (.getfield 53, 3) := by decide +kernel
theorem dX1_addFigure_4 : decode cX1_addFigure 4 = .ok (.iconst 5, 1) := by decide +kernel
theorem dX1_addFigure_5 : decode cX1_addFigure 5 = .ok (.if_icmp .lt 6, 3) := by decide +kernel
theorem dX1_addFigure_8 : decode cX1_addFigure 8 = .ok (.bipush (-3), 2) := by decide +kernel
theorem dX1_addFigure_10 : decode cX1_addFigure 10 = .ok (.ireturn, 1) := by decide +kernel
theorem dX1_addFigure_11 : decode cX1_addFigure 11 = .ok (.aload_n 0, 1) := by decide +kernel
theorem dX1_addFigure_12 : decode cX1_addFigure 12 = .ok (.getfield 18, 3) := by decide +kernel
theorem dX1_addFigure_15 : decode cX1_addFigure 15 = .ok (.aload_n 0, 1) := by decide +kernel
theorem dX1_addFigure_16 : decode cX1_addFigure 16 = .ok (.getfield 53, 3) := by decide +kernel
theorem dX1_addFigure_19 : decode cX1_addFigure 19 = .ok (.aaload, 1) := by decide +kernel
theorem dX1_addFigure_20 : decode cX1_addFigure 20 = .ok (.astore 5, 2) := by decide +kernel
theorem dX1_addFigure_22 : decode cX1_addFigure 22 = .ok (.aload 5, 2) := by decide +kernel
theorem dX1_addFigure_24 : decode cX1_addFigure 24 = .ok (.iload_n 1, 1) := by decide +kernel
theorem dX1_addFigure_25 : decode cX1_addFigure 25 = .ok (.putfield 65, 3) := by decide +kernel
theorem dX1_addFigure_28 : decode cX1_addFigure 28 = .ok (.aload 5, 2) := by decide +kernel
theorem dX1_addFigure_30 : decode cX1_addFigure 30 = .ok (.iload_n 2, 1) := by decide +kernel
theorem dX1_addFigure_31 : decode cX1_addFigure 31 = .ok (.putfield 68, 3) := by decide +kernel
theorem dX1_addFigure_34 : decode cX1_addFigure 34 = .ok (.aload 5, 2) := by decide +kernel
theorem dX1_addFigure_36 : decode cX1_addFigure 36 = .ok (.iload_n 3, 1) := by decide +kernel
theorem dX1_addFigure_37 : decode cX1_addFigure 37 = .ok (.putfield 71, 3) := by decide +kernel
theorem dX1_addFigure_40 : decode cX1_addFigure 40 = .ok (.aload 5, 2) := by decide +kernel
theorem dX1_addFigure_42 : decode cX1_addFigure 42 = .ok (.iload 4, 2) := by decide +kernel
theorem dX1_addFigure_44 : decode cX1_addFigure 44 = .ok (.putfield 74, 3) := by decide +kernel
theorem dX1_addFigure_47 : decode cX1_addFigure 47 = .ok (.aload 5, 2) := by decide +kernel
theorem dX1_addFigure_49 : decode cX1_addFigure 49 = .ok (.iconst 0, 1) := by decide +kernel
theorem dX1_addFigure_50 : decode cX1_addFigure 50 = .ok (.putfield 77, 3) := by decide +kernel
theorem dX1_addFigure_53 : decode cX1_addFigure 53 = .ok (.aload 5, 2) := by decide +kernel
theorem dX1_addFigure_55 : decode cX1_addFigure 55 = .ok (.iconst 0, 1) := by decide +kernel
theorem dX1_addFigure_56 : decode cX1_addFigure 56 = .ok (.putfield 80, 3) := by decide +kernel
theorem dX1_addFigure_59 : decode cX1_addFigure 59 = .ok (.aload_n 0, 1) := by decide +kernel
theorem dX1_addFigure_60 : decode cX1_addFigure 60 = .ok (.dup, 1) := by decide +kernel
theorem dX1_addFigure_61 : decode cX1_addFigure 61 = .ok (.getfield 53, 3) := by decide +kernel
theorem dX1_addFigure_64 : decode cX1_addFigure 64 = .ok (.iconst 1, 1) := by decide +kernel
theorem dX1_addFigure_65 : decode cX1_addFigure 65 = .ok (.iadd, 1) := by decide +kernel
theorem dX1_addFigure_66 : decode cX1_addFigure 66 = .ok (.putfield 53, 3) := by decide +kernel
theorem dX1_addFigure_69 : decode cX1_addFigure 69 = .ok (.aload_n 0, 1) := by decide +kernel
theorem dX1_addFigure_70 : decode cX1_addFigure 70 = .ok (.getfield 53, 3) := by decide +kernel
theorem dX1_addFigure_73 : decode cX1_addFigure 73 = .ok (.iconst 1, 1) := by decide +kernel
theorem dX1_addFigure_74 : decode cX1_addFigure 74 = .ok (.isub, 1) := by decide +kernel
theorem dX1_addFigure_75 : decode cX1_addFigure 75 = .ok (.ireturn, 1) := by decide +kernel
theorem dX1_oneBehind_0 : decode cX1_oneBehind 0 = .ok (.aload_n 0, 1) := by decide +kernel
theorem dX1_oneBehind_1 : decode cX1_oneBehind 1 = .ok (.getfield 56, 3) := by decide +kernel
theorem dX1_oneBehind_4 : decode cX1_oneBehind 4 = .ok (.ifCond .ne 9, 3) := by decide +kernel
theorem dX1_oneBehind_7 : decode cX1_oneBehind 7 = .ok (.iload_n 1, 1) := by decide +kernel
theorem dX1_oneBehind_8 : decode cX1_oneBehind 8 = .ok (.iconst 1, 1) := by decide +kernel
theorem dX1_oneBehind_9 : decode cX1_oneBehind 9 = .ok (.iadd, 1) := by decide +kernel
theorem dX1_oneBehind_10 : decode cX1_oneBehind 10 = .ok (.goto 6, 3) := by decide +kernel
theorem dX1_oneBehind_13 : decode cX1_oneBehind 13 = .ok (.iload_n 1, 1) := by decide +kernel
theorem dX1_oneBehind_14 : decode cX1_oneBehind 14 = .ok (.iconst 1, 1) := by decide +kernel
theorem dX1_oneBehind_15 : decode cX1_oneBehind 15 = .ok (.isub, 1) := by decide +kernel
theorem dX1_oneBehind_16 : decode cX1_oneBehind 16 = .ok (.invokestatic 83, 3) := by decide +kernel
theorem dX1_oneBehind_19 : decode cX1_oneBehind 19 = .ok (.ireturn, 1) := by decide +kernel
theorem dX1_someAhead_0 : decode cX1_someAhead 0 = .ok (.aload_n 0, 1) := by decide +kernel
theorem dX1_someAhead_1 : decode cX1_someAhead 1 = .ok (.getfield 56, 3) := by decide +kernel
theorem dX1_someAhead_4 : decode cX1_someAhead 4 = .ok (.ifCond .ne 9, 3) := by decide +kernel
theorem dX1_someAhead_7 : decode cX1_someAhead 7 = .ok (.iload_n 1, 1) := by decide +kernel
theorem dX1_someAhead_8 : decode cX1_someAhead 8 = .ok (.iload_n 2, 1) := by decide +kernel
theorem dX1_someAhead_9 : decode cX1_someAhead 9 = .ok (.isub, 1) := by decide +kernel
theorem dX1_someAhead_10 : decode cX1_someAhead 10 = .ok (.goto 6, 3) := by decide +kernel
theorem dX1_someAhead_13 : decode cX1_someAhead 13 = .ok (.iload_n 1, 1) := by decide +kernel
theorem dX1_someAhead_14 : decode cX1_someAhead 14 = .ok (.iload_n 2, 1) := by decide +kernel
theorem dX1_someAhead_15 : decode cX1_someAhead 15 = .ok (.iadd, 1) := by decide +kernel
theorem dX1_someAhead_16 : decode cX1_someAhead 16 = .ok (.bipush 12, 2) := by decide +kernel
theorem dX1_someAhead_18 : decode cX1_someAhead 18 = .ok (.invokestatic 87, 3) := by decide +kernel
theorem dX1_someAhead_21 : decode cX1_someAhead 21 = .ok (.ireturn, 1) := by decide +kernel
theorem dX1_hairOf_0 : decode cX1_hairOf 0 = .ok (.aload_n 0, 1) := by decide +kernel
theorem dX1_hairOf_1 : decode cX1_hairOf 1 = .ok (.iload_n 2, 1) := by decide +kernel
theorem dX1_hairOf_2 : decode cX1_hairOf 2 = .ok (.aload_n 1, 1) := by decide +kernel
theorem dX1_hairOf_3 : decode cX1_hairOf 3 = .ok (.getfield 71, 3) := by decide +kernel
theorem dX1_hairOf_6 : decode cX1_hairOf 6 = .ok (.iadd, 1) := by decide +kernel
theorem dX1_hairOf_7 : decode cX1_hairOf 7 = .ok (.bipush 12, 2) := by decide +kernel
theorem dX1_hairOf_9 : decode cX1_hairOf 9 = .ok (.invokestatic 87, 3) := by decide +kernel
theorem dX1_hairOf_12 : decode cX1_hairOf 12 = .ok (.iaload, 1) := by decide +kernel
theorem dX1_hairOf_13 : decode cX1_hairOf 13 = .ok (.ireturn, 1) := by decide +kernel
theorem dX1_heightOn_0 : decode cX1_heightOn 0 = .ok (.aload_n 1, 1) := by decide +kernel
theorem dX1_heightOn_1 : decode cX1_heightOn 1 = .ok (.aload_n 2, 1) := by decide +kernel
theorem dX1_heightOn_2 : decode cX1_heightOn 2 = .ok (.iload_n 3, 1) := by decide +kernel
theorem dX1_heightOn_3 : decode cX1_heightOn 3 = .ok (.invokestatic 93, 3) := by decide +kernel
theorem dX1_heightOn_6 : decode cX1_heightOn 6 = .ok (.istore 4, 2) := by decide +kernel
theorem dX1_heightOn_8 : decode cX1_heightOn 8 = .ok (.aload_n 2, 1) := by decide +kernel
theorem dX1_heightOn_9 : decode cX1_heightOn 9 = .ok (.getfield 65, 3) := by decide +kernel
theorem dX1_heightOn_12 : decode cX1_heightOn 12 = .ok (.tableswitch 71 1 3 #[28, 33, 41], 28) := by decide +kernel
theorem dX1_heightOn_40 : decode cX1_heightOn 40 = .ok (.iconst 2, 1) := by decide +kernel
theorem dX1_heightOn_41 : decode cX1_heightOn 41 = .ok (.iload 4, 2) := by decide +kernel
theorem dX1_heightOn_43 : decode cX1_heightOn 43 = .ok (.imul, 1) := by decide +kernel
theorem dX1_heightOn_44 : decode cX1_heightOn 44 = .ok (.ireturn, 1) := by decide +kernel
theorem dX1_heightOn_45 : decode cX1_heightOn 45 = .ok (.aload_n 0, 1) := by decide +kernel
theorem dX1_heightOn_46 : decode cX1_heightOn 46 = .ok (.aload_n 1, 1) := by decide +kernel
theorem dX1_heightOn_47 : decode cX1_heightOn 47 = .ok (.aload_n 2, 1) := by decide +kernel
theorem dX1_heightOn_48 : decode cX1_heightOn 48 = .ok (.iload_n 3, 1) := by decide +kernel
theorem dX1_heightOn_49 : decode cX1_heightOn 49 = .ok (.invokevirtual 97, 3) := by decide +kernel
theorem dX1_heightOn_52 : decode cX1_heightOn 52 = .ok (.ireturn, 1) := by decide +kernel
theorem dX1_heightOn_53 : decode cX1_heightOn 53 = .ok (.iload 4, 2) := by decide +kernel
theorem dX1_heightOn_55 : decode cX1_heightOn 55 = .ok (.aload_n 1, 1) := by decide +kernel
theorem dX1_heightOn_56 : decode cX1_heightOn 56 = .ok (.aload_n 2, 1) := by decide +kernel
theorem dX1_heightOn_57 : decode cX1_heightOn 57 = .ok (.aload_n 0, 1) := by decide +kernel
theorem dX1_heightOn_58 : decode cX1_heightOn 58 = .ok (.iload_n 3, 1) := by decide +kernel
theorem dX1_heightOn_59 : decode cX1_heightOn 59 = .ok (.iconst 1, 1) := by decide +kernel
theorem dX1_heightOn_60 : decode cX1_heightOn 60 = .ok (.invokevirtual 100, 3) := by decide +kernel
theorem dX1_heightOn_63 : decode cX1_heightOn 63 = .ok (.invokestatic 93, 3) := by decide +kernel
theorem dX1_heightOn_66 : decode cX1_heightOn 66 = .ok (.if_icmp .le 12, 3) := by decide +kernel
theorem dX1_heightOn_69 : decode cX1_heightOn 69 = .ok (.iconst 2, 1) := by decide +kernel
theorem dX1_heightOn_70 : decode cX1_heightOn 70 = .ok (.iload 4, 2) := by decide +kernel
theorem dX1_heightOn_72 : decode cX1_heightOn 72 = .ok (.imul, 1) := by decide +kernel
theorem dX1_heightOn_73 : decode cX1_heightOn 73 = .ok (.iconst 1, 1) := by decide +kernel
theorem dX1_heightOn_74 : decode cX1_heightOn 74 = .ok (.iadd, 1) := by decide +kernel
theorem dX1_heightOn_75 : decode cX1_heightOn 75 = .ok (.goto 7, 3) := by decide +kernel
theorem dX1_heightOn_78 : decode cX1_heightOn 78 = .ok (.iconst 2, 1) := by decide +kernel
theorem dX1_heightOn_79 : decode cX1_heightOn 79 = .ok (.iload 4, 2) := by decide +kernel
theorem dX1_heightOn_81 : decode cX1_heightOn 81 = .ok (.imul, 1) := by decide +kernel
theorem dX1_heightOn_82 : decode cX1_heightOn 82 = .ok (.ireturn, 1) := by decide +kernel
theorem dX1_heightOn_83 : decode cX1_heightOn 83 = .ok (.iload 4, 2) := by decide +kernel
theorem dX1_heightOn_85 : decode cX1_heightOn 85 = .ok (.ireturn, 1) := by decide +kernel
theorem dX1_slowHeight_0 : decode cX1_slowHeight 0 = .ok (.iconst 0, 1) := by decide +kernel
theorem dX1_slowHeight_1 : decode cX1_slowHeight 1 = .ok (.istore 4, 2) := by decide +kernel
theorem dX1_slowHeight_3 : decode cX1_slowHeight 3 = .ok (.iconst 0, 1) := by decide +kernel
theorem dX1_slowHeight_4 : decode cX1_slowHeight 4 = .ok (.istore 5, 2) := by decide +kernel
theorem dX1_slowHeight_6 : decode cX1_slowHeight 6 = .ok (.iload 5, 2) := by decide +kernel
theorem dX1_slowHeight_8 : decode cX1_slowHeight 8 = .ok (.bipush 12, 2) := by decide +kernel
theorem dX1_slowHeight_10 : decode cX1_slowHeight 10 = .ok (.if_icmp .ge 31, 3) := by decide +kernel
theorem dX1_slowHeight_13 : decode cX1_slowHeight 13 = .ok (.iload 4, 2) := by decide +kernel
theorem dX1_slowHeight_15 : decode cX1_slowHeight 15 = .ok (.aload_n 1, 1) := by decide +kernel
theorem dX1_slowHeight_16 : decode cX1_slowHeight 16 = .ok (.aload_n 2, 1) := by decide +kernel
theorem dX1_slowHeight_17 : decode cX1_slowHeight 17 = .ok (.aload_n 0, 1) := by decide +kernel
theorem dX1_slowHeight_18 : decode cX1_slowHeight 18 = .ok (.iload_n 3, 1) := by decide +kernel
theorem dX1_slowHeight_19 : decode cX1_slowHeight 19 = .ok (.iload 5, 2) := by decide +kernel
theorem dX1_slowHeight_21 : decode cX1_slowHeight 21 = .ok (.invokevirtual 100, 3) := by decide +kernel
theorem dX1_slowHeight_24 : decode cX1_slowHeight 24 = .ok (.invokestatic 93, 3) := by decide +kernel
theorem dX1_slowHeight_27 : decode cX1_slowHeight 27 = .ok (.iload 5, 2) := by decide +kernel
theorem dX1_slowHeight_29 : decode cX1_slowHeight 29 = .ok (.isub, 1) := by decide +kernel
theorem dX1_slowHeight_30 : decode cX1_slowHeight 30 = .ok (.invokestatic 103, 3) := by decide +kernel
theorem dX1_slowHeight_33 : decode cX1_slowHeight 33 = .ok (.istore 4, 2) := by decide +kernel
theorem dX1_slowHeight_35 : decode cX1_slowHeight 35 = .ok (.iinc 5 1, 3) := by decide +kernel
theorem dX1_slowHeight_38 : decode cX1_slowHeight 38 = .ok (.goto (-32), 3) := by decide +kernel
theorem dX1_slowHeight_41 : decode cX1_slowHeight 41 = .ok (.iload 4, 2) := by decide +kernel
theorem dX1_slowHeight_43 : decode cX1_slowHeight 43 = .ok (.ireturn, 1) := by decide +kernel
theorem dX1_upsOn_0 : decode cX1_upsOn 0 = .ok (.iconst 0, 1) := by decide +kernel
theorem dX1_upsOn_1 : decode cX1_upsOn 1 = .ok (.istore_n 3, 1) := by decide +kernel
theorem dX1_upsOn_2 : decode cX1_upsOn 2 = .ok (.iconst 0, 1) := by decide +kernel
theorem dX1_upsOn_3 : decode cX1_upsOn 3 = .ok (.istore 4, 2) := by decide +kernel
theorem dX1_upsOn_5 : decode cX1_upsOn 5 = .ok (.iload 4, 2) := by decide +kernel
theorem dX1_upsOn_7 : decode cX1_upsOn 7 = .ok (.bipush 12, 2) := by decide +kernel
theorem dX1_upsOn_9 : decode cX1_upsOn 9 = .ok (.if_icmp .ge 31, 3) := by decide +kernel
theorem dX1_upsOn_12 : decode cX1_upsOn 12 = .ok (.aload_n 0, 1) := by decide +kernel
theorem dX1_upsOn_13 : decode cX1_upsOn 13 = .ok (.aload_n 1, 1) := by decide +kernel
theorem dX1_upsOn_14 : decode cX1_upsOn 14 = .ok (.aload_n 2, 1) := by decide +kernel
theorem dX1_upsOn_15 : decode cX1_upsOn 15 = .ok (.iload 4, 2) := by decide +kernel
theorem dX1_upsOn_17 : decode cX1_upsOn 17 = .ok (.invokevirtual 106, 3) := by decide +kernel
theorem dX1_upsOn_20 : decode cX1_upsOn 20 = .ok (.aload_n 0, 1) := by decide +kernel
theorem dX1_upsOn_21 : decode cX1_upsOn 21 = .ok (.getfield 23, 3) := by decide +kernel
theorem dX1_upsOn_24 : decode cX1_upsOn 24 = .ok (.if_icmp .lt 10, 3) := by decide +kernel
theorem dX1_upsOn_27 : decode cX1_upsOn 27 = .ok (.iload_n 3, 1) := by decide +kernel
theorem dX1_upsOn_28 : decode cX1_upsOn 28 = .ok (.iconst 1, 1) := by decide +kernel
theorem dX1_upsOn_29 : decode cX1_upsOn 29 = .ok (.iload 4, 2) := by decide +kernel
theorem dX1_upsOn_31 : decode cX1_upsOn 31 = .ok (.ishl, 1) := by decide +kernel
theorem dX1_upsOn_32 : decode cX1_upsOn 32 = .ok (.ior, 1) := by decide +kernel
theorem dX1_upsOn_33 : decode cX1_upsOn 33 = .ok (.istore_n 3, 1) := by decide +kernel
theorem dX1_upsOn_34 : decode cX1_upsOn 34 = .ok (.iinc 4 1, 3) := by decide +kernel
theorem dX1_upsOn_37 : decode cX1_upsOn 37 = .ok (.goto (-32), 3) := by decide +kernel
theorem dX1_upsOn_40 : decode cX1_upsOn 40 = .ok (.iload_n 3, 1) := by decide +kernel
theorem dX1_upsOn_41 : decode cX1_upsOn 41 = .ok (.ireturn, 1) := by decide +kernel
theorem dX1_upsOf_0 : decode cX1_upsOf 0 = .ok (.aload_n 0, 1) := by decide +kernel
theorem dX1_upsOf_1 : decode cX1_upsOf 1 = .ok (.aload_n 0, 1) := by decide +kernel
theorem dX1_upsOf_2 : decode cX1_upsOf 2 = .ok (.getfield 11, 3) := by decide +kernel
theorem dX1_upsOf_5 : decode cX1_upsOf 5 = .ok (.aload_n 1, 1) := by decide +kernel
theorem dX1_upsOf_6 : decode cX1_upsOf 6 = .ok (.getfield 68, 3) := by decide +kernel
theorem dX1_upsOf_9 : decode cX1_upsOf 9 = .ok (.aaload, 1) := by decide +kernel
theorem dX1_upsOf_10 : decode cX1_upsOf 10 = .ok (.aload_n 1, 1) := by decide +kernel
theorem dX1_upsOf_11 : decode cX1_upsOf 11 = .ok (.invokevirtual 109, 3) := by decide +kernel
theorem dX1_upsOf_14 : decode cX1_upsOf 14 = .ok (.ireturn, 1) := by decide +kernel
theorem dX1_figuresUpNow_0 : decode cX1_figuresUpNow 0 = .ok (.iconst 0, 1) := by decide +kernel
theorem dX1_figuresUpNow_1 : decode cX1_figuresUpNow 1 = .ok (.istore_n 1, 1) := by decide +kernel
theorem dX1_figuresUpNow_2 : decode cX1_figuresUpNow 2 = .ok (.iconst 0, 1) := by decide +kernel
theorem dX1_figuresUpNow_3 : decode cX1_figuresUpNow 3 = .ok (.istore_n 2, 1) := by decide +kernel
theorem dX1_figuresUpNow_4 : decode cX1_figuresUpNow 4 = .ok (.iload_n 2, 1) := by decide +kernel
theorem dX1_figuresUpNow_5 : decode cX1_figuresUpNow 5 = .ok (.aload_n 0, 1) := by decide +kernel
theorem dX1_figuresUpNow_6 : decode cX1_figuresUpNow 6 = .ok (.getfield 53, 3) := by decide +kernel
theorem dX1_figuresUpNow_9 : decode cX1_figuresUpNow 9 = .ok (.if_icmp .ge 47, 3) := by decide +kernel
theorem dX1_figuresUpNow_12 : decode cX1_figuresUpNow 12 = .ok (.aload_n 0, 1) := by decide +kernel
theorem dX1_figuresUpNow_13 : decode cX1_figuresUpNow 13 = .ok (.getfield 18, 3) := by decide +kernel
theorem dX1_figuresUpNow_16 : decode cX1_figuresUpNow 16 = .ok (.iload_n 2, 1) := by decide +kernel
theorem dX1_figuresUpNow_17 : decode cX1_figuresUpNow 17 = .ok (.aaload, 1) := by decide +kernel
theorem dX1_figuresUpNow_18 : decode cX1_figuresUpNow 18 = .ok (.astore_n 3, 1) := by decide +kernel
theorem dX1_figuresUpNow_19 : decode cX1_figuresUpNow 19 = .ok (.aload_n 0, 1) := by decide +kernel
theorem dX1_figuresUpNow_20 : decode cX1_figuresUpNow 20 = .ok (.aload_n 0, 1) := by decide +kernel
theorem dX1_figuresUpNow_21 : decode cX1_figuresUpNow 21 = .ok (.getfield 11, 3) := by decide +kernel
theorem dX1_figuresUpNow_24 : decode cX1_figuresUpNow 24 = .ok (.aload_n 3, 1) := by decide +kernel
theorem dX1_figuresUpNow_25 : decode cX1_figuresUpNow 25 = .ok (.getfield 68, 3) := by decide +kernel
theorem dX1_figuresUpNow_28 : decode cX1_figuresUpNow 28 = .ok (.aaload, 1) := by decide +kernel
theorem dX1_figuresUpNow_29 : decode cX1_figuresUpNow 29 = .ok (.aload_n 3, 1) := by decide +kernel
theorem dX1_figuresUpNow_30 : decode cX1_figuresUpNow 30 = .ok (.aload_n 0, 1) := by decide +kernel
theorem dX1_figuresUpNow_31 : decode cX1_figuresUpNow 31 = .ok (.getfield 59, 3) := by decide +kernel
theorem dX1_figuresUpNow_34 : decode cX1_figuresUpNow 34 = .ok (.invokevirtual 106, 3) := by decide +kernel
theorem dX1_figuresUpNow_37 : decode cX1_figuresUpNow 37 = .ok (.aload_n 0, 1) := by decide +kernel
theorem dX1_figuresUpNow_38 : decode cX1_figuresUpNow 38 = .ok (.getfield 23, 3) := by decide +kernel
theorem dX1_figuresUpNow_41 : decode cX1_figuresUpNow 41 = .ok (.if_icmp .lt 9, 3) := by decide +kernel
theorem dX1_figuresUpNow_44 : decode cX1_figuresUpNow 44 = .ok (.iload_n 1, 1) := by decide +kernel
theorem dX1_figuresUpNow_45 : decode cX1_figuresUpNow 45 = .ok (.iconst 1, 1) := by decide +kernel
theorem dX1_figuresUpNow_46 : decode cX1_figuresUpNow 46 = .ok (.iload_n 2, 1) := by decide +kernel
theorem dX1_figuresUpNow_47 : decode cX1_figuresUpNow 47 = .ok (.ishl, 1) := by decide +kernel
theorem dX1_figuresUpNow_48 : decode cX1_figuresUpNow 48 = .ok (.ior, 1) := by decide +kernel
theorem dX1_figuresUpNow_49 : decode cX1_figuresUpNow 49 = .ok (.istore_n 1, 1) := by decide +kernel
theorem dX1_figuresUpNow_50 : decode cX1_figuresUpNow 50 = .ok (.iinc 2 1, 3) := by decide +kernel
theorem dX1_figuresUpNow_53 : decode cX1_figuresUpNow 53 = .ok (.goto (-49), 3) := by decide +kernel
theorem dX1_figuresUpNow_56 : decode cX1_figuresUpNow 56 = .ok (.iload_n 1, 1) := by decide +kernel
theorem dX1_figuresUpNow_57 : decode cX1_figuresUpNow 57 = .ok (.ireturn, 1) := by decide +kernel
theorem dX1_strikesOf_0 : decode cX1_strikesOf 0 = .ok (.aload_n 1, 1) := by decide +kernel
theorem dX1_strikesOf_1 : decode cX1_strikesOf 1 = .ok (.getfield 74, 3) := by decide +kernel
theorem dX1_strikesOf_4 : decode cX1_strikesOf 4 = .ok (.aload_n 2, 1) := by decide +kernel
theorem dX1_strikesOf_5 : decode cX1_strikesOf 5 = .ok (.getfield 74, 3) := by decide +kernel
theorem dX1_strikesOf_8 : decode cX1_strikesOf 8 = .ok (.if_icmp .eq 5, 3) := by decide +kernel
theorem dX1_strikesOf_11 : decode cX1_strikesOf 11 = .ok (.iconst 0, 1) := by decide +kernel
theorem dX1_strikesOf_12 : decode cX1_strikesOf 12 = .ok (.ireturn, 1) := by decide +kernel
theorem dX1_strikesOf_13 : decode cX1_strikesOf 13 = .ok (.aload_n 0, 1) := by decide +kernel
theorem dX1_strikesOf_14 : decode cX1_strikesOf 14 = .ok (.aload_n 0, 1) := by decide +kernel
theorem dX1_strikesOf_15 : decode cX1_strikesOf 15 = .ok (.getfield 11, 3) := by decide +kernel
theorem dX1_strikesOf_18 : decode cX1_strikesOf 18 = .ok (.aload_n 1, 1) := by decide +kernel
theorem dX1_strikesOf_19 : decode cX1_strikesOf 19 = .ok (.getfield 68, 3) := by decide +kernel
theorem dX1_strikesOf_22 : decode cX1_strikesOf 22 = .ok (.aaload, 1) := by decide +kernel
theorem dX1_strikesOf_23 : decode cX1_strikesOf 23 = .ok (.aload_n 1, 1) := by decide +kernel
theorem dX1_strikesOf_24 : decode cX1_strikesOf 24 = .ok (.invokevirtual 109, 3) := by decide +kernel
theorem dX1_strikesOf_27 : decode cX1_strikesOf 27 = .ok (.aload_n 0, 1) := by decide +kernel
theorem dX1_strikesOf_28 : decode cX1_strikesOf 28 = .ok (.aload_n 0, 1) := by decide +kernel
theorem dX1_strikesOf_29 : decode cX1_strikesOf 29 = .ok (.getfield 11, 3) := by decide +kernel
theorem dX1_strikesOf_32 : decode cX1_strikesOf 32 = .ok (.aload_n 2, 1) := by decide +kernel
theorem dX1_strikesOf_33 : decode cX1_strikesOf 33 = .ok (.getfield 68, 3) := by decide +kernel
theorem dX1_strikesOf_36 : decode cX1_strikesOf 36 = .ok (.aaload, 1) := by decide +kernel
theorem dX1_strikesOf_37 : decode cX1_strikesOf 37 = .ok (.aload_n 2, 1) := by decide +kernel
theorem dX1_strikesOf_38 : decode cX1_strikesOf 38 = .ok (.invokevirtual 109, 3) := by decide +kernel
theorem dX1_strikesOf_41 : decode cX1_strikesOf 41 = .ok (.iand, 1) := by decide +kernel
theorem dX1_strikesOf_42 : decode cX1_strikesOf 42 = .ok (.istore_n 3, 1) := by decide +kernel
theorem dX1_strikesOf_43 : decode cX1_strikesOf 43 = .ok (.iload_n 3, 1) := by decide +kernel
theorem dX1_strikesOf_44 : decode cX1_strikesOf 44 = .ok (.aload_n 0, 1) := by decide +kernel
theorem dX1_strikesOf_45 : decode cX1_strikesOf 45 = .ok (.getfield 56, 3) := by decide +kernel
theorem dX1_strikesOf_48 : decode cX1_strikesOf 48 = .ok (.ifCond .ne 7, 3) := by decide +kernel
theorem dX1_strikesOf_51 : decode cX1_strikesOf 51 = .ok (.iconst 1, 1) := by decide +kernel
theorem dX1_strikesOf_52 : decode cX1_strikesOf 52 = .ok (.goto 4, 3) := by decide +kernel
theorem dX1_strikesOf_55 : decode cX1_strikesOf 55 = .ok (.iconst (-1), 1) := by decide +kernel
theorem dX1_strikesOf_56 : decode cX1_strikesOf 56 = .ok (.invokestatic 113, 3) := by decide +kernel
theorem dX1_strikesOf_59 : decode cX1_strikesOf 59 = .ok (.istore 4, 2) := by decide +kernel
theorem dX1_strikesOf_61 : decode cX1_strikesOf 61 = .ok (.iload_n 3, 1) := by decide +kernel
theorem dX1_strikesOf_62 : decode cX1_strikesOf 62 = .ok (.iload 4, 2) := by decide +kernel
theorem dX1_strikesOf_64 : decode cX1_strikesOf 64 = .ok (.iconst (-1), 1) := by decide +kernel
theorem dX1_strikesOf_65 : decode cX1_strikesOf 65 = .ok (.ixor, 1) := by decide +kernel
theorem dX1_strikesOf_66 : decode cX1_strikesOf 66 = .ok (.iand, 1) := by decide +kernel
theorem dX1_strikesOf_67 : decode cX1_strikesOf 67 = .ok (.ireturn, 1) := by decide +kernel
theorem dX1_strikesInTurning_0 : decode cX1_strikesInTurning 0 = .ok (.iload_n 1, 1) := by decide +kernel
theorem dX1_strikesInTurning_1 : decode cX1_strikesInTurning 1 = .ok (.bipush 12, 2) := by decide +kernel
theorem dX1_strikesInTurning_3 : decode cX1_strikesInTurning 3 = .ok (.idiv, 1) := by decide +kernel
theorem dX1_strikesInTurning_4 : decode cX1_strikesInTurning 4 = .ok (.istore_n 2, 1) := by decide +kernel
theorem dX1_strikesInTurning_5 : decode cX1_strikesInTurning 5 = .ok (.aload_n 0, 1) := by decide +kernel
theorem dX1_strikesInTurning_6 : decode cX1_strikesInTurning 6 = .ok (.iload_n 1, 1) := by decide +kernel
theorem dX1_strikesInTurning_7 : decode cX1_strikesInTurning 7 = .ok (.bipush 12, 2) := by decide +kernel
theorem dX1_strikesInTurning_9 : decode cX1_strikesInTurning 9 = .ok (.irem, 1) := by decide +kernel
theorem dX1_strikesInTurning_10 : decode cX1_strikesInTurning 10 = .ok (.invokevirtual 116, 3) := by decide +kernel
theorem dX1_strikesInTurning_13 : decode cX1_strikesInTurning 13 = .ok (.istore_n 3, 1) := by decide +kernel
theorem dX1_strikesInTurning_14 : decode cX1_strikesInTurning 14 = .ok (.iconst 0, 1) := by decide +kernel
theorem dX1_strikesInTurning_15 : decode cX1_strikesInTurning 15 = .ok (.istore 4, 2) := by decide +kernel
theorem dX1_strikesInTurning_17 : decode cX1_strikesInTurning 17 = .ok (.iconst 0, 1) := by decide +kernel
theorem dX1_strikesInTurning_18 : decode cX1_strikesInTurning 18 = .ok (.istore 5, 2) := by decide +kernel
theorem dX1_strikesInTurning_20 : decode cX1_strikesInTurning 20 = .ok (.iload 5, 2) := by decide +kernel
theorem dX1_strikesInTurning_22 : decode cX1_strikesInTurning 22 = .ok (.aload_n 0, 1) := by decide +kernel
theorem dX1_strikesInTurning_23 : decode cX1_strikesInTurning 23 = .ok (.getfield 53, 3) := by decide +kernel
theorem dX1_strikesInTurning_26 : decode cX1_strikesInTurning 26 = .ok (.if_icmp .ge 70, 3) := by decide +kernel
theorem dX1_strikesInTurning_29 : decode cX1_strikesInTurning 29 = .ok (.iload 5, 2) := by decide +kernel
theorem dX1_strikesInTurning_31 : decode cX1_strikesInTurning 31 = .ok (.iconst 1, 1) := by decide +kernel
theorem dX1_strikesInTurning_32 : decode cX1_strikesInTurning 32 = .ok (.iadd, 1) := by decide +kernel
theorem dX1_strikesInTurning_33 : decode cX1_strikesInTurning 33 = .ok (.istore 6, 2) := by decide +kernel
theorem dX1_strikesInTurning_35 : decode cX1_strikesInTurning 35 = .ok (.iload 6, 2) := by decide +kernel
theorem dX1_strikesInTurning_37 : decode cX1_strikesInTurning 37 = .ok (.aload_n 0, 1) := by decide +kernel
theorem dX1_strikesInTurning_38 : decode cX1_strikesInTurning 38 = .ok (.getfield 53, 3) := by decide +kernel
theorem dX1_strikesInTurning_41 : decode cX1_strikesInTurning 41 = .ok (.if_icmp .ge 49, 3) := by decide +kernel
theorem dX1_strikesInTurning_44 : decode cX1_strikesInTurning 44 = .ok (.aload_n 0, 1) := by decide +kernel
theorem dX1_strikesInTurning_45 : decode cX1_strikesInTurning 45 = .ok (.aload_n 0, 1) := by decide +kernel
theorem dX1_strikesInTurning_46 : decode cX1_strikesInTurning 46 = .ok (.getfield 18, 3) := by decide +kernel
theorem dX1_strikesInTurning_49 : decode cX1_strikesInTurning 49 = .ok (.iload 5, 2) := by decide +kernel
theorem dX1_strikesInTurning_51 : decode cX1_strikesInTurning 51 = .ok (.aaload, 1) := by decide +kernel
theorem dX1_strikesInTurning_52 : decode cX1_strikesInTurning 52 = .ok (.aload_n 0, 1) := by decide +kernel
theorem dX1_strikesInTurning_53 : decode cX1_strikesInTurning 53 = .ok (.getfield 18, 3) := by decide +kernel
theorem dX1_strikesInTurning_56 : decode cX1_strikesInTurning 56 = .ok (.iload 6, 2) := by decide +kernel
theorem dX1_strikesInTurning_58 : decode cX1_strikesInTurning 58 = .ok (.aaload, 1) := by decide +kernel
theorem dX1_strikesInTurning_59 : decode cX1_strikesInTurning 59 = .ok (.invokevirtual 119, 3) := by decide +kernel
theorem dX1_strikesInTurning_62 : decode cX1_strikesInTurning 62 = .ok (.istore 7, 2) := by decide +kernel
theorem dX1_strikesInTurning_64 : decode cX1_strikesInTurning 64 = .ok (.iload 4, 2) := by decide +kernel
theorem dX1_strikesInTurning_66 : decode cX1_strikesInTurning 66 = .ok (.iload_n 2, 1) := by decide +kernel
theorem dX1_strikesInTurning_67 : decode cX1_strikesInTurning 67 = .ok (.iload 7, 2) := by decide +kernel
theorem dX1_strikesInTurning_69 : decode cX1_strikesInTurning 69 = .ok (.invokestatic 123, 3) := by decide +kernel
theorem dX1_strikesInTurning_72 : decode cX1_strikesInTurning 72 = .ok (.imul, 1) := by decide +kernel
theorem dX1_strikesInTurning_73 : decode cX1_strikesInTurning 73 = .ok (.iload 7, 2) := by decide +kernel
theorem dX1_strikesInTurning_75 : decode cX1_strikesInTurning 75 = .ok (.iload_n 3, 1) := by decide +kernel
theorem dX1_strikesInTurning_76 : decode cX1_strikesInTurning 76 = .ok (.iand, 1) := by decide +kernel
theorem dX1_strikesInTurning_77 : decode cX1_strikesInTurning 77 = .ok (.invokestatic 123, 3) := by decide +kernel
theorem dX1_strikesInTurning_80 : decode cX1_strikesInTurning 80 = .ok (.iadd, 1) := by decide +kernel
theorem dX1_strikesInTurning_81 : decode cX1_strikesInTurning 81 = .ok (.iadd, 1) := by decide +kernel
theorem dX1_strikesInTurning_82 : decode cX1_strikesInTurning 82 = .ok (.istore 4, 2) := by decide +kernel
theorem dX1_strikesInTurning_84 : decode cX1_strikesInTurning 84 = .ok (.iinc 6 1, 3) := by decide +kernel
theorem dX1_strikesInTurning_87 : decode cX1_strikesInTurning 87 = .ok (.goto (-52), 3) := by decide +kernel
theorem dX1_strikesInTurning_90 : decode cX1_strikesInTurning 90 = .ok (.iinc 5 1, 3) := by decide +kernel
theorem dX1_strikesInTurning_93 : decode cX1_strikesInTurning 93 = .ok (.goto (-73), 3) := by decide +kernel
theorem dX1_strikesInTurning_96 : decode cX1_strikesInTurning 96 = .ok (.iload 4, 2) := by decide +kernel
theorem dX1_strikesInTurning_98 : decode cX1_strikesInTurning 98 = .ok (.ireturn, 1) := by decide +kernel
theorem dX1_anglesToCome_0 : decode cX1_anglesToCome 0 = .ok (.iconst 0, 1) := by decide +kernel
theorem dX1_anglesToCome_1 : decode cX1_anglesToCome 1 = .ok (.istore_n 2, 1) := by decide +kernel
theorem dX1_anglesToCome_2 : decode cX1_anglesToCome 2 = .ok (.aload_n 0, 1) := by decide +kernel
theorem dX1_anglesToCome_3 : decode cX1_anglesToCome 3 = .ok (.getfield 59, 3) := by decide +kernel
theorem dX1_anglesToCome_6 : decode cX1_anglesToCome 6 = .ok (.istore_n 3, 1) := by decide +kernel
theorem dX1_anglesToCome_7 : decode cX1_anglesToCome 7 = .ok (.iconst 0, 1) := by decide +kernel
theorem dX1_anglesToCome_8 : decode cX1_anglesToCome 8 = .ok (.istore 4, 2) := by decide +kernel
theorem dX1_anglesToCome_10 : decode cX1_anglesToCome 10 = .ok (.iload 4, 2) := by decide +kernel
theorem dX1_anglesToCome_12 : decode cX1_anglesToCome 12 = .ok (.iload_n 1, 1) := by decide +kernel
theorem dX1_anglesToCome_13 : decode cX1_anglesToCome 13 = .ok (.if_icmp .ge 21, 3) := by decide +kernel
theorem dX1_anglesToCome_16 : decode cX1_anglesToCome 16 = .ok (.aload_n 0, 1) := by decide +kernel
theorem dX1_anglesToCome_17 : decode cX1_anglesToCome 17 = .ok (.iload_n 3, 1) := by decide +kernel
theorem dX1_anglesToCome_18 : decode cX1_anglesToCome 18 = .ok (.invokevirtual 128, 3) := by decide +kernel
theorem dX1_anglesToCome_21 : decode cX1_anglesToCome 21 = .ok (.istore_n 3, 1) := by decide +kernel
theorem dX1_anglesToCome_22 : decode cX1_anglesToCome 22 = .ok (.iload_n 2, 1) := by decide +kernel
theorem dX1_anglesToCome_23 : decode cX1_anglesToCome 23 = .ok (.iconst 1, 1) := by decide +kernel
theorem dX1_anglesToCome_24 : decode cX1_anglesToCome 24 = .ok (.iload_n 3, 1) := by decide +kernel
theorem dX1_anglesToCome_25 : decode cX1_anglesToCome 25 = .ok (.ishl, 1) := by decide +kernel
theorem dX1_anglesToCome_26 : decode cX1_anglesToCome 26 = .ok (.ior, 1) := by decide +kernel
theorem dX1_anglesToCome_27 : decode cX1_anglesToCome 27 = .ok (.istore_n 2, 1) := by decide +kernel
theorem dX1_anglesToCome_28 : decode cX1_anglesToCome 28 = .ok (.iinc 4 1, 3) := by decide +kernel
theorem dX1_anglesToCome_31 : decode cX1_anglesToCome 31 = .ok (.goto (-21), 3) := by decide +kernel
theorem dX1_anglesToCome_34 : decode cX1_anglesToCome 34 = .ok (.iload_n 2, 1) := by decide +kernel
theorem dX1_anglesToCome_35 : decode cX1_anglesToCome 35 = .ok (.ireturn, 1) := by decide +kernel
theorem dX1_goOn_0 : decode cX1_goOn 0 = .ok (.aload_n 0, 1) := by decide +kernel
theorem dX1_goOn_1 : decode cX1_goOn 1 = .ok (.aload_n 0, 1) := by decide +kernel
theorem dX1_goOn_2 : decode cX1_goOn 2 = .ok (.getfield 56, 3) := by decide +kernel
theorem dX1_goOn_5 : decode cX1_goOn 5 = .ok (.ifCond .ne 12, 3) := by decide +kernel
theorem dX1_goOn_8 : decode cX1_goOn 8 = .ok (.aload_n 0, 1) := by decide +kernel
theorem dX1_goOn_9 : decode cX1_goOn 9 = .ok (.getfield 59, 3) := by decide +kernel
theorem dX1_goOn_12 : decode cX1_goOn 12 = .ok (.iload_n 1, 1) := by decide +kernel
theorem dX1_goOn_13 : decode cX1_goOn 13 = .ok (.iadd, 1) := by decide +kernel
theorem dX1_goOn_14 : decode cX1_goOn 14 = .ok (.goto 9, 3) := by decide +kernel
theorem dX1_goOn_17 : decode cX1_goOn 17 = .ok (.aload_n 0, 1) := by decide +kernel
theorem dX1_goOn_18 : decode cX1_goOn 18 = .ok (.getfield 59, 3) := by decide +kernel
theorem dX1_goOn_21 : decode cX1_goOn 21 = .ok (.iload_n 1, 1) := by decide +kernel
theorem dX1_goOn_22 : decode cX1_goOn 22 = .ok (.isub, 1) := by decide +kernel
theorem dX1_goOn_23 : decode cX1_goOn 23 = .ok (.invokestatic 83, 3) := by decide +kernel
theorem dX1_goOn_26 : decode cX1_goOn 26 = .ok (.putfield 59, 3) := by decide +kernel
theorem dX1_goOn_29 : decode cX1_goOn 29 = .ok (.aload_n 0, 1) := by decide +kernel
theorem dX1_goOn_30 : decode cX1_goOn 30 = .ok (.aload_n 0, 1) := by decide +kernel
theorem dX1_goOn_31 : decode cX1_goOn 31 = .ok (.getfield 62, 3) := by decide +kernel
theorem dX1_goOn_34 : decode cX1_goOn 34 = .ok (.iload_n 1, 1) := by decide +kernel
theorem dX1_goOn_35 : decode cX1_goOn 35 = .ok (.iadd, 1) := by decide +kernel
theorem dX1_goOn_36 : decode cX1_goOn 36 = .ok (.ldc 131, 2) := by decide +kernel
theorem dX1_goOn_38 : decode cX1_goOn 38 = .ok (.invokestatic 132, 3) := by decide +kernel
theorem dX1_goOn_41 : decode cX1_goOn 41 = .ok (.putfield 62, 3) := by decide +kernel
theorem dX1_goOn_44 : decode cX1_goOn 44 = .ok (.return_, 1) := by decide +kernel
theorem dX1_pegsBy_0 : decode cX1_pegsBy 0 = .ok (.iconst 0, 1) := by decide +kernel
theorem dX1_pegsBy_1 : decode cX1_pegsBy 1 = .ok (.istore_n 3, 1) := by decide +kernel
theorem dX1_pegsBy_2 : decode cX1_pegsBy 2 = .ok (.iconst 0, 1) := by decide +kernel
theorem dX1_pegsBy_3 : decode cX1_pegsBy 3 = .ok (.istore 4, 2) := by decide +kernel
theorem dX1_pegsBy_5 : decode cX1_pegsBy 5 = .ok (.iload 4, 2) := by decide +kernel
theorem dX1_pegsBy_7 : decode cX1_pegsBy 7 = .ok (.bipush 12, 2) := by decide +kernel
theorem dX1_pegsBy_9 : decode cX1_pegsBy 9 = .ok (.if_icmp .ge 40, 3) := by decide +kernel
theorem dX1_pegsBy_12 : decode cX1_pegsBy 12 = .ok (.aload_n 0, 1) := by decide +kernel
theorem dX1_pegsBy_13 : decode cX1_pegsBy 13 = .ok (.getfield 11, 3) := by decide +kernel
theorem dX1_pegsBy_16 : decode cX1_pegsBy 16 = .ok (.aload_n 1, 1) := by decide +kernel
theorem dX1_pegsBy_17 : decode cX1_pegsBy 17 = .ok (.getfield 68, 3) := by decide +kernel
theorem dX1_pegsBy_20 : decode cX1_pegsBy 20 = .ok (.aaload, 1) := by decide +kernel
theorem dX1_pegsBy_21 : decode cX1_pegsBy 21 = .ok (.iload 4, 2) := by decide +kernel
theorem dX1_pegsBy_23 : decode cX1_pegsBy 23 = .ok (.iload_n 2, 1) := by decide +kernel
theorem dX1_pegsBy_24 : decode cX1_pegsBy 24 = .ok (.iadd, 1) := by decide +kernel
theorem dX1_pegsBy_25 : decode cX1_pegsBy 25 = .ok (.invokestatic 83, 3) := by decide +kernel
theorem dX1_pegsBy_28 : decode cX1_pegsBy 28 = .ok (.iaload, 1) := by decide +kernel
theorem dX1_pegsBy_29 : decode cX1_pegsBy 29 = .ok (.aload_n 0, 1) := by decide +kernel
theorem dX1_pegsBy_30 : decode cX1_pegsBy 30 = .ok (.getfield 23, 3) := by decide +kernel
theorem dX1_pegsBy_33 : decode cX1_pegsBy 33 = .ok (.if_icmp .lt 10, 3) := by decide +kernel
theorem dX1_pegsBy_36 : decode cX1_pegsBy 36 = .ok (.iload_n 3, 1) := by decide +kernel
theorem dX1_pegsBy_37 : decode cX1_pegsBy 37 = .ok (.iconst 1, 1) := by decide +kernel
theorem dX1_pegsBy_38 : decode cX1_pegsBy 38 = .ok (.iload 4, 2) := by decide +kernel
theorem dX1_pegsBy_40 : decode cX1_pegsBy 40 = .ok (.ishl, 1) := by decide +kernel
theorem dX1_pegsBy_41 : decode cX1_pegsBy 41 = .ok (.ior, 1) := by decide +kernel
theorem dX1_pegsBy_42 : decode cX1_pegsBy 42 = .ok (.istore_n 3, 1) := by decide +kernel
theorem dX1_pegsBy_43 : decode cX1_pegsBy 43 = .ok (.iinc 4 1, 3) := by decide +kernel
theorem dX1_pegsBy_46 : decode cX1_pegsBy 46 = .ok (.goto (-41), 3) := by decide +kernel
theorem dX1_pegsBy_49 : decode cX1_pegsBy 49 = .ok (.aload_n 1, 1) := by decide +kernel
theorem dX1_pegsBy_50 : decode cX1_pegsBy 50 = .ok (.iload_n 3, 1) := by decide +kernel
theorem dX1_pegsBy_51 : decode cX1_pegsBy 51 = .ok (.invokevirtual 135, 3) := by decide +kernel
theorem dX1_pegsBy_54 : decode cX1_pegsBy 54 = .ok (.invokestatic 123, 3) := by decide +kernel
theorem dX1_pegsBy_57 : decode cX1_pegsBy 57 = .ok (.ireturn, 1) := by decide +kernel
theorem dX1_beatsTill_0 : decode cX1_beatsTill 0 = .ok (.iconst 0, 1) := by decide +kernel
theorem dX1_beatsTill_1 : decode cX1_beatsTill 1 = .ok (.istore_n 2, 1) := by decide +kernel
theorem dX1_beatsTill_2 : decode cX1_beatsTill 2 = .ok (.aload_n 0, 1) := by decide +kernel
theorem dX1_beatsTill_3 : decode cX1_beatsTill 3 = .ok (.getfield 59, 3) := by decide +kernel
theorem dX1_beatsTill_6 : decode cX1_beatsTill 6 = .ok (.istore_n 3, 1) := by decide +kernel
theorem dX1_beatsTill_7 : decode cX1_beatsTill 7 = .ok (.iconst 0, 1) := by decide +kernel
theorem dX1_beatsTill_8 : decode cX1_beatsTill 8 = .ok (.istore 4, 2) := by decide +kernel
theorem dX1_beatsTill_10 : decode cX1_beatsTill 10 = .ok (.iload 4, 2) := by decide +kernel
theorem dX1_beatsTill_12 : decode cX1_beatsTill 12 = .ok (.bipush 12, 2) := by decide +kernel
theorem dX1_beatsTill_14 : decode cX1_beatsTill 14 = .ok (.if_icmp .ge 29, 3) := by decide +kernel
theorem dX1_beatsTill_17 : decode cX1_beatsTill 17 = .ok (.iload_n 3, 1) := by decide +kernel
theorem dX1_beatsTill_18 : decode cX1_beatsTill 18 = .ok (.iload_n 1, 1) := by decide +kernel
theorem dX1_beatsTill_19 : decode cX1_beatsTill 19 = .ok (.if_icmp .eq 24, 3) := by decide +kernel
theorem dX1_beatsTill_22 : decode cX1_beatsTill 22 = .ok (.iload_n 2, 1) := by decide +kernel
theorem dX1_beatsTill_23 : decode cX1_beatsTill 23 = .ok (.aload_n 0, 1) := by decide +kernel
theorem dX1_beatsTill_24 : decode cX1_beatsTill 24 = .ok (.getfield 27, 3) := by decide +kernel
theorem dX1_beatsTill_27 : decode cX1_beatsTill 27 = .ok (.iload_n 3, 1) := by decide +kernel
theorem dX1_beatsTill_28 : decode cX1_beatsTill 28 = .ok (.iaload, 1) := by decide +kernel
theorem dX1_beatsTill_29 : decode cX1_beatsTill 29 = .ok (.iadd, 1) := by decide +kernel
theorem dX1_beatsTill_30 : decode cX1_beatsTill 30 = .ok (.istore_n 2, 1) := by decide +kernel
theorem dX1_beatsTill_31 : decode cX1_beatsTill 31 = .ok (.aload_n 0, 1) := by decide +kernel
theorem dX1_beatsTill_32 : decode cX1_beatsTill 32 = .ok (.iload_n 3, 1) := by decide +kernel
theorem dX1_beatsTill_33 : decode cX1_beatsTill 33 = .ok (.invokevirtual 128, 3) := by decide +kernel
theorem dX1_beatsTill_36 : decode cX1_beatsTill 36 = .ok (.istore_n 3, 1) := by decide +kernel
theorem dX1_beatsTill_37 : decode cX1_beatsTill 37 = .ok (.iinc 4 1, 3) := by decide +kernel
theorem dX1_beatsTill_40 : decode cX1_beatsTill 40 = .ok (.goto (-30), 3) := by decide +kernel
theorem dX1_beatsTill_43 : decode cX1_beatsTill 43 = .ok (.iload_n 2, 1) := by decide +kernel
theorem dX1_beatsTill_44 : decode cX1_beatsTill 44 = .ok (.ireturn, 1) := by decide +kernel
theorem dX1_angleAfter_0 : decode cX1_angleAfter 0 = .ok (.iconst 0, 1) := by decide +kernel
theorem dX1_angleAfter_1 : decode cX1_angleAfter 1 = .ok (.istore_n 2, 1) := by decide +kernel
theorem dX1_angleAfter_2 : decode cX1_angleAfter 2 = .ok (.iconst 0, 1) := by decide +kernel
theorem dX1_angleAfter_3 : decode cX1_angleAfter 3 = .ok (.istore_n 3, 1) := by decide +kernel
theorem dX1_angleAfter_4 : decode cX1_angleAfter 4 = .ok (.iload_n 3, 1) := by decide +kernel
theorem dX1_angleAfter_5 : decode cX1_angleAfter 5 = .ok (.bipush 12, 2) := by decide +kernel
theorem dX1_angleAfter_7 : decode cX1_angleAfter 7 = .ok (.if_icmp .ge 18, 3) := by decide +kernel
theorem dX1_angleAfter_10 : decode cX1_angleAfter 10 = .ok (.iload_n 2, 1) := by decide +kernel
theorem dX1_angleAfter_11 : decode cX1_angleAfter 11 = .ok (.aload_n 0, 1) := by decide +kernel
theorem dX1_angleAfter_12 : decode cX1_angleAfter 12 = .ok (.getfield 27, 3) := by decide +kernel
theorem dX1_angleAfter_15 : decode cX1_angleAfter 15 = .ok (.iload_n 3, 1) := by decide +kernel
theorem dX1_angleAfter_16 : decode cX1_angleAfter 16 = .ok (.iaload, 1) := by decide +kernel
theorem dX1_angleAfter_17 : decode cX1_angleAfter 17 = .ok (.iadd, 1) := by decide +kernel
theorem dX1_angleAfter_18 : decode cX1_angleAfter 18 = .ok (.istore_n 2, 1) := by decide +kernel
theorem dX1_angleAfter_19 : decode cX1_angleAfter 19 = .ok (.iinc 3 1, 3) := by decide +kernel
theorem dX1_angleAfter_22 : decode cX1_angleAfter 22 = .ok (.goto (-18), 3) := by decide +kernel
theorem dX1_angleAfter_25 : decode cX1_angleAfter 25 = .ok (.iload_n 2, 1) := by decide +kernel
theorem dX1_angleAfter_26 : decode cX1_angleAfter 26 = .ok (.ifCond .le 9, 3) := by decide +kernel
theorem dX1_angleAfter_29 : decode cX1_angleAfter 29 = .ok (.iload_n 1, 1) := by decide +kernel
theorem dX1_angleAfter_30 : decode cX1_angleAfter 30 = .ok (.iload_n 2, 1) := by decide +kernel
theorem dX1_angleAfter_31 : decode cX1_angleAfter 31 = .ok (.irem, 1) := by decide +kernel
theorem dX1_angleAfter_32 : decode cX1_angleAfter 32 = .ok (.goto 4, 3) := by decide +kernel
theorem dX1_angleAfter_35 : decode cX1_angleAfter 35 = .ok (.iconst 0, 1) := by decide +kernel
theorem dX1_angleAfter_36 : decode cX1_angleAfter 36 = .ok (.istore_n 3, 1) := by decide +kernel
theorem dX1_angleAfter_37 : decode cX1_angleAfter 37 = .ok (.aload_n 0, 1) := by decide +kernel
theorem dX1_angleAfter_38 : decode cX1_angleAfter 38 = .ok (.getfield 59, 3) := by decide +kernel
theorem dX1_angleAfter_41 : decode cX1_angleAfter 41 = .ok (.istore 4, 2) := by decide +kernel
theorem dX1_angleAfter_43 : decode cX1_angleAfter 43 = .ok (.iconst 0, 1) := by decide +kernel
theorem dX1_angleAfter_44 : decode cX1_angleAfter 44 = .ok (.istore 5, 2) := by decide +kernel
theorem dX1_angleAfter_46 : decode cX1_angleAfter 46 = .ok (.iload 5, 2) := by decide +kernel
theorem dX1_angleAfter_48 : decode cX1_angleAfter 48 = .ok (.bipush 12, 2) := by decide +kernel
theorem dX1_angleAfter_50 : decode cX1_angleAfter 50 = .ok (.if_icmp .ge 38, 3) := by decide +kernel
theorem dX1_angleAfter_53 : decode cX1_angleAfter 53 = .ok (.iload_n 3, 1) := by decide +kernel
theorem dX1_angleAfter_54 : decode cX1_angleAfter 54 = .ok (.aload_n 0, 1) := by decide +kernel
theorem dX1_angleAfter_55 : decode cX1_angleAfter 55 = .ok (.getfield 27, 3) := by decide +kernel
theorem dX1_angleAfter_58 : decode cX1_angleAfter 58 = .ok (.iload 4, 2) := by decide +kernel
theorem dX1_angleAfter_60 : decode cX1_angleAfter 60 = .ok (.iaload, 1) := by decide +kernel
theorem dX1_angleAfter_61 : decode cX1_angleAfter 61 = .ok (.if_icmp .lt 27, 3) := by decide +kernel
theorem dX1_angleAfter_64 : decode cX1_angleAfter 64 = .ok (.iload_n 3, 1) := by decide +kernel
theorem dX1_angleAfter_65 : decode cX1_angleAfter 65 = .ok (.aload_n 0, 1) := by decide +kernel
theorem dX1_angleAfter_66 : decode cX1_angleAfter 66 = .ok (.getfield 27, 3) := by decide +kernel
theorem dX1_angleAfter_69 : decode cX1_angleAfter 69 = .ok (.iload 4, 2) := by decide +kernel
theorem dX1_angleAfter_71 : decode cX1_angleAfter 71 = .ok (.iaload, 1) := by decide +kernel
theorem dX1_angleAfter_72 : decode cX1_angleAfter 72 = .ok (.isub, 1) := by decide +kernel
theorem dX1_angleAfter_73 : decode cX1_angleAfter 73 = .ok (.istore_n 3, 1) := by decide +kernel
theorem dX1_angleAfter_74 : decode cX1_angleAfter 74 = .ok (.aload_n 0, 1) := by decide +kernel
theorem dX1_angleAfter_75 : decode cX1_angleAfter 75 = .ok (.iload 4, 2) := by decide +kernel
theorem dX1_angleAfter_77 : decode cX1_angleAfter 77 = .ok (.invokevirtual 128, 3) := by decide +kernel
theorem dX1_angleAfter_80 : decode cX1_angleAfter 80 = .ok (.istore 4, 2) := by decide +kernel
theorem dX1_angleAfter_82 : decode cX1_angleAfter 82 = .ok (.iinc 5 1, 3) := by decide +kernel
theorem dX1_angleAfter_85 : decode cX1_angleAfter 85 = .ok (.goto (-39), 3) := by decide +kernel
theorem dX1_angleAfter_88 : decode cX1_angleAfter 88 = .ok (.iload 4, 2) := by decide +kernel
theorem dX1_angleAfter_90 : decode cX1_angleAfter 90 = .ok (.ireturn, 1) := by decide +kernel
theorem dX2_init_0 : decode cX2_init 0 = .ok (.aload_n 0, 1) := by decide +kernel
theorem dX2_init_1 : decode cX2_init 1 = .ok (.invokespecial 3, 3) := by decide +kernel
theorem dX2_init_4 : decode cX2_init 4 = .ok (.aload_n 0, 1) := by decide +kernel
theorem dX2_init_5 : decode cX2_init 5 = .ok (.iconst 5, 1) := by decide +kernel
theorem dX2_init_6 : decode cX2_init 6 = .ok (.newarray .int, 2) := by decide +kernel
theorem dX2_init_8 : decode cX2_init 8 = .ok (.putfield 9, 3) := by decide +kernel
theorem dX2_init_11 : decode cX2_init 11 = .ok (.aload_n 0, 1) := by decide +kernel
theorem dX2_init_12 : decode cX2_init 12 = .ok (.iconst 5, 1) := by decide +kernel
theorem dX2_init_13 : decode cX2_init 13 = .ok (.newarray .int, 2) := by decide +kernel
theorem dX2_init_15 : decode cX2_init 15 = .ok (.putfield 15, 3) := by decide +kernel
theorem dX2_init_18 : decode cX2_init 18 = .ok (.aload_n 0, 1) := by decide +kernel
theorem dX2_init_19 : decode cX2_init 19 = .ok (.iconst 5, 1) := by decide +kernel
theorem dX2_init_20 : decode cX2_init 20 = .ok (.iconst 5, 1) := by decide +kernel
theorem dX2_init_21 : decode cX2_init 21 = .ok (.multianewarray 18 2, 4) := by decide +kernel
theorem dX2_init_25 : decode cX2_init 25 = .ok (.putfield 20, 3) := by decide +kernel
theorem dX2_init_28 : decode cX2_init 28 = .ok (.return_, 1) := by decide +kernel
theorem dX2_compare_0 : decode cX2_compare 0 = .ok (.iconst 0, 1) := by decide +kernel
theorem dX2_compare_1 : decode cX2_compare 1 = .ok (.istore_n 3, 1) := by decide +kernel
theorem dX2_compare_2 : decode cX2_compare 2 = .ok (.iload_n 3, 1) := by decide +kernel
theorem dX2_compare_3 : decode cX2_compare 3 = .ok (.iload_n 2, 1) := by decide +kernel
theorem dX2_compare_4 : decode cX2_compare 4 = .ok (.if_icmp .ge 43, 3) := by decide +kernel
theorem dX2_compare_7 : decode cX2_compare 7 = .ok (.iconst 0, 1) := by decide +kernel
theorem dX2_compare_8 : decode cX2_compare 8 = .ok (.istore 4, 2) := by decide +kernel
theorem dX2_compare_10 : decode cX2_compare 10 = .ok (.iload 4, 2) := by decide +kernel
theorem dX2_compare_12 : decode cX2_compare 12 = .ok (.iload_n 3, 1) := by decide +kernel
theorem dX2_compare_13 : decode cX2_compare 13 = .ok (.if_icmp .ge 28, 3) := by decide +kernel
theorem dX2_compare_16 : decode cX2_compare 16 = .ok (.aload_n 0, 1) := by decide +kernel
theorem dX2_compare_17 : decode cX2_compare 17 = .ok (.getfield 20, 3) := by decide +kernel
theorem dX2_compare_20 : decode cX2_compare 20 = .ok (.iload 4, 2) := by decide +kernel
theorem dX2_compare_22 : decode cX2_compare 22 = .ok (.aaload, 1) := by decide +kernel
theorem dX2_compare_23 : decode cX2_compare 23 = .ok (.iload_n 3, 1) := by decide +kernel
theorem dX2_compare_24 : decode cX2_compare 24 = .ok (.aload_n 1, 1) := by decide +kernel
theorem dX2_compare_25 : decode cX2_compare 25 = .ok (.iload 4, 2) := by decide +kernel
theorem dX2_compare_27 : decode cX2_compare 27 = .ok (.aaload, 1) := by decide +kernel
theorem dX2_compare_28 : decode cX2_compare 28 = .ok (.aload_n 1, 1) := by decide +kernel
theorem dX2_compare_29 : decode cX2_compare 29 = .ok (.iload_n 3, 1) := by decide +kernel
theorem dX2_compare_30 : decode cX2_compare 30 = .ok (.aaload, 1) := by decide +kernel
theorem dX2_compare_31 : decode cX2_compare 31 = .ok (.invokestatic 23, 3) := by decide +kernel
theorem dX2_compare_34 : decode cX2_compare 34 = .ok (.iastore, 1) := by decide +kernel
theorem dX2_compare_35 : decode cX2_compare 35 = .ok (.iinc 4 1, 3) := by decide +kernel
theorem dX2_compare_38 : decode cX2_compare 38 = .ok (.goto (-28), 3) := by decide +kernel
theorem dX2_compare_41 : decode cX2_compare 41 = .ok (.iinc 3 1, 3) := by decide +kernel
theorem dX2_compare_44 : decode cX2_compare 44 = .ok (.goto (-42), 3) := by decide +kernel
theorem dX2_compare_47 : decode cX2_compare 47 = .ok (.return_, 1) := by decide +kernel
theorem dX2_lagsOf_0 : decode cX2_lagsOf 0 = .ok (.iconst 0, 1) := by decide +kernel
theorem dX2_lagsOf_1 : decode cX2_lagsOf 1 = .ok (.istore_n 2, 1) := by decide +kernel
theorem dX2_lagsOf_2 : decode cX2_lagsOf 2 = .ok (.iconst 0, 1) := by decide +kernel
theorem dX2_lagsOf_3 : decode cX2_lagsOf 3 = .ok (.istore_n 3, 1) := by decide +kernel
theorem dX2_lagsOf_4 : decode cX2_lagsOf 4 = .ok (.iload_n 3, 1) := by decide +kernel
theorem dX2_lagsOf_5 : decode cX2_lagsOf 5 = .ok (.bipush 12, 2) := by decide +kernel
theorem dX2_lagsOf_7 : decode cX2_lagsOf 7 = .ok (.if_icmp .ge 53, 3) := by decide +kernel
theorem dX2_lagsOf_10 : decode cX2_lagsOf 10 = .ok (.aload_n 1, 1) := by decide +kernel
theorem dX2_lagsOf_11 : decode cX2_lagsOf 11 = .ok (.getfield 27, 3) := by decide +kernel
theorem dX2_lagsOf_14 : decode cX2_lagsOf 14 = .ok (.iload_n 3, 1) := by decide +kernel
theorem dX2_lagsOf_15 : decode cX2_lagsOf 15 = .ok (.invokestatic 33, 3) := by decide +kernel
theorem dX2_lagsOf_18 : decode cX2_lagsOf 18 = .ok (.istore 4, 2) := by decide +kernel
theorem dX2_lagsOf_20 : decode cX2_lagsOf 20 = .ok (.aload_n 1, 1) := by decide +kernel
theorem dX2_lagsOf_21 : decode cX2_lagsOf 21 = .ok (.getfield 37, 3) := by decide +kernel
theorem dX2_lagsOf_24 : decode cX2_lagsOf 24 = .ok (.iload_n 3, 1) := by decide +kernel
theorem dX2_lagsOf_25 : decode cX2_lagsOf 25 = .ok (.invokestatic 33, 3) := by decide +kernel
theorem dX2_lagsOf_28 : decode cX2_lagsOf 28 = .ok (.istore 5, 2) := by decide +kernel
theorem dX2_lagsOf_30 : decode cX2_lagsOf 30 = .ok (.aload_n 0, 1) := by decide +kernel
theorem dX2_lagsOf_31 : decode cX2_lagsOf 31 = .ok (.getfield 27, 3) := by decide +kernel
theorem dX2_lagsOf_34 : decode cX2_lagsOf 34 = .ok (.iload 5, 2) := by decide +kernel
theorem dX2_lagsOf_36 : decode cX2_lagsOf 36 = .ok (.iand, 1) := by decide +kernel
theorem dX2_lagsOf_37 : decode cX2_lagsOf 37 = .ok (.aload_n 0, 1) := by decide +kernel
theorem dX2_lagsOf_38 : decode cX2_lagsOf 38 = .ok (.getfield 37, 3) := by decide +kernel
theorem dX2_lagsOf_41 : decode cX2_lagsOf 41 = .ok (.iload 4, 2) := by decide +kernel
theorem dX2_lagsOf_43 : decode cX2_lagsOf 43 = .ok (.iand, 1) := by decide +kernel
theorem dX2_lagsOf_44 : decode cX2_lagsOf 44 = .ok (.ior, 1) := by decide +kernel
theorem dX2_lagsOf_45 : decode cX2_lagsOf 45 = .ok (.ifCond .ne 9, 3) := by decide +kernel
theorem dX2_lagsOf_48 : decode cX2_lagsOf 48 = .ok (.iload_n 2, 1) := by decide +kernel
theorem dX2_lagsOf_49 : decode cX2_lagsOf 49 = .ok (.iconst 1, 1) := by decide +kernel
theorem dX2_lagsOf_50 : decode cX2_lagsOf 50 = .ok (.iload_n 3, 1) := by decide +kernel
theorem dX2_lagsOf_51 : decode cX2_lagsOf 51 = .ok (.ishl, 1) := by decide +kernel
theorem dX2_lagsOf_52 : decode cX2_lagsOf 52 = .ok (.ior, 1) := by decide +kernel
theorem dX2_lagsOf_53 : decode cX2_lagsOf 53 = .ok (.istore_n 2, 1) := by decide +kernel
theorem dX2_lagsOf_54 : decode cX2_lagsOf 54 = .ok (.iinc 3 1, 3) := by decide +kernel
theorem dX2_lagsOf_57 : decode cX2_lagsOf 57 = .ok (.goto (-53), 3) := by decide +kernel
theorem dX2_lagsOf_60 : decode cX2_lagsOf 60 = .ok (.iload_n 2, 1) := by decide +kernel
theorem dX2_lagsOf_61 : decode cX2_lagsOf 61 = .ok (.ireturn, 1) := by decide +kernel
theorem dX2_lagsOn_0 : decode cX2_lagsOn 0 = .ok (.sipush 4095, 3) := by decide +kernel
theorem dX2_lagsOn_3 : decode cX2_lagsOn 3 = .ok (.istore_n 3, 1) := by decide +kernel
theorem dX2_lagsOn_4 : decode cX2_lagsOn 4 = .ok (.iconst 0, 1) := by decide +kernel
theorem dX2_lagsOn_5 : decode cX2_lagsOn 5 = .ok (.istore 4, 2) := by decide +kernel
theorem dX2_lagsOn_7 : decode cX2_lagsOn 7 = .ok (.iload 4, 2) := by decide +kernel
theorem dX2_lagsOn_9 : decode cX2_lagsOn 9 = .ok (.iload_n 2, 1) := by decide +kernel
theorem dX2_lagsOn_10 : decode cX2_lagsOn 10 = .ok (.if_icmp .ge 42, 3) := by decide +kernel
theorem dX2_lagsOn_13 : decode cX2_lagsOn 13 = .ok (.aload_n 0, 1) := by decide +kernel
theorem dX2_lagsOn_14 : decode cX2_lagsOn 14 = .ok (.getfield 9, 3) := by decide +kernel
theorem dX2_lagsOn_17 : decode cX2_lagsOn 17 = .ok (.iload 4, 2) := by decide +kernel
theorem dX2_lagsOn_19 : decode cX2_lagsOn 19 = .ok (.iaload, 1) := by decide +kernel
theorem dX2_lagsOn_20 : decode cX2_lagsOn 20 = .ok (.iload_n 1, 1) := by decide +kernel
theorem dX2_lagsOn_21 : decode cX2_lagsOn 21 = .ok (.if_icmp .ne 25, 3) := by decide +kernel
theorem dX2_lagsOn_24 : decode cX2_lagsOn 24 = .ok (.iload_n 3, 1) := by decide +kernel
theorem dX2_lagsOn_25 : decode cX2_lagsOn 25 = .ok (.aload_n 0, 1) := by decide +kernel
theorem dX2_lagsOn_26 : decode cX2_lagsOn 26 = .ok (.getfield 20, 3) := by decide +kernel
theorem dX2_lagsOn_29 : decode cX2_lagsOn 29 = .ok (.iload 4, 2) := by decide +kernel
theorem dX2_lagsOn_31 : decode cX2_lagsOn 31 = .ok (.aaload, 1) := by decide +kernel
theorem dX2_lagsOn_32 : decode cX2_lagsOn 32 = .ok (.iload_n 2, 1) := by decide +kernel
theorem dX2_lagsOn_33 : decode cX2_lagsOn 33 = .ok (.iaload, 1) := by decide +kernel
theorem dX2_lagsOn_34 : decode cX2_lagsOn 34 = .ok (.aload_n 0, 1) := by decide +kernel
theorem dX2_lagsOn_35 : decode cX2_lagsOn 35 = .ok (.getfield 15, 3) := by decide +kernel
theorem dX2_lagsOn_38 : decode cX2_lagsOn 38 = .ok (.iload 4, 2) := by decide +kernel
theorem dX2_lagsOn_40 : decode cX2_lagsOn 40 = .ok (.iaload, 1) := by decide +kernel
theorem dX2_lagsOn_41 : decode cX2_lagsOn 41 = .ok (.invokestatic 33, 3) := by decide +kernel
theorem dX2_lagsOn_44 : decode cX2_lagsOn 44 = .ok (.iand, 1) := by decide +kernel
theorem dX2_lagsOn_45 : decode cX2_lagsOn 45 = .ok (.istore_n 3, 1) := by decide +kernel
theorem dX2_lagsOn_46 : decode cX2_lagsOn 46 = .ok (.iinc 4 1, 3) := by decide +kernel
theorem dX2_lagsOn_49 : decode cX2_lagsOn 49 = .ok (.goto (-42), 3) := by decide +kernel
theorem dX2_lagsOn_52 : decode cX2_lagsOn 52 = .ok (.iload_n 3, 1) := by decide +kernel
theorem dX2_lagsOn_53 : decode cX2_lagsOn 53 = .ok (.ireturn, 1) := by decide +kernel
theorem dX3_init_0 : decode cX3_init 0 = .ok (.aload_n 0, 1) := by decide +kernel
theorem dX3_init_1 : decode cX3_init 1 = .ok (.invokespecial 3, 3) := by decide +kernel
theorem dX3_init_4 : decode cX3_init 4 = .ok (.aload_n 0, 1) := by decide +kernel
theorem dX3_init_5 : decode cX3_init 5 = .ok (.bipush 24, 2) := by decide +kernel
theorem dX3_init_7 : decode cX3_init 7 = .ok (.newarray .long, 2) := by decide +kernel
theorem dX3_init_9 : decode cX3_init 9 = .ok (.putfield 9, 3) := by decide +kernel
theorem dX3_init_12 : decode cX3_init 12 = .ok (.aload_n 0, 1) := by decide +kernel
theorem dX3_init_13 : decode cX3_init 13 = .ok (.iconst (-1), 1) := by decide +kernel
theorem dX3_init_14 : decode cX3_init 14 = .ok (.putfield 15, 3) := by decide +kernel
theorem dX3_init_17 : decode cX3_init 17 = .ok (.return_, 1) := by decide +kernel
theorem dX3_isNothing_0 : decode cX3_isNothing 0 = .ok (.aload_n 0, 1) := by decide +kernel
theorem dX3_isNothing_1 : decode cX3_isNothing 1 = .ok (.getfield 15, 3) := by decide +kernel
theorem dX3_isNothing_4 : decode cX3_isNothing 4 = .ok (.iconst (-1), 1) := by decide +kernel
theorem dX3_isNothing_5 : decode cX3_isNothing 5 = .ok (.if_icmp .ne 7, 3) := by decide +kernel
theorem dX3_isNothing_8 : decode cX3_isNothing 8 = .ok (.iconst 1, 1) := by decide +kernel
theorem dX3_isNothing_9 : decode cX3_isNothing 9 = .ok (.goto 4, 3) := by decide +kernel
theorem dX3_isNothing_12 : decode cX3_isNothing 12 = .ok (.iconst 0, 1) := by decide +kernel
theorem dX3_isNothing_13 : decode cX3_isNothing 13 = .ok (.ireturn, 1) := by decide +kernel
theorem dX3_begin_0 : decode cX3_begin 0 = .ok (.aload_n 0, 1) := by decide +kernel
theorem dX3_begin_1 : decode cX3_begin 1 = .ok (.iload_n 1, 1) := by decide +kernel
theorem dX3_begin_2 : decode cX3_begin 2 = .ok (.putfield 15, 3) := by decide +kernel
theorem dX3_begin_5 : decode cX3_begin 5 = .ok (.aload_n 0, 1) := by decide +kernel
theorem dX3_begin_6 : decode cX3_begin 6 = .ok (.iload_n 2, 1) := by decide +kernel
theorem dX3_begin_7 : decode cX3_begin 7 = .ok (.putfield 19, 3) := by decide +kernel
theorem dX3_begin_10 : decode cX3_begin 10 = .ok (.aload_n 0, 1) := by decide +kernel
theorem dX3_begin_11 : decode cX3_begin 11 = .ok (.getfield 9, 3) := by decide +kernel
theorem dX3_begin_14 : decode cX3_begin 14 = .ok (.lconst 0, 1) := by decide +kernel
theorem dX3_begin_15 : decode cX3_begin 15 = .ok (.invokestatic 22, 3) := by decide +kernel
theorem dX3_begin_18 : decode cX3_begin 18 = .ok (.return_, 1) := by decide +kernel
theorem dX3_end_0 : decode cX3_end 0 = .ok (.aload_n 0, 1) := by decide +kernel
theorem dX3_end_1 : decode cX3_end 1 = .ok (.iconst (-1), 1) := by decide +kernel
theorem dX3_end_2 : decode cX3_end 2 = .ok (.putfield 15, 3) := by decide +kernel
theorem dX3_end_5 : decode cX3_end 5 = .ok (.aload_n 0, 1) := by decide +kernel
theorem dX3_end_6 : decode cX3_end 6 = .ok (.getfield 19, 3) := by decide +kernel
theorem dX3_end_9 : decode cX3_end 9 = .ok (.ireturn, 1) := by decide +kernel
theorem dX3_hasItems_0 : decode cX3_hasItems 0 = .ok (.iload_n 1, 1) := by decide +kernel
theorem dX3_hasItems_1 : decode cX3_hasItems 1 = .ok (.ifCond .lt 21, 3) := by decide +kernel
theorem dX3_hasItems_4 : decode cX3_hasItems 4 = .ok (.iload_n 2, 1) := by decide +kernel
theorem dX3_hasItems_5 : decode cX3_hasItems 5 = .ok (.ifCond .lt 17, 3) := by decide +kernel
theorem dX3_hasItems_8 : decode cX3_hasItems 8 = .ok (.iload_n 1, 1) := by decide +kernel
theorem dX3_hasItems_9 : decode cX3_hasItems 9 = .ok (.aload_n 0, 1) := by decide +kernel
theorem dX3_hasItems_10 : decode cX3_hasItems 10 = .ok (.getfield 19, 3) := by decide +kernel
theorem dX3_hasItems_13 : decode cX3_hasItems 13 = .ok (.iload_n 2, 1) := by decide +kernel
theorem dX3_hasItems_14 : decode cX3_hasItems 14 = .ok (.isub, 1) := by decide +kernel
theorem dX3_hasItems_15 : decode cX3_hasItems 15 = .ok (.if_icmp .gt 7, 3) := by decide +kernel
theorem dX3_hasItems_18 : decode cX3_hasItems 18 = .ok (.iconst 1, 1) := by decide +kernel
theorem dX3_hasItems_19 : decode cX3_hasItems 19 = .ok (.goto 4, 3) := by decide +kernel
theorem dX3_hasItems_22 : decode cX3_hasItems 22 = .ok (.iconst 0, 1) := by decide +kernel
theorem dX3_hasItems_23 : decode cX3_hasItems 23 = .ok (.ireturn, 1) := by decide +kernel
theorem dX3_put_0 : decode cX3_put 0 = .ok (.aload_n 0, 1) := by decide +kernel
theorem dX3_put_1 : decode cX3_put 1 = .ok (.getfield 15, 3) := by decide +kernel
theorem dX3_put_4 : decode cX3_put 4 = .ok (.lookupswitch 53 #[(0, 28), (1, 41)], 28) := by decide +kernel
theorem dX3_put_32 : decode cX3_put 32 = .ok (.aload_n 0, 1) := by decide +kernel
theorem dX3_put_33 : decode cX3_put 33 = .ok (.getfield 9, 3) := by decide +kernel
theorem dX3_put_36 : decode cX3_put 36 = .ok (.iload_n 1, 1) := by decide +kernel
theorem dX3_put_37 : decode cX3_put 37 = .ok (.lload_n 2, 1) := by decide +kernel
theorem dX3_put_38 : decode cX3_put 38 = .ok (.l2i, 1) := by decide +kernel
theorem dX3_put_39 : decode cX3_put 39 = .ok (.i2s, 1) := by decide +kernel
theorem dX3_put_40 : decode cX3_put 40 = .ok (.i2l, 1) := by decide +kernel
theorem dX3_put_41 : decode cX3_put 41 = .ok (.lastore, 1) := by decide +kernel
theorem dX3_put_42 : decode cX3_put 42 = .ok (.goto 22, 3) := by decide +kernel
theorem dX3_put_45 : decode cX3_put 45 = .ok (.aload_n 0, 1) := by decide +kernel
theorem dX3_put_46 : decode cX3_put 46 = .ok (.getfield 9, 3) := by decide +kernel
theorem dX3_put_49 : decode cX3_put 49 = .ok (.iload_n 1, 1) := by decide +kernel
theorem dX3_put_50 : decode cX3_put 50 = .ok (.lload_n 2, 1) := by decide +kernel
theorem dX3_put_51 : decode cX3_put 51 = .ok (.l2i, 1) := by decide +kernel
theorem dX3_put_52 : decode cX3_put 52 = .ok (.i2l, 1) := by decide +kernel
theorem dX3_put_53 : decode cX3_put 53 = .ok (.lastore, 1) := by decide +kernel
theorem dX3_put_54 : decode cX3_put 54 = .ok (.goto 10, 3) := by decide +kernel
theorem dX3_put_57 : decode cX3_put 57 = .ok (.aload_n 0, 1) := by decide +kernel
theorem dX3_put_58 : decode cX3_put 58 = .ok (.getfield 9, 3) := by decide +kernel
theorem dX3_put_61 : decode cX3_put 61 = .ok (.iload_n 1, 1) := by decide +kernel
theorem dX3_put_62 : decode cX3_put 62 = .ok (.lload_n 2, 1) := by decide +kernel
theorem dX3_put_63 : decode cX3_put 63 = .ok (.lastore, 1) := by decide +kernel
theorem dX3_put_64 : decode cX3_put 64 = .ok (.return_, 1) := by decide +kernel
theorem dX4_init_0 : decode cX4_init 0 = .ok (.aload_n 0, 1) := by decide +kernel
theorem dX4_init_1 : decode cX4_init 1 = .ok (.invokespecial 3, 3) := by decide +kernel
theorem dX4_init_4 : decode cX4_init 4 = .ok (.aload_n 0, 1) := by decide +kernel
theorem dX4_init_5 : decode cX4_init 5 = .ok (.bipush 40, 2) := by decide +kernel
theorem dX4_init_7 : decode cX4_init 7 = .ok (.newarray .int, 2) := by decide +kernel
theorem dX4_init_9 : decode cX4_init 9 = .ok (.putfield 9, 3) := by decide +kernel
theorem dX4_init_12 : decode cX4_init 12 = .ok (.aload_n 0, 1) := by decide +kernel
theorem dX4_init_13 : decode cX4_init 13 = .ok (.bipush 12, 2) := by decide +kernel
theorem dX4_init_15 : decode cX4_init 15 = .ok (.newarray .int, 2) := by decide +kernel
theorem dX4_init_17 : decode cX4_init 17 = .ok (.putfield 15, 3) := by decide +kernel
theorem dX4_init_20 : decode cX4_init 20 = .ok (.return_, 1) := by decide +kernel
theorem dX4_append_0 : decode cX4_append 0 = .ok (.aload_n 0, 1) := by decide +kernel
theorem dX4_append_1 : decode cX4_append 1 = .ok (.getfield 18, 3) := by decide +kernel
theorem dX4_append_4 : decode cX4_append 4 = .ok (.iload_n 3, 1) := by decide +kernel
theorem dX4_append_5 : decode cX4_append 5 = .ok (.iadd, 1) := by decide +kernel
theorem dX4_append_6 : decode cX4_append 6 = .ok (.bipush 40, 2) := by decide +kernel
theorem dX4_append_8 : decode cX4_append 8 = .ok (.if_icmp .le 6, 3) := by decide +kernel
theorem dX4_append_11 : decode cX4_append 11 = .ok (.bipush (-3), 2) := by decide +kernel
theorem dX4_append_13 : decode cX4_append 13 = .ok (.ireturn, 1) := by decide +kernel
theorem dX4_append_14 : decode cX4_append 14 = .ok (.iload_n 3, 1) := by decide +kernel
theorem dX4_append_15 : decode cX4_append 15 = .ok (.iconst 1, 1) := by decide +kernel
theorem dX4_append_16 : decode cX4_append 16 = .ok (.isub, 1) := by decide +kernel
theorem dX4_append_17 : decode cX4_append 17 = .ok (.istore 4, 2) := by decide +kernel
theorem dX4_append_19 : decode cX4_append 19 = .ok (.iload 4, 2) := by decide +kernel
theorem dX4_append_21 : decode cX4_append 21 = .ok (.ifCond .lt 34, 3) := by decide +kernel
theorem dX4_append_24 : decode cX4_append 24 = .ok (.aload_n 0, 1) := by decide +kernel
theorem dX4_append_25 : decode cX4_append 25 = .ok (.getfield 9, 3) := by decide +kernel
theorem dX4_append_28 : decode cX4_append 28 = .ok (.aload_n 0, 1) := by decide +kernel
theorem dX4_append_29 : decode cX4_append 29 = .ok (.getfield 18, 3) := by decide +kernel
theorem dX4_append_32 : decode cX4_append 32 = .ok (.lload_n 1, 1) := by decide +kernel
theorem dX4_append_33 : decode cX4_append 33 = .ok (.iload 4, 2) := by decide +kernel
theorem dX4_append_35 : decode cX4_append 35 = .ok (.invokestatic 22, 3) := by decide +kernel
theorem dX4_append_38 : decode cX4_append 38 = .ok (.iastore, 1) := by decide +kernel
theorem dX4_append_39 : decode cX4_append 39 = .ok (.aload_n 0, 1) := by decide +kernel
theorem dX4_append_40 : decode cX4_append 40 = .ok (.dup, 1) := by decide +kernel
theorem dX4_append_41 : decode cX4_append 41 = .ok (.getfield 18, 3) := by decide +kernel
theorem dX4_append_44 : decode cX4_append 44 = .ok (.iconst 1, 1) := by decide +kernel
theorem dX4_append_45 : decode cX4_append 45 = .ok (.iadd, 1) := by decide +kernel
theorem dX4_append_46 : decode cX4_append 46 = .ok (.putfield 18, 3) := by decide +kernel
theorem dX4_append_49 : decode cX4_append 49 = .ok (.iinc 4 (-1), 3) := by decide +kernel
theorem dX4_append_52 : decode cX4_append 52 = .ok (.goto (-33), 3) := by decide +kernel
theorem dX4_append_55 : decode cX4_append 55 = .ok (.aload_n 0, 1) := by decide +kernel
theorem dX4_append_56 : decode cX4_append 56 = .ok (.getfield 18, 3) := by decide +kernel
theorem dX4_append_59 : decode cX4_append 59 = .ok (.ireturn, 1) := by decide +kernel
theorem dX4_clear_0 : decode cX4_clear 0 = .ok (.aload_n 0, 1) := by decide +kernel
theorem dX4_clear_1 : decode cX4_clear 1 = .ok (.iconst 0, 1) := by decide +kernel
theorem dX4_clear_2 : decode cX4_clear 2 = .ok (.putfield 18, 3) := by decide +kernel
theorem dX4_clear_5 : decode cX4_clear 5 = .ok (.return_, 1) := by decide +kernel
theorem dX4_read_0 : decode cX4_read 0 = .ok (.iconst 0, 1) := by decide +kernel
theorem dX4_read_1 : decode cX4_read 1 = .ok (.istore_n 2, 1) := by decide +kernel
theorem dX4_read_2 : decode cX4_read 2 = .ok (.iconst 0, 1) := by decide +kernel
theorem dX4_read_3 : decode cX4_read 3 = .ok (.istore_n 3, 1) := by decide +kernel
theorem dX4_read_4 : decode cX4_read 4 = .ok (.iload_n 3, 1) := by decide +kernel
theorem dX4_read_5 : decode cX4_read 5 = .ok (.aload_n 0, 1) := by decide +kernel
theorem dX4_read_6 : decode cX4_read 6 = .ok (.getfield 18, 3) := by decide +kernel
theorem dX4_read_9 : decode cX4_read 9 = .ok (.if_icmp .ge 77, 3) := by decide +kernel
theorem dX4_read_12 : decode cX4_read 12 = .ok (.aload_n 0, 1) := by decide +kernel
theorem dX4_read_13 : decode cX4_read 13 = .ok (.getfield 9, 3) := by decide +kernel
theorem dX4_read_16 : decode cX4_read 16 = .ok (.iload_n 3, 1) := by decide +kernel
theorem dX4_read_17 : decode cX4_read 17 = .ok (.iaload, 1) := by decide +kernel
theorem dX4_read_18 : decode cX4_read 18 = .ok (.bipush 32, 2) := by decide +kernel
theorem dX4_read_20 : decode cX4_read 20 = .ok (.if_icmp .ne 6, 3) := by decide +kernel
theorem dX4_read_23 : decode cX4_read 23 = .ok (.goto 57, 3) := by decide +kernel
theorem dX4_read_26 : decode cX4_read 26 = .ok (.iload_n 1, 1) := by decide +kernel
theorem dX4_read_27 : decode cX4_read 27 = .ok (.ifCond .eq 15, 3) := by decide +kernel
theorem dX4_read_30 : decode cX4_read 30 = .ok (.aload_n 0, 1) := by decide +kernel
theorem dX4_read_31 : decode cX4_read 31 = .ok (.getfield 9, 3) := by decide +kernel
theorem dX4_read_34 : decode cX4_read 34 = .ok (.iload_n 3, 1) := by decide +kernel
theorem dX4_read_35 : decode cX4_read 35 = .ok (.iaload, 1) := by decide +kernel
theorem dX4_read_36 : decode cX4_read 36 = .ok (.invokestatic 26, 3) := by decide +kernel
theorem dX4_read_39 : decode cX4_read 39 = .ok (.goto 12, 3) := by decide +kernel
theorem dX4_read_42 : decode cX4_read 42 = .ok (.aload_n 0, 1) := by decide +kernel
theorem dX4_read_43 : decode cX4_read 43 = .ok (.getfield 9, 3) := by decide +kernel
theorem dX4_read_46 : decode cX4_read 46 = .ok (.iload_n 3, 1) := by decide +kernel
theorem dX4_read_47 : decode cX4_read 47 = .ok (.iaload, 1) := by decide +kernel
theorem dX4_read_48 : decode cX4_read 48 = .ok (.invokestatic 30, 3) := by decide +kernel
theorem dX4_read_51 : decode cX4_read 51 = .ok (.istore 4, 2) := by decide +kernel
theorem dX4_read_53 : decode cX4_read 53 = .ok (.iload 4, 2) := by decide +kernel
theorem dX4_read_55 : decode cX4_read 55 = .ok (.ifCond .lt 9, 3) := by decide +kernel
theorem dX4_read_58 : decode cX4_read 58 = .ok (.iload_n 2, 1) := by decide +kernel
theorem dX4_read_59 : decode cX4_read 59 = .ok (.bipush 12, 2) := by decide +kernel
theorem dX4_read_61 : decode cX4_read 61 = .ok (.if_icmp .lt 8, 3) := by decide +kernel
theorem dX4_read_64 : decode cX4_read 64 = .ok (.bipush (-20), 2) := by decide +kernel
theorem dX4_read_66 : decode cX4_read 66 = .ok (.iload_n 3, 1) := by decide +kernel
theorem dX4_read_67 : decode cX4_read 67 = .ok (.isub, 1) := by decide +kernel
theorem dX4_read_68 : decode cX4_read 68 = .ok (.ireturn, 1) := by decide +kernel
theorem dX4_read_69 : decode cX4_read 69 = .ok (.aload_n 0, 1) := by decide +kernel
theorem dX4_read_70 : decode cX4_read 70 = .ok (.getfield 15, 3) := by decide +kernel
theorem dX4_read_73 : decode cX4_read 73 = .ok (.iload_n 2, 1) := by decide +kernel
theorem dX4_read_74 : decode cX4_read 74 = .ok (.iload 4, 2) := by decide +kernel
theorem dX4_read_76 : decode cX4_read 76 = .ok (.iastore, 1) := by decide +kernel
theorem dX4_read_77 : decode cX4_read 77 = .ok (.iinc 2 1, 3) := by decide +kernel
theorem dX4_read_80 : decode cX4_read 80 = .ok (.iinc 3 1, 3) := by decide +kernel
theorem dX4_read_83 : decode cX4_read 83 = .ok (.goto (-79), 3) := by decide +kernel
theorem dX4_read_86 : decode cX4_read 86 = .ok (.iload_n 2, 1) := by decide +kernel
theorem dX4_read_87 : decode cX4_read 87 = .ok (.bipush 12, 2) := by decide +kernel
theorem dX4_read_89 : decode cX4_read 89 = .ok (.if_icmp .ge 13, 3) := by decide +kernel
theorem dX4_read_92 : decode cX4_read 92 = .ok (.bipush (-20), 2) := by decide +kernel
theorem dX4_read_94 : decode cX4_read 94 = .ok (.aload_n 0, 1) := by decide +kernel
theorem dX4_read_95 : decode cX4_read 95 = .ok (.getfield 18, 3) := by decide +kernel
theorem dX4_read_98 : decode cX4_read 98 = .ok (.isub, 1) := by decide +kernel
theorem dX4_read_99 : decode cX4_read 99 = .ok (.goto 4, 3) := by decide +kernel
theorem dX4_read_102 : decode cX4_read 102 = .ok (.iconst 0, 1) := by decide +kernel
theorem dX4_read_103 : decode cX4_read 103 = .ok (.ireturn, 1) := by decide +kernel
theorem dX4_digitOf_0 : decode cX4_digitOf 0 = .ok (.iload_n 0, 1) := by decide +kernel
theorem dX4_digitOf_1 : decode cX4_digitOf 1 = .ok (.bipush 48, 2) := by decide +kernel
theorem dX4_digitOf_3 : decode cX4_digitOf 3 = .ok (.bipush 57, 2) := by decide +kernel
theorem dX4_digitOf_5 : decode cX4_digitOf 5 = .ok (.invokestatic 33, 3) := by decide +kernel
theorem dX4_digitOf_8 : decode cX4_digitOf 8 = .ok (.ifCond .eq 10, 3) := by decide +kernel
theorem dX4_digitOf_11 : decode cX4_digitOf 11 = .ok (.iload_n 0, 1) := by decide +kernel
theorem dX4_digitOf_12 : decode cX4_digitOf 12 = .ok (.bipush 48, 2) := by decide +kernel
theorem dX4_digitOf_14 : decode cX4_digitOf 14 = .ok (.isub, 1) := by decide +kernel
theorem dX4_digitOf_15 : decode cX4_digitOf 15 = .ok (.goto 4, 3) := by decide +kernel
theorem dX4_digitOf_18 : decode cX4_digitOf 18 = .ok (.iconst (-1), 1) := by decide +kernel
theorem dX4_digitOf_19 : decode cX4_digitOf 19 = .ok (.ireturn, 1) := by decide +kernel
theorem dX4_wishSignOf_0 : decode cX4_wishSignOf 0 = .ok (.iload_n 0, 1) := by decide +kernel
theorem dX4_wishSignOf_1 : decode cX4_wishSignOf 1 = .ok (.lookupswitch 37 #[(46, 35), (100, 35), (117, 35)], 35) := by decide +kernel
theorem dX4_wishSignOf_36 : decode cX4_wishSignOf 36 = .ok (.iload_n 0, 1) := by decide +kernel
theorem dX4_wishSignOf_37 : decode cX4_wishSignOf 37 = .ok (.ireturn, 1) := by decide +kernel
theorem dX4_wishSignOf_38 : decode cX4_wishSignOf 38 = .ok (.iconst (-1), 1) := by decide +kernel
theorem dX4_wishSignOf_39 : decode cX4_wishSignOf 39 = .ok (.ireturn, 1) := by decide +kernel
theorem dX5_init_0 : decode cX5_init 0 = .ok (.aload_n 0, 1) := by decide +kernel
theorem dX5_init_1 : decode cX5_init 1 = .ok (.invokespecial 1, 3) := by decide +kernel
theorem dX5_init_4 : decode cX5_init 4 = .ok (.aload_n 0, 1) := by decide +kernel
theorem dX5_init_5 : decode cX5_init 5 = .ok (.new 7, 3) := by decide +kernel
theorem dX5_init_8 : decode cX5_init 8 = .ok (.dup, 1) := by decide +kernel
theorem dX5_init_9 : decode cX5_init 9 = .ok (.invokespecial 9, 3) := by decide +kernel
theorem dX5_init_12 : decode cX5_init 12 = .ok (.putfield 10, 3) := by decide +kernel
theorem dX5_init_15 : decode cX5_init 15 = .ok (.aload_n 0, 1) := by decide +kernel
theorem dX5_init_16 : decode cX5_init 16 = .ok (.new 7, 3) := by decide +kernel
theorem dX5_init_19 : decode cX5_init 19 = .ok (.dup, 1) := by decide +kernel
theorem dX5_init_20 : decode cX5_init 20 = .ok (.invokespecial 9, 3) := by decide +kernel
theorem dX5_init_23 : decode cX5_init 23 = .ok (.putfield 16, 3) := by decide +kernel
theorem dX5_init_26 : decode cX5_init 26 = .ok (.aload_n 0, 1) := by decide +kernel
theorem dX5_init_27 : decode cX5_init 27 = .ok (.new 19, 3) := by decide +kernel
theorem dX5_init_30 : decode cX5_init 30 = .ok (.dup, 1) := by decide +kernel
theorem dX5_init_31 : decode cX5_init 31 = .ok (.invokespecial 21, 3) := by decide +kernel
theorem dX5_init_34 : decode cX5_init 34 = .ok (.putfield 22, 3) := by decide +kernel
theorem dX5_init_37 : decode cX5_init 37 = .ok (.aload_n 0, 1) := by decide +kernel
theorem dX5_init_38 : decode cX5_init 38 = .ok (.iconst 4, 1) := by decide +kernel
theorem dX5_init_39 : decode cX5_init 39 = .ok (.anewarray 26, 3) := by decide +kernel
theorem dX5_init_42 : decode cX5_init 42 = .ok (.putfield 28, 3) := by decide +kernel
theorem dX5_init_45 : decode cX5_init 45 = .ok (.iconst 0, 1) := by decide +kernel
theorem dX5_init_46 : decode cX5_init 46 = .ok (.istore_n 1, 1) := by decide +kernel
theorem dX5_init_47 : decode cX5_init 47 = .ok (.iload_n 1, 1) := by decide +kernel
theorem dX5_init_48 : decode cX5_init 48 = .ok (.iconst 4, 1) := by decide +kernel
theorem dX5_init_49 : decode cX5_init 49 = .ok (.if_icmp .ge 22, 3) := by decide +kernel
theorem dX5_init_52 : decode cX5_init 52 = .ok (.aload_n 0, 1) := by decide +kernel
theorem dX5_init_53 : decode cX5_init 53 = .ok (.getfield 28, 3) := by decide +kernel
theorem dX5_init_56 : decode cX5_init 56 = .ok (.iload_n 1, 1) := by decide +kernel
theorem dX5_init_57 : decode cX5_init 57 = .ok (.new 26, 3) := by decide +kernel
theorem dX5_init_60 : decode cX5_init 60 = .ok (.dup, 1) := by decide +kernel
theorem dX5_init_61 : decode cX5_init 61 = .ok (.invokespecial 32, 3) := by decide +kernel
theorem dX5_init_64 : decode cX5_init 64 = .ok (.aastore, 1) := by decide +kernel
theorem dX5_init_65 : decode cX5_init 65 = .ok (.iinc 1 1, 3) := by decide +kernel
theorem dX5_init_68 : decode cX5_init 68 = .ok (.goto (-21), 3) := by decide +kernel
theorem dX5_init_71 : decode cX5_init 71 = .ok (.aload_n 0, 1) := by decide +kernel
theorem dX5_init_72 : decode cX5_init 72 = .ok (.new 33, 3) := by decide +kernel
theorem dX5_init_75 : decode cX5_init 75 = .ok (.dup, 1) := by decide +kernel
theorem dX5_init_76 : decode cX5_init 76 = .ok (.invokespecial 35, 3) := by decide +kernel
theorem dX5_init_79 : decode cX5_init 79 = .ok (.putfield 36, 3) := by decide +kernel
theorem dX5_init_82 : decode cX5_init 82 = .ok (.aload_n 0, 1) := by decide +kernel
theorem dX5_init_83 : decode cX5_init 83 = .ok (.bipush 12, 2) := by decide +kernel
theorem dX5_init_85 : decode cX5_init 85 = .ok (.newarray .int, 2) := by decide +kernel
theorem dX5_init_87 : decode cX5_init 87 = .ok (.putfield 40, 3) := by decide +kernel
theorem dX5_init_90 : decode cX5_init 90 = .ok (.return_, 1) := by decide +kernel
theorem dX5_type_0 : decode cX5_type 0 = .ok (.iload_n 3, 1) := by decide +kernel
theorem dX5_type_1 : decode cX5_type 1 = .ok (.iconst 1, 1) := by decide +kernel
theorem dX5_type_2 : decode cX5_type 2 = .ok (.bipush 8, 2) := by decide +kernel
theorem dX5_type_4 : decode cX5_type 4 = .ok (.invokestatic 44, 3) := by decide +kernel
theorem dX5_type_7 : decode cX5_type 7 = .ok (.ifCond .eq 11, 3) := by decide +kernel
theorem dX5_type_10 : decode cX5_type 10 = .ok (.lload_n 1, 1) := by decide +kernel
theorem dX5_type_11 : decode cX5_type 11 = .ok (.iload_n 3, 1) := by decide +kernel
theorem dX5_type_12 : decode cX5_type 12 = .ok (.invokestatic 48, 3) := by decide +kernel
theorem dX5_type_15 : decode cX5_type 15 = .ok (.ifCond .ne 5, 3) := by decide +kernel
theorem dX5_type_18 : decode cX5_type 18 = .ok (.iconst (-1), 1) := by decide +kernel
theorem dX5_type_19 : decode cX5_type 19 = .ok (.ireturn, 1) := by decide +kernel
theorem dX5_type_20 : decode cX5_type 20 = .ok (.aload_n 0, 1) := by decide +kernel
theorem dX5_type_21 : decode cX5_type 21 = .ok (.getfield 22, 3) := by decide +kernel
theorem dX5_type_24 : decode cX5_type 24 = .ok (.lload_n 1, 1) := by decide +kernel
theorem dX5_type_25 : decode cX5_type 25 = .ok (.iload_n 3, 1) := by decide +kernel
theorem dX5_type_26 : decode cX5_type 26 = .ok (.invokevirtual 52, 3) := by decide +kernel
theorem dX5_type_29 : decode cX5_type 29 = .ok (.ireturn, 1) := by decide +kernel
theorem dX5_cam_0 : decode cX5_cam 0 = .ok (.aload_n 0, 1) := by decide +kernel
theorem dX5_cam_1 : decode cX5_cam 1 = .ok (.iconst 0, 1) := by decide +kernel
theorem dX5_cam_2 : decode cX5_cam 2 = .ok (.invokevirtual 56, 3) := by decide +kernel
theorem dX5_cam_5 : decode cX5_cam 5 = .ok (.istore_n 1, 1) := by decide +kernel
theorem dX5_cam_6 : decode cX5_cam 6 = .ok (.iload_n 1, 1) := by decide +kernel
theorem dX5_cam_7 : decode cX5_cam 7 = .ok (.ifCond .ge 5, 3) := by decide +kernel
theorem dX5_cam_10 : decode cX5_cam 10 = .ok (.iload_n 1, 1) := by decide +kernel
theorem dX5_cam_11 : decode cX5_cam 11 = .ok (.ireturn, 1) := by decide +kernel
theorem dX5_cam_12 : decode cX5_cam 12 = .ok (.aload_n 0, 1) := by decide +kernel
theorem dX5_cam_13 : decode cX5_cam 13 = .ok (.getfield 10, 3) := by decide +kernel
theorem dX5_cam_16 : decode cX5_cam 16 = .ok (.aload_n 0, 1) := by decide +kernel
theorem dX5_cam_17 : decode cX5_cam 17 = .ok (.getfield 22, 3) := by decide +kernel
theorem dX5_cam_20 : decode cX5_cam 20 = .ok (.getfield 60, 3) := by decide +kernel
theorem dX5_cam_23 : decode cX5_cam 23 = .ok (.invokevirtual 63, 3) := by decide +kernel
theorem dX5_cam_26 : decode cX5_cam 26 = .ok (.ireturn, 1) := by decide +kernel
theorem dX5_cut_0 : decode cX5_cut 0 = .ok (.aload_n 0, 1) := by decide +kernel
theorem dX5_cut_1 : decode cX5_cut 1 = .ok (.iload_n 1, 1) := by decide +kernel
theorem dX5_cut_2 : decode cX5_cut 2 = .ok (.invokevirtual 67, 3) := by decide +kernel
theorem dX5_cut_5 : decode cX5_cut 5 = .ok (.ifCond .eq 20, 3) := by decide +kernel
theorem dX5_cut_8 : decode cX5_cut 8 = .ok (.iload_n 2, 1) := by decide +kernel
theorem dX5_cut_9 : decode cX5_cut 9 = .ok (.invokestatic 71, 3) := by decide +kernel
theorem dX5_cut_12 : decode cX5_cut 12 = .ok (.ifCond .eq 13, 3) := by decide +kernel
theorem dX5_cut_15 : decode cX5_cut 15 = .ok (.iload_n 3, 1) := by decide +kernel
theorem dX5_cut_16 : decode cX5_cut 16 = .ok (.iconst 0, 1) := by decide +kernel
theorem dX5_cut_17 : decode cX5_cut 17 = .ok (.bipush 9, 2) := by decide +kernel
theorem dX5_cut_19 : decode cX5_cut 19 = .ok (.invokestatic 44, 3) := by decide +kernel
theorem dX5_cut_22 : decode cX5_cut 22 = .ok (.ifCond .ne 5, 3) := by decide +kernel
theorem dX5_cut_25 : decode cX5_cut 25 = .ok (.iconst (-1), 1) := by decide +kernel
theorem dX5_cut_26 : decode cX5_cut 26 = .ok (.ireturn, 1) := by decide +kernel
theorem dX5_cut_27 : decode cX5_cut 27 = .ok (.aload_n 0, 1) := by decide +kernel
theorem dX5_cut_28 : decode cX5_cut 28 = .ok (.getfield 10, 3) := by decide +kernel
theorem dX5_cut_31 : decode cX5_cut 31 = .ok (.getfield 74, 3) := by decide +kernel
theorem dX5_cut_34 : decode cX5_cut 34 = .ok (.iload_n 1, 1) := by decide +kernel
theorem dX5_cut_35 : decode cX5_cut 35 = .ok (.aaload, 1) := by decide +kernel
theorem dX5_cut_36 : decode cX5_cut 36 = .ok (.iload_n 2, 1) := by decide +kernel
theorem dX5_cut_37 : decode cX5_cut 37 = .ok (.iaload, 1) := by decide +kernel
theorem dX5_cut_38 : decode cX5_cut 38 = .ok (.istore 4, 2) := by decide +kernel
theorem dX5_cut_40 : decode cX5_cut 40 = .ok (.aload_n 0, 1) := by decide +kernel
theorem dX5_cut_41 : decode cX5_cut 41 = .ok (.getfield 10, 3) := by decide +kernel
theorem dX5_cut_44 : decode cX5_cut 44 = .ok (.getfield 74, 3) := by decide +kernel
theorem dX5_cut_47 : decode cX5_cut 47 = .ok (.iload_n 1, 1) := by decide +kernel
theorem dX5_cut_48 : decode cX5_cut 48 = .ok (.aaload, 1) := by decide +kernel
theorem dX5_cut_49 : decode cX5_cut 49 = .ok (.iload_n 2, 1) := by decide +kernel
theorem dX5_cut_50 : decode cX5_cut 50 = .ok (.iload_n 3, 1) := by decide +kernel
theorem dX5_cut_51 : decode cX5_cut 51 = .ok (.iastore, 1) := by decide +kernel
theorem dX5_cut_52 : decode cX5_cut 52 = .ok (.iload 4, 2) := by decide +kernel
theorem dX5_cut_54 : decode cX5_cut 54 = .ok (.ireturn, 1) := by decide +kernel
theorem dX5_told_0 : decode cX5_told 0 = .ok (.aload_n 0, 1) := by decide +kernel
theorem dX5_told_1 : decode cX5_told 1 = .ok (.iload_n 1, 1) := by decide +kernel
theorem dX5_told_2 : decode cX5_told 2 = .ok (.invokevirtual 67, 3) := by decide +kernel
theorem dX5_told_5 : decode cX5_told 5 = .ok (.ifCond .eq 10, 3) := by decide +kernel
theorem dX5_told_8 : decode cX5_told 8 = .ok (.iload_n 2, 1) := by decide +kernel
theorem dX5_told_9 : decode cX5_told 9 = .ok (.invokestatic 71, 3) := by decide +kernel
theorem dX5_told_12 : decode cX5_told 12 = .ok (.ifCond .ne 5, 3) := by decide +kernel
theorem dX5_told_15 : decode cX5_told 15 = .ok (.iconst (-1), 1) := by decide +kernel
theorem dX5_told_16 : decode cX5_told 16 = .ok (.ireturn, 1) := by decide +kernel
theorem dX5_told_17 : decode cX5_told 17 = .ok (.aload_n 0, 1) := by decide +kernel
theorem dX5_told_18 : decode cX5_told 18 = .ok (.getfield 10, 3) := by decide +kernel
theorem dX5_told_21 : decode cX5_told 21 = .ok (.getfield 74, 3) := by decide +kernel
theorem dX5_told_24 : decode cX5_told 24 = .ok (.iload_n 1, 1) := by decide +kernel
theorem dX5_told_25 : decode cX5_told 25 = .ok (.aaload, 1) := by decide +kernel
theorem dX5_told_26 : decode cX5_told 26 = .ok (.iload_n 2, 1) := by decide +kernel
theorem dX5_told_27 : decode cX5_told 27 = .ok (.iaload, 1) := by decide +kernel
theorem dX5_told_28 : decode cX5_told 28 = .ok (.ireturn, 1) := by decide +kernel
theorem dX5_figure_0 : decode cX5_figure 0 = .ok (.iload_n 1, 1) := by decide +kernel
theorem dX5_figure_1 : decode cX5_figure 1 = .ok (.invokestatic 78, 3) := by decide +kernel
theorem dX5_figure_4 : decode cX5_figure 4 = .ok (.ifCond .eq 26, 3) := by decide +kernel
theorem dX5_figure_7 : decode cX5_figure 7 = .ok (.aload_n 0, 1) := by decide +kernel
theorem dX5_figure_8 : decode cX5_figure 8 = .ok (.iload_n 2, 1) := by decide +kernel
theorem dX5_figure_9 : decode cX5_figure 9 = .ok (.invokevirtual 67, 3) := by decide +kernel
theorem dX5_figure_12 : decode cX5_figure 12 = .ok (.ifCond .eq 18, 3) := by decide +kernel
theorem dX5_figure_15 : decode cX5_figure 15 = .ok (.iload_n 3, 1) := by decide +kernel
theorem dX5_figure_16 : decode cX5_figure 16 = .ok (.invokestatic 71, 3) := by decide +kernel
theorem dX5_figure_19 : decode cX5_figure 19 = .ok (.ifCond .eq 11, 3) := by decide +kernel
theorem dX5_figure_22 : decode cX5_figure 22 = .ok (.iload 4, 2) := by decide +kernel
theorem dX5_figure_24 : decode cX5_figure 24 = .ok (.invokestatic 81, 3) := by decide +kernel
theorem dX5_figure_27 : decode cX5_figure 27 = .ok (.ifCond .ne 5, 3) := by decide +kernel
theorem dX5_figure_30 : decode cX5_figure 30 = .ok (.iconst (-1), 1) := by decide +kernel
theorem dX5_figure_31 : decode cX5_figure 31 = .ok (.ireturn, 1) := by decide +kernel
theorem dX5_figure_32 : decode cX5_figure 32 = .ok (.aload_n 0, 1) := by decide +kernel
theorem dX5_figure_33 : decode cX5_figure 33 = .ok (.getfield 10, 3) := by decide +kernel
theorem dX5_figure_36 : decode cX5_figure 36 = .ok (.iload_n 1, 1) := by decide +kernel
theorem dX5_figure_37 : decode cX5_figure 37 = .ok (.iload_n 2, 1) := by decide +kernel
theorem dX5_figure_38 : decode cX5_figure 38 = .ok (.iload_n 3, 1) := by decide +kernel
theorem dX5_figure_39 : decode cX5_figure 39 = .ok (.iload 4, 2) := by decide +kernel
theorem dX5_figure_41 : decode cX5_figure 41 = .ok (.invokevirtual 84, 3) := by decide +kernel
theorem dX5_figure_44 : decode cX5_figure 44 = .ok (.ireturn, 1) := by decide +kernel
theorem dX5_set_0 : decode cX5_set 0 = .ok (.aload_n 0, 1) := by decide +kernel
theorem dX5_set_1 : decode cX5_set 1 = .ok (.iload_n 1, 1) := by decide +kernel
theorem dX5_set_2 : decode cX5_set 2 = .ok (.invokevirtual 88, 3) := by decide +kernel
theorem dX5_set_5 : decode cX5_set 5 = .ok (.ifCond .ne 5, 3) := by decide +kernel
theorem dX5_set_8 : decode cX5_set 8 = .ok (.iconst (-1), 1) := by decide +kernel
theorem dX5_set_9 : decode cX5_set 9 = .ok (.ireturn, 1) := by decide +kernel
theorem dX5_set_10 : decode cX5_set 10 = .ok (.iload_n 2, 1) := by decide +kernel
theorem dX5_set_11 : decode cX5_set 11 = .ok (.tableswitch 130 0 3 #[29, 54, 80, 105], 29) := by decide +kernel
theorem dX5_set_40 : decode cX5_set 40 = .ok (.iload_n 3, 1) := by decide +kernel
theorem dX5_set_41 : decode cX5_set 41 = .ok (.invokestatic 78, 3) := by decide +kernel
theorem dX5_set_44 : decode cX5_set 44 = .ok (.ifCond .eq 19, 3) := by decide +kernel
theorem dX5_set_47 : decode cX5_set 47 = .ok (.aload_n 0, 1) := by decide +kernel
theorem dX5_set_48 : decode cX5_set 48 = .ok (.getfield 10, 3) := by decide +kernel
theorem dX5_set_51 : decode cX5_set 51 = .ok (.getfield 91, 3) := by decide +kernel
theorem dX5_set_54 : decode cX5_set 54 = .ok (.iload_n 1, 1) := by decide +kernel
theorem dX5_set_55 : decode cX5_set 55 = .ok (.aaload, 1) := by decide +kernel
theorem dX5_set_56 : decode cX5_set 56 = .ok (.iload_n 3, 1) := by decide +kernel
theorem dX5_set_57 : decode cX5_set 57 = .ok (.invokevirtual 95, 3) := by decide +kernel
theorem dX5_set_60 : decode cX5_set 60 = .ok (.goto 4, 3) := by decide +kernel
theorem dX5_set_63 : decode cX5_set 63 = .ok (.iconst (-1), 1) := by decide +kernel
theorem dX5_set_64 : decode cX5_set 64 = .ok (.ireturn, 1) := by decide +kernel
theorem dX5_set_65 : decode cX5_set 65 = .ok (.aload_n 0, 1) := by decide +kernel
theorem dX5_set_66 : decode cX5_set 66 = .ok (.iload_n 3, 1) := by decide +kernel
theorem dX5_set_67 : decode cX5_set 67 = .ok (.invokevirtual 67, 3) := by decide +kernel
theorem dX5_set_70 : decode cX5_set 70 = .ok (.ifCond .eq 19, 3) := by decide +kernel
theorem dX5_set_73 : decode cX5_set 73 = .ok (.aload_n 0, 1) := by decide +kernel
theorem dX5_set_74 : decode cX5_set 74 = .ok (.getfield 10, 3) := by decide +kernel
theorem dX5_set_77 : decode cX5_set 77 = .ok (.getfield 91, 3) := by decide +kernel
theorem dX5_set_80 : decode cX5_set 80 = .ok (.iload_n 1, 1) := by decide +kernel
theorem dX5_set_81 : decode cX5_set 81 = .ok (.aaload, 1) := by decide +kernel
theorem dX5_set_82 : decode cX5_set 82 = .ok (.iload_n 3, 1) := by decide +kernel
theorem dX5_set_83 : decode cX5_set 83 = .ok (.invokevirtual 101, 3) := by decide +kernel
theorem dX5_set_86 : decode cX5_set 86 = .ok (.goto 4, 3) := by decide +kernel
theorem dX5_set_89 : decode cX5_set 89 = .ok (.iconst (-1), 1) := by decide +kernel
theorem dX5_set_90 : decode cX5_set 90 = .ok (.ireturn, 1) := by decide +kernel
theorem dX5_set_91 : decode cX5_set 91 = .ok (.iload_n 3, 1) := by decide +kernel
theorem dX5_set_92 : decode cX5_set 92 = .ok (.invokestatic 71, 3) := by decide +kernel
theorem dX5_set_95 : decode cX5_set 95 = .ok (.ifCond .eq 19, 3) := by decide +kernel
theorem dX5_set_98 : decode cX5_set 98 = .ok (.aload_n 0, 1) := by decide +kernel
theorem dX5_set_99 : decode cX5_set 99 = .ok (.getfield 10, 3) := by decide +kernel
theorem dX5_set_102 : decode cX5_set 102 = .ok (.getfield 91, 3) := by decide +kernel
theorem dX5_set_105 : decode cX5_set 105 = .ok (.iload_n 1, 1) := by decide +kernel
theorem dX5_set_106 : decode cX5_set 106 = .ok (.aaload, 1) := by decide +kernel
theorem dX5_set_107 : decode cX5_set 107 = .ok (.iload_n 3, 1) := by decide +kernel
theorem dX5_set_108 : decode cX5_set 108 = .ok (.invokevirtual 104, 3) := by decide +kernel
theorem dX5_set_111 : decode cX5_set 111 = .ok (.goto 4, 3) := by decide +kernel
theorem dX5_set_114 : decode cX5_set 114 = .ok (.iconst (-1), 1) := by decide +kernel
theorem dX5_set_115 : decode cX5_set 115 = .ok (.ireturn, 1) := by decide +kernel
theorem dX5_set_116 : decode cX5_set 116 = .ok (.iload_n 3, 1) := by decide +kernel
theorem dX5_set_117 : decode cX5_set 117 = .ok (.invokestatic 81, 3) := by decide +kernel
theorem dX5_set_120 : decode cX5_set 120 = .ok (.ifCond .eq 19, 3) := by decide +kernel
theorem dX5_set_123 : decode cX5_set 123 = .ok (.aload_n 0, 1) := by decide +kernel
theorem dX5_set_124 : decode cX5_set 124 = .ok (.getfield 10, 3) := by decide +kernel
theorem dX5_set_127 : decode cX5_set 127 = .ok (.getfield 91, 3) := by decide +kernel
theorem dX5_set_130 : decode cX5_set 130 = .ok (.iload_n 1, 1) := by decide +kernel
theorem dX5_set_131 : decode cX5_set 131 = .ok (.aaload, 1) := by decide +kernel
theorem dX5_set_132 : decode cX5_set 132 = .ok (.iload_n 3, 1) := by decide +kernel
theorem dX5_set_133 : decode cX5_set 133 = .ok (.invokevirtual 107, 3) := by decide +kernel
theorem dX5_set_136 : decode cX5_set 136 = .ok (.goto 4, 3) := by decide +kernel
theorem dX5_set_139 : decode cX5_set 139 = .ok (.iconst (-1), 1) := by decide +kernel
theorem dX5_set_140 : decode cX5_set 140 = .ok (.ireturn, 1) := by decide +kernel
theorem dX5_set_141 : decode cX5_set 141 = .ok (.iconst (-1), 1) := by decide +kernel
theorem dX5_set_142 : decode cX5_set 142 = .ok (.ireturn, 1) := by decide +kernel
theorem dX5_wish_0 : decode cX5_wish 0 = .ok (.aload_n 0, 1) := by decide +kernel
theorem dX5_wish_1 : decode cX5_wish 1 = .ok (.iload_n 1, 1) := by decide +kernel
theorem dX5_wish_2 : decode cX5_wish 2 = .ok (.invokevirtual 88, 3) := by decide +kernel
theorem dX5_wish_5 : decode cX5_wish 5 = .ok (.ifCond .ne 5, 3) := by decide +kernel
theorem dX5_wish_8 : decode cX5_wish 8 = .ok (.iconst (-1), 1) := by decide +kernel
theorem dX5_wish_9 : decode cX5_wish 9 = .ok (.ireturn, 1) := by decide +kernel
theorem dX5_wish_10 : decode cX5_wish 10 = .ok (.aload_n 0, 1) := by decide +kernel
theorem dX5_wish_11 : decode cX5_wish 11 = .ok (.iconst 1, 1) := by decide +kernel
theorem dX5_wish_12 : decode cX5_wish 12 = .ok (.invokevirtual 56, 3) := by decide +kernel
theorem dX5_wish_15 : decode cX5_wish 15 = .ok (.istore_n 2, 1) := by decide +kernel
theorem dX5_wish_16 : decode cX5_wish 16 = .ok (.iload_n 2, 1) := by decide +kernel
theorem dX5_wish_17 : decode cX5_wish 17 = .ok (.ifCond .ge 5, 3) := by decide +kernel
theorem dX5_wish_20 : decode cX5_wish 20 = .ok (.iload_n 2, 1) := by decide +kernel
theorem dX5_wish_21 : decode cX5_wish 21 = .ok (.ireturn, 1) := by decide +kernel
theorem dX5_wish_22 : decode cX5_wish 22 = .ok (.aload_n 0, 1) := by decide +kernel
theorem dX5_wish_23 : decode cX5_wish 23 = .ok (.getfield 10, 3) := by decide +kernel
theorem dX5_wish_26 : decode cX5_wish 26 = .ok (.getfield 91, 3) := by decide +kernel
theorem dX5_wish_29 : decode cX5_wish 29 = .ok (.iload_n 1, 1) := by decide +kernel
theorem dX5_wish_30 : decode cX5_wish 30 = .ok (.aaload, 1) := by decide +kernel
theorem dX5_wish_31 : decode cX5_wish 31 = .ok (.aload_n 0, 1) := by decide +kernel
theorem dX5_wish_32 : decode cX5_wish 32 = .ok (.getfield 22, 3) := by decide +kernel
theorem dX5_wish_35 : decode cX5_wish 35 = .ok (.getfield 60, 3) := by decide +kernel
theorem dX5_wish_38 : decode cX5_wish 38 = .ok (.invokevirtual 110, 3) := by decide +kernel
theorem dX5_wish_41 : decode cX5_wish 41 = .ok (.ireturn, 1) := by decide +kernel
theorem dX5_line_0 : decode cX5_line 0 = .ok (.iload_n 1, 1) := by decide +kernel
theorem dX5_line_1 : decode cX5_line 1 = .ok (.iconst 1, 1) := by decide +kernel
theorem dX5_line_2 : decode cX5_line 2 = .ok (.bipush 9, 2) := by decide +kernel
theorem dX5_line_4 : decode cX5_line 4 = .ok (.invokestatic 44, 3) := by decide +kernel
theorem dX5_line_7 : decode cX5_line 7 = .ok (.ifCond .ne 5, 3) := by decide +kernel
theorem dX5_line_10 : decode cX5_line 10 = .ok (.iconst (-1), 1) := by decide +kernel
theorem dX5_line_11 : decode cX5_line 11 = .ok (.ireturn, 1) := by decide +kernel
theorem dX5_line_12 : decode cX5_line 12 = .ok (.aload_n 0, 1) := by decide +kernel
theorem dX5_line_13 : decode cX5_line 13 = .ok (.getfield 10, 3) := by decide +kernel
theorem dX5_line_16 : decode cX5_line 16 = .ok (.getfield 113, 3) := by decide +kernel
theorem dX5_line_19 : decode cX5_line 19 = .ok (.istore_n 2, 1) := by decide +kernel
theorem dX5_line_20 : decode cX5_line 20 = .ok (.aload_n 0, 1) := by decide +kernel
theorem dX5_line_21 : decode cX5_line 21 = .ok (.getfield 10, 3) := by decide +kernel
theorem dX5_line_24 : decode cX5_line 24 = .ok (.iload_n 1, 1) := by decide +kernel
theorem dX5_line_25 : decode cX5_line 25 = .ok (.putfield 113, 3) := by decide +kernel
theorem dX5_line_28 : decode cX5_line 28 = .ok (.iload_n 2, 1) := by decide +kernel
theorem dX5_line_29 : decode cX5_line 29 = .ok (.ireturn, 1) := by decide +kernel
theorem dX5_way_0 : decode cX5_way 0 = .ok (.iload_n 1, 1) := by decide +kernel
theorem dX5_way_1 : decode cX5_way 1 = .ok (.iconst 0, 1) := by decide +kernel
theorem dX5_way_2 : decode cX5_way 2 = .ok (.iconst 1, 1) := by decide +kernel
theorem dX5_way_3 : decode cX5_way 3 = .ok (.invokestatic 44, 3) := by decide +kernel
theorem dX5_way_6 : decode cX5_way 6 = .ok (.ifCond .ne 5, 3) := by decide +kernel
theorem dX5_way_9 : decode cX5_way 9 = .ok (.iconst (-1), 1) := by decide +kernel
theorem dX5_way_10 : decode cX5_way 10 = .ok (.ireturn, 1) := by decide +kernel
theorem dX5_way_11 : decode cX5_way 11 = .ok (.aload_n 0, 1) := by decide +kernel
theorem dX5_way_12 : decode cX5_way 12 = .ok (.getfield 10, 3) := by decide +kernel
theorem dX5_way_15 : decode cX5_way 15 = .ok (.getfield 117, 3) := by decide +kernel
theorem dX5_way_18 : decode cX5_way 18 = .ok (.istore_n 2, 1) := by decide +kernel
theorem dX5_way_19 : decode cX5_way 19 = .ok (.aload_n 0, 1) := by decide +kernel
theorem dX5_way_20 : decode cX5_way 20 = .ok (.getfield 10, 3) := by decide +kernel
theorem dX5_way_23 : decode cX5_way 23 = .ok (.iload_n 1, 1) := by decide +kernel
theorem dX5_way_24 : decode cX5_way 24 = .ok (.putfield 117, 3) := by decide +kernel
theorem dX5_way_27 : decode cX5_way 27 = .ok (.iload_n 2, 1) := by decide +kernel
theorem dX5_way_28 : decode cX5_way 28 = .ok (.ireturn, 1) := by decide +kernel
theorem dX5_count_0 : decode cX5_count 0 = .ok (.iload_n 1, 1) := by decide +kernel
theorem dX5_count_1 : decode cX5_count 1 = .ok (.tableswitch 87 0 5 #[39, 47, 55, 63, 71, 79], 39) := by decide +kernel
theorem dX5_count_40 : decode cX5_count 40 = .ok (.aload_n 0, 1) := by decide +kernel
theorem dX5_count_41 : decode cX5_count 41 = .ok (.getfield 10, 3) := by decide +kernel
theorem dX5_count_44 : decode cX5_count 44 = .ok (.getfield 120, 3) := by decide +kernel
theorem dX5_count_47 : decode cX5_count 47 = .ok (.ireturn, 1) := by decide +kernel
theorem dX5_count_48 : decode cX5_count 48 = .ok (.aload_n 0, 1) := by decide +kernel
theorem dX5_count_49 : decode cX5_count 49 = .ok (.getfield 10, 3) := by decide +kernel
theorem dX5_count_52 : decode cX5_count 52 = .ok (.getfield 123, 3) := by decide +kernel
theorem dX5_count_55 : decode cX5_count 55 = .ok (.ireturn, 1) := by decide +kernel
theorem dX5_count_56 : decode cX5_count 56 = .ok (.aload_n 0, 1) := by decide +kernel
theorem dX5_count_57 : decode cX5_count 57 = .ok (.getfield 10, 3) := by decide +kernel
theorem dX5_count_60 : decode cX5_count 60 = .ok (.getfield 126, 3) := by decide +kernel
theorem dX5_count_63 : decode cX5_count 63 = .ok (.ireturn, 1) := by decide +kernel
theorem dX5_count_64 : decode cX5_count 64 = .ok (.aload_n 0, 1) := by decide +kernel
theorem dX5_count_65 : decode cX5_count 65 = .ok (.getfield 10, 3) := by decide +kernel
theorem dX5_count_68 : decode cX5_count 68 = .ok (.getfield 117, 3) := by decide +kernel
theorem dX5_count_71 : decode cX5_count 71 = .ok (.ireturn, 1) := by decide +kernel
theorem dX5_count_72 : decode cX5_count 72 = .ok (.aload_n 0, 1) := by decide +kernel
theorem dX5_count_73 : decode cX5_count 73 = .ok (.getfield 10, 3) := by decide +kernel
theorem dX5_count_76 : decode cX5_count 76 = .ok (.getfield 129, 3) := by decide +kernel
theorem dX5_count_79 : decode cX5_count 79 = .ok (.ireturn, 1) := by decide +kernel
theorem dX5_count_80 : decode cX5_count 80 = .ok (.aload_n 0, 1) := by decide +kernel
theorem dX5_count_81 : decode cX5_count 81 = .ok (.getfield 10, 3) := by decide +kernel
theorem dX5_count_84 : decode cX5_count 84 = .ok (.invokevirtual 132, 3) := by decide +kernel
theorem dX5_count_87 : decode cX5_count 87 = .ok (.ireturn, 1) := by decide +kernel
theorem dX5_count_88 : decode cX5_count 88 = .ok (.iconst (-1), 1) := by decide +kernel
theorem dX5_count_89 : decode cX5_count 89 = .ok (.ireturn, 1) := by decide +kernel
theorem dX5_height_0 : decode cX5_height 0 = .ok (.aload_n 0, 1) := by decide +kernel
theorem dX5_height_1 : decode cX5_height 1 = .ok (.iload_n 1, 1) := by decide +kernel
theorem dX5_height_2 : decode cX5_height 2 = .ok (.invokevirtual 88, 3) := by decide +kernel
theorem dX5_height_5 : decode cX5_height 5 = .ok (.ifCond .eq 10, 3) := by decide +kernel
theorem dX5_height_8 : decode cX5_height 8 = .ok (.iload_n 2, 1) := by decide +kernel
theorem dX5_height_9 : decode cX5_height 9 = .ok (.invokestatic 71, 3) := by decide +kernel
theorem dX5_height_12 : decode cX5_height 12 = .ok (.ifCond .ne 5, 3) := by decide +kernel
theorem dX5_height_15 : decode cX5_height 15 = .ok (.iconst (-1), 1) := by decide +kernel
theorem dX5_height_16 : decode cX5_height 16 = .ok (.ireturn, 1) := by decide +kernel
theorem dX5_height_17 : decode cX5_height 17 = .ok (.aload_n 0, 1) := by decide +kernel
theorem dX5_height_18 : decode cX5_height 18 = .ok (.getfield 10, 3) := by decide +kernel
theorem dX5_height_21 : decode cX5_height 21 = .ok (.getfield 91, 3) := by decide +kernel
theorem dX5_height_24 : decode cX5_height 24 = .ok (.iload_n 1, 1) := by decide +kernel
theorem dX5_height_25 : decode cX5_height 25 = .ok (.aaload, 1) := by decide +kernel
theorem dX5_height_26 : decode cX5_height 26 = .ok (.astore_n 3, 1) := by decide +kernel
theorem dX5_height_27 : decode cX5_height 27 = .ok (.aload_n 0, 1) := by decide +kernel
theorem dX5_height_28 : decode cX5_height 28 = .ok (.getfield 10, 3) := by decide +kernel
theorem dX5_height_31 : decode cX5_height 31 = .ok (.aload_n 0, 1) := by decide +kernel
theorem dX5_height_32 : decode cX5_height 32 = .ok (.getfield 10, 3) := by decide +kernel
theorem dX5_height_35 : decode cX5_height 35 = .ok (.getfield 74, 3) := by decide +kernel
theorem dX5_height_38 : decode cX5_height 38 = .ok (.aload_n 3, 1) := by decide +kernel
theorem dX5_height_39 : decode cX5_height 39 = .ok (.getfield 136, 3) := by decide +kernel
theorem dX5_height_42 : decode cX5_height 42 = .ok (.aaload, 1) := by decide +kernel
theorem dX5_height_43 : decode cX5_height 43 = .ok (.aload_n 3, 1) := by decide +kernel
theorem dX5_height_44 : decode cX5_height 44 = .ok (.iload_n 2, 1) := by decide +kernel
theorem dX5_height_45 : decode cX5_height 45 = .ok (.invokevirtual 139, 3) := by decide +kernel
theorem dX5_height_48 : decode cX5_height 48 = .ok (.ireturn, 1) := by decide +kernel
theorem dX5_ups_0 : decode cX5_ups 0 = .ok (.aload_n 0, 1) := by decide +kernel
theorem dX5_ups_1 : decode cX5_ups 1 = .ok (.iload_n 1, 1) := by decide +kernel
theorem dX5_ups_2 : decode cX5_ups 2 = .ok (.invokevirtual 88, 3) := by decide +kernel
theorem dX5_ups_5 : decode cX5_ups 5 = .ok (.ifCond .ne 5, 3) := by decide +kernel
theorem dX5_ups_8 : decode cX5_ups 8 = .ok (.iconst (-1), 1) := by decide +kernel
theorem dX5_ups_9 : decode cX5_ups 9 = .ok (.ireturn, 1) := by decide +kernel
theorem dX5_ups_10 : decode cX5_ups 10 = .ok (.aload_n 0, 1) := by decide +kernel
theorem dX5_ups_11 : decode cX5_ups 11 = .ok (.getfield 10, 3) := by decide +kernel
theorem dX5_ups_14 : decode cX5_ups 14 = .ok (.aload_n 0, 1) := by decide +kernel
theorem dX5_ups_15 : decode cX5_ups 15 = .ok (.getfield 10, 3) := by decide +kernel
theorem dX5_ups_18 : decode cX5_ups 18 = .ok (.getfield 91, 3) := by decide +kernel
theorem dX5_ups_21 : decode cX5_ups 21 = .ok (.iload_n 1, 1) := by decide +kernel
theorem dX5_ups_22 : decode cX5_ups 22 = .ok (.aaload, 1) := by decide +kernel
theorem dX5_ups_23 : decode cX5_ups 23 = .ok (.invokevirtual 143, 3) := by decide +kernel
theorem dX5_ups_26 : decode cX5_ups 26 = .ok (.ireturn, 1) := by decide +kernel
theorem dX5_turn_0 : decode cX5_turn 0 = .ok (.iload_n 1, 1) := by decide +kernel
theorem dX5_turn_1 : decode cX5_turn 1 = .ok (.iconst 1, 1) := by decide +kernel
theorem dX5_turn_2 : decode cX5_turn 2 = .ok (.sipush 600, 3) := by decide +kernel
theorem dX5_turn_5 : decode cX5_turn 5 = .ok (.invokestatic 44, 3) := by decide +kernel
theorem dX5_turn_8 : decode cX5_turn 8 = .ok (.ifCond .ne 5, 3) := by decide +kernel
theorem dX5_turn_11 : decode cX5_turn 11 = .ok (.iconst (-1), 1) := by decide +kernel
theorem dX5_turn_12 : decode cX5_turn 12 = .ok (.ireturn, 1) := by decide +kernel
theorem dX5_turn_13 : decode cX5_turn 13 = .ok (.aload_n 0, 1) := by decide +kernel
theorem dX5_turn_14 : decode cX5_turn 14 = .ok (.getfield 10, 3) := by decide +kernel
theorem dX5_turn_17 : decode cX5_turn 17 = .ok (.iload_n 1, 1) := by decide +kernel
theorem dX5_turn_18 : decode cX5_turn 18 = .ok (.invokevirtual 147, 3) := by decide +kernel
theorem dX5_turn_21 : decode cX5_turn 21 = .ok (.istore_n 2, 1) := by decide +kernel
theorem dX5_turn_22 : decode cX5_turn 22 = .ok (.aload_n 0, 1) := by decide +kernel
theorem dX5_turn_23 : decode cX5_turn 23 = .ok (.getfield 10, 3) := by decide +kernel
theorem dX5_turn_26 : decode cX5_turn 26 = .ok (.iload_n 1, 1) := by decide +kernel
theorem dX5_turn_27 : decode cX5_turn 27 = .ok (.invokevirtual 150, 3) := by decide +kernel
theorem dX5_turn_30 : decode cX5_turn 30 = .ok (.iload_n 2, 1) := by decide +kernel
theorem dX5_turn_31 : decode cX5_turn 31 = .ok (.ireturn, 1) := by decide +kernel
theorem dX5_strikes_0 : decode cX5_strikes 0 = .ok (.aload_n 0, 1) := by decide +kernel
theorem dX5_strikes_1 : decode cX5_strikes 1 = .ok (.iload_n 1, 1) := by decide +kernel
theorem dX5_strikes_2 : decode cX5_strikes 2 = .ok (.invokevirtual 88, 3) := by decide +kernel
theorem dX5_strikes_5 : decode cX5_strikes 5 = .ok (.ifCond .eq 16, 3) := by decide +kernel
theorem dX5_strikes_8 : decode cX5_strikes 8 = .ok (.aload_n 0, 1) := by decide +kernel
theorem dX5_strikes_9 : decode cX5_strikes 9 = .ok (.iload_n 2, 1) := by decide +kernel
theorem dX5_strikes_10 : decode cX5_strikes 10 = .ok (.invokevirtual 88, 3) := by decide +kernel
theorem dX5_strikes_13 : decode cX5_strikes 13 = .ok (.ifCond .eq 8, 3) := by decide +kernel
theorem dX5_strikes_16 : decode cX5_strikes 16 = .ok (.iload_n 1, 1) := by decide +kernel
theorem dX5_strikes_17 : decode cX5_strikes 17 = .ok (.iload_n 2, 1) := by decide +kernel
theorem dX5_strikes_18 : decode cX5_strikes 18 = .ok (.if_icmp .ne 5, 3) := by decide +kernel
theorem dX5_strikes_21 : decode cX5_strikes 21 = .ok (.iconst (-1), 1) := by decide +kernel
theorem dX5_strikes_22 : decode cX5_strikes 22 = .ok (.ireturn, 1) := by decide +kernel
theorem dX5_strikes_23 : decode cX5_strikes 23 = .ok (.aload_n 0, 1) := by decide +kernel
theorem dX5_strikes_24 : decode cX5_strikes 24 = .ok (.getfield 10, 3) := by decide +kernel
theorem dX5_strikes_27 : decode cX5_strikes 27 = .ok (.aload_n 0, 1) := by decide +kernel
theorem dX5_strikes_28 : decode cX5_strikes 28 = .ok (.getfield 10, 3) := by decide +kernel
theorem dX5_strikes_31 : decode cX5_strikes 31 = .ok (.getfield 91, 3) := by decide +kernel
theorem dX5_strikes_34 : decode cX5_strikes 34 = .ok (.iload_n 1, 1) := by decide +kernel
theorem dX5_strikes_35 : decode cX5_strikes 35 = .ok (.aaload, 1) := by decide +kernel
theorem dX5_strikes_36 : decode cX5_strikes 36 = .ok (.aload_n 0, 1) := by decide +kernel
theorem dX5_strikes_37 : decode cX5_strikes 37 = .ok (.getfield 10, 3) := by decide +kernel
theorem dX5_strikes_40 : decode cX5_strikes 40 = .ok (.getfield 91, 3) := by decide +kernel
theorem dX5_strikes_43 : decode cX5_strikes 43 = .ok (.iload_n 2, 1) := by decide +kernel
theorem dX5_strikes_44 : decode cX5_strikes 44 = .ok (.aaload, 1) := by decide +kernel
theorem dX5_strikes_45 : decode cX5_strikes 45 = .ok (.invokevirtual 154, 3) := by decide +kernel
theorem dX5_strikes_48 : decode cX5_strikes 48 = .ok (.ireturn, 1) := by decide +kernel
theorem dX5_wear_0 : decode cX5_wear 0 = .ok (.iload_n 1, 1) := by decide +kernel
theorem dX5_wear_1 : decode cX5_wear 1 = .ok (.iconst 1, 1) := by decide +kernel
theorem dX5_wear_2 : decode cX5_wear 2 = .ok (.bipush 9, 2) := by decide +kernel
theorem dX5_wear_4 : decode cX5_wear 4 = .ok (.invokestatic 44, 3) := by decide +kernel
theorem dX5_wear_7 : decode cX5_wear 7 = .ok (.ifCond .ne 5, 3) := by decide +kernel
theorem dX5_wear_10 : decode cX5_wear 10 = .ok (.iconst (-1), 1) := by decide +kernel
theorem dX5_wear_11 : decode cX5_wear 11 = .ok (.ireturn, 1) := by decide +kernel
theorem dX5_wear_12 : decode cX5_wear 12 = .ok (.iconst 0, 1) := by decide +kernel
theorem dX5_wear_13 : decode cX5_wear 13 = .ok (.istore_n 2, 1) := by decide +kernel
theorem dX5_wear_14 : decode cX5_wear 14 = .ok (.iconst 0, 1) := by decide +kernel
theorem dX5_wear_15 : decode cX5_wear 15 = .ok (.istore_n 3, 1) := by decide +kernel
theorem dX5_wear_16 : decode cX5_wear 16 = .ok (.iload_n 3, 1) := by decide +kernel
theorem dX5_wear_17 : decode cX5_wear 17 = .ok (.aload_n 0, 1) := by decide +kernel
theorem dX5_wear_18 : decode cX5_wear 18 = .ok (.getfield 10, 3) := by decide +kernel
theorem dX5_wear_21 : decode cX5_wear 21 = .ok (.getfield 120, 3) := by decide +kernel
theorem dX5_wear_24 : decode cX5_wear 24 = .ok (.if_icmp .ge 25, 3) := by decide +kernel
theorem dX5_wear_27 : decode cX5_wear 27 = .ok (.iload_n 2, 1) := by decide +kernel
theorem dX5_wear_28 : decode cX5_wear 28 = .ok (.aload_n 0, 1) := by decide +kernel
theorem dX5_wear_29 : decode cX5_wear 29 = .ok (.getfield 10, 3) := by decide +kernel
theorem dX5_wear_32 : decode cX5_wear 32 = .ok (.getfield 74, 3) := by decide +kernel
theorem dX5_wear_35 : decode cX5_wear 35 = .ok (.iload_n 3, 1) := by decide +kernel
theorem dX5_wear_36 : decode cX5_wear 36 = .ok (.aaload, 1) := by decide +kernel
theorem dX5_wear_37 : decode cX5_wear 37 = .ok (.iload_n 1, 1) := by decide +kernel
theorem dX5_wear_38 : decode cX5_wear 38 = .ok (.invokestatic 158, 3) := by decide +kernel
theorem dX5_wear_41 : decode cX5_wear 41 = .ok (.iadd, 1) := by decide +kernel
theorem dX5_wear_42 : decode cX5_wear 42 = .ok (.istore_n 2, 1) := by decide +kernel
theorem dX5_wear_43 : decode cX5_wear 43 = .ok (.iinc 3 1, 3) := by decide +kernel
theorem dX5_wear_46 : decode cX5_wear 46 = .ok (.goto (-30), 3) := by decide +kernel
theorem dX5_wear_49 : decode cX5_wear 49 = .ok (.iload_n 2, 1) := by decide +kernel
theorem dX5_wear_50 : decode cX5_wear 50 = .ok (.ireturn, 1) := by decide +kernel
theorem dX5_missed_0 : decode cX5_missed 0 = .ok (.aload_n 0, 1) := by decide +kernel
theorem dX5_missed_1 : decode cX5_missed 1 = .ok (.iload_n 1, 1) := by decide +kernel
theorem dX5_missed_2 : decode cX5_missed 2 = .ok (.invokevirtual 88, 3) := by decide +kernel
theorem dX5_missed_5 : decode cX5_missed 5 = .ok (.ifCond .ne 5, 3) := by decide +kernel
theorem dX5_missed_8 : decode cX5_missed 8 = .ok (.iconst (-1), 1) := by decide +kernel
theorem dX5_missed_9 : decode cX5_missed 9 = .ok (.ireturn, 1) := by decide +kernel
theorem dX5_missed_10 : decode cX5_missed 10 = .ok (.aload_n 0, 1) := by decide +kernel
theorem dX5_missed_11 : decode cX5_missed 11 = .ok (.getfield 10, 3) := by decide +kernel
theorem dX5_missed_14 : decode cX5_missed 14 = .ok (.getfield 91, 3) := by decide +kernel
theorem dX5_missed_17 : decode cX5_missed 17 = .ok (.iload_n 1, 1) := by decide +kernel
theorem dX5_missed_18 : decode cX5_missed 18 = .ok (.aaload, 1) := by decide +kernel
theorem dX5_missed_19 : decode cX5_missed 19 = .ok (.astore_n 2, 1) := by decide +kernel
theorem dX5_missed_20 : decode cX5_missed 20 = .ok (.aload_n 2, 1) := by decide +kernel
theorem dX5_missed_21 : decode cX5_missed 21 = .ok (.aload_n 0, 1) := by decide +kernel
theorem dX5_missed_22 : decode cX5_missed 22 = .ok (.getfield 10, 3) := by decide +kernel
theorem dX5_missed_25 : decode cX5_missed 25 = .ok (.aload_n 2, 1) := by decide +kernel
theorem dX5_missed_26 : decode cX5_missed 26 = .ok (.invokevirtual 143, 3) := by decide +kernel
theorem dX5_missed_29 : decode cX5_missed 29 = .ok (.invokevirtual 162, 3) := by decide +kernel
theorem dX5_missed_32 : decode cX5_missed 32 = .ok (.istore_n 3, 1) := by decide +kernel
theorem dX5_missed_33 : decode cX5_missed 33 = .ok (.iconst 0, 1) := by decide +kernel
theorem dX5_missed_34 : decode cX5_missed 34 = .ok (.istore 4, 2) := by decide +kernel
theorem dX5_missed_36 : decode cX5_missed 36 = .ok (.iload 4, 2) := by decide +kernel
theorem dX5_missed_38 : decode cX5_missed 38 = .ok (.bipush 12, 2) := by decide +kernel
theorem dX5_missed_40 : decode cX5_missed 40 = .ok (.if_icmp .ge 22, 3) := by decide +kernel
theorem dX5_missed_43 : decode cX5_missed 43 = .ok (.iload_n 3, 1) := by decide +kernel
theorem dX5_missed_44 : decode cX5_missed 44 = .ok (.iload 4, 2) := by decide +kernel
theorem dX5_missed_46 : decode cX5_missed 46 = .ok (.ishr, 1) := by decide +kernel
theorem dX5_missed_47 : decode cX5_missed 47 = .ok (.iconst 1, 1) := by decide +kernel
theorem dX5_missed_48 : decode cX5_missed 48 = .ok (.iand, 1) := by decide +kernel
theorem dX5_missed_49 : decode cX5_missed 49 = .ok (.iconst 1, 1) := by decide +kernel
theorem dX5_missed_50 : decode cX5_missed 50 = .ok (.if_icmp .ne 6, 3) := by decide +kernel
theorem dX5_missed_53 : decode cX5_missed 53 = .ok (.iload 4, 2) := by decide +kernel
theorem dX5_missed_55 : decode cX5_missed 55 = .ok (.ireturn, 1) := by decide +kernel
theorem dX5_missed_56 : decode cX5_missed 56 = .ok (.iinc 4 1, 3) := by decide +kernel
theorem dX5_missed_59 : decode cX5_missed 59 = .ok (.goto (-23), 3) := by decide +kernel
theorem dX5_missed_62 : decode cX5_missed 62 = .ok (.bipush (-4), 2) := by decide +kernel
theorem dX5_missed_64 : decode cX5_missed 64 = .ok (.ireturn, 1) := by decide +kernel
theorem dX5_fewest_0 : decode cX5_fewest 0 = .ok (.aload_n 0, 1) := by decide +kernel
theorem dX5_fewest_1 : decode cX5_fewest 1 = .ok (.invokevirtual 165, 3) := by decide +kernel
theorem dX5_fewest_4 : decode cX5_fewest 4 = .ok (.ireturn, 1) := by decide +kernel
theorem dX5_share_0 : decode cX5_share 0 = .ok (.aload_n 0, 1) := by decide +kernel
theorem dX5_share_1 : decode cX5_share 1 = .ok (.iload_n 1, 1) := by decide +kernel
theorem dX5_share_2 : decode cX5_share 2 = .ok (.invokevirtual 88, 3) := by decide +kernel
theorem dX5_share_5 : decode cX5_share 5 = .ok (.ifCond .eq 12, 3) := by decide +kernel
theorem dX5_share_8 : decode cX5_share 8 = .ok (.iload_n 2, 1) := by decide +kernel
theorem dX5_share_9 : decode cX5_share 9 = .ok (.iconst 0, 1) := by decide +kernel
