theorem dX8_init_0 : decode cX8_init 0 = .ok (.aload_n 0, 1) := by decide +kernel
theorem dX8_init_1 : decode cX8_init 1 = .ok (.invokespecial 3, 3) := by decide +kernel
theorem dX8_init_4 : decode cX8_init 4 = .ok (.aload_n 0, 1) := by decide +kernel
theorem dX8_init_5 : decode cX8_init 5 = .ok (.sipush 938, 3) := by decide +kernel
theorem dX8_init_8 : decode cX8_init 8 = .ok (.newarray .int, 2) := by decide +kernel
theorem dX8_init_10 : decode cX8_init 10 = .ok (.putfield 9, 3) := by decide +kernel
theorem dX8_init_13 : decode cX8_init 13 = .ok (.aload_n 0, 1) := by decide +kernel
theorem dX8_init_14 : decode cX8_init 14 = .ok (.sipush 938, 3) := by decide +kernel
theorem dX8_init_17 : decode cX8_init 17 = .ok (.newarray .int, 2) := by decide +kernel
theorem dX8_init_19 : decode cX8_init 19 = .ok (.putfield 15, 3) := by decide +kernel
theorem dX8_init_22 : decode cX8_init 22 = .ok (.aload_n 0, 1) := by decide +kernel
theorem dX8_init_23 : decode cX8_init 23 = .ok (.bipush 12, 2) := by decide +kernel
theorem dX8_init_25 : decode cX8_init 25 = .ok (.newarray .int, 2) := by decide +kernel
theorem dX8_init_27 : decode cX8_init 27 = .ok (.putfield 18, 3) := by decide +kernel
theorem dX8_init_30 : decode cX8_init 30 = .ok (.aload_n 0, 1) := by decide +kernel
theorem dX8_init_31 : decode cX8_init 31 = .ok (.bipush 6, 2) := by decide +kernel
theorem dX8_init_33 : decode cX8_init 33 = .ok (.newarray .int, 2) := by decide +kernel
theorem dX8_init_35 : decode cX8_init 35 = .ok (.putfield 21, 3) := by decide +kernel
theorem dX8_init_38 : decode cX8_init 38 = .ok (.aload_n 0, 1) := by decide +kernel
theorem dX8_init_39 : decode cX8_init 39 = .ok (.bipush 64, 2) := by decide +kernel
theorem dX8_init_41 : decode cX8_init 41 = .ok (.newarray .boolean, 2) := by decide +kernel
theorem dX8_init_43 : decode cX8_init 43 = .ok (.putfield 24, 3) := by decide +kernel
theorem dX8_init_46 : decode cX8_init 46 = .ok (.aload_n 0, 1) := by decide +kernel
theorem dX8_init_47 : decode cX8_init 47 = .ok (.bipush 36, 2) := by decide +kernel
theorem dX8_init_49 : decode cX8_init 49 = .ok (.newarray .int, 2) := by decide +kernel
theorem dX8_init_51 : decode cX8_init 51 = .ok (.putfield 28, 3) := by decide +kernel
theorem dX8_init_54 : decode cX8_init 54 = .ok (.aload_n 0, 1) := by decide +kernel
theorem dX8_init_55 : decode cX8_init 55 = .ok (.bipush 36, 2) := by decide +kernel
theorem dX8_init_57 : decode cX8_init 57 = .ok (.newarray .int, 2) := by decide +kernel
theorem dX8_init_59 : decode cX8_init 59 = .ok (.putfield 31, 3) := by decide +kernel
theorem dX8_init_62 : decode cX8_init 62 = .ok (.aload_n 0, 1) := by decide +kernel
theorem dX8_init_63 : decode cX8_init 63 = .ok (.bipush 6, 2) := by decide +kernel
theorem dX8_init_65 : decode cX8_init 65 = .ok (.newarray .int, 2) := by decide +kernel
theorem dX8_init_67 : decode cX8_init 67 = .ok (.putfield 34, 3) := by decide +kernel
theorem dX8_init_70 : decode cX8_init 70 = .ok (.aload_n 0, 1) := by decide +kernel
theorem dX8_init_71 : decode cX8_init 71 = .ok (.bipush 6, 2) := by decide +kernel
theorem dX8_init_73 : decode cX8_init 73 = .ok (.newarray .int, 2) := by decide +kernel
theorem dX8_init_75 : decode cX8_init 75 = .ok (.putfield 37, 3) := by decide +kernel
theorem dX8_init_78 : decode cX8_init 78 = .ok (.aload_n 0, 1) := by decide +kernel
theorem dX8_init_79 : decode cX8_init 79 = .ok (.iconst 5, 1) := by decide +kernel
theorem dX8_init_80 : decode cX8_init 80 = .ok (.newarray .int, 2) := by decide +kernel
theorem dX8_init_82 : decode cX8_init 82 = .ok (.putfield 40, 3) := by decide +kernel
theorem dX8_init_85 : decode cX8_init 85 = .ok (.aload_n 0, 1) := by decide +kernel
theorem dX8_init_86 : decode cX8_init 86 = .ok (.bipush 36, 2) := by decide +kernel
theorem dX8_init_88 : decode cX8_init 88 = .ok (.newarray .boolean, 2) := by decide +kernel
theorem dX8_init_90 : decode cX8_init 90 = .ok (.putfield 43, 3) := by decide +kernel
theorem dX8_init_93 : decode cX8_init 93 = .ok (.aload_n 0, 1) := by decide +kernel
theorem dX8_init_94 : decode cX8_init 94 = .ok (.bipush 20, 2) := by decide +kernel
theorem dX8_init_96 : decode cX8_init 96 = .ok (.newarray .int, 2) := by decide +kernel
theorem dX8_init_98 : decode cX8_init 98 = .ok (.putfield 46, 3) := by decide +kernel
theorem dX8_init_101 : decode cX8_init 101 = .ok (.aload_n 0, 1) := by decide +kernel
theorem dX8_init_102 : decode cX8_init 102 = .ok (.getfield 9, 3) := by decide +kernel
theorem dX8_init_105 : decode cX8_init 105 = .ok (.bipush 18, 2) := by decide +kernel
theorem dX8_init_107 : decode cX8_init 107 = .ok (.iconst (-1), 1) := by decide +kernel
theorem dX8_init_108 : decode cX8_init 108 = .ok (.iastore, 1) := by decide +kernel
theorem dX8_init_109 : decode cX8_init 109 = .ok (.aload_n 0, 1) := by decide +kernel
theorem dX8_init_110 : decode cX8_init 110 = .ok (.getfield 9, 3) := by decide +kernel
theorem dX8_init_113 : decode cX8_init 113 = .ok (.iconst 0, 1) := by decide +kernel
theorem dX8_init_114 : decode cX8_init 114 = .ok (.bipush 100, 2) := by decide +kernel
theorem dX8_init_116 : decode cX8_init 116 = .ok (.iastore, 1) := by decide +kernel
theorem dX8_init_117 : decode cX8_init 117 = .ok (.return_, 1) := by decide +kernel
theorem dX8_in_0 : decode cX8_in 0 = .ok (.iload_n 0, 1) := by decide +kernel
theorem dX8_in_1 : decode cX8_in 1 = .ok (.iload_n 1, 1) := by decide +kernel
theorem dX8_in_2 : decode cX8_in 2 = .ok (.if_icmp .lt 12, 3) := by decide +kernel
theorem dX8_in_5 : decode cX8_in 5 = .ok (.iload_n 0, 1) := by decide +kernel
theorem dX8_in_6 : decode cX8_in 6 = .ok (.iload_n 2, 1) := by decide +kernel
theorem dX8_in_7 : decode cX8_in 7 = .ok (.if_icmp .gt 7, 3) := by decide +kernel
theorem dX8_in_10 : decode cX8_in 10 = .ok (.iconst 1, 1) := by decide +kernel
theorem dX8_in_11 : decode cX8_in 11 = .ok (.goto 4, 3) := by decide +kernel
theorem dX8_in_14 : decode cX8_in 14 = .ok (.iconst 0, 1) := by decide +kernel
theorem dX8_in_15 : decode cX8_in 15 = .ok (.ireturn, 1) := by decide +kernel
theorem dX8_apart_0 : decode cX8_apart 0 = .ok (.iload_n 0, 1) := by decide +kernel
theorem dX8_apart_1 : decode cX8_apart 1 = .ok (.iload_n 1, 1) := by decide +kernel
theorem dX8_apart_2 : decode cX8_apart 2 = .ok (.if_icmp .ge 9, 3) := by decide +kernel
theorem dX8_apart_5 : decode cX8_apart 5 = .ok (.iload_n 1, 1) := by decide +kernel
theorem dX8_apart_6 : decode cX8_apart 6 = .ok (.iload_n 0, 1) := by decide +kernel
theorem dX8_apart_7 : decode cX8_apart 7 = .ok (.isub, 1) := by decide +kernel
theorem dX8_apart_8 : decode cX8_apart 8 = .ok (.goto 6, 3) := by decide +kernel
theorem dX8_apart_11 : decode cX8_apart 11 = .ok (.iload_n 0, 1) := by decide +kernel
theorem dX8_apart_12 : decode cX8_apart 12 = .ok (.iload_n 1, 1) := by decide +kernel
theorem dX8_apart_13 : decode cX8_apart 13 = .ok (.isub, 1) := by decide +kernel
theorem dX8_apart_14 : decode cX8_apart 14 = .ok (.ireturn, 1) := by decide +kernel
theorem dX8_isPerson_0 : decode cX8_isPerson 0 = .ok (.iload_n 1, 1) := by decide +kernel
theorem dX8_isPerson_1 : decode cX8_isPerson 1 = .ok (.iconst 0, 1) := by decide +kernel
theorem dX8_isPerson_2 : decode cX8_isPerson 2 = .ok (.aload_n 0, 1) := by decide +kernel
theorem dX8_isPerson_3 : decode cX8_isPerson 3 = .ok (.getfield 9, 3) := by decide +kernel
theorem dX8_isPerson_6 : decode cX8_isPerson 6 = .ok (.bipush 12, 2) := by decide +kernel
theorem dX8_isPerson_8 : decode cX8_isPerson 8 = .ok (.iaload, 1) := by decide +kernel
theorem dX8_isPerson_9 : decode cX8_isPerson 9 = .ok (.iconst 1, 1) := by decide +kernel
theorem dX8_isPerson_10 : decode cX8_isPerson 10 = .ok (.isub, 1) := by decide +kernel
theorem dX8_isPerson_11 : decode cX8_isPerson 11 = .ok (.invokestatic 53, 3) := by decide +kernel
theorem dX8_isPerson_14 : decode cX8_isPerson 14 = .ok (.ireturn, 1) := by decide +kernel
theorem dX8_isVintage_0 : decode cX8_isVintage 0 = .ok (.iload_n 1, 1) := by decide +kernel
theorem dX8_isVintage_1 : decode cX8_isVintage 1 = .ok (.iconst 0, 1) := by decide +kernel
theorem dX8_isVintage_2 : decode cX8_isVintage 2 = .ok (.aload_n 0, 1) := by decide +kernel
theorem dX8_isVintage_3 : decode cX8_isVintage 3 = .ok (.getfield 9, 3) := by decide +kernel
theorem dX8_isVintage_6 : decode cX8_isVintage 6 = .ok (.bipush 19, 2) := by decide +kernel
theorem dX8_isVintage_8 : decode cX8_isVintage 8 = .ok (.iaload, 1) := by decide +kernel
theorem dX8_isVintage_9 : decode cX8_isVintage 9 = .ok (.iconst 1, 1) := by decide +kernel
theorem dX8_isVintage_10 : decode cX8_isVintage 10 = .ok (.isub, 1) := by decide +kernel
theorem dX8_isVintage_11 : decode cX8_isVintage 11 = .ok (.invokestatic 53, 3) := by decide +kernel
theorem dX8_isVintage_14 : decode cX8_isVintage 14 = .ok (.ireturn, 1) := by decide +kernel
theorem dX8_isAge_0 : decode cX8_isAge 0 = .ok (.iload_n 0, 1) := by decide +kernel
theorem dX8_isAge_1 : decode cX8_isAge 1 = .ok (.sipush (-200), 3) := by decide +kernel
theorem dX8_isAge_4 : decode cX8_isAge 4 = .ok (.sipush 400, 3) := by decide +kernel
theorem dX8_isAge_7 : decode cX8_isAge 7 = .ok (.invokestatic 53, 3) := by decide +kernel
theorem dX8_isAge_10 : decode cX8_isAge 10 = .ok (.ireturn, 1) := by decide +kernel
theorem dX8_orNone_0 : decode cX8_orNone 0 = .ok (.iload_n 0, 1) := by decide +kernel
theorem dX8_orNone_1 : decode cX8_orNone 1 = .ok (.iconst (-1), 1) := by decide +kernel
theorem dX8_orNone_2 : decode cX8_orNone 2 = .ok (.if_icmp .ne 8, 3) := by decide +kernel
theorem dX8_orNone_5 : decode cX8_orNone 5 = .ok (.bipush (-5), 2) := by decide +kernel
theorem dX8_orNone_7 : decode cX8_orNone 7 = .ok (.goto 4, 3) := by decide +kernel
theorem dX8_orNone_10 : decode cX8_orNone 10 = .ok (.iload_n 0, 1) := by decide +kernel
theorem dX8_orNone_11 : decode cX8_orNone 11 = .ok (.ireturn, 1) := by decide +kernel
theorem dX8_keeps_0 : decode cX8_keeps 0 = .ok (.iconst 0, 1) := by decide +kernel
theorem dX8_keeps_1 : decode cX8_keeps 1 = .ok (.istore_n 1, 1) := by decide +kernel
theorem dX8_keeps_2 : decode cX8_keeps 2 = .ok (.iload_n 1, 1) := by decide +kernel
theorem dX8_keeps_3 : decode cX8_keeps 3 = .ok (.bipush 12, 2) := by decide +kernel
theorem dX8_keeps_5 : decode cX8_keeps 5 = .ok (.if_icmp .ge 21, 3) := by decide +kernel
theorem dX8_keeps_8 : decode cX8_keeps 8 = .ok (.aload_n 0, 1) := by decide +kernel
theorem dX8_keeps_9 : decode cX8_keeps 9 = .ok (.getfield 18, 3) := by decide +kernel
theorem dX8_keeps_12 : decode cX8_keeps 12 = .ok (.iload_n 1, 1) := by decide +kernel
theorem dX8_keeps_13 : decode cX8_keeps 13 = .ok (.aload_n 0, 1) := by decide +kernel
theorem dX8_keeps_14 : decode cX8_keeps 14 = .ok (.getfield 9, 3) := by decide +kernel
theorem dX8_keeps_17 : decode cX8_keeps 17 = .ok (.iload_n 1, 1) := by decide +kernel
theorem dX8_keeps_18 : decode cX8_keeps 18 = .ok (.iaload, 1) := by decide +kernel
theorem dX8_keeps_19 : decode cX8_keeps 19 = .ok (.iastore, 1) := by decide +kernel
theorem dX8_keeps_20 : decode cX8_keeps 20 = .ok (.iinc 1 1, 3) := by decide +kernel
theorem dX8_keeps_23 : decode cX8_keeps 23 = .ok (.goto (-21), 3) := by decide +kernel
theorem dX8_keeps_26 : decode cX8_keeps 26 = .ok (.return_, 1) := by decide +kernel
theorem dX8_goesBack_0 : decode cX8_goesBack 0 = .ok (.iconst 0, 1) := by decide +kernel
theorem dX8_goesBack_1 : decode cX8_goesBack 1 = .ok (.istore_n 1, 1) := by decide +kernel
theorem dX8_goesBack_2 : decode cX8_goesBack 2 = .ok (.iload_n 1, 1) := by decide +kernel
theorem dX8_goesBack_3 : decode cX8_goesBack 3 = .ok (.bipush 12, 2) := by decide +kernel
theorem dX8_goesBack_5 : decode cX8_goesBack 5 = .ok (.if_icmp .ge 21, 3) := by decide +kernel
theorem dX8_goesBack_8 : decode cX8_goesBack 8 = .ok (.aload_n 0, 1) := by decide +kernel
theorem dX8_goesBack_9 : decode cX8_goesBack 9 = .ok (.getfield 9, 3) := by decide +kernel
theorem dX8_goesBack_12 : decode cX8_goesBack 12 = .ok (.iload_n 1, 1) := by decide +kernel
theorem dX8_goesBack_13 : decode cX8_goesBack 13 = .ok (.aload_n 0, 1) := by decide +kernel
theorem dX8_goesBack_14 : decode cX8_goesBack 14 = .ok (.getfield 18, 3) := by decide +kernel
theorem dX8_goesBack_17 : decode cX8_goesBack 17 = .ok (.iload_n 1, 1) := by decide +kernel
theorem dX8_goesBack_18 : decode cX8_goesBack 18 = .ok (.iaload, 1) := by decide +kernel
theorem dX8_goesBack_19 : decode cX8_goesBack 19 = .ok (.iastore, 1) := by decide +kernel
theorem dX8_goesBack_20 : decode cX8_goesBack 20 = .ok (.iinc 1 1, 3) := by decide +kernel
theorem dX8_goesBack_23 : decode cX8_goesBack 23 = .ok (.goto (-21), 3) := by decide +kernel
theorem dX8_goesBack_26 : decode cX8_goesBack 26 = .ok (.return_, 1) := by decide +kernel
theorem dX8_feed_0 : decode cX8_feed 0 = .ok (.iload_n 1, 1) := by decide +kernel
theorem dX8_feed_1 : decode cX8_feed 1 = .ok (.iconst 0, 1) := by decide +kernel
theorem dX8_feed_2 : decode cX8_feed 2 = .ok (.bipush 127, 2) := by decide +kernel
theorem dX8_feed_4 : decode cX8_feed 4 = .ok (.invokestatic 53, 3) := by decide +kernel
theorem dX8_feed_7 : decode cX8_feed 7 = .ok (.ifCond .ne 6, 3) := by decide +kernel
theorem dX8_feed_10 : decode cX8_feed 10 = .ok (.bipush (-2), 2) := by decide +kernel
theorem dX8_feed_12 : decode cX8_feed 12 = .ok (.ireturn, 1) := by decide +kernel
theorem dX8_feed_13 : decode cX8_feed 13 = .ok (.aload_n 0, 1) := by decide +kernel
theorem dX8_feed_14 : decode cX8_feed 14 = .ok (.getfield 9, 3) := by decide +kernel
theorem dX8_feed_17 : decode cX8_feed 17 = .ok (.bipush 17, 2) := by decide +kernel
theorem dX8_feed_19 : decode cX8_feed 19 = .ok (.iaload, 1) := by decide +kernel
theorem dX8_feed_20 : decode cX8_feed 20 = .ok (.bipush 100, 2) := by decide +kernel
theorem dX8_feed_22 : decode cX8_feed 22 = .ok (.if_icmp .ne 6, 3) := by decide +kernel
theorem dX8_feed_25 : decode cX8_feed 25 = .ok (.bipush (-4), 2) := by decide +kernel
theorem dX8_feed_27 : decode cX8_feed 27 = .ok (.ireturn, 1) := by decide +kernel
theorem dX8_feed_28 : decode cX8_feed 28 = .ok (.aload_n 0, 1) := by decide +kernel
theorem dX8_feed_29 : decode cX8_feed 29 = .ok (.getfield 9, 3) := by decide +kernel
theorem dX8_feed_32 : decode cX8_feed 32 = .ok (.bipush 123, 2) := by decide +kernel
theorem dX8_feed_34 : decode cX8_feed 34 = .ok (.aload_n 0, 1) := by decide +kernel
theorem dX8_feed_35 : decode cX8_feed 35 = .ok (.getfield 9, 3) := by decide +kernel
theorem dX8_feed_38 : decode cX8_feed 38 = .ok (.bipush 17, 2) := by decide +kernel
theorem dX8_feed_40 : decode cX8_feed 40 = .ok (.iaload, 1) := by decide +kernel
theorem dX8_feed_41 : decode cX8_feed 41 = .ok (.iadd, 1) := by decide +kernel
theorem dX8_feed_42 : decode cX8_feed 42 = .ok (.iload_n 1, 1) := by decide +kernel
theorem dX8_feed_43 : decode cX8_feed 43 = .ok (.iastore, 1) := by decide +kernel
theorem dX8_feed_44 : decode cX8_feed 44 = .ok (.aload_n 0, 1) := by decide +kernel
theorem dX8_feed_45 : decode cX8_feed 45 = .ok (.getfield 9, 3) := by decide +kernel
theorem dX8_feed_48 : decode cX8_feed 48 = .ok (.bipush 17, 2) := by decide +kernel
theorem dX8_feed_50 : decode cX8_feed 50 = .ok (.dup2, 1) := by decide +kernel
theorem dX8_feed_51 : decode cX8_feed 51 = .ok (.iaload, 1) := by decide +kernel
theorem dX8_feed_52 : decode cX8_feed 52 = .ok (.iconst 1, 1) := by decide +kernel
theorem dX8_feed_53 : decode cX8_feed 53 = .ok (.iadd, 1) := by decide +kernel
theorem dX8_feed_54 : decode cX8_feed 54 = .ok (.iastore, 1) := by decide +kernel
theorem dX8_feed_55 : decode cX8_feed 55 = .ok (.aload_n 0, 1) := by decide +kernel
theorem dX8_feed_56 : decode cX8_feed 56 = .ok (.getfield 9, 3) := by decide +kernel
theorem dX8_feed_59 : decode cX8_feed 59 = .ok (.bipush 17, 2) := by decide +kernel
theorem dX8_feed_61 : decode cX8_feed 61 = .ok (.iaload, 1) := by decide +kernel
theorem dX8_feed_62 : decode cX8_feed 62 = .ok (.ireturn, 1) := by decide +kernel
theorem dX8_here_0 : decode cX8_here 0 = .ok (.aload_n 0, 1) := by decide +kernel
theorem dX8_here_1 : decode cX8_here 1 = .ok (.getfield 57, 3) := by decide +kernel
theorem dX8_here_4 : decode cX8_here 4 = .ok (.aload_n 0, 1) := by decide +kernel
theorem dX8_here_5 : decode cX8_here 5 = .ok (.getfield 60, 3) := by decide +kernel
theorem dX8_here_8 : decode cX8_here 8 = .ok (.if_icmp .ge 18, 3) := by decide +kernel
theorem dX8_here_11 : decode cX8_here 11 = .ok (.aload_n 0, 1) := by decide +kernel
theorem dX8_here_12 : decode cX8_here 12 = .ok (.getfield 9, 3) := by decide +kernel
theorem dX8_here_15 : decode cX8_here 15 = .ok (.bipush 123, 2) := by decide +kernel
theorem dX8_here_17 : decode cX8_here 17 = .ok (.aload_n 0, 1) := by decide +kernel
theorem dX8_here_18 : decode cX8_here 18 = .ok (.getfield 57, 3) := by decide +kernel
theorem dX8_here_21 : decode cX8_here 21 = .ok (.iadd, 1) := by decide +kernel
theorem dX8_here_22 : decode cX8_here 22 = .ok (.iaload, 1) := by decide +kernel
theorem dX8_here_23 : decode cX8_here 23 = .ok (.goto 4, 3) := by decide +kernel
theorem dX8_here_26 : decode cX8_here 26 = .ok (.iconst (-1), 1) := by decide +kernel
theorem dX8_here_27 : decode cX8_here 27 = .ok (.ireturn, 1) := by decide +kernel
theorem dX8_must_0 : decode cX8_must 0 = .ok (.aload_n 0, 1) := by decide +kernel
theorem dX8_must_1 : decode cX8_must 1 = .ok (.aload_n 0, 1) := by decide +kernel
theorem dX8_must_2 : decode cX8_must 2 = .ok (.getfield 63, 3) := by decide +kernel
theorem dX8_must_5 : decode cX8_must 5 = .ok (.ifCond .ne 11, 3) := by decide +kernel
theorem dX8_must_8 : decode cX8_must 8 = .ok (.aload_n 0, 1) := by decide +kernel
theorem dX8_must_9 : decode cX8_must 9 = .ok (.invokevirtual 67, 3) := by decide +kernel
theorem dX8_must_12 : decode cX8_must 12 = .ok (.iload_n 1, 1) := by decide +kernel
theorem dX8_must_13 : decode cX8_must 13 = .ok (.if_icmp .eq 7, 3) := by decide +kernel
theorem dX8_must_16 : decode cX8_must 16 = .ok (.iconst 1, 1) := by decide +kernel
theorem dX8_must_17 : decode cX8_must 17 = .ok (.goto 4, 3) := by decide +kernel
theorem dX8_must_20 : decode cX8_must 20 = .ok (.iconst 0, 1) := by decide +kernel
theorem dX8_must_21 : decode cX8_must 21 = .ok (.putfield 63, 3) := by decide +kernel
theorem dX8_must_24 : decode cX8_must 24 = .ok (.aload_n 0, 1) := by decide +kernel
theorem dX8_must_25 : decode cX8_must 25 = .ok (.dup, 1) := by decide +kernel
theorem dX8_must_26 : decode cX8_must 26 = .ok (.getfield 57, 3) := by decide +kernel
theorem dX8_must_29 : decode cX8_must 29 = .ok (.aload_n 0, 1) := by decide +kernel
theorem dX8_must_30 : decode cX8_must 30 = .ok (.getfield 63, 3) := by decide +kernel
theorem dX8_must_33 : decode cX8_must 33 = .ok (.ifCond .eq 7, 3) := by decide +kernel
theorem dX8_must_36 : decode cX8_must 36 = .ok (.iconst 0, 1) := by decide +kernel
theorem dX8_must_37 : decode cX8_must 37 = .ok (.goto 4, 3) := by decide +kernel
theorem dX8_must_40 : decode cX8_must 40 = .ok (.iconst 1, 1) := by decide +kernel
theorem dX8_must_41 : decode cX8_must 41 = .ok (.iadd, 1) := by decide +kernel
theorem dX8_must_42 : decode cX8_must 42 = .ok (.putfield 57, 3) := by decide +kernel
theorem dX8_must_45 : decode cX8_must 45 = .ok (.return_, 1) := by decide +kernel
theorem dX8_spells_0 : decode cX8_spells 0 = .ok (.iconst 0, 1) := by decide +kernel
theorem dX8_spells_1 : decode cX8_spells 1 = .ok (.istore_n 2, 1) := by decide +kernel
theorem dX8_spells_2 : decode cX8_spells 2 = .ok (.iload_n 2, 1) := by decide +kernel
theorem dX8_spells_3 : decode cX8_spells 3 = .ok (.aload_n 1, 1) := by decide +kernel
theorem dX8_spells_4 : decode cX8_spells 4 = .ok (.invokevirtual 71, 3) := by decide +kernel
theorem dX8_spells_7 : decode cX8_spells 7 = .ok (.if_icmp .ge 18, 3) := by decide +kernel
theorem dX8_spells_10 : decode cX8_spells 10 = .ok (.aload_n 0, 1) := by decide +kernel
theorem dX8_spells_11 : decode cX8_spells 11 = .ok (.aload_n 1, 1) := by decide +kernel
theorem dX8_spells_12 : decode cX8_spells 12 = .ok (.iload_n 2, 1) := by decide +kernel
theorem dX8_spells_13 : decode cX8_spells 13 = .ok (.invokevirtual 76, 3) := by decide +kernel
theorem dX8_spells_16 : decode cX8_spells 16 = .ok (.invokevirtual 80, 3) := by decide +kernel
theorem dX8_spells_19 : decode cX8_spells 19 = .ok (.iinc 2 1, 3) := by decide +kernel
theorem dX8_spells_22 : decode cX8_spells 22 = .ok (.goto (-20), 3) := by decide +kernel
theorem dX8_spells_25 : decode cX8_spells 25 = .ok (.return_, 1) := by decide +kernel
theorem dX8_figures_0 : decode cX8_figures 0 = .ok (.aload_n 0, 1) := by decide +kernel
theorem dX8_figures_1 : decode cX8_figures 1 = .ok (.aload_n 0, 1) := by decide +kernel
theorem dX8_figures_2 : decode cX8_figures 2 = .ok (.getfield 63, 3) := by decide +kernel
theorem dX8_figures_5 : decode cX8_figures 5 = .ok (.ifCond .ne 17, 3) := by decide +kernel
theorem dX8_figures_8 : decode cX8_figures 8 = .ok (.aload_n 0, 1) := by decide +kernel
theorem dX8_figures_9 : decode cX8_figures 9 = .ok (.invokevirtual 67, 3) := by decide +kernel
theorem dX8_figures_12 : decode cX8_figures 12 = .ok (.bipush 48, 2) := by decide +kernel
theorem dX8_figures_14 : decode cX8_figures 14 = .ok (.bipush 57, 2) := by decide +kernel
theorem dX8_figures_16 : decode cX8_figures 16 = .ok (.invokestatic 53, 3) := by decide +kernel
theorem dX8_figures_19 : decode cX8_figures 19 = .ok (.ifCond .ne 7, 3) := by decide +kernel
theorem dX8_figures_22 : decode cX8_figures 22 = .ok (.iconst 1, 1) := by decide +kernel
theorem dX8_figures_23 : decode cX8_figures 23 = .ok (.goto 4, 3) := by decide +kernel
theorem dX8_figures_26 : decode cX8_figures 26 = .ok (.iconst 0, 1) := by decide +kernel
theorem dX8_figures_27 : decode cX8_figures 27 = .ok (.putfield 63, 3) := by decide +kernel
theorem dX8_figures_30 : decode cX8_figures 30 = .ok (.iconst 0, 1) := by decide +kernel
theorem dX8_figures_31 : decode cX8_figures 31 = .ok (.istore_n 1, 1) := by decide +kernel
theorem dX8_figures_32 : decode cX8_figures 32 = .ok (.iconst 0, 1) := by decide +kernel
theorem dX8_figures_33 : decode cX8_figures 33 = .ok (.istore_n 2, 1) := by decide +kernel
theorem dX8_figures_34 : decode cX8_figures 34 = .ok (.iload_n 2, 1) := by decide +kernel
theorem dX8_figures_35 : decode cX8_figures 35 = .ok (.iconst 2, 1) := by decide +kernel
theorem dX8_figures_36 : decode cX8_figures 36 = .ok (.if_icmp .ge 61, 3) := by decide +kernel
theorem dX8_figures_39 : decode cX8_figures 39 = .ok (.aload_n 0, 1) := by decide +kernel
theorem dX8_figures_40 : decode cX8_figures 40 = .ok (.getfield 63, 3) := by decide +kernel
theorem dX8_figures_43 : decode cX8_figures 43 = .ok (.ifCond .ne 54, 3) := by decide +kernel
theorem dX8_figures_46 : decode cX8_figures 46 = .ok (.aload_n 0, 1) := by decide +kernel
theorem dX8_figures_47 : decode cX8_figures 47 = .ok (.invokevirtual 67, 3) := by decide +kernel
theorem dX8_figures_50 : decode cX8_figures 50 = .ok (.bipush 48, 2) := by decide +kernel
theorem dX8_figures_52 : decode cX8_figures 52 = .ok (.bipush 57, 2) := by decide +kernel
theorem dX8_figures_54 : decode cX8_figures 54 = .ok (.invokestatic 53, 3) := by decide +kernel
theorem dX8_figures_57 : decode cX8_figures 57 = .ok (.ifCond .eq 40, 3) := by decide +kernel
theorem dX8_figures_60 : decode cX8_figures 60 = .ok (.iload_n 2, 1) := by decide +kernel
theorem dX8_figures_61 : decode cX8_figures 61 = .ok (.ifCond .eq 7, 3) := by decide +kernel
theorem dX8_figures_64 : decode cX8_figures 64 = .ok (.iload_n 1, 1) := by decide +kernel
theorem dX8_figures_65 : decode cX8_figures 65 = .ok (.ifCond .le 32, 3) := by decide +kernel
theorem dX8_figures_68 : decode cX8_figures 68 = .ok (.bipush 10, 2) := by decide +kernel
theorem dX8_figures_70 : decode cX8_figures 70 = .ok (.iload_n 1, 1) := by decide +kernel
theorem dX8_figures_71 : decode cX8_figures 71 = .ok (.imul, 1) := by decide +kernel
theorem dX8_figures_72 : decode cX8_figures 72 = .ok (.aload_n 0, 1) := by decide +kernel
theorem dX8_figures_73 : decode cX8_figures 73 = .ok (.invokevirtual 67, 3) := by decide +kernel
theorem dX8_figures_76 : decode cX8_figures 76 = .ok (.iadd, 1) := by decide +kernel
theorem dX8_figures_77 : decode cX8_figures 77 = .ok (.bipush 48, 2) := by decide +kernel
theorem dX8_figures_79 : decode cX8_figures 79 = .ok (.isub, 1) := by decide +kernel
theorem dX8_figures_80 : decode cX8_figures 80 = .ok (.istore_n 1, 1) := by decide +kernel
theorem dX8_figures_81 : decode cX8_figures 81 = .ok (.aload_n 0, 1) := by decide +kernel
theorem dX8_figures_82 : decode cX8_figures 82 = .ok (.dup, 1) := by decide +kernel
theorem dX8_figures_83 : decode cX8_figures 83 = .ok (.getfield 57, 3) := by decide +kernel
theorem dX8_figures_86 : decode cX8_figures 86 = .ok (.iconst 1, 1) := by decide +kernel
theorem dX8_figures_87 : decode cX8_figures 87 = .ok (.iadd, 1) := by decide +kernel
theorem dX8_figures_88 : decode cX8_figures 88 = .ok (.putfield 57, 3) := by decide +kernel
theorem dX8_figures_91 : decode cX8_figures 91 = .ok (.iinc 2 1, 3) := by decide +kernel
theorem dX8_figures_94 : decode cX8_figures 94 = .ok (.goto (-60), 3) := by decide +kernel
theorem dX8_figures_97 : decode cX8_figures 97 = .ok (.iload_n 1, 1) := by decide +kernel
theorem dX8_figures_98 : decode cX8_figures 98 = .ok (.ireturn, 1) := by decide +kernel
theorem dX8_among_0 : decode cX8_among 0 = .ok (.iconst 0, 1) := by decide +kernel
theorem dX8_among_1 : decode cX8_among 1 = .ok (.istore_n 2, 1) := by decide +kernel
theorem dX8_among_2 : decode cX8_among 2 = .ok (.iload_n 2, 1) := by decide +kernel
theorem dX8_among_3 : decode cX8_among 3 = .ok (.aload_n 1, 1) := by decide +kernel
theorem dX8_among_4 : decode cX8_among 4 = .ok (.invokevirtual 71, 3) := by decide +kernel
theorem dX8_among_7 : decode cX8_among 7 = .ok (.if_icmp .ge 33, 3) := by decide +kernel
theorem dX8_among_10 : decode cX8_among 10 = .ok (.aload_n 0, 1) := by decide +kernel
theorem dX8_among_11 : decode cX8_among 11 = .ok (.invokevirtual 67, 3) := by decide +kernel
theorem dX8_among_14 : decode cX8_among 14 = .ok (.aload_n 1, 1) := by decide +kernel
theorem dX8_among_15 : decode cX8_among 15 = .ok (.iload_n 2, 1) := by decide +kernel
theorem dX8_among_16 : decode cX8_among 16 = .ok (.invokevirtual 76, 3) := by decide +kernel
theorem dX8_among_19 : decode cX8_among 19 = .ok (.if_icmp .ne 15, 3) := by decide +kernel
theorem dX8_among_22 : decode cX8_among 22 = .ok (.aload_n 0, 1) := by decide +kernel
theorem dX8_among_23 : decode cX8_among 23 = .ok (.dup, 1) := by decide +kernel
theorem dX8_among_24 : decode cX8_among 24 = .ok (.getfield 57, 3) := by decide +kernel
theorem dX8_among_27 : decode cX8_among 27 = .ok (.iconst 1, 1) := by decide +kernel
theorem dX8_among_28 : decode cX8_among 28 = .ok (.iadd, 1) := by decide +kernel
theorem dX8_among_29 : decode cX8_among 29 = .ok (.putfield 57, 3) := by decide +kernel
theorem dX8_among_32 : decode cX8_among 32 = .ok (.iload_n 2, 1) := by decide +kernel
theorem dX8_among_33 : decode cX8_among 33 = .ok (.ireturn, 1) := by decide +kernel
theorem dX8_among_34 : decode cX8_among 34 = .ok (.iinc 2 1, 3) := by decide +kernel
theorem dX8_among_37 : decode cX8_among 37 = .ok (.goto (-35), 3) := by decide +kernel
theorem dX8_among_40 : decode cX8_among 40 = .ok (.iconst (-1), 1) := by decide +kernel
theorem dX8_among_41 : decode cX8_among 41 = .ok (.ireturn, 1) := by decide +kernel
theorem dX8_emits_0 : decode cX8_emits 0 = .ok (.aload_n 0, 1) := by decide +kernel
theorem dX8_emits_1 : decode cX8_emits 1 = .ok (.getfield 63, 3) := by decide +kernel
theorem dX8_emits_4 : decode cX8_emits 4 = .ok (.ifCond .ne 52, 3) := by decide +kernel
theorem dX8_emits_7 : decode cX8_emits 7 = .ok (.aload_n 0, 1) := by decide +kernel
theorem dX8_emits_8 : decode cX8_emits 8 = .ok (.getfield 9, 3) := by decide +kernel
theorem dX8_emits_11 : decode cX8_emits 11 = .ok (.sipush 238, 3) := by decide +kernel
theorem dX8_emits_14 : decode cX8_emits 14 = .ok (.sipush 140, 3) := by decide +kernel
theorem dX8_emits_17 : decode cX8_emits 17 = .ok (.aload_n 0, 1) := by decide +kernel
theorem dX8_emits_18 : decode cX8_emits 18 = .ok (.getfield 84, 3) := by decide +kernel
theorem dX8_emits_21 : decode cX8_emits 21 = .ok (.imul, 1) := by decide +kernel
theorem dX8_emits_22 : decode cX8_emits 22 = .ok (.iadd, 1) := by decide +kernel
theorem dX8_emits_23 : decode cX8_emits 23 = .ok (.aload_n 0, 1) := by decide +kernel
theorem dX8_emits_24 : decode cX8_emits 24 = .ok (.getfield 9, 3) := by decide +kernel
theorem dX8_emits_27 : decode cX8_emits 27 = .ok (.sipush 233, 3) := by decide +kernel
theorem dX8_emits_30 : decode cX8_emits 30 = .ok (.aload_n 0, 1) := by decide +kernel
theorem dX8_emits_31 : decode cX8_emits 31 = .ok (.getfield 84, 3) := by decide +kernel
theorem dX8_emits_34 : decode cX8_emits 34 = .ok (.iadd, 1) := by decide +kernel
theorem dX8_emits_35 : decode cX8_emits 35 = .ok (.iaload, 1) := by decide +kernel
theorem dX8_emits_36 : decode cX8_emits 36 = .ok (.iadd, 1) := by decide +kernel
theorem dX8_emits_37 : decode cX8_emits 37 = .ok (.iload_n 1, 1) := by decide +kernel
theorem dX8_emits_38 : decode cX8_emits 38 = .ok (.iastore, 1) := by decide +kernel
theorem dX8_emits_39 : decode cX8_emits 39 = .ok (.aload_n 0, 1) := by decide +kernel
theorem dX8_emits_40 : decode cX8_emits 40 = .ok (.getfield 9, 3) := by decide +kernel
theorem dX8_emits_43 : decode cX8_emits 43 = .ok (.sipush 233, 3) := by decide +kernel
theorem dX8_emits_46 : decode cX8_emits 46 = .ok (.aload_n 0, 1) := by decide +kernel
theorem dX8_emits_47 : decode cX8_emits 47 = .ok (.getfield 84, 3) := by decide +kernel
theorem dX8_emits_50 : decode cX8_emits 50 = .ok (.iadd, 1) := by decide +kernel
theorem dX8_emits_51 : decode cX8_emits 51 = .ok (.dup2, 1) := by decide +kernel
theorem dX8_emits_52 : decode cX8_emits 52 = .ok (.iaload, 1) := by decide +kernel
theorem dX8_emits_53 : decode cX8_emits 53 = .ok (.iconst 1, 1) := by decide +kernel
theorem dX8_emits_54 : decode cX8_emits 54 = .ok (.iadd, 1) := by decide +kernel
theorem dX8_emits_55 : decode cX8_emits 55 = .ok (.iastore, 1) := by decide +kernel
theorem dX8_emits_56 : decode cX8_emits 56 = .ok (.return_, 1) := by decide +kernel
theorem dX8_factor_0 : decode cX8_factor 0 = .ok (.aload_n 0, 1) := by decide +kernel
theorem dX8_factor_1 : decode cX8_factor 1 = .ok (.getfield 63, 3) := by decide +kernel
theorem dX8_factor_4 : decode cX8_factor 4 = .ok (.ifCond .eq 4, 3) := by decide +kernel
theorem dX8_factor_7 : decode cX8_factor 7 = .ok (.return_, 1) := by decide +kernel
theorem dX8_factor_8 : decode cX8_factor 8 = .ok (.aload_n 0, 1) := by decide +kernel
theorem dX8_factor_9 : decode cX8_factor 9 = .ok (.invokevirtual 67, 3) := by decide +kernel
theorem dX8_factor_12 : decode cX8_factor 12 = .ok (.istore_n 1, 1) := by decide +kernel
theorem dX8_factor_13 : decode cX8_factor 13 = .ok (.iload_n 1, 1) := by decide +kernel
theorem dX8_factor_14 : decode cX8_factor 14 = .ok (.bipush 33, 2) := by decide +kernel
theorem dX8_factor_16 : decode cX8_factor 16 = .ok (.if_icmp .eq 9, 3) := by decide +kernel
theorem dX8_factor_19 : decode cX8_factor 19 = .ok (.iload_n 1, 1) := by decide +kernel
theorem dX8_factor_20 : decode cX8_factor 20 = .ok (.bipush 40, 2) := by decide +kernel
theorem dX8_factor_22 : decode cX8_factor 22 = .ok (.if_icmp .ne 90, 3) := by decide +kernel
theorem dX8_factor_25 : decode cX8_factor 25 = .ok (.aload_n 0, 1) := by decide +kernel
theorem dX8_factor_26 : decode cX8_factor 26 = .ok (.aload_n 0, 1) := by decide +kernel
theorem dX8_factor_27 : decode cX8_factor 27 = .ok (.getfield 87, 3) := by decide +kernel
theorem dX8_factor_30 : decode cX8_factor 30 = .ok (.iconst 5, 1) := by decide +kernel
theorem dX8_factor_31 : decode cX8_factor 31 = .ok (.if_icmp .ne 7, 3) := by decide +kernel
theorem dX8_factor_34 : decode cX8_factor 34 = .ok (.iconst 1, 1) := by decide +kernel
theorem dX8_factor_35 : decode cX8_factor 35 = .ok (.goto 4, 3) := by decide +kernel
theorem dX8_factor_38 : decode cX8_factor 38 = .ok (.iconst 0, 1) := by decide +kernel
theorem dX8_factor_39 : decode cX8_factor 39 = .ok (.putfield 63, 3) := by decide +kernel
theorem dX8_factor_42 : decode cX8_factor 42 = .ok (.aload_n 0, 1) := by decide +kernel
theorem dX8_factor_43 : decode cX8_factor 43 = .ok (.dup, 1) := by decide +kernel
theorem dX8_factor_44 : decode cX8_factor 44 = .ok (.getfield 87, 3) := by decide +kernel
theorem dX8_factor_47 : decode cX8_factor 47 = .ok (.iconst 1, 1) := by decide +kernel
theorem dX8_factor_48 : decode cX8_factor 48 = .ok (.iadd, 1) := by decide +kernel
theorem dX8_factor_49 : decode cX8_factor 49 = .ok (.putfield 87, 3) := by decide +kernel
theorem dX8_factor_52 : decode cX8_factor 52 = .ok (.aload_n 0, 1) := by decide +kernel
theorem dX8_factor_53 : decode cX8_factor 53 = .ok (.dup, 1) := by decide +kernel
theorem dX8_factor_54 : decode cX8_factor 54 = .ok (.getfield 57, 3) := by decide +kernel
theorem dX8_factor_57 : decode cX8_factor 57 = .ok (.aload_n 0, 1) := by decide +kernel
theorem dX8_factor_58 : decode cX8_factor 58 = .ok (.getfield 63, 3) := by decide +kernel
theorem dX8_factor_61 : decode cX8_factor 61 = .ok (.ifCond .eq 7, 3) := by decide +kernel
theorem dX8_factor_64 : decode cX8_factor 64 = .ok (.iconst 0, 1) := by decide +kernel
theorem dX8_factor_65 : decode cX8_factor 65 = .ok (.goto 4, 3) := by decide +kernel
theorem dX8_factor_68 : decode cX8_factor 68 = .ok (.iconst 1, 1) := by decide +kernel
theorem dX8_factor_69 : decode cX8_factor 69 = .ok (.iadd, 1) := by decide +kernel
theorem dX8_factor_70 : decode cX8_factor 70 = .ok (.putfield 57, 3) := by decide +kernel
theorem dX8_factor_73 : decode cX8_factor 73 = .ok (.iload_n 1, 1) := by decide +kernel
theorem dX8_factor_74 : decode cX8_factor 74 = .ok (.bipush 33, 2) := by decide +kernel
theorem dX8_factor_76 : decode cX8_factor 76 = .ok (.if_icmp .ne 15, 3) := by decide +kernel
theorem dX8_factor_79 : decode cX8_factor 79 = .ok (.aload_n 0, 1) := by decide +kernel
theorem dX8_factor_80 : decode cX8_factor 80 = .ok (.invokevirtual 90, 3) := by decide +kernel
theorem dX8_factor_83 : decode cX8_factor 83 = .ok (.aload_n 0, 1) := by decide +kernel
theorem dX8_factor_84 : decode cX8_factor 84 = .ok (.iconst (-1), 1) := by decide +kernel
theorem dX8_factor_85 : decode cX8_factor 85 = .ok (.invokevirtual 93, 3) := by decide +kernel
theorem dX8_factor_88 : decode cX8_factor 88 = .ok (.goto 13, 3) := by decide +kernel
theorem dX8_factor_91 : decode cX8_factor 91 = .ok (.aload_n 0, 1) := by decide +kernel
theorem dX8_factor_92 : decode cX8_factor 92 = .ok (.invokevirtual 96, 3) := by decide +kernel
theorem dX8_factor_95 : decode cX8_factor 95 = .ok (.aload_n 0, 1) := by decide +kernel
theorem dX8_factor_96 : decode cX8_factor 96 = .ok (.bipush 41, 2) := by decide +kernel
theorem dX8_factor_98 : decode cX8_factor 98 = .ok (.invokevirtual 80, 3) := by decide +kernel
theorem dX8_factor_101 : decode cX8_factor 101 = .ok (.aload_n 0, 1) := by decide +kernel
theorem dX8_factor_102 : decode cX8_factor 102 = .ok (.dup, 1) := by decide +kernel
theorem dX8_factor_103 : decode cX8_factor 103 = .ok (.getfield 87, 3) := by decide +kernel
theorem dX8_factor_106 : decode cX8_factor 106 = .ok (.iconst 1, 1) := by decide +kernel
theorem dX8_factor_107 : decode cX8_factor 107 = .ok (.isub, 1) := by decide +kernel
theorem dX8_factor_108 : decode cX8_factor 108 = .ok (.putfield 87, 3) := by decide +kernel
theorem dX8_factor_111 : decode cX8_factor 111 = .ok (.return_, 1) := by decide +kernel
theorem dX8_factor_112 : decode cX8_factor 112 = .ok (.aload_n 0, 1) := by decide +kernel
theorem dX8_factor_113 : decode cX8_factor 113 = .ok (.ldc 99, 2) := by decide +kernel
theorem dX8_factor_115 : decode cX8_factor 115 = .ok (.invokevirtual 101, 3) := by decide +kernel
theorem dX8_factor_118 : decode cX8_factor 118 = .ok (.istore_n 2, 1) := by decide +kernel
theorem dX8_factor_119 : decode cX8_factor 119 = .ok (.aload_n 0, 1) := by decide +kernel
theorem dX8_factor_120 : decode cX8_factor 120 = .ok (.iload_n 2, 1) := by decide +kernel
theorem dX8_factor_121 : decode cX8_factor 121 = .ok (.iconst (-1), 1) := by decide +kernel
theorem dX8_factor_122 : decode cX8_factor 122 = .ok (.if_icmp .ne 7, 3) := by decide +kernel
theorem dX8_factor_125 : decode cX8_factor 125 = .ok (.iconst 1, 1) := by decide +kernel
theorem dX8_factor_126 : decode cX8_factor 126 = .ok (.goto 4, 3) := by decide +kernel
theorem dX8_factor_129 : decode cX8_factor 129 = .ok (.iconst 0, 1) := by decide +kernel
theorem dX8_factor_130 : decode cX8_factor 130 = .ok (.putfield 63, 3) := by decide +kernel
theorem dX8_factor_133 : decode cX8_factor 133 = .ok (.aload_n 0, 1) := by decide +kernel
theorem dX8_factor_134 : decode cX8_factor 134 = .ok (.getfield 63, 3) := by decide +kernel
theorem dX8_factor_137 : decode cX8_factor 137 = .ok (.ifCond .eq 7, 3) := by decide +kernel
theorem dX8_factor_140 : decode cX8_factor 140 = .ok (.iconst 0, 1) := by decide +kernel
theorem dX8_factor_141 : decode cX8_factor 141 = .ok (.goto 9, 3) := by decide +kernel
theorem dX8_factor_144 : decode cX8_factor 144 = .ok (.aload_n 0, 1) := by decide +kernel
theorem dX8_factor_145 : decode cX8_factor 145 = .ok (.ldc 105, 2) := by decide +kernel
theorem dX8_factor_147 : decode cX8_factor 147 = .ok (.invokevirtual 101, 3) := by decide +kernel
theorem dX8_factor_150 : decode cX8_factor 150 = .ok (.istore_n 3, 1) := by decide +kernel
theorem dX8_factor_151 : decode cX8_factor 151 = .ok (.aload_n 0, 1) := by decide +kernel
theorem dX8_factor_152 : decode cX8_factor 152 = .ok (.aload_n 0, 1) := by decide +kernel
theorem dX8_factor_153 : decode cX8_factor 153 = .ok (.getfield 63, 3) := by decide +kernel
theorem dX8_factor_156 : decode cX8_factor 156 = .ok (.ifCond .ne 8, 3) := by decide +kernel
theorem dX8_factor_159 : decode cX8_factor 159 = .ok (.iload_n 3, 1) := by decide +kernel
theorem dX8_factor_160 : decode cX8_factor 160 = .ok (.iconst (-1), 1) := by decide +kernel
theorem dX8_factor_161 : decode cX8_factor 161 = .ok (.if_icmp .ne 7, 3) := by decide +kernel
theorem dX8_factor_164 : decode cX8_factor 164 = .ok (.iconst 1, 1) := by decide +kernel
theorem dX8_factor_165 : decode cX8_factor 165 = .ok (.goto 4, 3) := by decide +kernel
theorem dX8_factor_168 : decode cX8_factor 168 = .ok (.iconst 0, 1) := by decide +kernel
theorem dX8_factor_169 : decode cX8_factor 169 = .ok (.putfield 63, 3) := by decide +kernel
theorem dX8_factor_172 : decode cX8_factor 172 = .ok (.aload_n 0, 1) := by decide +kernel
theorem dX8_factor_173 : decode cX8_factor 173 = .ok (.invokevirtual 107, 3) := by decide +kernel
theorem dX8_factor_176 : decode cX8_factor 176 = .ok (.istore 4, 2) := by decide +kernel
theorem dX8_factor_178 : decode cX8_factor 178 = .ok (.aload_n 0, 1) := by decide +kernel
theorem dX8_factor_179 : decode cX8_factor 179 = .ok (.iload_n 2, 1) := by decide +kernel
theorem dX8_factor_180 : decode cX8_factor 180 = .ok (.bipush 8, 2) := by decide +kernel
theorem dX8_factor_182 : decode cX8_factor 182 = .ok (.iload_n 3, 1) := by decide +kernel
theorem dX8_factor_183 : decode cX8_factor 183 = .ok (.imul, 1) := by decide +kernel
theorem dX8_factor_184 : decode cX8_factor 184 = .ok (.iadd, 1) := by decide +kernel
theorem dX8_factor_185 : decode cX8_factor 185 = .ok (.bipush 32, 2) := by decide +kernel
theorem dX8_factor_187 : decode cX8_factor 187 = .ok (.iload 4, 2) := by decide +kernel
theorem dX8_factor_189 : decode cX8_factor 189 = .ok (.imul, 1) := by decide +kernel
theorem dX8_factor_190 : decode cX8_factor 190 = .ok (.iadd, 1) := by decide +kernel
theorem dX8_factor_191 : decode cX8_factor 191 = .ok (.invokevirtual 93, 3) := by decide +kernel
theorem dX8_factor_194 : decode cX8_factor 194 = .ok (.return_, 1) := by decide +kernel
theorem dX8_every_0 : decode cX8_every 0 = .ok (.aload_n 0, 1) := by decide +kernel
theorem dX8_every_1 : decode cX8_every 1 = .ok (.invokevirtual 90, 3) := by decide +kernel
theorem dX8_every_4 : decode cX8_every 4 = .ok (.aload_n 0, 1) := by decide +kernel
theorem dX8_every_5 : decode cX8_every 5 = .ok (.getfield 63, 3) := by decide +kernel
theorem dX8_every_8 : decode cX8_every 8 = .ok (.ifCond .ne 35, 3) := by decide +kernel
theorem dX8_every_11 : decode cX8_every 11 = .ok (.aload_n 0, 1) := by decide +kernel
theorem dX8_every_12 : decode cX8_every 12 = .ok (.invokevirtual 67, 3) := by decide +kernel
theorem dX8_every_15 : decode cX8_every 15 = .ok (.bipush 38, 2) := by decide +kernel
theorem dX8_every_17 : decode cX8_every 17 = .ok (.if_icmp .ne 26, 3) := by decide +kernel
theorem dX8_every_20 : decode cX8_every 20 = .ok (.aload_n 0, 1) := by decide +kernel
theorem dX8_every_21 : decode cX8_every 21 = .ok (.dup, 1) := by decide +kernel
theorem dX8_every_22 : decode cX8_every 22 = .ok (.getfield 57, 3) := by decide +kernel
theorem dX8_every_25 : decode cX8_every 25 = .ok (.iconst 1, 1) := by decide +kernel
theorem dX8_every_26 : decode cX8_every 26 = .ok (.iadd, 1) := by decide +kernel
theorem dX8_every_27 : decode cX8_every 27 = .ok (.putfield 57, 3) := by decide +kernel
theorem dX8_every_30 : decode cX8_every 30 = .ok (.aload_n 0, 1) := by decide +kernel
theorem dX8_every_31 : decode cX8_every 31 = .ok (.invokevirtual 90, 3) := by decide +kernel
theorem dX8_every_34 : decode cX8_every 34 = .ok (.aload_n 0, 1) := by decide +kernel
theorem dX8_every_35 : decode cX8_every 35 = .ok (.bipush (-2), 2) := by decide +kernel
theorem dX8_every_37 : decode cX8_every 37 = .ok (.invokevirtual 93, 3) := by decide +kernel
theorem dX8_every_40 : decode cX8_every 40 = .ok (.goto (-36), 3) := by decide +kernel
theorem dX8_every_43 : decode cX8_every 43 = .ok (.return_, 1) := by decide +kernel
theorem dX8_some_0 : decode cX8_some 0 = .ok (.aload_n 0, 1) := by decide +kernel
theorem dX8_some_1 : decode cX8_some 1 = .ok (.invokevirtual 110, 3) := by decide +kernel
theorem dX8_some_4 : decode cX8_some 4 = .ok (.aload_n 0, 1) := by decide +kernel
theorem dX8_some_5 : decode cX8_some 5 = .ok (.getfield 63, 3) := by decide +kernel
theorem dX8_some_8 : decode cX8_some 8 = .ok (.ifCond .ne 35, 3) := by decide +kernel
theorem dX8_some_11 : decode cX8_some 11 = .ok (.aload_n 0, 1) := by decide +kernel
theorem dX8_some_12 : decode cX8_some 12 = .ok (.invokevirtual 67, 3) := by decide +kernel
theorem dX8_some_15 : decode cX8_some 15 = .ok (.bipush 124, 2) := by decide +kernel
theorem dX8_some_17 : decode cX8_some 17 = .ok (.if_icmp .ne 26, 3) := by decide +kernel
theorem dX8_some_20 : decode cX8_some 20 = .ok (.aload_n 0, 1) := by decide +kernel
theorem dX8_some_21 : decode cX8_some 21 = .ok (.dup, 1) := by decide +kernel
theorem dX8_some_22 : decode cX8_some 22 = .ok (.getfield 57, 3) := by decide +kernel
theorem dX8_some_25 : decode cX8_some 25 = .ok (.iconst 1, 1) := by decide +kernel
theorem dX8_some_26 : decode cX8_some 26 = .ok (.iadd, 1) := by decide +kernel
theorem dX8_some_27 : decode cX8_some 27 = .ok (.putfield 57, 3) := by decide +kernel
theorem dX8_some_30 : decode cX8_some 30 = .ok (.aload_n 0, 1) := by decide +kernel
theorem dX8_some_31 : decode cX8_some 31 = .ok (.invokevirtual 110, 3) := by decide +kernel
theorem dX8_some_34 : decode cX8_some 34 = .ok (.aload_n 0, 1) := by decide +kernel
theorem dX8_some_35 : decode cX8_some 35 = .ok (.bipush (-3), 2) := by decide +kernel
theorem dX8_some_37 : decode cX8_some 37 = .ok (.invokevirtual 93, 3) := by decide +kernel
theorem dX8_some_40 : decode cX8_some 40 = .ok (.goto (-36), 3) := by decide +kernel
theorem dX8_some_43 : decode cX8_some 43 = .ok (.return_, 1) := by decide +kernel
theorem dX8_much_0 : decode cX8_much 0 = .ok (.aload_n 0, 1) := by decide +kernel
theorem dX8_much_1 : decode cX8_much 1 = .ok (.aload_n 2, 1) := by decide +kernel
theorem dX8_much_2 : decode cX8_much 2 = .ok (.invokevirtual 113, 3) := by decide +kernel
theorem dX8_much_5 : decode cX8_much 5 = .ok (.aload_n 0, 1) := by decide +kernel
theorem dX8_much_6 : decode cX8_much 6 = .ok (.invokevirtual 107, 3) := by decide +kernel
theorem dX8_much_9 : decode cX8_much 9 = .ok (.istore_n 3, 1) := by decide +kernel
theorem dX8_much_10 : decode cX8_much 10 = .ok (.aload_n 0, 1) := by decide +kernel
theorem dX8_much_11 : decode cX8_much 11 = .ok (.bipush 32, 2) := by decide +kernel
theorem dX8_much_13 : decode cX8_much 13 = .ok (.invokevirtual 80, 3) := by decide +kernel
theorem dX8_much_16 : decode cX8_much 16 = .ok (.aload_n 0, 1) := by decide +kernel
theorem dX8_much_17 : decode cX8_much 17 = .ok (.invokevirtual 96, 3) := by decide +kernel
theorem dX8_much_20 : decode cX8_much 20 = .ok (.aload_n 0, 1) := by decide +kernel
theorem dX8_much_21 : decode cX8_much 21 = .ok (.iload_n 1, 1) := by decide +kernel
theorem dX8_much_22 : decode cX8_much 22 = .ok (.iload_n 3, 1) := by decide +kernel
theorem dX8_much_23 : decode cX8_much 23 = .ok (.isub, 1) := by decide +kernel
theorem dX8_much_24 : decode cX8_much 24 = .ok (.invokevirtual 93, 3) := by decide +kernel
theorem dX8_much_27 : decode cX8_much 27 = .ok (.return_, 1) := by decide +kernel
theorem dX8_tellsHere_0 : decode cX8_tellsHere 0 = .ok (.aload_n 0, 1) := by decide +kernel
theorem dX8_tellsHere_1 : decode cX8_tellsHere 1 = .ok (.aload_n 2, 1) := by decide +kernel
theorem dX8_tellsHere_2 : decode cX8_tellsHere 2 = .ok (.invokevirtual 113, 3) := by decide +kernel
theorem dX8_tellsHere_5 : decode cX8_tellsHere 5 = .ok (.aload_n 0, 1) := by decide +kernel
theorem dX8_tellsHere_6 : decode cX8_tellsHere 6 = .ok (.invokevirtual 107, 3) := by decide +kernel
theorem dX8_tellsHere_9 : decode cX8_tellsHere 9 = .ok (.istore_n 3, 1) := by decide +kernel
theorem dX8_tellsHere_10 : decode cX8_tellsHere 10 = .ok (.aload_n 0, 1) := by decide +kernel
theorem dX8_tellsHere_11 : decode cX8_tellsHere 11 = .ok (.getfield 63, 3) := by decide +kernel
theorem dX8_tellsHere_14 : decode cX8_tellsHere 14 = .ok (.ifCond .ne 15, 3) := by decide +kernel
theorem dX8_tellsHere_17 : decode cX8_tellsHere 17 = .ok (.aload_n 0, 1) := by decide +kernel
theorem dX8_tellsHere_18 : decode cX8_tellsHere 18 = .ok (.getfield 9, 3) := by decide +kernel
theorem dX8_tellsHere_21 : decode cX8_tellsHere 21 = .ok (.iload_n 1, 1) := by decide +kernel
theorem dX8_tellsHere_22 : decode cX8_tellsHere 22 = .ok (.aload_n 0, 1) := by decide +kernel
theorem dX8_tellsHere_23 : decode cX8_tellsHere 23 = .ok (.getfield 84, 3) := by decide +kernel
theorem dX8_tellsHere_26 : decode cX8_tellsHere 26 = .ok (.iadd, 1) := by decide +kernel
theorem dX8_tellsHere_27 : decode cX8_tellsHere 27 = .ok (.iload_n 3, 1) := by decide +kernel
theorem dX8_tellsHere_28 : decode cX8_tellsHere 28 = .ok (.iastore, 1) := by decide +kernel
theorem dX8_tellsHere_29 : decode cX8_tellsHere 29 = .ok (.return_, 1) := by decide +kernel
theorem dX8_clauseHere_0 : decode cX8_clauseHere 0 = .ok (.aload_n 0, 1) := by decide +kernel
theorem dX8_clauseHere_1 : decode cX8_clauseHere 1 = .ok (.invokevirtual 67, 3) := by decide +kernel
theorem dX8_clauseHere_4 : decode cX8_clauseHere 4 = .ok (.lookupswitch 91 #[(98, 68), (103, 44), (109, 79), (111, 56)], 44) := by decide +kernel
theorem dX8_clauseHere_48 : decode cX8_clauseHere 48 = .ok (.aload_n 0, 1) := by decide +kernel
theorem dX8_clauseHere_49 : decode cX8_clauseHere 49 = .ok (.sipush 223, 3) := by decide +kernel
theorem dX8_clauseHere_52 : decode cX8_clauseHere 52 = .ok (.ldc 117, 2) := by decide +kernel
theorem dX8_clauseHere_54 : decode cX8_clauseHere 54 = .ok (.invokevirtual 119, 3) := by decide +kernel
theorem dX8_clauseHere_57 : decode cX8_clauseHere 57 = .ok (.goto 43, 3) := by decide +kernel
theorem dX8_clauseHere_60 : decode cX8_clauseHere 60 = .ok (.aload_n 0, 1) := by decide +kernel
theorem dX8_clauseHere_61 : decode cX8_clauseHere 61 = .ok (.sipush 228, 3) := by decide +kernel
theorem dX8_clauseHere_64 : decode cX8_clauseHere 64 = .ok (.ldc 123, 2) := by decide +kernel
theorem dX8_clauseHere_66 : decode cX8_clauseHere 66 = .ok (.invokevirtual 119, 3) := by decide +kernel
theorem dX8_clauseHere_69 : decode cX8_clauseHere 69 = .ok (.goto 31, 3) := by decide +kernel
theorem dX8_clauseHere_72 : decode cX8_clauseHere 72 = .ok (.aload_n 0, 1) := by decide +kernel
theorem dX8_clauseHere_73 : decode cX8_clauseHere 73 = .ok (.bipush (-10), 2) := by decide +kernel
theorem dX8_clauseHere_75 : decode cX8_clauseHere 75 = .ok (.ldc 125, 2) := by decide +kernel
theorem dX8_clauseHere_77 : decode cX8_clauseHere 77 = .ok (.invokevirtual 127, 3) := by decide +kernel
theorem dX8_clauseHere_80 : decode cX8_clauseHere 80 = .ok (.goto 20, 3) := by decide +kernel
theorem dX8_clauseHere_83 : decode cX8_clauseHere 83 = .ok (.aload_n 0, 1) := by decide +kernel
theorem dX8_clauseHere_84 : decode cX8_clauseHere 84 = .ok (.sipush (-200), 3) := by decide +kernel
theorem dX8_clauseHere_87 : decode cX8_clauseHere 87 = .ok (.ldc 130, 2) := by decide +kernel
theorem dX8_clauseHere_89 : decode cX8_clauseHere 89 = .ok (.invokevirtual 127, 3) := by decide +kernel
theorem dX8_clauseHere_92 : decode cX8_clauseHere 92 = .ok (.goto 8, 3) := by decide +kernel
theorem dX8_clauseHere_95 : decode cX8_clauseHere 95 = .ok (.aload_n 0, 1) := by decide +kernel
theorem dX8_clauseHere_96 : decode cX8_clauseHere 96 = .ok (.iconst 1, 1) := by decide +kernel
theorem dX8_clauseHere_97 : decode cX8_clauseHere 97 = .ok (.putfield 63, 3) := by decide +kernel
theorem dX8_clauseHere_100 : decode cX8_clauseHere 100 = .ok (.return_, 1) := by decide +kernel
theorem dX8_village_0 : decode cX8_village 0 = .ok (.aload_n 0, 1) := by decide +kernel
theorem dX8_village_1 : decode cX8_village 1 = .ok (.getfield 9, 3) := by decide +kernel
theorem dX8_village_4 : decode cX8_village 4 = .ok (.bipush 13, 2) := by decide +kernel
theorem dX8_village_6 : decode cX8_village 6 = .ok (.iaload, 1) := by decide +kernel
theorem dX8_village_7 : decode cX8_village 7 = .ok (.iconst 5, 1) := by decide +kernel
theorem dX8_village_8 : decode cX8_village 8 = .ok (.if_icmp .ne 6, 3) := by decide +kernel
theorem dX8_village_11 : decode cX8_village 11 = .ok (.bipush (-4), 2) := by decide +kernel
theorem dX8_village_13 : decode cX8_village 13 = .ok (.ireturn, 1) := by decide +kernel
theorem dX8_village_14 : decode cX8_village 14 = .ok (.aload_n 0, 1) := by decide +kernel
theorem dX8_village_15 : decode cX8_village 15 = .ok (.aload_n 0, 1) := by decide +kernel
theorem dX8_village_16 : decode cX8_village 16 = .ok (.getfield 9, 3) := by decide +kernel
theorem dX8_village_19 : decode cX8_village 19 = .ok (.bipush 13, 2) := by decide +kernel
theorem dX8_village_21 : decode cX8_village 21 = .ok (.iaload, 1) := by decide +kernel
theorem dX8_village_22 : decode cX8_village 22 = .ok (.putfield 84, 3) := by decide +kernel
theorem dX8_village_25 : decode cX8_village 25 = .ok (.aload_n 0, 1) := by decide +kernel
theorem dX8_village_26 : decode cX8_village 26 = .ok (.aload_n 0, 1) := by decide +kernel
theorem dX8_village_27 : decode cX8_village 27 = .ok (.getfield 9, 3) := by decide +kernel
theorem dX8_village_30 : decode cX8_village 30 = .ok (.bipush 17, 2) := by decide +kernel
theorem dX8_village_32 : decode cX8_village 32 = .ok (.iaload, 1) := by decide +kernel
theorem dX8_village_33 : decode cX8_village 33 = .ok (.putfield 60, 3) := by decide +kernel
theorem dX8_village_36 : decode cX8_village 36 = .ok (.aload_n 0, 1) := by decide +kernel
theorem dX8_village_37 : decode cX8_village 37 = .ok (.getfield 9, 3) := by decide +kernel
theorem dX8_village_40 : decode cX8_village 40 = .ok (.bipush 17, 2) := by decide +kernel
theorem dX8_village_42 : decode cX8_village 42 = .ok (.iconst 0, 1) := by decide +kernel
theorem dX8_village_43 : decode cX8_village 43 = .ok (.iastore, 1) := by decide +kernel
theorem dX8_village_44 : decode cX8_village 44 = .ok (.aload_n 0, 1) := by decide +kernel
theorem dX8_village_45 : decode cX8_village 45 = .ok (.getfield 9, 3) := by decide +kernel
theorem dX8_village_48 : decode cX8_village 48 = .ok (.sipush 223, 3) := by decide +kernel
theorem dX8_village_51 : decode cX8_village 51 = .ok (.aload_n 0, 1) := by decide +kernel
theorem dX8_village_52 : decode cX8_village 52 = .ok (.getfield 84, 3) := by decide +kernel
theorem dX8_village_55 : decode cX8_village 55 = .ok (.iadd, 1) := by decide +kernel
theorem dX8_village_56 : decode cX8_village 56 = .ok (.bipush 18, 2) := by decide +kernel
theorem dX8_village_58 : decode cX8_village 58 = .ok (.iastore, 1) := by decide +kernel
theorem dX8_village_59 : decode cX8_village 59 = .ok (.aload_n 0, 1) := by decide +kernel
theorem dX8_village_60 : decode cX8_village 60 = .ok (.getfield 9, 3) := by decide +kernel
theorem dX8_village_63 : decode cX8_village 63 = .ok (.sipush 228, 3) := by decide +kernel
theorem dX8_village_66 : decode cX8_village 66 = .ok (.aload_n 0, 1) := by decide +kernel
theorem dX8_village_67 : decode cX8_village 67 = .ok (.getfield 84, 3) := by decide +kernel
theorem dX8_village_70 : decode cX8_village 70 = .ok (.iadd, 1) := by decide +kernel
theorem dX8_village_71 : decode cX8_village 71 = .ok (.bipush 60, 2) := by decide +kernel
theorem dX8_village_73 : decode cX8_village 73 = .ok (.iastore, 1) := by decide +kernel
theorem dX8_village_74 : decode cX8_village 74 = .ok (.aload_n 0, 1) := by decide +kernel
theorem dX8_village_75 : decode cX8_village 75 = .ok (.getfield 9, 3) := by decide +kernel
theorem dX8_village_78 : decode cX8_village 78 = .ok (.sipush 233, 3) := by decide +kernel
theorem dX8_village_81 : decode cX8_village 81 = .ok (.aload_n 0, 1) := by decide +kernel
theorem dX8_village_82 : decode cX8_village 82 = .ok (.getfield 84, 3) := by decide +kernel
theorem dX8_village_85 : decode cX8_village 85 = .ok (.iadd, 1) := by decide +kernel
theorem dX8_village_86 : decode cX8_village 86 = .ok (.iconst 0, 1) := by decide +kernel
theorem dX8_village_87 : decode cX8_village 87 = .ok (.iastore, 1) := by decide +kernel
theorem dX8_village_88 : decode cX8_village 88 = .ok (.aload_n 0, 1) := by decide +kernel
theorem dX8_village_89 : decode cX8_village 89 = .ok (.iconst 0, 1) := by decide +kernel
theorem dX8_village_90 : decode cX8_village 90 = .ok (.putfield 57, 3) := by decide +kernel
theorem dX8_village_93 : decode cX8_village 93 = .ok (.aload_n 0, 1) := by decide +kernel
theorem dX8_village_94 : decode cX8_village 94 = .ok (.iconst 0, 1) := by decide +kernel
theorem dX8_village_95 : decode cX8_village 95 = .ok (.putfield 63, 3) := by decide +kernel
theorem dX8_village_98 : decode cX8_village 98 = .ok (.aload_n 0, 1) := by decide +kernel
theorem dX8_village_99 : decode cX8_village 99 = .ok (.iconst 0, 1) := by decide +kernel
theorem dX8_village_100 : decode cX8_village 100 = .ok (.putfield 87, 3) := by decide +kernel
theorem dX8_village_103 : decode cX8_village 103 = .ok (.iconst 1, 1) := by decide +kernel
theorem dX8_village_104 : decode cX8_village 104 = .ok (.istore_n 1, 1) := by decide +kernel
theorem dX8_village_105 : decode cX8_village 105 = .ok (.aload_n 0, 1) := by decide +kernel
theorem dX8_village_106 : decode cX8_village 106 = .ok (.invokevirtual 132, 3) := by decide +kernel
theorem dX8_village_109 : decode cX8_village 109 = .ok (.aload_n 0, 1) := by decide +kernel
theorem dX8_village_110 : decode cX8_village 110 = .ok (.getfield 63, 3) := by decide +kernel
theorem dX8_village_113 : decode cX8_village 113 = .ok (.ifCond .ne 38, 3) := by decide +kernel
theorem dX8_village_116 : decode cX8_village 116 = .ok (.iload_n 1, 1) := by decide +kernel
theorem dX8_village_117 : decode cX8_village 117 = .ok (.bipush 10, 2) := by decide +kernel
theorem dX8_village_119 : decode cX8_village 119 = .ok (.if_icmp .ge 32, 3) := by decide +kernel
theorem dX8_village_122 : decode cX8_village 122 = .ok (.aload_n 0, 1) := by decide +kernel
theorem dX8_village_123 : decode cX8_village 123 = .ok (.invokevirtual 67, 3) := by decide +kernel
theorem dX8_village_126 : decode cX8_village 126 = .ok (.bipush 59, 2) := by decide +kernel
theorem dX8_village_128 : decode cX8_village 128 = .ok (.if_icmp .ne 23, 3) := by decide +kernel
theorem dX8_village_131 : decode cX8_village 131 = .ok (.aload_n 0, 1) := by decide +kernel
theorem dX8_village_132 : decode cX8_village 132 = .ok (.dup, 1) := by decide +kernel
theorem dX8_village_133 : decode cX8_village 133 = .ok (.getfield 57, 3) := by decide +kernel
theorem dX8_village_136 : decode cX8_village 136 = .ok (.iconst 1, 1) := by decide +kernel
theorem dX8_village_137 : decode cX8_village 137 = .ok (.iadd, 1) := by decide +kernel
theorem dX8_village_138 : decode cX8_village 138 = .ok (.putfield 57, 3) := by decide +kernel
theorem dX8_village_141 : decode cX8_village 141 = .ok (.aload_n 0, 1) := by decide +kernel
theorem dX8_village_142 : decode cX8_village 142 = .ok (.invokevirtual 132, 3) := by decide +kernel
theorem dX8_village_145 : decode cX8_village 145 = .ok (.iinc 1 1, 3) := by decide +kernel
theorem dX8_village_148 : decode cX8_village 148 = .ok (.goto (-39), 3) := by decide +kernel
theorem dX8_village_151 : decode cX8_village 151 = .ok (.aload_n 0, 1) := by decide +kernel
theorem dX8_village_152 : decode cX8_village 152 = .ok (.getfield 63, 3) := by decide +kernel
theorem dX8_village_155 : decode cX8_village 155 = .ok (.ifCond .ne 14, 3) := by decide +kernel
theorem dX8_village_158 : decode cX8_village 158 = .ok (.aload_n 0, 1) := by decide +kernel
theorem dX8_village_159 : decode cX8_village 159 = .ok (.getfield 57, 3) := by decide +kernel
theorem dX8_village_162 : decode cX8_village 162 = .ok (.aload_n 0, 1) := by decide +kernel
theorem dX8_village_163 : decode cX8_village 163 = .ok (.getfield 60, 3) := by decide +kernel
theorem dX8_village_166 : decode cX8_village 166 = .ok (.if_icmp .eq 11, 3) := by decide +kernel
theorem dX8_village_169 : decode cX8_village 169 = .ok (.bipush (-10), 2) := by decide +kernel
theorem dX8_village_171 : decode cX8_village 171 = .ok (.aload_n 0, 1) := by decide +kernel
theorem dX8_village_172 : decode cX8_village 172 = .ok (.getfield 57, 3) := by decide +kernel
theorem dX8_village_175 : decode cX8_village 175 = .ok (.isub, 1) := by decide +kernel
theorem dX8_village_176 : decode cX8_village 176 = .ok (.ireturn, 1) := by decide +kernel
theorem dX8_village_177 : decode cX8_village 177 = .ok (.aload_n 0, 1) := by decide +kernel
theorem dX8_village_178 : decode cX8_village 178 = .ok (.getfield 9, 3) := by decide +kernel
theorem dX8_village_181 : decode cX8_village 181 = .ok (.bipush 13, 2) := by decide +kernel
theorem dX8_village_183 : decode cX8_village 183 = .ok (.dup2, 1) := by decide +kernel
theorem dX8_village_184 : decode cX8_village 184 = .ok (.iaload, 1) := by decide +kernel
theorem dX8_village_185 : decode cX8_village 185 = .ok (.iconst 1, 1) := by decide +kernel
theorem dX8_village_186 : decode cX8_village 186 = .ok (.iadd, 1) := by decide +kernel
theorem dX8_village_187 : decode cX8_village 187 = .ok (.iastore, 1) := by decide +kernel
theorem dX8_village_188 : decode cX8_village 188 = .ok (.aload_n 0, 1) := by decide +kernel
theorem dX8_village_189 : decode cX8_village 189 = .ok (.getfield 9, 3) := by decide +kernel
theorem dX8_village_192 : decode cX8_village 192 = .ok (.bipush 18, 2) := by decide +kernel
theorem dX8_village_194 : decode cX8_village 194 = .ok (.aload_n 0, 1) := by decide +kernel
theorem dX8_village_195 : decode cX8_village 195 = .ok (.getfield 84, 3) := by decide +kernel
theorem dX8_village_198 : decode cX8_village 198 = .ok (.iastore, 1) := by decide +kernel
theorem dX8_village_199 : decode cX8_village 199 = .ok (.aload_n 0, 1) := by decide +kernel
theorem dX8_village_200 : decode cX8_village 200 = .ok (.getfield 84, 3) := by decide +kernel
theorem dX8_village_203 : decode cX8_village 203 = .ok (.ireturn, 1) := by decide +kernel
theorem dX8_tellsOf_0 : decode cX8_tellsOf 0 = .ok (.aload_n 0, 1) := by decide +kernel
theorem dX8_tellsOf_1 : decode cX8_tellsOf 1 = .ok (.getfield 9, 3) := by decide +kernel
theorem dX8_tellsOf_4 : decode cX8_tellsOf 4 = .ok (.bipush 18, 2) := by decide +kernel
theorem dX8_tellsOf_6 : decode cX8_tellsOf 6 = .ok (.iaload, 1) := by decide +kernel
theorem dX8_tellsOf_7 : decode cX8_tellsOf 7 = .ok (.iconst (-1), 1) := by decide +kernel
theorem dX8_tellsOf_8 : decode cX8_tellsOf 8 = .ok (.if_icmp .ne 7, 3) := by decide +kernel
theorem dX8_tellsOf_11 : decode cX8_tellsOf 11 = .ok (.iload_n 2, 1) := by decide +kernel
theorem dX8_tellsOf_12 : decode cX8_tellsOf 12 = .ok (.goto 17, 3) := by decide +kernel
theorem dX8_tellsOf_15 : decode cX8_tellsOf 15 = .ok (.aload_n 0, 1) := by decide +kernel
theorem dX8_tellsOf_16 : decode cX8_tellsOf 16 = .ok (.getfield 9, 3) := by decide +kernel
theorem dX8_tellsOf_19 : decode cX8_tellsOf 19 = .ok (.iload_n 1, 1) := by decide +kernel
theorem dX8_tellsOf_20 : decode cX8_tellsOf 20 = .ok (.aload_n 0, 1) := by decide +kernel
theorem dX8_tellsOf_21 : decode cX8_tellsOf 21 = .ok (.getfield 9, 3) := by decide +kernel
theorem dX8_tellsOf_24 : decode cX8_tellsOf 24 = .ok (.bipush 18, 2) := by decide +kernel
theorem dX8_tellsOf_26 : decode cX8_tellsOf 26 = .ok (.iaload, 1) := by decide +kernel
theorem dX8_tellsOf_27 : decode cX8_tellsOf 27 = .ok (.iadd, 1) := by decide +kernel
theorem dX8_tellsOf_28 : decode cX8_tellsOf 28 = .ok (.iaload, 1) := by decide +kernel
theorem dX8_tellsOf_29 : decode cX8_tellsOf 29 = .ok (.ireturn, 1) := by decide +kernel
theorem dX8_ageIn_0 : decode cX8_ageIn 0 = .ok (.aload_n 0, 1) := by decide +kernel
theorem dX8_ageIn_1 : decode cX8_ageIn 1 = .ok (.getfield 9, 3) := by decide +kernel
theorem dX8_ageIn_4 : decode cX8_ageIn 4 = .ok (.bipush 32, 2) := by decide +kernel
theorem dX8_ageIn_6 : decode cX8_ageIn 6 = .ok (.iload_n 1, 1) := by decide +kernel
theorem dX8_ageIn_7 : decode cX8_ageIn 7 = .ok (.iadd, 1) := by decide +kernel
theorem dX8_ageIn_8 : decode cX8_ageIn 8 = .ok (.iaload, 1) := by decide +kernel
theorem dX8_ageIn_9 : decode cX8_ageIn 9 = .ok (.istore_n 3, 1) := by decide +kernel
theorem dX8_ageIn_10 : decode cX8_ageIn 10 = .ok (.aload_n 0, 1) := by decide +kernel
theorem dX8_ageIn_11 : decode cX8_ageIn 11 = .ok (.getfield 9, 3) := by decide +kernel
theorem dX8_ageIn_14 : decode cX8_ageIn 14 = .ok (.bipush 26, 2) := by decide +kernel
theorem dX8_ageIn_16 : decode cX8_ageIn 16 = .ok (.iload_n 1, 1) := by decide +kernel
theorem dX8_ageIn_17 : decode cX8_ageIn 17 = .ok (.iadd, 1) := by decide +kernel
theorem dX8_ageIn_18 : decode cX8_ageIn 18 = .ok (.iaload, 1) := by decide +kernel
theorem dX8_ageIn_19 : decode cX8_ageIn 19 = .ok (.istore 4, 2) := by decide +kernel
theorem dX8_ageIn_21 : decode cX8_ageIn 21 = .ok (.aload_n 0, 1) := by decide +kernel
theorem dX8_ageIn_22 : decode cX8_ageIn 22 = .ok (.getfield 9, 3) := by decide +kernel
theorem dX8_ageIn_25 : decode cX8_ageIn 25 = .ok (.iconst 0, 1) := by decide +kernel
theorem dX8_ageIn_26 : decode cX8_ageIn 26 = .ok (.iaload, 1) := by decide +kernel
theorem dX8_ageIn_27 : decode cX8_ageIn 27 = .ok (.iload_n 3, 1) := by decide +kernel
theorem dX8_ageIn_28 : decode cX8_ageIn 28 = .ok (.isub, 1) := by decide +kernel
theorem dX8_ageIn_29 : decode cX8_ageIn 29 = .ok (.istore 5, 2) := by decide +kernel
theorem dX8_ageIn_31 : decode cX8_ageIn 31 = .ok (.iload 5, 2) := by decide +kernel
theorem dX8_ageIn_33 : decode cX8_ageIn 33 = .ok (.iload_n 2, 1) := by decide +kernel
theorem dX8_ageIn_34 : decode cX8_ageIn 34 = .ok (.aload_n 0, 1) := by decide +kernel
theorem dX8_ageIn_35 : decode cX8_ageIn 35 = .ok (.getfield 9, 3) := by decide +kernel
theorem dX8_ageIn_38 : decode cX8_ageIn 38 = .ok (.iconst 0, 1) := by decide +kernel
theorem dX8_ageIn_39 : decode cX8_ageIn 39 = .ok (.iaload, 1) := by decide +kernel
theorem dX8_ageIn_40 : decode cX8_ageIn 40 = .ok (.isub, 1) := by decide +kernel
theorem dX8_ageIn_41 : decode cX8_ageIn 41 = .ok (.iconst 2, 1) := by decide +kernel
theorem dX8_ageIn_42 : decode cX8_ageIn 42 = .ok (.idiv, 1) := by decide +kernel
theorem dX8_ageIn_43 : decode cX8_ageIn 43 = .ok (.iadd, 1) := by decide +kernel
theorem dX8_ageIn_44 : decode cX8_ageIn 44 = .ok (.istore 6, 2) := by decide +kernel
theorem dX8_ageIn_46 : decode cX8_ageIn 46 = .ok (.aload_n 0, 1) := by decide +kernel
theorem dX8_ageIn_47 : decode cX8_ageIn 47 = .ok (.getfield 9, 3) := by decide +kernel
theorem dX8_ageIn_50 : decode cX8_ageIn 50 = .ok (.bipush 20, 2) := by decide +kernel
theorem dX8_ageIn_52 : decode cX8_ageIn 52 = .ok (.iload_n 1, 1) := by decide +kernel
theorem dX8_ageIn_53 : decode cX8_ageIn 53 = .ok (.iadd, 1) := by decide +kernel
theorem dX8_ageIn_54 : decode cX8_ageIn 54 = .ok (.iaload, 1) := by decide +kernel
theorem dX8_ageIn_55 : decode cX8_ageIn 55 = .ok (.tableswitch 94 1 6 #[37, 44, 47, 50, 60, 75], 37) := by decide +kernel
theorem dX8_ageIn_92 : decode cX8_ageIn 92 = .ok (.iload_n 2, 1) := by decide +kernel
theorem dX8_ageIn_93 : decode cX8_ageIn 93 = .ok (.iload_n 3, 1) := by decide +kernel
theorem dX8_ageIn_94 : decode cX8_ageIn 94 = .ok (.isub, 1) := by decide +kernel
theorem dX8_ageIn_95 : decode cX8_ageIn 95 = .ok (.iload 4, 2) := by decide +kernel
theorem dX8_ageIn_97 : decode cX8_ageIn 97 = .ok (.isub, 1) := by decide +kernel
theorem dX8_ageIn_98 : decode cX8_ageIn 98 = .ok (.ireturn, 1) := by decide +kernel
theorem dX8_ageIn_99 : decode cX8_ageIn 99 = .ok (.iload 6, 2) := by decide +kernel
theorem dX8_ageIn_101 : decode cX8_ageIn 101 = .ok (.ireturn, 1) := by decide +kernel
theorem dX8_ageIn_102 : decode cX8_ageIn 102 = .ok (.iload 5, 2) := by decide +kernel
theorem dX8_ageIn_104 : decode cX8_ageIn 104 = .ok (.ireturn, 1) := by decide +kernel
theorem dX8_ageIn_105 : decode cX8_ageIn 105 = .ok (.iload_n 2, 1) := by decide +kernel
theorem dX8_ageIn_106 : decode cX8_ageIn 106 = .ok (.iload_n 3, 1) := by decide +kernel
theorem dX8_ageIn_107 : decode cX8_ageIn 107 = .ok (.isub, 1) := by decide +kernel
theorem dX8_ageIn_108 : decode cX8_ageIn 108 = .ok (.iload 4, 2) := by decide +kernel
theorem dX8_ageIn_110 : decode cX8_ageIn 110 = .ok (.isub, 1) := by decide +kernel
theorem dX8_ageIn_111 : decode cX8_ageIn 111 = .ok (.iload 4, 2) := by decide +kernel
theorem dX8_ageIn_113 : decode cX8_ageIn 113 = .ok (.isub, 1) := by decide +kernel
theorem dX8_ageIn_114 : decode cX8_ageIn 114 = .ok (.ireturn, 1) := by decide +kernel
theorem dX8_ageIn_115 : decode cX8_ageIn 115 = .ok (.iload 6, 2) := by decide +kernel
theorem dX8_ageIn_117 : decode cX8_ageIn 117 = .ok (.iload 5, 2) := by decide +kernel
theorem dX8_ageIn_119 : decode cX8_ageIn 119 = .ok (.if_icmp .ge 8, 3) := by decide +kernel
theorem dX8_ageIn_122 : decode cX8_ageIn 122 = .ok (.iload 6, 2) := by decide +kernel
theorem dX8_ageIn_124 : decode cX8_ageIn 124 = .ok (.goto 5, 3) := by decide +kernel
theorem dX8_ageIn_127 : decode cX8_ageIn 127 = .ok (.iload 5, 2) := by decide +kernel
theorem dX8_ageIn_129 : decode cX8_ageIn 129 = .ok (.ireturn, 1) := by decide +kernel
theorem dX8_ageIn_130 : decode cX8_ageIn 130 = .ok (.iload 5, 2) := by decide +kernel
theorem dX8_ageIn_132 : decode cX8_ageIn 132 = .ok (.aload_n 0, 1) := by decide +kernel
theorem dX8_ageIn_133 : decode cX8_ageIn 133 = .ok (.getfield 9, 3) := by decide +kernel
theorem dX8_ageIn_136 : decode cX8_ageIn 136 = .ok (.bipush 44, 2) := by decide +kernel
theorem dX8_ageIn_138 : decode cX8_ageIn 138 = .ok (.iconst 4, 1) := by decide +kernel
theorem dX8_ageIn_139 : decode cX8_ageIn 139 = .ok (.iload_n 1, 1) := by decide +kernel
theorem dX8_ageIn_140 : decode cX8_ageIn 140 = .ok (.imul, 1) := by decide +kernel
theorem dX8_ageIn_141 : decode cX8_ageIn 141 = .ok (.iadd, 1) := by decide +kernel
theorem dX8_ageIn_142 : decode cX8_ageIn 142 = .ok (.iload_n 2, 1) := by decide +kernel
theorem dX8_ageIn_143 : decode cX8_ageIn 143 = .ok (.iconst 4, 1) := by decide +kernel
theorem dX8_ageIn_144 : decode cX8_ageIn 144 = .ok (.irem, 1) := by decide +kernel
theorem dX8_ageIn_145 : decode cX8_ageIn 145 = .ok (.iadd, 1) := by decide +kernel
theorem dX8_ageIn_146 : decode cX8_ageIn 146 = .ok (.iaload, 1) := by decide +kernel
theorem dX8_ageIn_147 : decode cX8_ageIn 147 = .ok (.isub, 1) := by decide +kernel
theorem dX8_ageIn_148 : decode cX8_ageIn 148 = .ok (.ireturn, 1) := by decide +kernel
theorem dX8_ageIn_149 : decode cX8_ageIn 149 = .ok (.iload_n 2, 1) := by decide +kernel
theorem dX8_ageIn_150 : decode cX8_ageIn 150 = .ok (.iload_n 3, 1) := by decide +kernel
theorem dX8_ageIn_151 : decode cX8_ageIn 151 = .ok (.isub, 1) := by decide +kernel
theorem dX8_ageIn_152 : decode cX8_ageIn 152 = .ok (.ireturn, 1) := by decide +kernel
theorem dX8_ageBy_0 : decode cX8_ageBy 0 = .ok (.iload_n 2, 1) := by decide +kernel
theorem dX8_ageBy_1 : decode cX8_ageBy 1 = .ok (.iconst (-1), 1) := by decide +kernel
theorem dX8_ageBy_2 : decode cX8_ageBy 2 = .ok (.if_icmp .ne 22, 3) := by decide +kernel
theorem dX8_ageBy_5 : decode cX8_ageBy 5 = .ok (.aload_n 0, 1) := by decide +kernel
theorem dX8_ageBy_6 : decode cX8_ageBy 6 = .ok (.getfield 9, 3) := by decide +kernel
theorem dX8_ageBy_9 : decode cX8_ageBy 9 = .ok (.iconst 0, 1) := by decide +kernel
theorem dX8_ageBy_10 : decode cX8_ageBy 10 = .ok (.iaload, 1) := by decide +kernel
theorem dX8_ageBy_11 : decode cX8_ageBy 11 = .ok (.aload_n 0, 1) := by decide +kernel
theorem dX8_ageBy_12 : decode cX8_ageBy 12 = .ok (.getfield 9, 3) := by decide +kernel
theorem dX8_ageBy_15 : decode cX8_ageBy 15 = .ok (.bipush 32, 2) := by decide +kernel
theorem dX8_ageBy_17 : decode cX8_ageBy 17 = .ok (.iload_n 1, 1) := by decide +kernel
theorem dX8_ageBy_18 : decode cX8_ageBy 18 = .ok (.iadd, 1) := by decide +kernel
theorem dX8_ageBy_19 : decode cX8_ageBy 19 = .ok (.iaload, 1) := by decide +kernel
theorem dX8_ageBy_20 : decode cX8_ageBy 20 = .ok (.isub, 1) := by decide +kernel
theorem dX8_ageBy_21 : decode cX8_ageBy 21 = .ok (.goto 17, 3) := by decide +kernel
theorem dX8_ageBy_24 : decode cX8_ageBy 24 = .ok (.aload_n 0, 1) := by decide +kernel
theorem dX8_ageBy_25 : decode cX8_ageBy 25 = .ok (.iload_n 1, 1) := by decide +kernel
theorem dX8_ageBy_26 : decode cX8_ageBy 26 = .ok (.aload_n 0, 1) := by decide +kernel
theorem dX8_ageBy_27 : decode cX8_ageBy 27 = .ok (.getfield 9, 3) := by decide +kernel
theorem dX8_ageBy_30 : decode cX8_ageBy 30 = .ok (.bipush 68, 2) := by decide +kernel
theorem dX8_ageBy_32 : decode cX8_ageBy 32 = .ok (.iload_n 2, 1) := by decide +kernel
theorem dX8_ageBy_33 : decode cX8_ageBy 33 = .ok (.iadd, 1) := by decide +kernel
theorem dX8_ageBy_34 : decode cX8_ageBy 34 = .ok (.iaload, 1) := by decide +kernel
theorem dX8_ageBy_35 : decode cX8_ageBy 35 = .ok (.invokevirtual 135, 3) := by decide +kernel
theorem dX8_ageBy_38 : decode cX8_ageBy 38 = .ok (.ireturn, 1) := by decide +kernel
theorem dX8_isHereAt_0 : decode cX8_isHereAt 0 = .ok (.iload_n 2, 1) := by decide +kernel
theorem dX8_isHereAt_1 : decode cX8_isHereAt 1 = .ok (.iconst 0, 1) := by decide +kernel
theorem dX8_isHereAt_2 : decode cX8_isHereAt 2 = .ok (.aload_n 0, 1) := by decide +kernel
theorem dX8_isHereAt_3 : decode cX8_isHereAt 3 = .ok (.getfield 9, 3) := by decide +kernel
theorem dX8_isHereAt_6 : decode cX8_isHereAt 6 = .ok (.bipush 38, 2) := by decide +kernel
theorem dX8_isHereAt_8 : decode cX8_isHereAt 8 = .ok (.iload_n 1, 1) := by decide +kernel
theorem dX8_isHereAt_9 : decode cX8_isHereAt 9 = .ok (.iadd, 1) := by decide +kernel
theorem dX8_isHereAt_10 : decode cX8_isHereAt 10 = .ok (.iaload, 1) := by decide +kernel
theorem dX8_isHereAt_11 : decode cX8_isHereAt 11 = .ok (.invokestatic 53, 3) := by decide +kernel
theorem dX8_isHereAt_14 : decode cX8_isHereAt 14 = .ok (.ireturn, 1) := by decide +kernel
theorem dX8_stageAt_0 : decode cX8_stageAt 0 = .ok (.aload_n 0, 1) := by decide +kernel
theorem dX8_stageAt_1 : decode cX8_stageAt 1 = .ok (.iload_n 1, 1) := by decide +kernel
theorem dX8_stageAt_2 : decode cX8_stageAt 2 = .ok (.iload_n 2, 1) := by decide +kernel
theorem dX8_stageAt_3 : decode cX8_stageAt 3 = .ok (.invokevirtual 139, 3) := by decide +kernel
theorem dX8_stageAt_6 : decode cX8_stageAt 6 = .ok (.ifCond .ne 7, 3) := by decide +kernel
theorem dX8_stageAt_9 : decode cX8_stageAt 9 = .ok (.iconst 0, 1) := by decide +kernel
theorem dX8_stageAt_10 : decode cX8_stageAt 10 = .ok (.goto 38, 3) := by decide +kernel
theorem dX8_stageAt_13 : decode cX8_stageAt 13 = .ok (.iload_n 2, 1) := by decide +kernel
theorem dX8_stageAt_14 : decode cX8_stageAt 14 = .ok (.aload_n 0, 1) := by decide +kernel
theorem dX8_stageAt_15 : decode cX8_stageAt 15 = .ok (.sipush 223, 3) := by decide +kernel
theorem dX8_stageAt_18 : decode cX8_stageAt 18 = .ok (.bipush 18, 2) := by decide +kernel
theorem dX8_stageAt_20 : decode cX8_stageAt 20 = .ok (.invokevirtual 143, 3) := by decide +kernel
theorem dX8_stageAt_23 : decode cX8_stageAt 23 = .ok (.if_icmp .ge 7, 3) := by decide +kernel
theorem dX8_stageAt_26 : decode cX8_stageAt 26 = .ok (.iconst 1, 1) := by decide +kernel
theorem dX8_stageAt_27 : decode cX8_stageAt 27 = .ok (.goto 21, 3) := by decide +kernel
theorem dX8_stageAt_30 : decode cX8_stageAt 30 = .ok (.iload_n 2, 1) := by decide +kernel
theorem dX8_stageAt_31 : decode cX8_stageAt 31 = .ok (.aload_n 0, 1) := by decide +kernel
theorem dX8_stageAt_32 : decode cX8_stageAt 32 = .ok (.sipush 228, 3) := by decide +kernel
theorem dX8_stageAt_35 : decode cX8_stageAt 35 = .ok (.bipush 60, 2) := by decide +kernel
theorem dX8_stageAt_37 : decode cX8_stageAt 37 = .ok (.invokevirtual 143, 3) := by decide +kernel
theorem dX8_stageAt_40 : decode cX8_stageAt 40 = .ok (.if_icmp .lt 7, 3) := by decide +kernel
theorem dX8_stageAt_43 : decode cX8_stageAt 43 = .ok (.iconst 3, 1) := by decide +kernel
theorem dX8_stageAt_44 : decode cX8_stageAt 44 = .ok (.goto 4, 3) := by decide +kernel
theorem dX8_stageAt_47 : decode cX8_stageAt 47 = .ok (.iconst 2, 1) := by decide +kernel
theorem dX8_stageAt_48 : decode cX8_stageAt 48 = .ok (.ireturn, 1) := by decide +kernel
theorem dX8_looks_0 : decode cX8_looks 0 = .ok (.aload_n 0, 1) := by decide +kernel
theorem dX8_looks_1 : decode cX8_looks 1 = .ok (.iload_n 1, 1) := by decide +kernel
theorem dX8_looks_2 : decode cX8_looks 2 = .ok (.iload_n 2, 1) := by decide +kernel
theorem dX8_looks_3 : decode cX8_looks 3 = .ok (.invokevirtual 146, 3) := by decide +kernel
theorem dX8_looks_6 : decode cX8_looks 6 = .ok (.istore_n 3, 1) := by decide +kernel
theorem dX8_looks_7 : decode cX8_looks 7 = .ok (.aload_n 0, 1) := by decide +kernel
theorem dX8_looks_8 : decode cX8_looks 8 = .ok (.getfield 21, 3) := by decide +kernel
theorem dX8_looks_11 : decode cX8_looks 11 = .ok (.iconst 0, 1) := by decide +kernel
theorem dX8_looks_12 : decode cX8_looks 12 = .ok (.iload_n 1, 1) := by decide +kernel
theorem dX8_looks_13 : decode cX8_looks 13 = .ok (.iastore, 1) := by decide +kernel
theorem dX8_looks_14 : decode cX8_looks 14 = .ok (.aload_n 0, 1) := by decide +kernel
theorem dX8_looks_15 : decode cX8_looks 15 = .ok (.getfield 21, 3) := by decide +kernel
theorem dX8_looks_18 : decode cX8_looks 18 = .ok (.iconst 1, 1) := by decide +kernel
theorem dX8_looks_19 : decode cX8_looks 19 = .ok (.aload_n 0, 1) := by decide +kernel
theorem dX8_looks_20 : decode cX8_looks 20 = .ok (.getfield 9, 3) := by decide +kernel
theorem dX8_looks_23 : decode cX8_looks 23 = .ok (.bipush 20, 2) := by decide +kernel
theorem dX8_looks_25 : decode cX8_looks 25 = .ok (.iload_n 1, 1) := by decide +kernel
theorem dX8_looks_26 : decode cX8_looks 26 = .ok (.iadd, 1) := by decide +kernel
theorem dX8_looks_27 : decode cX8_looks 27 = .ok (.iaload, 1) := by decide +kernel
theorem dX8_looks_28 : decode cX8_looks 28 = .ok (.iastore, 1) := by decide +kernel
theorem dX8_looks_29 : decode cX8_looks 29 = .ok (.aload_n 0, 1) := by decide +kernel
theorem dX8_looks_30 : decode cX8_looks 30 = .ok (.getfield 21, 3) := by decide +kernel
theorem dX8_looks_33 : decode cX8_looks 33 = .ok (.iconst 2, 1) := by decide +kernel
theorem dX8_looks_34 : decode cX8_looks 34 = .ok (.aload_n 0, 1) := by decide +kernel
theorem dX8_looks_35 : decode cX8_looks 35 = .ok (.getfield 9, 3) := by decide +kernel
theorem dX8_looks_38 : decode cX8_looks 38 = .ok (.bipush 26, 2) := by decide +kernel
theorem dX8_looks_40 : decode cX8_looks 40 = .ok (.iload_n 1, 1) := by decide +kernel
theorem dX8_looks_41 : decode cX8_looks 41 = .ok (.iadd, 1) := by decide +kernel
theorem dX8_looks_42 : decode cX8_looks 42 = .ok (.iaload, 1) := by decide +kernel
theorem dX8_looks_43 : decode cX8_looks 43 = .ok (.iastore, 1) := by decide +kernel
theorem dX8_looks_44 : decode cX8_looks 44 = .ok (.aload_n 0, 1) := by decide +kernel
theorem dX8_looks_45 : decode cX8_looks 45 = .ok (.getfield 21, 3) := by decide +kernel
theorem dX8_looks_48 : decode cX8_looks 48 = .ok (.iconst 3, 1) := by decide +kernel
theorem dX8_looks_49 : decode cX8_looks 49 = .ok (.iload_n 3, 1) := by decide +kernel
theorem dX8_looks_50 : decode cX8_looks 50 = .ok (.ifCond .ge 7, 3) := by decide +kernel
theorem dX8_looks_53 : decode cX8_looks 53 = .ok (.iconst 0, 1) := by decide +kernel
theorem dX8_looks_54 : decode cX8_looks 54 = .ok (.goto 7, 3) := by decide +kernel
theorem dX8_looks_57 : decode cX8_looks 57 = .ok (.iload_n 3, 1) := by decide +kernel
theorem dX8_looks_58 : decode cX8_looks 58 = .ok (.bipush 10, 2) := by decide +kernel
theorem dX8_looks_60 : decode cX8_looks 60 = .ok (.idiv, 1) := by decide +kernel
theorem dX8_looks_61 : decode cX8_looks 61 = .ok (.iastore, 1) := by decide +kernel
theorem dX8_looks_62 : decode cX8_looks 62 = .ok (.aload_n 0, 1) := by decide +kernel
theorem dX8_looks_63 : decode cX8_looks 63 = .ok (.getfield 21, 3) := by decide +kernel
theorem dX8_looks_66 : decode cX8_looks 66 = .ok (.iconst 4, 1) := by decide +kernel
theorem dX8_looks_67 : decode cX8_looks 67 = .ok (.aload_n 0, 1) := by decide +kernel
theorem dX8_looks_68 : decode cX8_looks 68 = .ok (.iload_n 1, 1) := by decide +kernel
theorem dX8_looks_69 : decode cX8_looks 69 = .ok (.iload_n 3, 1) := by decide +kernel
theorem dX8_looks_70 : decode cX8_looks 70 = .ok (.invokevirtual 149, 3) := by decide +kernel
theorem dX8_looks_73 : decode cX8_looks 73 = .ok (.iastore, 1) := by decide +kernel
theorem dX8_looks_74 : decode cX8_looks 74 = .ok (.aload_n 0, 1) := by decide +kernel
theorem dX8_looks_75 : decode cX8_looks 75 = .ok (.getfield 21, 3) := by decide +kernel
theorem dX8_looks_78 : decode cX8_looks 78 = .ok (.iconst 5, 1) := by decide +kernel
theorem dX8_looks_79 : decode cX8_looks 79 = .ok (.iload_n 2, 1) := by decide +kernel
theorem dX8_looks_80 : decode cX8_looks 80 = .ok (.iconst (-1), 1) := by decide +kernel
theorem dX8_looks_81 : decode cX8_looks 81 = .ok (.if_icmp .ne 8, 3) := by decide +kernel
theorem dX8_looks_84 : decode cX8_looks 84 = .ok (.bipush 9, 2) := by decide +kernel
theorem dX8_looks_86 : decode cX8_looks 86 = .ok (.goto 4, 3) := by decide +kernel
theorem dX8_looks_89 : decode cX8_looks 89 = .ok (.iload_n 2, 1) := by decide +kernel
theorem dX8_looks_90 : decode cX8_looks 90 = .ok (.iastore, 1) := by decide +kernel
theorem dX8_looks_91 : decode cX8_looks 91 = .ok (.iconst 0, 1) := by decide +kernel
theorem dX8_looks_92 : decode cX8_looks 92 = .ok (.istore 4, 2) := by decide +kernel
theorem dX8_looks_94 : decode cX8_looks 94 = .ok (.aload_n 0, 1) := by decide +kernel
theorem dX8_looks_95 : decode cX8_looks 95 = .ok (.sipush 233, 3) := by decide +kernel
theorem dX8_looks_98 : decode cX8_looks 98 = .ok (.iconst 0, 1) := by decide +kernel
theorem dX8_looks_99 : decode cX8_looks 99 = .ok (.invokevirtual 143, 3) := by decide +kernel
theorem dX8_looks_102 : decode cX8_looks 102 = .ok (.istore 5, 2) := by decide +kernel
theorem dX8_looks_104 : decode cX8_looks 104 = .ok (.sipush 238, 3) := by decide +kernel
theorem dX8_looks_107 : decode cX8_looks 107 = .ok (.sipush 140, 3) := by decide +kernel
theorem dX8_looks_110 : decode cX8_looks 110 = .ok (.aload_n 0, 1) := by decide +kernel
theorem dX8_looks_111 : decode cX8_looks 111 = .ok (.getfield 9, 3) := by decide +kernel
theorem dX8_looks_114 : decode cX8_looks 114 = .ok (.bipush 18, 2) := by decide +kernel
theorem dX8_looks_116 : decode cX8_looks 116 = .ok (.iaload, 1) := by decide +kernel
theorem dX8_looks_117 : decode cX8_looks 117 = .ok (.imul, 1) := by decide +kernel
theorem dX8_looks_118 : decode cX8_looks 118 = .ok (.iadd, 1) := by decide +kernel
theorem dX8_looks_119 : decode cX8_looks 119 = .ok (.istore 6, 2) := by decide +kernel
theorem dX8_looks_121 : decode cX8_looks 121 = .ok (.iconst 0, 1) := by decide +kernel
theorem dX8_looks_122 : decode cX8_looks 122 = .ok (.istore 7, 2) := by decide +kernel
theorem dX8_looks_124 : decode cX8_looks 124 = .ok (.iload 6, 2) := by decide +kernel
theorem dX8_looks_126 : decode cX8_looks 126 = .ok (.istore 8, 2) := by decide +kernel
theorem dX8_looks_128 : decode cX8_looks 128 = .ok (.iload 8, 2) := by decide +kernel
theorem dX8_looks_130 : decode cX8_looks 130 = .ok (.iload 6, 2) := by decide +kernel
theorem dX8_looks_132 : decode cX8_looks 132 = .ok (.iload 5, 2) := by decide +kernel
theorem dX8_looks_134 : decode cX8_looks 134 = .ok (.iadd, 1) := by decide +kernel
theorem dX8_looks_135 : decode cX8_looks 135 = .ok (.if_icmp .ge 304, 3) := by decide +kernel
theorem dX8_looks_138 : decode cX8_looks 138 = .ok (.aload_n 0, 1) := by decide +kernel
theorem dX8_looks_139 : decode cX8_looks 139 = .ok (.getfield 9, 3) := by decide +kernel
theorem dX8_looks_142 : decode cX8_looks 142 = .ok (.iload 8, 2) := by decide +kernel
theorem dX8_looks_144 : decode cX8_looks 144 = .ok (.iaload, 1) := by decide +kernel
theorem dX8_looks_145 : decode cX8_looks 145 = .ok (.istore 9, 2) := by decide +kernel
theorem dX8_looks_147 : decode cX8_looks 147 = .ok (.iload 9, 2) := by decide +kernel
theorem dX8_looks_149 : decode cX8_looks 149 = .ok (.ifCond .lt 97, 3) := by decide +kernel
theorem dX8_looks_152 : decode cX8_looks 152 = .ok (.aload_n 0, 1) := by decide +kernel
theorem dX8_looks_153 : decode cX8_looks 153 = .ok (.getfield 21, 3) := by decide +kernel
theorem dX8_looks_156 : decode cX8_looks 156 = .ok (.iload 9, 2) := by decide +kernel
theorem dX8_looks_158 : decode cX8_looks 158 = .ok (.bipush 8, 2) := by decide +kernel
theorem dX8_looks_160 : decode cX8_looks 160 = .ok (.irem, 1) := by decide +kernel
theorem dX8_looks_161 : decode cX8_looks 161 = .ok (.iaload, 1) := by decide +kernel
theorem dX8_looks_162 : decode cX8_looks 162 = .ok (.istore 10, 2) := by decide +kernel
theorem dX8_looks_164 : decode cX8_looks 164 = .ok (.iload 9, 2) := by decide +kernel
theorem dX8_looks_166 : decode cX8_looks 166 = .ok (.bipush 8, 2) := by decide +kernel
theorem dX8_looks_168 : decode cX8_looks 168 = .ok (.idiv, 1) := by decide +kernel
theorem dX8_looks_169 : decode cX8_looks 169 = .ok (.iconst 4, 1) := by decide +kernel
theorem dX8_looks_170 : decode cX8_looks 170 = .ok (.irem, 1) := by decide +kernel
theorem dX8_looks_171 : decode cX8_looks 171 = .ok (.istore 11, 2) := by decide +kernel
theorem dX8_looks_173 : decode cX8_looks 173 = .ok (.iload 9, 2) := by decide +kernel
theorem dX8_looks_175 : decode cX8_looks 175 = .ok (.bipush 32, 2) := by decide +kernel
theorem dX8_looks_177 : decode cX8_looks 177 = .ok (.idiv, 1) := by decide +kernel
theorem dX8_looks_178 : decode cX8_looks 178 = .ok (.istore 12, 2) := by decide +kernel
theorem dX8_looks_180 : decode cX8_looks 180 = .ok (.aload_n 0, 1) := by decide +kernel
theorem dX8_looks_181 : decode cX8_looks 181 = .ok (.getfield 24, 3) := by decide +kernel
theorem dX8_looks_184 : decode cX8_looks 184 = .ok (.iload 7, 2) := by decide +kernel
theorem dX8_looks_186 : decode cX8_looks 186 = .ok (.iload 11, 2) := by decide +kernel
theorem dX8_looks_188 : decode cX8_looks 188 = .ok (.ifCond .ne 18, 3) := by decide +kernel
theorem dX8_looks_191 : decode cX8_looks 191 = .ok (.iload 10, 2) := by decide +kernel
theorem dX8_looks_193 : decode cX8_looks 193 = .ok (.iload 12, 2) := by decide +kernel
theorem dX8_looks_195 : decode cX8_looks 195 = .ok (.if_icmp .ge 7, 3) := by decide +kernel
theorem dX8_looks_198 : decode cX8_looks 198 = .ok (.iconst 1, 1) := by decide +kernel
theorem dX8_looks_199 : decode cX8_looks 199 = .ok (.goto 40, 3) := by decide +kernel
theorem dX8_looks_202 : decode cX8_looks 202 = .ok (.iconst 0, 1) := by decide +kernel
theorem dX8_looks_203 : decode cX8_looks 203 = .ok (.goto 36, 3) := by decide +kernel
theorem dX8_looks_206 : decode cX8_looks 206 = .ok (.iload 11, 2) := by decide +kernel
theorem dX8_looks_208 : decode cX8_looks 208 = .ok (.iconst 1, 1) := by decide +kernel
theorem dX8_looks_209 : decode cX8_looks 209 = .ok (.if_icmp .ne 18, 3) := by decide +kernel
theorem dX8_looks_212 : decode cX8_looks 212 = .ok (.iload 10, 2) := by decide +kernel
theorem dX8_looks_214 : decode cX8_looks 214 = .ok (.iload 12, 2) := by decide +kernel
theorem dX8_looks_216 : decode cX8_looks 216 = .ok (.if_icmp .ne 7, 3) := by decide +kernel
theorem dX8_looks_219 : decode cX8_looks 219 = .ok (.iconst 1, 1) := by decide +kernel
theorem dX8_looks_220 : decode cX8_looks 220 = .ok (.goto 19, 3) := by decide +kernel
theorem dX8_looks_223 : decode cX8_looks 223 = .ok (.iconst 0, 1) := by decide +kernel
theorem dX8_looks_224 : decode cX8_looks 224 = .ok (.goto 15, 3) := by decide +kernel
theorem dX8_looks_227 : decode cX8_looks 227 = .ok (.iload 10, 2) := by decide +kernel
theorem dX8_looks_229 : decode cX8_looks 229 = .ok (.iload 12, 2) := by decide +kernel
theorem dX8_looks_231 : decode cX8_looks 231 = .ok (.if_icmp .le 7, 3) := by decide +kernel
theorem dX8_looks_234 : decode cX8_looks 234 = .ok (.iconst 1, 1) := by decide +kernel
theorem dX8_looks_235 : decode cX8_looks 235 = .ok (.goto 4, 3) := by decide +kernel
theorem dX8_looks_238 : decode cX8_looks 238 = .ok (.iconst 0, 1) := by decide +kernel
theorem dX8_looks_239 : decode cX8_looks 239 = .ok (.bastore, 1) := by decide +kernel
theorem dX8_looks_240 : decode cX8_looks 240 = .ok (.iinc 7 1, 3) := by decide +kernel
theorem dX8_looks_243 : decode cX8_looks 243 = .ok (.goto 190, 3) := by decide +kernel
theorem dX8_looks_246 : decode cX8_looks 246 = .ok (.iload 9, 2) := by decide +kernel
theorem dX8_looks_248 : decode cX8_looks 248 = .ok (.iconst (-1), 1) := by decide +kernel
theorem dX8_looks_249 : decode cX8_looks 249 = .ok (.if_icmp .ne 32, 3) := by decide +kernel
theorem dX8_looks_252 : decode cX8_looks 252 = .ok (.aload_n 0, 1) := by decide +kernel
theorem dX8_looks_253 : decode cX8_looks 253 = .ok (.getfield 24, 3) := by decide +kernel
theorem dX8_looks_256 : decode cX8_looks 256 = .ok (.iload 7, 2) := by decide +kernel
theorem dX8_looks_258 : decode cX8_looks 258 = .ok (.iconst 1, 1) := by decide +kernel
theorem dX8_looks_259 : decode cX8_looks 259 = .ok (.isub, 1) := by decide +kernel
theorem dX8_looks_260 : decode cX8_looks 260 = .ok (.aload_n 0, 1) := by decide +kernel
theorem dX8_looks_261 : decode cX8_looks 261 = .ok (.getfield 24, 3) := by decide +kernel
theorem dX8_looks_264 : decode cX8_looks 264 = .ok (.iload 7, 2) := by decide +kernel
theorem dX8_looks_266 : decode cX8_looks 266 = .ok (.iconst 1, 1) := by decide +kernel
theorem dX8_looks_267 : decode cX8_looks 267 = .ok (.isub, 1) := by decide +kernel
theorem dX8_looks_268 : decode cX8_looks 268 = .ok (.baload, 1) := by decide +kernel
theorem dX8_looks_269 : decode cX8_looks 269 = .ok (.ifCond .ne 7, 3) := by decide +kernel
theorem dX8_looks_272 : decode cX8_looks 272 = .ok (.iconst 1, 1) := by decide +kernel
theorem dX8_looks_273 : decode cX8_looks 273 = .ok (.goto 4, 3) := by decide +kernel
theorem dX8_looks_276 : decode cX8_looks 276 = .ok (.iconst 0, 1) := by decide +kernel
theorem dX8_looks_277 : decode cX8_looks 277 = .ok (.bastore, 1) := by decide +kernel
theorem dX8_looks_278 : decode cX8_looks 278 = .ok (.goto 155, 3) := by decide +kernel
theorem dX8_looks_281 : decode cX8_looks 281 = .ok (.iload 9, 2) := by decide +kernel
theorem dX8_looks_283 : decode cX8_looks 283 = .ok (.bipush (-10), 2) := by decide +kernel
theorem dX8_looks_285 : decode cX8_looks 285 = .ok (.if_icmp .le 82, 3) := by decide +kernel
theorem dX8_looks_288 : decode cX8_looks 288 = .ok (.iinc 7 (-1), 3) := by decide +kernel
theorem dX8_looks_291 : decode cX8_looks 291 = .ok (.aload_n 0, 1) := by decide +kernel
theorem dX8_looks_292 : decode cX8_looks 292 = .ok (.getfield 24, 3) := by decide +kernel
theorem dX8_looks_295 : decode cX8_looks 295 = .ok (.iload 7, 2) := by decide +kernel
theorem dX8_looks_297 : decode cX8_looks 297 = .ok (.iconst 1, 1) := by decide +kernel
theorem dX8_looks_298 : decode cX8_looks 298 = .ok (.isub, 1) := by decide +kernel
theorem dX8_looks_299 : decode cX8_looks 299 = .ok (.iload 9, 2) := by decide +kernel
theorem dX8_looks_301 : decode cX8_looks 301 = .ok (.bipush (-2), 2) := by decide +kernel
theorem dX8_looks_303 : decode cX8_looks 303 = .ok (.if_icmp .ne 33, 3) := by decide +kernel
theorem dX8_looks_306 : decode cX8_looks 306 = .ok (.aload_n 0, 1) := by decide +kernel
theorem dX8_looks_307 : decode cX8_looks 307 = .ok (.getfield 24, 3) := by decide +kernel
theorem dX8_looks_310 : decode cX8_looks 310 = .ok (.iload 7, 2) := by decide +kernel
theorem dX8_looks_312 : decode cX8_looks 312 = .ok (.iconst 1, 1) := by decide +kernel
theorem dX8_looks_313 : decode cX8_looks 313 = .ok (.isub, 1) := by decide +kernel
theorem dX8_looks_314 : decode cX8_looks 314 = .ok (.baload, 1) := by decide +kernel
theorem dX8_looks_315 : decode cX8_looks 315 = .ok (.ifCond .eq 17, 3) := by decide +kernel
theorem dX8_looks_318 : decode cX8_looks 318 = .ok (.aload_n 0, 1) := by decide +kernel
theorem dX8_looks_319 : decode cX8_looks 319 = .ok (.getfield 24, 3) := by decide +kernel
theorem dX8_looks_322 : decode cX8_looks 322 = .ok (.iload 7, 2) := by decide +kernel
theorem dX8_looks_324 : decode cX8_looks 324 = .ok (.baload, 1) := by decide +kernel
theorem dX8_looks_325 : decode cX8_looks 325 = .ok (.ifCond .eq 7, 3) := by decide +kernel
theorem dX8_looks_328 : decode cX8_looks 328 = .ok (.iconst 1, 1) := by decide +kernel
theorem dX8_looks_329 : decode cX8_looks 329 = .ok (.goto 34, 3) := by decide +kernel
theorem dX8_looks_332 : decode cX8_looks 332 = .ok (.iconst 0, 1) := by decide +kernel
theorem dX8_looks_333 : decode cX8_looks 333 = .ok (.goto 30, 3) := by decide +kernel
theorem dX8_looks_336 : decode cX8_looks 336 = .ok (.aload_n 0, 1) := by decide +kernel
theorem dX8_looks_337 : decode cX8_looks 337 = .ok (.getfield 24, 3) := by decide +kernel
theorem dX8_looks_340 : decode cX8_looks 340 = .ok (.iload 7, 2) := by decide +kernel
theorem dX8_looks_342 : decode cX8_looks 342 = .ok (.iconst 1, 1) := by decide +kernel
theorem dX8_looks_343 : decode cX8_looks 343 = .ok (.isub, 1) := by decide +kernel
theorem dX8_looks_344 : decode cX8_looks 344 = .ok (.baload, 1) := by decide +kernel
theorem dX8_looks_345 : decode cX8_looks 345 = .ok (.ifCond .ne 13, 3) := by decide +kernel
theorem dX8_looks_348 : decode cX8_looks 348 = .ok (.aload_n 0, 1) := by decide +kernel
theorem dX8_looks_349 : decode cX8_looks 349 = .ok (.getfield 24, 3) := by decide +kernel
theorem dX8_looks_352 : decode cX8_looks 352 = .ok (.iload 7, 2) := by decide +kernel
theorem dX8_looks_354 : decode cX8_looks 354 = .ok (.baload, 1) := by decide +kernel
theorem dX8_looks_355 : decode cX8_looks 355 = .ok (.ifCond .eq 7, 3) := by decide +kernel
theorem dX8_looks_358 : decode cX8_looks 358 = .ok (.iconst 1, 1) := by decide +kernel
theorem dX8_looks_359 : decode cX8_looks 359 = .ok (.goto 4, 3) := by decide +kernel
theorem dX8_looks_362 : decode cX8_looks 362 = .ok (.iconst 0, 1) := by decide +kernel
theorem dX8_looks_363 : decode cX8_looks 363 = .ok (.bastore, 1) := by decide +kernel
theorem dX8_looks_364 : decode cX8_looks 364 = .ok (.goto 69, 3) := by decide +kernel
theorem dX8_looks_367 : decode cX8_looks 367 = .ok (.iconst 0, 1) := by decide +kernel
theorem dX8_looks_368 : decode cX8_looks 368 = .ok (.istore 7, 2) := by decide +kernel
theorem dX8_looks_370 : decode cX8_looks 370 = .ok (.aload_n 0, 1) := by decide +kernel
theorem dX8_looks_371 : decode cX8_looks 371 = .ok (.getfield 24, 3) := by decide +kernel
theorem dX8_looks_374 : decode cX8_looks 374 = .ok (.iconst 0, 1) := by decide +kernel
theorem dX8_looks_375 : decode cX8_looks 375 = .ok (.baload, 1) := by decide +kernel
theorem dX8_looks_376 : decode cX8_looks 376 = .ok (.istore 10, 2) := by decide +kernel
theorem dX8_looks_378 : decode cX8_looks 378 = .ok (.iload 4, 2) := by decide +kernel
theorem dX8_looks_380 : decode cX8_looks 380 = .ok (.iload 10, 2) := by decide +kernel
theorem dX8_looks_382 : decode cX8_looks 382 = .ok (.ifCond .eq 19, 3) := by decide +kernel
theorem dX8_looks_385 : decode cX8_looks 385 = .ok (.iload 9, 2) := by decide +kernel
theorem dX8_looks_387 : decode cX8_looks 387 = .ok (.sipush (-200), 3) := by decide +kernel
theorem dX8_looks_390 : decode cX8_looks 390 = .ok (.if_icmp .le 11, 3) := by decide +kernel
theorem dX8_looks_393 : decode cX8_looks 393 = .ok (.bipush (-10), 2) := by decide +kernel
theorem dX8_looks_395 : decode cX8_looks 395 = .ok (.iload 9, 2) := by decide +kernel
theorem dX8_looks_397 : decode cX8_looks 397 = .ok (.isub, 1) := by decide +kernel
theorem dX8_looks_398 : decode cX8_looks 398 = .ok (.goto 4, 3) := by decide +kernel
theorem dX8_looks_401 : decode cX8_looks 401 = .ok (.iconst 0, 1) := by decide +kernel
theorem dX8_looks_402 : decode cX8_looks 402 = .ok (.iadd, 1) := by decide +kernel
theorem dX8_looks_403 : decode cX8_looks 403 = .ok (.istore 4, 2) := by decide +kernel
theorem dX8_looks_405 : decode cX8_looks 405 = .ok (.iload 4, 2) := by decide +kernel
theorem dX8_looks_407 : decode cX8_looks 407 = .ok (.iload 10, 2) := by decide +kernel
theorem dX8_looks_409 : decode cX8_looks 409 = .ok (.ifCond .eq 20, 3) := by decide +kernel
theorem dX8_looks_412 : decode cX8_looks 412 = .ok (.iload 9, 2) := by decide +kernel
theorem dX8_looks_414 : decode cX8_looks 414 = .ok (.sipush (-200), 3) := by decide +kernel
theorem dX8_looks_417 : decode cX8_looks 417 = .ok (.if_icmp .gt 12, 3) := by decide +kernel
theorem dX8_looks_420 : decode cX8_looks 420 = .ok (.sipush (-200), 3) := by decide +kernel
theorem dX8_looks_423 : decode cX8_looks 423 = .ok (.iload 9, 2) := by decide +kernel
theorem dX8_looks_425 : decode cX8_looks 425 = .ok (.isub, 1) := by decide +kernel
theorem dX8_looks_426 : decode cX8_looks 426 = .ok (.goto 4, 3) := by decide +kernel
theorem dX8_looks_429 : decode cX8_looks 429 = .ok (.iconst 0, 1) := by decide +kernel
theorem dX8_looks_430 : decode cX8_looks 430 = .ok (.isub, 1) := by decide +kernel
theorem dX8_looks_431 : decode cX8_looks 431 = .ok (.istore 4, 2) := by decide +kernel
theorem dX8_looks_433 : decode cX8_looks 433 = .ok (.iinc 8 1, 3) := by decide +kernel
theorem dX8_looks_436 : decode cX8_looks 436 = .ok (.goto (-308), 3) := by decide +kernel
theorem dX8_looks_439 : decode cX8_looks 439 = .ok (.iload 4, 2) := by decide +kernel
theorem dX8_looks_441 : decode cX8_looks 441 = .ok (.ireturn, 1) := by decide +kernel
theorem dX8_nerveBy_0 : decode cX8_nerveBy 0 = .ok (.aload_n 0, 1) := by decide +kernel
theorem dX8_nerveBy_1 : decode cX8_nerveBy 1 = .ok (.iload_n 1, 1) := by decide +kernel
theorem dX8_nerveBy_2 : decode cX8_nerveBy 2 = .ok (.aload_n 0, 1) := by decide +kernel
theorem dX8_nerveBy_3 : decode cX8_nerveBy 3 = .ok (.iload_n 1, 1) := by decide +kernel
theorem dX8_nerveBy_4 : decode cX8_nerveBy 4 = .ok (.iload_n 2, 1) := by decide +kernel
theorem dX8_nerveBy_5 : decode cX8_nerveBy 5 = .ok (.invokevirtual 146, 3) := by decide +kernel
theorem dX8_nerveBy_8 : decode cX8_nerveBy 8 = .ok (.invokevirtual 139, 3) := by decide +kernel
theorem dX8_nerveBy_11 : decode cX8_nerveBy 11 = .ok (.ifCond .eq 15, 3) := by decide +kernel
theorem dX8_nerveBy_14 : decode cX8_nerveBy 14 = .ok (.bipush 10, 2) := by decide +kernel
theorem dX8_nerveBy_16 : decode cX8_nerveBy 16 = .ok (.aload_n 0, 1) := by decide +kernel
theorem dX8_nerveBy_17 : decode cX8_nerveBy 17 = .ok (.iload_n 1, 1) := by decide +kernel
theorem dX8_nerveBy_18 : decode cX8_nerveBy 18 = .ok (.iload_n 2, 1) := by decide +kernel
theorem dX8_nerveBy_19 : decode cX8_nerveBy 19 = .ok (.invokevirtual 152, 3) := by decide +kernel
theorem dX8_nerveBy_22 : decode cX8_nerveBy 22 = .ok (.iadd, 1) := by decide +kernel
theorem dX8_nerveBy_23 : decode cX8_nerveBy 23 = .ok (.goto 4, 3) := by decide +kernel
theorem dX8_nerveBy_26 : decode cX8_nerveBy 26 = .ok (.iconst 0, 1) := by decide +kernel
theorem dX8_nerveBy_27 : decode cX8_nerveBy 27 = .ok (.istore_n 3, 1) := by decide +kernel
theorem dX8_nerveBy_28 : decode cX8_nerveBy 28 = .ok (.iload_n 3, 1) := by decide +kernel
theorem dX8_nerveBy_29 : decode cX8_nerveBy 29 = .ok (.ifCond .ge 7, 3) := by decide +kernel
theorem dX8_nerveBy_32 : decode cX8_nerveBy 32 = .ok (.iconst 0, 1) := by decide +kernel
theorem dX8_nerveBy_33 : decode cX8_nerveBy 33 = .ok (.goto 4, 3) := by decide +kernel
theorem dX8_nerveBy_36 : decode cX8_nerveBy 36 = .ok (.iload_n 3, 1) := by decide +kernel
theorem dX8_nerveBy_37 : decode cX8_nerveBy 37 = .ok (.ireturn, 1) := by decide +kernel
theorem dX8_ageOf_0 : decode cX8_ageOf 0 = .ok (.aload_n 0, 1) := by decide +kernel
theorem dX8_ageOf_1 : decode cX8_ageOf 1 = .ok (.iload_n 1, 1) := by decide +kernel
theorem dX8_ageOf_2 : decode cX8_ageOf 2 = .ok (.aload_n 0, 1) := by decide +kernel
theorem dX8_ageOf_3 : decode cX8_ageOf 3 = .ok (.getfield 9, 3) := by decide +kernel
theorem dX8_ageOf_6 : decode cX8_ageOf 6 = .ok (.iconst 1, 1) := by decide +kernel
theorem dX8_ageOf_7 : decode cX8_ageOf 7 = .ok (.iload_n 1, 1) := by decide +kernel
theorem dX8_ageOf_8 : decode cX8_ageOf 8 = .ok (.iadd, 1) := by decide +kernel
theorem dX8_ageOf_9 : decode cX8_ageOf 9 = .ok (.iaload, 1) := by decide +kernel
theorem dX8_ageOf_10 : decode cX8_ageOf 10 = .ok (.invokevirtual 146, 3) := by decide +kernel
theorem dX8_ageOf_13 : decode cX8_ageOf 13 = .ok (.ireturn, 1) := by decide +kernel
theorem dX8_isHere_0 : decode cX8_isHere 0 = .ok (.aload_n 0, 1) := by decide +kernel
theorem dX8_isHere_1 : decode cX8_isHere 1 = .ok (.iload_n 1, 1) := by decide +kernel
theorem dX8_isHere_2 : decode cX8_isHere 2 = .ok (.aload_n 0, 1) := by decide +kernel
theorem dX8_isHere_3 : decode cX8_isHere 3 = .ok (.iload_n 1, 1) := by decide +kernel
theorem dX8_isHere_4 : decode cX8_isHere 4 = .ok (.invokevirtual 155, 3) := by decide +kernel
theorem dX8_isHere_7 : decode cX8_isHere 7 = .ok (.invokevirtual 139, 3) := by decide +kernel
theorem dX8_isHere_10 : decode cX8_isHere 10 = .ok (.ireturn, 1) := by decide +kernel
theorem dX8_whoIsHere_0 : decode cX8_whoIsHere 0 = .ok (.iconst 0, 1) := by decide +kernel
theorem dX8_whoIsHere_1 : decode cX8_whoIsHere 1 = .ok (.istore_n 1, 1) := by decide +kernel
theorem dX8_whoIsHere_2 : decode cX8_whoIsHere 2 = .ok (.iconst 0, 1) := by decide +kernel
theorem dX8_whoIsHere_3 : decode cX8_whoIsHere 3 = .ok (.istore_n 2, 1) := by decide +kernel
theorem dX8_whoIsHere_4 : decode cX8_whoIsHere 4 = .ok (.iload_n 2, 1) := by decide +kernel
theorem dX8_whoIsHere_5 : decode cX8_whoIsHere 5 = .ok (.aload_n 0, 1) := by decide +kernel
theorem dX8_whoIsHere_6 : decode cX8_whoIsHere 6 = .ok (.getfield 9, 3) := by decide +kernel
theorem dX8_whoIsHere_9 : decode cX8_whoIsHere 9 = .ok (.bipush 12, 2) := by decide +kernel
theorem dX8_whoIsHere_11 : decode cX8_whoIsHere 11 = .ok (.iaload, 1) := by decide +kernel
theorem dX8_whoIsHere_12 : decode cX8_whoIsHere 12 = .ok (.if_icmp .ge 27, 3) := by decide +kernel
theorem dX8_whoIsHere_15 : decode cX8_whoIsHere 15 = .ok (.iload_n 1, 1) := by decide +kernel
theorem dX8_whoIsHere_16 : decode cX8_whoIsHere 16 = .ok (.aload_n 0, 1) := by decide +kernel
theorem dX8_whoIsHere_17 : decode cX8_whoIsHere 17 = .ok (.iload_n 2, 1) := by decide +kernel
theorem dX8_whoIsHere_18 : decode cX8_whoIsHere 18 = .ok (.invokevirtual 159, 3) := by decide +kernel
theorem dX8_whoIsHere_21 : decode cX8_whoIsHere 21 = .ok (.ifCond .eq 9, 3) := by decide +kernel
theorem dX8_whoIsHere_24 : decode cX8_whoIsHere 24 = .ok (.iconst 1, 1) := by decide +kernel
theorem dX8_whoIsHere_25 : decode cX8_whoIsHere 25 = .ok (.iload_n 2, 1) := by decide +kernel
theorem dX8_whoIsHere_26 : decode cX8_whoIsHere 26 = .ok (.ishl, 1) := by decide +kernel
theorem dX8_whoIsHere_27 : decode cX8_whoIsHere 27 = .ok (.goto 4, 3) := by decide +kernel
theorem dX8_whoIsHere_30 : decode cX8_whoIsHere 30 = .ok (.iconst 0, 1) := by decide +kernel
theorem dX8_whoIsHere_31 : decode cX8_whoIsHere 31 = .ok (.ior, 1) := by decide +kernel
theorem dX8_whoIsHere_32 : decode cX8_whoIsHere 32 = .ok (.istore_n 1, 1) := by decide +kernel
theorem dX8_whoIsHere_33 : decode cX8_whoIsHere 33 = .ok (.iinc 2 1, 3) := by decide +kernel
theorem dX8_whoIsHere_36 : decode cX8_whoIsHere 36 = .ok (.goto (-32), 3) := by decide +kernel
theorem dX8_whoIsHere_39 : decode cX8_whoIsHere 39 = .ok (.iload_n 1, 1) := by decide +kernel
theorem dX8_whoIsHere_40 : decode cX8_whoIsHere 40 = .ok (.ireturn, 1) := by decide +kernel
theorem dX8_countOf_0 : decode cX8_countOf 0 = .ok (.iconst 0, 1) := by decide +kernel
theorem dX8_countOf_1 : decode cX8_countOf 1 = .ok (.istore_n 1, 1) := by decide +kernel
theorem dX8_countOf_2 : decode cX8_countOf 2 = .ok (.iconst 0, 1) := by decide +kernel
theorem dX8_countOf_3 : decode cX8_countOf 3 = .ok (.istore_n 2, 1) := by decide +kernel
theorem dX8_countOf_4 : decode cX8_countOf 4 = .ok (.iload_n 2, 1) := by decide +kernel
theorem dX8_countOf_5 : decode cX8_countOf 5 = .ok (.bipush 6, 2) := by decide +kernel
theorem dX8_countOf_7 : decode cX8_countOf 7 = .ok (.if_icmp .ge 17, 3) := by decide +kernel
theorem dX8_countOf_10 : decode cX8_countOf 10 = .ok (.iload_n 1, 1) := by decide +kernel
theorem dX8_countOf_11 : decode cX8_countOf 11 = .ok (.iload_n 0, 1) := by decide +kernel
theorem dX8_countOf_12 : decode cX8_countOf 12 = .ok (.iload_n 2, 1) := by decide +kernel
theorem dX8_countOf_13 : decode cX8_countOf 13 = .ok (.ishr, 1) := by decide +kernel
theorem dX8_countOf_14 : decode cX8_countOf 14 = .ok (.iconst 1, 1) := by decide +kernel
theorem dX8_countOf_15 : decode cX8_countOf 15 = .ok (.iand, 1) := by decide +kernel
theorem dX8_countOf_16 : decode cX8_countOf 16 = .ok (.iadd, 1) := by decide +kernel
theorem dX8_countOf_17 : decode cX8_countOf 17 = .ok (.istore_n 1, 1) := by decide +kernel
theorem dX8_countOf_18 : decode cX8_countOf 18 = .ok (.iinc 2 1, 3) := by decide +kernel
theorem dX8_countOf_21 : decode cX8_countOf 21 = .ok (.goto (-17), 3) := by decide +kernel
theorem dX8_countOf_24 : decode cX8_countOf 24 = .ok (.iload_n 1, 1) := by decide +kernel
theorem dX8_countOf_25 : decode cX8_countOf 25 = .ok (.ireturn, 1) := by decide +kernel
theorem dX8_allNerve_0 : decode cX8_allNerve 0 = .ok (.iconst 0, 1) := by decide +kernel
theorem dX8_allNerve_1 : decode cX8_allNerve 1 = .ok (.istore_n 1, 1) := by decide +kernel
theorem dX8_allNerve_2 : decode cX8_allNerve 2 = .ok (.iconst 0, 1) := by decide +kernel
theorem dX8_allNerve_3 : decode cX8_allNerve 3 = .ok (.istore_n 2, 1) := by decide +kernel
theorem dX8_allNerve_4 : decode cX8_allNerve 4 = .ok (.iload_n 2, 1) := by decide +kernel
theorem dX8_allNerve_5 : decode cX8_allNerve 5 = .ok (.aload_n 0, 1) := by decide +kernel
theorem dX8_allNerve_6 : decode cX8_allNerve 6 = .ok (.getfield 9, 3) := by decide +kernel
theorem dX8_allNerve_9 : decode cX8_allNerve 9 = .ok (.bipush 12, 2) := by decide +kernel
theorem dX8_allNerve_11 : decode cX8_allNerve 11 = .ok (.iaload, 1) := by decide +kernel
theorem dX8_allNerve_12 : decode cX8_allNerve 12 = .ok (.if_icmp .ge 25, 3) := by decide +kernel
theorem dX8_allNerve_15 : decode cX8_allNerve 15 = .ok (.iload_n 1, 1) := by decide +kernel
theorem dX8_allNerve_16 : decode cX8_allNerve 16 = .ok (.aload_n 0, 1) := by decide +kernel
theorem dX8_allNerve_17 : decode cX8_allNerve 17 = .ok (.iload_n 2, 1) := by decide +kernel
theorem dX8_allNerve_18 : decode cX8_allNerve 18 = .ok (.aload_n 0, 1) := by decide +kernel
theorem dX8_allNerve_19 : decode cX8_allNerve 19 = .ok (.getfield 9, 3) := by decide +kernel
theorem dX8_allNerve_22 : decode cX8_allNerve 22 = .ok (.iconst 1, 1) := by decide +kernel
theorem dX8_allNerve_23 : decode cX8_allNerve 23 = .ok (.iload_n 2, 1) := by decide +kernel
theorem dX8_allNerve_24 : decode cX8_allNerve 24 = .ok (.iadd, 1) := by decide +kernel
theorem dX8_allNerve_25 : decode cX8_allNerve 25 = .ok (.iaload, 1) := by decide +kernel
theorem dX8_allNerve_26 : decode cX8_allNerve 26 = .ok (.invokevirtual 163, 3) := by decide +kernel
theorem dX8_allNerve_29 : decode cX8_allNerve 29 = .ok (.iadd, 1) := by decide +kernel
theorem dX8_allNerve_30 : decode cX8_allNerve 30 = .ok (.istore_n 1, 1) := by decide +kernel
theorem dX8_allNerve_31 : decode cX8_allNerve 31 = .ok (.iinc 2 1, 3) := by decide +kernel
theorem dX8_allNerve_34 : decode cX8_allNerve 34 = .ok (.goto (-30), 3) := by decide +kernel
theorem dX8_allNerve_37 : decode cX8_allNerve 37 = .ok (.iload_n 1, 1) := by decide +kernel
theorem dX8_allNerve_38 : decode cX8_allNerve 38 = .ok (.ireturn, 1) := by decide +kernel
theorem dX8_allBottles_0 : decode cX8_allBottles 0 = .ok (.iconst 0, 1) := by decide +kernel
theorem dX8_allBottles_1 : decode cX8_allBottles 1 = .ok (.istore_n 1, 1) := by decide +kernel
theorem dX8_allBottles_2 : decode cX8_allBottles 2 = .ok (.iconst 0, 1) := by decide +kernel
theorem dX8_allBottles_3 : decode cX8_allBottles 3 = .ok (.istore_n 2, 1) := by decide +kernel
theorem dX8_allBottles_4 : decode cX8_allBottles 4 = .ok (.iload_n 2, 1) := by decide +kernel
theorem dX8_allBottles_5 : decode cX8_allBottles 5 = .ok (.aload_n 0, 1) := by decide +kernel
theorem dX8_allBottles_6 : decode cX8_allBottles 6 = .ok (.getfield 9, 3) := by decide +kernel
theorem dX8_allBottles_9 : decode cX8_allBottles 9 = .ok (.bipush 19, 2) := by decide +kernel
theorem dX8_allBottles_11 : decode cX8_allBottles 11 = .ok (.iaload, 1) := by decide +kernel
theorem dX8_allBottles_12 : decode cX8_allBottles 12 = .ok (.if_icmp .ge 21, 3) := by decide +kernel
theorem dX8_allBottles_15 : decode cX8_allBottles 15 = .ok (.iload_n 1, 1) := by decide +kernel
theorem dX8_allBottles_16 : decode cX8_allBottles 16 = .ok (.aload_n 0, 1) := by decide +kernel
theorem dX8_allBottles_17 : decode cX8_allBottles 17 = .ok (.getfield 9, 3) := by decide +kernel
theorem dX8_allBottles_20 : decode cX8_allBottles 20 = .ok (.bipush 7, 2) := by decide +kernel
theorem dX8_allBottles_22 : decode cX8_allBottles 22 = .ok (.iload_n 2, 1) := by decide +kernel
theorem dX8_allBottles_23 : decode cX8_allBottles 23 = .ok (.iadd, 1) := by decide +kernel
theorem dX8_allBottles_24 : decode cX8_allBottles 24 = .ok (.iaload, 1) := by decide +kernel
theorem dX8_allBottles_25 : decode cX8_allBottles 25 = .ok (.iadd, 1) := by decide +kernel
theorem dX8_allBottles_26 : decode cX8_allBottles 26 = .ok (.istore_n 1, 1) := by decide +kernel
theorem dX8_allBottles_27 : decode cX8_allBottles 27 = .ok (.iinc 2 1, 3) := by decide +kernel
theorem dX8_allBottles_30 : decode cX8_allBottles 30 = .ok (.goto (-26), 3) := by decide +kernel
theorem dX8_allBottles_33 : decode cX8_allBottles 33 = .ok (.iload_n 1, 1) := by decide +kernel
theorem dX8_allBottles_34 : decode cX8_allBottles 34 = .ok (.ireturn, 1) := by decide +kernel
theorem dX8_person_0 : decode cX8_person 0 = .ok (.iload_n 1, 1) := by decide +kernel
theorem dX8_person_1 : decode cX8_person 1 = .ok (.iconst 0, 1) := by decide +kernel
theorem dX8_person_2 : decode cX8_person 2 = .ok (.bipush 6, 2) := by decide +kernel
theorem dX8_person_4 : decode cX8_person 4 = .ok (.invokestatic 53, 3) := by decide +kernel
theorem dX8_person_7 : decode cX8_person 7 = .ok (.ifCond .ne 5, 3) := by decide +kernel
theorem dX8_person_10 : decode cX8_person 10 = .ok (.iconst (-1), 1) := by decide +kernel
theorem dX8_person_11 : decode cX8_person 11 = .ok (.ireturn, 1) := by decide +kernel
theorem dX8_person_12 : decode cX8_person 12 = .ok (.iload_n 2, 1) := by decide +kernel
theorem dX8_person_13 : decode cX8_person 13 = .ok (.iconst 0, 1) := by decide +kernel
theorem dX8_person_14 : decode cX8_person 14 = .ok (.bipush 9, 2) := by decide +kernel
theorem dX8_person_16 : decode cX8_person 16 = .ok (.invokestatic 53, 3) := by decide +kernel
theorem dX8_person_19 : decode cX8_person 19 = .ok (.ifCond .eq 25, 3) := by decide +kernel
theorem dX8_person_22 : decode cX8_person 22 = .ok (.iload_n 3, 1) := by decide +kernel
theorem dX8_person_23 : decode cX8_person 23 = .ok (.iconst 0, 1) := by decide +kernel
theorem dX8_person_24 : decode cX8_person 24 = .ok (.sipush 199, 3) := by decide +kernel
theorem dX8_person_27 : decode cX8_person 27 = .ok (.invokestatic 53, 3) := by decide +kernel
theorem dX8_person_30 : decode cX8_person 30 = .ok (.ifCond .eq 14, 3) := by decide +kernel
theorem dX8_person_33 : decode cX8_person 33 = .ok (.iload 4, 2) := by decide +kernel
theorem dX8_person_35 : decode cX8_person 35 = .ok (.iconst 0, 1) := by decide +kernel
theorem dX8_person_36 : decode cX8_person 36 = .ok (.bipush 120, 2) := by decide +kernel
theorem dX8_person_38 : decode cX8_person 38 = .ok (.invokestatic 53, 3) := by decide +kernel
theorem dX8_person_41 : decode cX8_person 41 = .ok (.ifCond .ne 6, 3) := by decide +kernel
theorem dX8_person_44 : decode cX8_person 44 = .ok (.bipush (-2), 2) := by decide +kernel
theorem dX8_person_46 : decode cX8_person 46 = .ok (.ireturn, 1) := by decide +kernel
theorem dX8_person_47 : decode cX8_person 47 = .ok (.aload_n 0, 1) := by decide +kernel
theorem dX8_person_48 : decode cX8_person 48 = .ok (.getfield 9, 3) := by decide +kernel
theorem dX8_person_51 : decode cX8_person 51 = .ok (.bipush 12, 2) := by decide +kernel
theorem dX8_person_53 : decode cX8_person 53 = .ok (.iaload, 1) := by decide +kernel
theorem dX8_person_54 : decode cX8_person 54 = .ok (.bipush 6, 2) := by decide +kernel
theorem dX8_person_56 : decode cX8_person 56 = .ok (.if_icmp .ne 6, 3) := by decide +kernel
theorem dX8_person_59 : decode cX8_person 59 = .ok (.bipush (-4), 2) := by decide +kernel
theorem dX8_person_61 : decode cX8_person 61 = .ok (.ireturn, 1) := by decide +kernel
theorem dX8_person_62 : decode cX8_person 62 = .ok (.aload_n 0, 1) := by decide +kernel
theorem dX8_person_63 : decode cX8_person 63 = .ok (.getfield 9, 3) := by decide +kernel
theorem dX8_person_66 : decode cX8_person 66 = .ok (.bipush 12, 2) := by decide +kernel
theorem dX8_person_68 : decode cX8_person 68 = .ok (.iaload, 1) := by decide +kernel
theorem dX8_person_69 : decode cX8_person 69 = .ok (.istore 5, 2) := by decide +kernel
theorem dX8_person_71 : decode cX8_person 71 = .ok (.aload_n 0, 1) := by decide +kernel
theorem dX8_person_72 : decode cX8_person 72 = .ok (.getfield 9, 3) := by decide +kernel
theorem dX8_person_75 : decode cX8_person 75 = .ok (.bipush 20, 2) := by decide +kernel
theorem dX8_person_77 : decode cX8_person 77 = .ok (.iload 5, 2) := by decide +kernel
theorem dX8_person_79 : decode cX8_person 79 = .ok (.iadd, 1) := by decide +kernel
theorem dX8_person_80 : decode cX8_person 80 = .ok (.iload_n 1, 1) := by decide +kernel
theorem dX8_person_81 : decode cX8_person 81 = .ok (.iastore, 1) := by decide +kernel
theorem dX8_person_82 : decode cX8_person 82 = .ok (.aload_n 0, 1) := by decide +kernel
theorem dX8_person_83 : decode cX8_person 83 = .ok (.getfield 9, 3) := by decide +kernel
theorem dX8_person_86 : decode cX8_person 86 = .ok (.bipush 26, 2) := by decide +kernel
theorem dX8_person_88 : decode cX8_person 88 = .ok (.iload 5, 2) := by decide +kernel
theorem dX8_person_90 : decode cX8_person 90 = .ok (.iadd, 1) := by decide +kernel
theorem dX8_person_91 : decode cX8_person 91 = .ok (.iload_n 2, 1) := by decide +kernel
theorem dX8_person_92 : decode cX8_person 92 = .ok (.iastore, 1) := by decide +kernel
theorem dX8_person_93 : decode cX8_person 93 = .ok (.aload_n 0, 1) := by decide +kernel
theorem dX8_person_94 : decode cX8_person 94 = .ok (.getfield 9, 3) := by decide +kernel
theorem dX8_person_97 : decode cX8_person 97 = .ok (.bipush 32, 2) := by decide +kernel
theorem dX8_person_99 : decode cX8_person 99 = .ok (.iload 5, 2) := by decide +kernel
theorem dX8_person_101 : decode cX8_person 101 = .ok (.iadd, 1) := by decide +kernel
theorem dX8_person_102 : decode cX8_person 102 = .ok (.iload_n 3, 1) := by decide +kernel
theorem dX8_person_103 : decode cX8_person 103 = .ok (.iastore, 1) := by decide +kernel
theorem dX8_person_104 : decode cX8_person 104 = .ok (.aload_n 0, 1) := by decide +kernel
theorem dX8_person_105 : decode cX8_person 105 = .ok (.getfield 9, 3) := by decide +kernel
theorem dX8_person_108 : decode cX8_person 108 = .ok (.bipush 38, 2) := by decide +kernel
theorem dX8_person_110 : decode cX8_person 110 = .ok (.iload 5, 2) := by decide +kernel
theorem dX8_person_112 : decode cX8_person 112 = .ok (.iadd, 1) := by decide +kernel
theorem dX8_person_113 : decode cX8_person 113 = .ok (.iload 4, 2) := by decide +kernel
theorem dX8_person_115 : decode cX8_person 115 = .ok (.iastore, 1) := by decide +kernel
theorem dX8_person_116 : decode cX8_person 116 = .ok (.aload_n 0, 1) := by decide +kernel
theorem dX8_person_117 : decode cX8_person 117 = .ok (.getfield 9, 3) := by decide +kernel
theorem dX8_person_120 : decode cX8_person 120 = .ok (.iconst 1, 1) := by decide +kernel
theorem dX8_person_121 : decode cX8_person 121 = .ok (.iload 5, 2) := by decide +kernel
theorem dX8_person_123 : decode cX8_person 123 = .ok (.iadd, 1) := by decide +kernel
theorem dX8_person_124 : decode cX8_person 124 = .ok (.iconst (-1), 1) := by decide +kernel
theorem dX8_person_125 : decode cX8_person 125 = .ok (.iastore, 1) := by decide +kernel
theorem dX8_person_126 : decode cX8_person 126 = .ok (.iconst 0, 1) := by decide +kernel
theorem dX8_person_127 : decode cX8_person 127 = .ok (.istore 6, 2) := by decide +kernel
theorem dX8_person_129 : decode cX8_person 129 = .ok (.iload 6, 2) := by decide +kernel
theorem dX8_person_131 : decode cX8_person 131 = .ok (.iconst 4, 1) := by decide +kernel
theorem dX8_person_132 : decode cX8_person 132 = .ok (.if_icmp .ge 25, 3) := by decide +kernel
theorem dX8_person_135 : decode cX8_person 135 = .ok (.aload_n 0, 1) := by decide +kernel
theorem dX8_person_136 : decode cX8_person 136 = .ok (.getfield 9, 3) := by decide +kernel
theorem dX8_person_139 : decode cX8_person 139 = .ok (.bipush 44, 2) := by decide +kernel
theorem dX8_person_141 : decode cX8_person 141 = .ok (.iconst 4, 1) := by decide +kernel
theorem dX8_person_142 : decode cX8_person 142 = .ok (.iload 5, 2) := by decide +kernel
theorem dX8_person_144 : decode cX8_person 144 = .ok (.imul, 1) := by decide +kernel
theorem dX8_person_145 : decode cX8_person 145 = .ok (.iadd, 1) := by decide +kernel
theorem dX8_person_146 : decode cX8_person 146 = .ok (.iload 6, 2) := by decide +kernel
theorem dX8_person_148 : decode cX8_person 148 = .ok (.iadd, 1) := by decide +kernel
theorem dX8_person_149 : decode cX8_person 149 = .ok (.iconst 0, 1) := by decide +kernel
theorem dX8_person_150 : decode cX8_person 150 = .ok (.iastore, 1) := by decide +kernel
theorem dX8_person_151 : decode cX8_person 151 = .ok (.iinc 6 1, 3) := by decide +kernel
theorem dX8_person_154 : decode cX8_person 154 = .ok (.goto (-25), 3) := by decide +kernel
theorem dX8_person_157 : decode cX8_person 157 = .ok (.aload_n 0, 1) := by decide +kernel
theorem dX8_person_158 : decode cX8_person 158 = .ok (.getfield 9, 3) := by decide +kernel
theorem dX8_person_161 : decode cX8_person 161 = .ok (.bipush 12, 2) := by decide +kernel
theorem dX8_person_163 : decode cX8_person 163 = .ok (.dup2, 1) := by decide +kernel
theorem dX8_person_164 : decode cX8_person 164 = .ok (.iaload, 1) := by decide +kernel
theorem dX8_person_165 : decode cX8_person 165 = .ok (.iconst 1, 1) := by decide +kernel
theorem dX8_person_166 : decode cX8_person 166 = .ok (.iadd, 1) := by decide +kernel
theorem dX8_person_167 : decode cX8_person 167 = .ok (.iastore, 1) := by decide +kernel
theorem dX8_person_168 : decode cX8_person 168 = .ok (.iload 5, 2) := by decide +kernel
theorem dX8_person_170 : decode cX8_person 170 = .ok (.ireturn, 1) := by decide +kernel
theorem dX8_newVintage_0 : decode cX8_newVintage 0 = .ok (.aload_n 0, 1) := by decide +kernel
theorem dX8_newVintage_1 : decode cX8_newVintage 1 = .ok (.getfield 9, 3) := by decide +kernel
theorem dX8_newVintage_4 : decode cX8_newVintage 4 = .ok (.bipush 19, 2) := by decide +kernel
theorem dX8_newVintage_6 : decode cX8_newVintage 6 = .ok (.iaload, 1) := by decide +kernel
theorem dX8_newVintage_7 : decode cX8_newVintage 7 = .ok (.istore_n 3, 1) := by decide +kernel
theorem dX8_newVintage_8 : decode cX8_newVintage 8 = .ok (.aload_n 0, 1) := by decide +kernel
theorem dX8_newVintage_9 : decode cX8_newVintage 9 = .ok (.getfield 9, 3) := by decide +kernel
theorem dX8_newVintage_12 : decode cX8_newVintage 12 = .ok (.bipush 68, 2) := by decide +kernel
theorem dX8_newVintage_14 : decode cX8_newVintage 14 = .ok (.iload_n 3, 1) := by decide +kernel
theorem dX8_newVintage_15 : decode cX8_newVintage 15 = .ok (.iadd, 1) := by decide +kernel
theorem dX8_newVintage_16 : decode cX8_newVintage 16 = .ok (.iload_n 1, 1) := by decide +kernel
theorem dX8_newVintage_17 : decode cX8_newVintage 17 = .ok (.iastore, 1) := by decide +kernel
theorem dX8_newVintage_18 : decode cX8_newVintage 18 = .ok (.aload_n 0, 1) := by decide +kernel
theorem dX8_newVintage_19 : decode cX8_newVintage 19 = .ok (.getfield 9, 3) := by decide +kernel
theorem dX8_newVintage_22 : decode cX8_newVintage 22 = .ok (.bipush 7, 2) := by decide +kernel
theorem dX8_newVintage_24 : decode cX8_newVintage 24 = .ok (.iload_n 3, 1) := by decide +kernel
theorem dX8_newVintage_25 : decode cX8_newVintage 25 = .ok (.iadd, 1) := by decide +kernel
theorem dX8_newVintage_26 : decode cX8_newVintage 26 = .ok (.iload_n 2, 1) := by decide +kernel
theorem dX8_newVintage_27 : decode cX8_newVintage 27 = .ok (.iastore, 1) := by decide +kernel
theorem dX8_newVintage_28 : decode cX8_newVintage 28 = .ok (.aload_n 0, 1) := by decide +kernel
theorem dX8_newVintage_29 : decode cX8_newVintage 29 = .ok (.getfield 9, 3) := by decide +kernel
theorem dX8_newVintage_32 : decode cX8_newVintage 32 = .ok (.bipush 19, 2) := by decide +kernel
theorem dX8_newVintage_34 : decode cX8_newVintage 34 = .ok (.dup2, 1) := by decide +kernel
theorem dX8_newVintage_35 : decode cX8_newVintage 35 = .ok (.iaload, 1) := by decide +kernel
theorem dX8_newVintage_36 : decode cX8_newVintage 36 = .ok (.iconst 1, 1) := by decide +kernel
theorem dX8_newVintage_37 : decode cX8_newVintage 37 = .ok (.iadd, 1) := by decide +kernel
theorem dX8_newVintage_38 : decode cX8_newVintage 38 = .ok (.iastore, 1) := by decide +kernel
theorem dX8_newVintage_39 : decode cX8_newVintage 39 = .ok (.iload_n 3, 1) := by decide +kernel
theorem dX8_newVintage_40 : decode cX8_newVintage 40 = .ok (.ireturn, 1) := by decide +kernel
theorem dX8_vintage_0 : decode cX8_vintage 0 = .ok (.iload_n 1, 1) := by decide +kernel
theorem dX8_vintage_1 : decode cX8_vintage 1 = .ok (.iconst 0, 1) := by decide +kernel
theorem dX8_vintage_2 : decode cX8_vintage 2 = .ok (.sipush 199, 3) := by decide +kernel
theorem dX8_vintage_5 : decode cX8_vintage 5 = .ok (.invokestatic 53, 3) := by decide +kernel
theorem dX8_vintage_8 : decode cX8_vintage 8 = .ok (.ifCond .eq 13, 3) := by decide +kernel
theorem dX8_vintage_11 : decode cX8_vintage 11 = .ok (.iload_n 2, 1) := by decide +kernel
theorem dX8_vintage_12 : decode cX8_vintage 12 = .ok (.iconst 0, 1) := by decide +kernel
theorem dX8_vintage_13 : decode cX8_vintage 13 = .ok (.bipush 99, 2) := by decide +kernel
theorem dX8_vintage_15 : decode cX8_vintage 15 = .ok (.invokestatic 53, 3) := by decide +kernel
theorem dX8_vintage_18 : decode cX8_vintage 18 = .ok (.ifCond .ne 6, 3) := by decide +kernel
theorem dX8_vintage_21 : decode cX8_vintage 21 = .ok (.bipush (-2), 2) := by decide +kernel
theorem dX8_vintage_23 : decode cX8_vintage 23 = .ok (.ireturn, 1) := by decide +kernel
theorem dX8_vintage_24 : decode cX8_vintage 24 = .ok (.aload_n 0, 1) := by decide +kernel
theorem dX8_vintage_25 : decode cX8_vintage 25 = .ok (.getfield 9, 3) := by decide +kernel
theorem dX8_vintage_28 : decode cX8_vintage 28 = .ok (.bipush 19, 2) := by decide +kernel
theorem dX8_vintage_30 : decode cX8_vintage 30 = .ok (.iaload, 1) := by decide +kernel
theorem dX8_vintage_31 : decode cX8_vintage 31 = .ok (.iconst 5, 1) := by decide +kernel
theorem dX8_vintage_32 : decode cX8_vintage 32 = .ok (.if_icmp .ne 8, 3) := by decide +kernel
theorem dX8_vintage_35 : decode cX8_vintage 35 = .ok (.bipush (-4), 2) := by decide +kernel
theorem dX8_vintage_37 : decode cX8_vintage 37 = .ok (.goto 9, 3) := by decide +kernel
theorem dX8_vintage_40 : decode cX8_vintage 40 = .ok (.aload_n 0, 1) := by decide +kernel
theorem dX8_vintage_41 : decode cX8_vintage 41 = .ok (.iload_n 1, 1) := by decide +kernel
theorem dX8_vintage_42 : decode cX8_vintage 42 = .ok (.iload_n 2, 1) := by decide +kernel
theorem dX8_vintage_43 : decode cX8_vintage 43 = .ok (.invokevirtual 166, 3) := by decide +kernel
theorem dX8_vintage_46 : decode cX8_vintage 46 = .ok (.ireturn, 1) := by decide +kernel
theorem dX8_of_0 : decode cX8_of 0 = .ok (.aload_n 0, 1) := by decide +kernel
theorem dX8_of_1 : decode cX8_of 1 = .ok (.iload_n 1, 1) := by decide +kernel
theorem dX8_of_2 : decode cX8_of 2 = .ok (.invokevirtual 169, 3) := by decide +kernel
theorem dX8_of_5 : decode cX8_of 5 = .ok (.ifCond .eq 13, 3) := by decide +kernel
theorem dX8_of_8 : decode cX8_of 8 = .ok (.iload_n 2, 1) := by decide +kernel
theorem dX8_of_9 : decode cX8_of 9 = .ok (.iconst 0, 1) := by decide +kernel
theorem dX8_of_10 : decode cX8_of 10 = .ok (.bipush 8, 2) := by decide +kernel
theorem dX8_of_12 : decode cX8_of 12 = .ok (.invokestatic 53, 3) := by decide +kernel
theorem dX8_of_15 : decode cX8_of 15 = .ok (.ifCond .ne 7, 3) := by decide +kernel
theorem dX8_of_18 : decode cX8_of 18 = .ok (.sipush (-10001), 3) := by decide +kernel
theorem dX8_of_21 : decode cX8_of 21 = .ok (.ireturn, 1) := by decide +kernel
theorem dX8_of_22 : decode cX8_of 22 = .ok (.iload_n 2, 1) := by decide +kernel
theorem dX8_of_23 : decode cX8_of 23 = .ok (.tableswitch 90 4 8 #[33, 45, 51, 65, 76], 33) := by decide +kernel
theorem dX8_of_56 : decode cX8_of 56 = .ok (.aload_n 0, 1) := by decide +kernel
theorem dX8_of_57 : decode cX8_of 57 = .ok (.getfield 9, 3) := by decide +kernel
theorem dX8_of_60 : decode cX8_of 60 = .ok (.iconst 1, 1) := by decide +kernel
theorem dX8_of_61 : decode cX8_of 61 = .ok (.iload_n 1, 1) := by decide +kernel
theorem dX8_of_62 : decode cX8_of 62 = .ok (.iadd, 1) := by decide +kernel
theorem dX8_of_63 : decode cX8_of 63 = .ok (.iaload, 1) := by decide +kernel
theorem dX8_of_64 : decode cX8_of 64 = .ok (.invokestatic 172, 3) := by decide +kernel
theorem dX8_of_67 : decode cX8_of 67 = .ok (.ireturn, 1) := by decide +kernel
theorem dX8_of_68 : decode cX8_of 68 = .ok (.aload_n 0, 1) := by decide +kernel
theorem dX8_of_69 : decode cX8_of 69 = .ok (.iload_n 1, 1) := by decide +kernel
theorem dX8_of_70 : decode cX8_of 70 = .ok (.invokevirtual 155, 3) := by decide +kernel
theorem dX8_of_73 : decode cX8_of 73 = .ok (.ireturn, 1) := by decide +kernel
theorem dX8_of_74 : decode cX8_of 74 = .ok (.aload_n 0, 1) := by decide +kernel
theorem dX8_of_75 : decode cX8_of 75 = .ok (.iload_n 1, 1) := by decide +kernel
theorem dX8_of_76 : decode cX8_of 76 = .ok (.invokevirtual 159, 3) := by decide +kernel
theorem dX8_of_79 : decode cX8_of 79 = .ok (.ifCond .eq 7, 3) := by decide +kernel
theorem dX8_of_82 : decode cX8_of 82 = .ok (.iconst 1, 1) := by decide +kernel
theorem dX8_of_83 : decode cX8_of 83 = .ok (.goto 4, 3) := by decide +kernel
theorem dX8_of_86 : decode cX8_of 86 = .ok (.iconst 0, 1) := by decide +kernel
theorem dX8_of_87 : decode cX8_of 87 = .ok (.ireturn, 1) := by decide +kernel
theorem dX8_of_88 : decode cX8_of 88 = .ok (.aload_n 0, 1) := by decide +kernel
theorem dX8_of_89 : decode cX8_of 89 = .ok (.iload_n 1, 1) := by decide +kernel
theorem dX8_of_90 : decode cX8_of 90 = .ok (.aload_n 0, 1) := by decide +kernel
theorem dX8_of_91 : decode cX8_of 91 = .ok (.iload_n 1, 1) := by decide +kernel
theorem dX8_of_92 : decode cX8_of 92 = .ok (.invokevirtual 155, 3) := by decide +kernel
theorem dX8_of_95 : decode cX8_of 95 = .ok (.invokevirtual 149, 3) := by decide +kernel
theorem dX8_of_98 : decode cX8_of 98 = .ok (.ireturn, 1) := by decide +kernel
theorem dX8_of_99 : decode cX8_of 99 = .ok (.aload_n 0, 1) := by decide +kernel
theorem dX8_of_100 : decode cX8_of 100 = .ok (.iload_n 1, 1) := by decide +kernel
theorem dX8_of_101 : decode cX8_of 101 = .ok (.aload_n 0, 1) := by decide +kernel
theorem dX8_of_102 : decode cX8_of 102 = .ok (.getfield 9, 3) := by decide +kernel
theorem dX8_of_105 : decode cX8_of 105 = .ok (.iconst 1, 1) := by decide +kernel
theorem dX8_of_106 : decode cX8_of 106 = .ok (.iload_n 1, 1) := by decide +kernel
theorem dX8_of_107 : decode cX8_of 107 = .ok (.iadd, 1) := by decide +kernel
theorem dX8_of_108 : decode cX8_of 108 = .ok (.iaload, 1) := by decide +kernel
theorem dX8_of_109 : decode cX8_of 109 = .ok (.invokevirtual 163, 3) := by decide +kernel
theorem dX8_of_112 : decode cX8_of 112 = .ok (.ireturn, 1) := by decide +kernel
theorem dX8_of_113 : decode cX8_of 113 = .ok (.aload_n 0, 1) := by decide +kernel
theorem dX8_of_114 : decode cX8_of 114 = .ok (.getfield 9, 3) := by decide +kernel
theorem dX8_of_117 : decode cX8_of 117 = .ok (.bipush 20, 2) := by decide +kernel
theorem dX8_of_119 : decode cX8_of 119 = .ok (.bipush 6, 2) := by decide +kernel
theorem dX8_of_121 : decode cX8_of 121 = .ok (.iload_n 2, 1) := by decide +kernel
theorem dX8_of_122 : decode cX8_of 122 = .ok (.imul, 1) := by decide +kernel
theorem dX8_of_123 : decode cX8_of 123 = .ok (.iadd, 1) := by decide +kernel
theorem dX8_of_124 : decode cX8_of 124 = .ok (.iload_n 1, 1) := by decide +kernel
theorem dX8_of_125 : decode cX8_of 125 = .ok (.iadd, 1) := by decide +kernel
theorem dX8_of_126 : decode cX8_of 126 = .ok (.iaload, 1) := by decide +kernel
theorem dX8_of_127 : decode cX8_of 127 = .ok (.ireturn, 1) := by decide +kernel
theorem dX8_row_0 : decode cX8_row 0 = .ok (.aload_n 0, 1) := by decide +kernel
theorem dX8_row_1 : decode cX8_row 1 = .ok (.iload_n 1, 1) := by decide +kernel
theorem dX8_row_2 : decode cX8_row 2 = .ok (.invokevirtual 169, 3) := by decide +kernel
theorem dX8_row_5 : decode cX8_row 5 = .ok (.ifCond .eq 12, 3) := by decide +kernel
theorem dX8_row_8 : decode cX8_row 8 = .ok (.iload_n 2, 1) := by decide +kernel
theorem dX8_row_9 : decode cX8_row 9 = .ok (.iconst 0, 1) := by decide +kernel
theorem dX8_row_10 : decode cX8_row 10 = .ok (.iconst 3, 1) := by decide +kernel
theorem dX8_row_11 : decode cX8_row 11 = .ok (.invokestatic 53, 3) := by decide +kernel
theorem dX8_row_14 : decode cX8_row 14 = .ok (.ifCond .ne 5, 3) := by decide +kernel
theorem dX8_row_17 : decode cX8_row 17 = .ok (.iconst (-1), 1) := by decide +kernel
theorem dX8_row_18 : decode cX8_row 18 = .ok (.ireturn, 1) := by decide +kernel
theorem dX8_row_19 : decode cX8_row 19 = .ok (.iload_n 3, 1) := by decide +kernel
theorem dX8_row_20 : decode cX8_row 20 = .ok (.iconst 0, 1) := by decide +kernel
theorem dX8_row_21 : decode cX8_row 21 = .ok (.bipush 9, 2) := by decide +kernel
theorem dX8_row_23 : decode cX8_row 23 = .ok (.invokestatic 53, 3) := by decide +kernel
theorem dX8_row_26 : decode cX8_row 26 = .ok (.ifCond .ne 6, 3) := by decide +kernel
theorem dX8_row_29 : decode cX8_row 29 = .ok (.bipush (-2), 2) := by decide +kernel
theorem dX8_row_31 : decode cX8_row 31 = .ok (.ireturn, 1) := by decide +kernel
theorem dX8_row_32 : decode cX8_row 32 = .ok (.aload_n 0, 1) := by decide +kernel
theorem dX8_row_33 : decode cX8_row 33 = .ok (.getfield 9, 3) := by decide +kernel
theorem dX8_row_36 : decode cX8_row 36 = .ok (.bipush 20, 2) := by decide +kernel
theorem dX8_row_38 : decode cX8_row 38 = .ok (.iload_n 1, 1) := by decide +kernel
theorem dX8_row_39 : decode cX8_row 39 = .ok (.iadd, 1) := by decide +kernel
theorem dX8_row_40 : decode cX8_row 40 = .ok (.iaload, 1) := by decide +kernel
theorem dX8_row_41 : decode cX8_row 41 = .ok (.bipush 6, 2) := by decide +kernel
theorem dX8_row_43 : decode cX8_row 43 = .ok (.if_icmp .eq 6, 3) := by decide +kernel
theorem dX8_row_46 : decode cX8_row 46 = .ok (.bipush (-3), 2) := by decide +kernel
theorem dX8_row_48 : decode cX8_row 48 = .ok (.ireturn, 1) := by decide +kernel
theorem dX8_row_49 : decode cX8_row 49 = .ok (.aload_n 0, 1) := by decide +kernel
theorem dX8_row_50 : decode cX8_row 50 = .ok (.getfield 9, 3) := by decide +kernel
theorem dX8_row_53 : decode cX8_row 53 = .ok (.bipush 44, 2) := by decide +kernel
theorem dX8_row_55 : decode cX8_row 55 = .ok (.iconst 4, 1) := by decide +kernel
theorem dX8_row_56 : decode cX8_row 56 = .ok (.iload_n 1, 1) := by decide +kernel
theorem dX8_row_57 : decode cX8_row 57 = .ok (.imul, 1) := by decide +kernel
theorem dX8_row_58 : decode cX8_row 58 = .ok (.iadd, 1) := by decide +kernel
theorem dX8_row_59 : decode cX8_row 59 = .ok (.iload_n 2, 1) := by decide +kernel
theorem dX8_row_60 : decode cX8_row 60 = .ok (.iadd, 1) := by decide +kernel
theorem dX8_row_61 : decode cX8_row 61 = .ok (.iaload, 1) := by decide +kernel
theorem dX8_row_62 : decode cX8_row 62 = .ok (.istore 4, 2) := by decide +kernel
theorem dX8_row_64 : decode cX8_row 64 = .ok (.aload_n 0, 1) := by decide +kernel
theorem dX8_row_65 : decode cX8_row 65 = .ok (.getfield 9, 3) := by decide +kernel
theorem dX8_row_68 : decode cX8_row 68 = .ok (.bipush 44, 2) := by decide +kernel
theorem dX8_row_70 : decode cX8_row 70 = .ok (.iconst 4, 1) := by decide +kernel
theorem dX8_row_71 : decode cX8_row 71 = .ok (.iload_n 1, 1) := by decide +kernel
theorem dX8_row_72 : decode cX8_row 72 = .ok (.imul, 1) := by decide +kernel
theorem dX8_row_73 : decode cX8_row 73 = .ok (.iadd, 1) := by decide +kernel
theorem dX8_row_74 : decode cX8_row 74 = .ok (.iload_n 2, 1) := by decide +kernel
theorem dX8_row_75 : decode cX8_row 75 = .ok (.iadd, 1) := by decide +kernel
theorem dX8_row_76 : decode cX8_row 76 = .ok (.iload_n 3, 1) := by decide +kernel
theorem dX8_row_77 : decode cX8_row 77 = .ok (.iastore, 1) := by decide +kernel
theorem dX8_row_78 : decode cX8_row 78 = .ok (.iload 4, 2) := by decide +kernel
theorem dX8_row_80 : decode cX8_row 80 = .ok (.ireturn, 1) := by decide +kernel
theorem dX8_wine_0 : decode cX8_wine 0 = .ok (.aload_n 0, 1) := by decide +kernel
theorem dX8_wine_1 : decode cX8_wine 1 = .ok (.iload_n 1, 1) := by decide +kernel
theorem dX8_wine_2 : decode cX8_wine 2 = .ok (.invokevirtual 175, 3) := by decide +kernel
theorem dX8_wine_5 : decode cX8_wine 5 = .ok (.ifCond .eq 12, 3) := by decide +kernel
theorem dX8_wine_8 : decode cX8_wine 8 = .ok (.iload_n 2, 1) := by decide +kernel
theorem dX8_wine_9 : decode cX8_wine 9 = .ok (.iconst 0, 1) := by decide +kernel
theorem dX8_wine_10 : decode cX8_wine 10 = .ok (.iconst 1, 1) := by decide +kernel
theorem dX8_wine_11 : decode cX8_wine 11 = .ok (.invokestatic 53, 3) := by decide +kernel
theorem dX8_wine_14 : decode cX8_wine 14 = .ok (.ifCond .ne 5, 3) := by decide +kernel
theorem dX8_wine_17 : decode cX8_wine 17 = .ok (.iconst (-1), 1) := by decide +kernel
theorem dX8_wine_18 : decode cX8_wine 18 = .ok (.ireturn, 1) := by decide +kernel
theorem dX8_wine_19 : decode cX8_wine 19 = .ok (.iload_n 2, 1) := by decide +kernel
theorem dX8_wine_20 : decode cX8_wine 20 = .ok (.ifCond .ne 15, 3) := by decide +kernel
theorem dX8_wine_23 : decode cX8_wine 23 = .ok (.aload_n 0, 1) := by decide +kernel
theorem dX8_wine_24 : decode cX8_wine 24 = .ok (.getfield 9, 3) := by decide +kernel
theorem dX8_wine_27 : decode cX8_wine 27 = .ok (.bipush 68, 2) := by decide +kernel
theorem dX8_wine_29 : decode cX8_wine 29 = .ok (.iload_n 1, 1) := by decide +kernel
theorem dX8_wine_30 : decode cX8_wine 30 = .ok (.iadd, 1) := by decide +kernel
theorem dX8_wine_31 : decode cX8_wine 31 = .ok (.iaload, 1) := by decide +kernel
theorem dX8_wine_32 : decode cX8_wine 32 = .ok (.goto 12, 3) := by decide +kernel
theorem dX8_wine_35 : decode cX8_wine 35 = .ok (.aload_n 0, 1) := by decide +kernel
theorem dX8_wine_36 : decode cX8_wine 36 = .ok (.getfield 9, 3) := by decide +kernel
theorem dX8_wine_39 : decode cX8_wine 39 = .ok (.bipush 7, 2) := by decide +kernel
theorem dX8_wine_41 : decode cX8_wine 41 = .ok (.iload_n 1, 1) := by decide +kernel
theorem dX8_wine_42 : decode cX8_wine 42 = .ok (.iadd, 1) := by decide +kernel
theorem dX8_wine_43 : decode cX8_wine 43 = .ok (.iaload, 1) := by decide +kernel
theorem dX8_wine_44 : decode cX8_wine 44 = .ok (.ireturn, 1) := by decide +kernel
theorem dX8_stock_0 : decode cX8_stock 0 = .ok (.aload_n 0, 1) := by decide +kernel
theorem dX8_stock_1 : decode cX8_stock 1 = .ok (.iload_n 1, 1) := by decide +kernel
theorem dX8_stock_2 : decode cX8_stock 2 = .ok (.invokevirtual 175, 3) := by decide +kernel
theorem dX8_stock_5 : decode cX8_stock 5 = .ok (.ifCond .ne 5, 3) := by decide +kernel
theorem dX8_stock_8 : decode cX8_stock 8 = .ok (.iconst (-1), 1) := by decide +kernel
theorem dX8_stock_9 : decode cX8_stock 9 = .ok (.ireturn, 1) := by decide +kernel
theorem dX8_stock_10 : decode cX8_stock 10 = .ok (.iload_n 2, 1) := by decide +kernel
theorem dX8_stock_11 : decode cX8_stock 11 = .ok (.iconst 0, 1) := by decide +kernel
theorem dX8_stock_12 : decode cX8_stock 12 = .ok (.bipush 99, 2) := by decide +kernel
theorem dX8_stock_14 : decode cX8_stock 14 = .ok (.invokestatic 53, 3) := by decide +kernel
theorem dX8_stock_17 : decode cX8_stock 17 = .ok (.ifCond .ne 6, 3) := by decide +kernel
theorem dX8_stock_20 : decode cX8_stock 20 = .ok (.bipush (-2), 2) := by decide +kernel
theorem dX8_stock_22 : decode cX8_stock 22 = .ok (.ireturn, 1) := by decide +kernel
theorem dX8_stock_23 : decode cX8_stock 23 = .ok (.aload_n 0, 1) := by decide +kernel
theorem dX8_stock_24 : decode cX8_stock 24 = .ok (.getfield 9, 3) := by decide +kernel
theorem dX8_stock_27 : decode cX8_stock 27 = .ok (.bipush 7, 2) := by decide +kernel
theorem dX8_stock_29 : decode cX8_stock 29 = .ok (.iload_n 1, 1) := by decide +kernel
theorem dX8_stock_30 : decode cX8_stock 30 = .ok (.iadd, 1) := by decide +kernel
theorem dX8_stock_31 : decode cX8_stock 31 = .ok (.iaload, 1) := by decide +kernel
theorem dX8_stock_32 : decode cX8_stock 32 = .ok (.istore_n 3, 1) := by decide +kernel
theorem dX8_stock_33 : decode cX8_stock 33 = .ok (.aload_n 0, 1) := by decide +kernel
theorem dX8_stock_34 : decode cX8_stock 34 = .ok (.getfield 9, 3) := by decide +kernel
theorem dX8_stock_37 : decode cX8_stock 37 = .ok (.bipush 7, 2) := by decide +kernel
theorem dX8_stock_39 : decode cX8_stock 39 = .ok (.iload_n 1, 1) := by decide +kernel
theorem dX8_stock_40 : decode cX8_stock 40 = .ok (.iadd, 1) := by decide +kernel
theorem dX8_stock_41 : decode cX8_stock 41 = .ok (.iload_n 2, 1) := by decide +kernel
theorem dX8_stock_42 : decode cX8_stock 42 = .ok (.iastore, 1) := by decide +kernel
theorem dX8_stock_43 : decode cX8_stock 43 = .ok (.iload_n 3, 1) := by decide +kernel
theorem dX8_stock_44 : decode cX8_stock 44 = .ok (.ireturn, 1) := by decide +kernel
theorem dX8_told_0 : decode cX8_told 0 = .ok (.iload_n 1, 1) := by decide +kernel
theorem dX8_told_1 : decode cX8_told 1 = .ok (.tableswitch 81 0 5 #[39, 46, 56, 66, 71, 76], 39) := by decide +kernel
theorem dX8_told_40 : decode cX8_told 40 = .ok (.aload_n 0, 1) := by decide +kernel
theorem dX8_told_41 : decode cX8_told 41 = .ok (.getfield 9, 3) := by decide +kernel
theorem dX8_told_44 : decode cX8_told 44 = .ok (.iconst 0, 1) := by decide +kernel
theorem dX8_told_45 : decode cX8_told 45 = .ok (.iaload, 1) := by decide +kernel
theorem dX8_told_46 : decode cX8_told 46 = .ok (.ireturn, 1) := by decide +kernel
theorem dX8_told_47 : decode cX8_told 47 = .ok (.aload_n 0, 1) := by decide +kernel
theorem dX8_told_48 : decode cX8_told 48 = .ok (.sipush 223, 3) := by decide +kernel
theorem dX8_told_51 : decode cX8_told 51 = .ok (.bipush 18, 2) := by decide +kernel
theorem dX8_told_53 : decode cX8_told 53 = .ok (.invokevirtual 143, 3) := by decide +kernel
theorem dX8_told_56 : decode cX8_told 56 = .ok (.ireturn, 1) := by decide +kernel
theorem dX8_told_57 : decode cX8_told 57 = .ok (.aload_n 0, 1) := by decide +kernel
theorem dX8_told_58 : decode cX8_told 58 = .ok (.sipush 228, 3) := by decide +kernel
theorem dX8_told_61 : decode cX8_told 61 = .ok (.bipush 60, 2) := by decide +kernel
theorem dX8_told_63 : decode cX8_told 63 = .ok (.invokevirtual 143, 3) := by decide +kernel
theorem dX8_told_66 : decode cX8_told 66 = .ok (.ireturn, 1) := by decide +kernel
theorem dX8_told_67 : decode cX8_told 67 = .ok (.aload_n 0, 1) := by decide +kernel
theorem dX8_told_68 : decode cX8_told 68 = .ok (.invokevirtual 178, 3) := by decide +kernel
theorem dX8_told_71 : decode cX8_told 71 = .ok (.ireturn, 1) := by decide +kernel
theorem dX8_told_72 : decode cX8_told 72 = .ok (.aload_n 0, 1) := by decide +kernel
theorem dX8_told_73 : decode cX8_told 73 = .ok (.invokevirtual 181, 3) := by decide +kernel
theorem dX8_told_76 : decode cX8_told 76 = .ok (.ireturn, 1) := by decide +kernel
theorem dX8_told_77 : decode cX8_told 77 = .ok (.aload_n 0, 1) := by decide +kernel
theorem dX8_told_78 : decode cX8_told 78 = .ok (.invokevirtual 184, 3) := by decide +kernel
theorem dX8_told_81 : decode cX8_told 81 = .ok (.ireturn, 1) := by decide +kernel
theorem dX8_told_82 : decode cX8_told 82 = .ok (.iconst (-1), 1) := by decide +kernel
theorem dX8_told_83 : decode cX8_told 83 = .ok (.ireturn, 1) := by decide +kernel
theorem dX8_pours_0 : decode cX8_pours 0 = .ok (.aload_n 0, 1) := by decide +kernel
theorem dX8_pours_1 : decode cX8_pours 1 = .ok (.getfield 9, 3) := by decide +kernel
theorem dX8_pours_4 : decode cX8_pours 4 = .ok (.bipush 7, 2) := by decide +kernel
theorem dX8_pours_6 : decode cX8_pours 6 = .ok (.iload_n 2, 1) := by decide +kernel
theorem dX8_pours_7 : decode cX8_pours 7 = .ok (.iadd, 1) := by decide +kernel
theorem dX8_pours_8 : decode cX8_pours 8 = .ok (.iaload, 1) := by decide +kernel
theorem dX8_pours_9 : decode cX8_pours 9 = .ok (.ifCond .le 25, 3) := by decide +kernel
theorem dX8_pours_12 : decode cX8_pours 12 = .ok (.aload_n 0, 1) := by decide +kernel
theorem dX8_pours_13 : decode cX8_pours 13 = .ok (.getfield 9, 3) := by decide +kernel
theorem dX8_pours_16 : decode cX8_pours 16 = .ok (.bipush 7, 2) := by decide +kernel
theorem dX8_pours_18 : decode cX8_pours 18 = .ok (.iload_n 2, 1) := by decide +kernel
theorem dX8_pours_19 : decode cX8_pours 19 = .ok (.iadd, 1) := by decide +kernel
theorem dX8_pours_20 : decode cX8_pours 20 = .ok (.dup2, 1) := by decide +kernel
theorem dX8_pours_21 : decode cX8_pours 21 = .ok (.iaload, 1) := by decide +kernel
theorem dX8_pours_22 : decode cX8_pours 22 = .ok (.iconst 1, 1) := by decide +kernel
theorem dX8_pours_23 : decode cX8_pours 23 = .ok (.isub, 1) := by decide +kernel
theorem dX8_pours_24 : decode cX8_pours 24 = .ok (.iastore, 1) := by decide +kernel
theorem dX8_pours_25 : decode cX8_pours 25 = .ok (.aload_n 0, 1) := by decide +kernel
theorem dX8_pours_26 : decode cX8_pours 26 = .ok (.getfield 9, 3) := by decide +kernel
theorem dX8_pours_29 : decode cX8_pours 29 = .ok (.iconst 1, 1) := by decide +kernel
theorem dX8_pours_30 : decode cX8_pours 30 = .ok (.iload_n 1, 1) := by decide +kernel
theorem dX8_pours_31 : decode cX8_pours 31 = .ok (.iadd, 1) := by decide +kernel
theorem dX8_pours_32 : decode cX8_pours 32 = .ok (.iload_n 2, 1) := by decide +kernel
theorem dX8_pours_33 : decode cX8_pours 33 = .ok (.iastore, 1) := by decide +kernel
theorem dX8_pours_34 : decode cX8_pours 34 = .ok (.return_, 1) := by decide +kernel
theorem dX8_pour_0 : decode cX8_pour 0 = .ok (.aload_n 0, 1) := by decide +kernel
theorem dX8_pour_1 : decode cX8_pour 1 = .ok (.iload_n 1, 1) := by decide +kernel
theorem dX8_pour_2 : decode cX8_pour 2 = .ok (.invokevirtual 169, 3) := by decide +kernel
theorem dX8_pour_5 : decode cX8_pour 5 = .ok (.ifCond .eq 11, 3) := by decide +kernel
theorem dX8_pour_8 : decode cX8_pour 8 = .ok (.aload_n 0, 1) := by decide +kernel
theorem dX8_pour_9 : decode cX8_pour 9 = .ok (.iload_n 2, 1) := by decide +kernel
theorem dX8_pour_10 : decode cX8_pour 10 = .ok (.invokevirtual 175, 3) := by decide +kernel
theorem dX8_pour_13 : decode cX8_pour 13 = .ok (.ifCond .ne 5, 3) := by decide +kernel
theorem dX8_pour_16 : decode cX8_pour 16 = .ok (.iconst (-1), 1) := by decide +kernel
theorem dX8_pour_17 : decode cX8_pour 17 = .ok (.ireturn, 1) := by decide +kernel
theorem dX8_pour_18 : decode cX8_pour 18 = .ok (.aload_n 0, 1) := by decide +kernel
theorem dX8_pour_19 : decode cX8_pour 19 = .ok (.getfield 9, 3) := by decide +kernel
theorem dX8_pour_22 : decode cX8_pour 22 = .ok (.bipush 7, 2) := by decide +kernel
theorem dX8_pour_24 : decode cX8_pour 24 = .ok (.iload_n 2, 1) := by decide +kernel
theorem dX8_pour_25 : decode cX8_pour 25 = .ok (.iadd, 1) := by decide +kernel
theorem dX8_pour_26 : decode cX8_pour 26 = .ok (.iaload, 1) := by decide +kernel
theorem dX8_pour_27 : decode cX8_pour 27 = .ok (.ifCond .ne 6, 3) := by decide +kernel
theorem dX8_pour_30 : decode cX8_pour 30 = .ok (.bipush (-3), 2) := by decide +kernel
theorem dX8_pour_32 : decode cX8_pour 32 = .ok (.ireturn, 1) := by decide +kernel
theorem dX8_pour_33 : decode cX8_pour 33 = .ok (.aload_n 0, 1) := by decide +kernel
theorem dX8_pour_34 : decode cX8_pour 34 = .ok (.iload_n 1, 1) := by decide +kernel
theorem dX8_pour_35 : decode cX8_pour 35 = .ok (.iload_n 2, 1) := by decide +kernel
theorem dX8_pour_36 : decode cX8_pour 36 = .ok (.invokevirtual 187, 3) := by decide +kernel
theorem dX8_pour_39 : decode cX8_pour 39 = .ok (.aload_n 0, 1) := by decide +kernel
theorem dX8_pour_40 : decode cX8_pour 40 = .ok (.iload_n 1, 1) := by decide +kernel
theorem dX8_pour_41 : decode cX8_pour 41 = .ok (.aload_n 0, 1) := by decide +kernel
theorem dX8_pour_42 : decode cX8_pour 42 = .ok (.iload_n 1, 1) := by decide +kernel
theorem dX8_pour_43 : decode cX8_pour 43 = .ok (.invokevirtual 155, 3) := by decide +kernel
theorem dX8_pour_46 : decode cX8_pour 46 = .ok (.invokevirtual 149, 3) := by decide +kernel
theorem dX8_pour_49 : decode cX8_pour 49 = .ok (.ireturn, 1) := by decide +kernel
theorem dX8_dry_0 : decode cX8_dry 0 = .ok (.aload_n 0, 1) := by decide +kernel
theorem dX8_dry_1 : decode cX8_dry 1 = .ok (.iload_n 1, 1) := by decide +kernel
theorem dX8_dry_2 : decode cX8_dry 2 = .ok (.invokevirtual 169, 3) := by decide +kernel
theorem dX8_dry_5 : decode cX8_dry 5 = .ok (.ifCond .ne 5, 3) := by decide +kernel
theorem dX8_dry_8 : decode cX8_dry 8 = .ok (.iconst (-1), 1) := by decide +kernel
theorem dX8_dry_9 : decode cX8_dry 9 = .ok (.ireturn, 1) := by decide +kernel
theorem dX8_dry_10 : decode cX8_dry 10 = .ok (.aload_n 0, 1) := by decide +kernel
theorem dX8_dry_11 : decode cX8_dry 11 = .ok (.getfield 9, 3) := by decide +kernel
theorem dX8_dry_14 : decode cX8_dry 14 = .ok (.iconst 1, 1) := by decide +kernel
theorem dX8_dry_15 : decode cX8_dry 15 = .ok (.iload_n 1, 1) := by decide +kernel
theorem dX8_dry_16 : decode cX8_dry 16 = .ok (.iadd, 1) := by decide +kernel
theorem dX8_dry_17 : decode cX8_dry 17 = .ok (.iaload, 1) := by decide +kernel
theorem dX8_dry_18 : decode cX8_dry 18 = .ok (.invokestatic 172, 3) := by decide +kernel
theorem dX8_dry_21 : decode cX8_dry 21 = .ok (.istore_n 2, 1) := by decide +kernel
theorem dX8_dry_22 : decode cX8_dry 22 = .ok (.aload_n 0, 1) := by decide +kernel
theorem dX8_dry_23 : decode cX8_dry 23 = .ok (.getfield 9, 3) := by decide +kernel
theorem dX8_dry_26 : decode cX8_dry 26 = .ok (.iconst 1, 1) := by decide +kernel
theorem dX8_dry_27 : decode cX8_dry 27 = .ok (.iload_n 1, 1) := by decide +kernel
theorem dX8_dry_28 : decode cX8_dry 28 = .ok (.iadd, 1) := by decide +kernel
theorem dX8_dry_29 : decode cX8_dry 29 = .ok (.iconst (-1), 1) := by decide +kernel
theorem dX8_dry_30 : decode cX8_dry 30 = .ok (.iastore, 1) := by decide +kernel
theorem dX8_dry_31 : decode cX8_dry 31 = .ok (.iload_n 2, 1) := by decide +kernel
theorem dX8_dry_32 : decode cX8_dry 32 = .ok (.ireturn, 1) := by decide +kernel
theorem dX8_dawns_0 : decode cX8_dawns 0 = .ok (.iconst 0, 1) := by decide +kernel
theorem dX8_dawns_1 : decode cX8_dawns 1 = .ok (.istore_n 1, 1) := by decide +kernel
theorem dX8_dawns_2 : decode cX8_dawns 2 = .ok (.iload_n 1, 1) := by decide +kernel
theorem dX8_dawns_3 : decode cX8_dawns 3 = .ok (.aload_n 0, 1) := by decide +kernel
theorem dX8_dawns_4 : decode cX8_dawns 4 = .ok (.getfield 9, 3) := by decide +kernel
theorem dX8_dawns_7 : decode cX8_dawns 7 = .ok (.bipush 12, 2) := by decide +kernel
theorem dX8_dawns_9 : decode cX8_dawns 9 = .ok (.iaload, 1) := by decide +kernel
theorem dX8_dawns_10 : decode cX8_dawns 10 = .ok (.if_icmp .ge 18, 3) := by decide +kernel
theorem dX8_dawns_13 : decode cX8_dawns 13 = .ok (.aload_n 0, 1) := by decide +kernel
theorem dX8_dawns_14 : decode cX8_dawns 14 = .ok (.getfield 9, 3) := by decide +kernel
theorem dX8_dawns_17 : decode cX8_dawns 17 = .ok (.iconst 1, 1) := by decide +kernel
theorem dX8_dawns_18 : decode cX8_dawns 18 = .ok (.iload_n 1, 1) := by decide +kernel
theorem dX8_dawns_19 : decode cX8_dawns 19 = .ok (.iadd, 1) := by decide +kernel
theorem dX8_dawns_20 : decode cX8_dawns 20 = .ok (.iconst (-1), 1) := by decide +kernel
theorem dX8_dawns_21 : decode cX8_dawns 21 = .ok (.iastore, 1) := by decide +kernel
theorem dX8_dawns_22 : decode cX8_dawns 22 = .ok (.iinc 1 1, 3) := by decide +kernel
theorem dX8_dawns_25 : decode cX8_dawns 25 = .ok (.goto (-23), 3) := by decide +kernel
theorem dX8_dawns_28 : decode cX8_dawns 28 = .ok (.aload_n 0, 1) := by decide +kernel
theorem dX8_dawns_29 : decode cX8_dawns 29 = .ok (.getfield 9, 3) := by decide +kernel
theorem dX8_dawns_32 : decode cX8_dawns 32 = .ok (.iconst 0, 1) := by decide +kernel
theorem dX8_dawns_33 : decode cX8_dawns 33 = .ok (.dup2, 1) := by decide +kernel
theorem dX8_dawns_34 : decode cX8_dawns 34 = .ok (.iaload, 1) := by decide +kernel
theorem dX8_dawns_35 : decode cX8_dawns 35 = .ok (.iconst 1, 1) := by decide +kernel
theorem dX8_dawns_36 : decode cX8_dawns 36 = .ok (.iadd, 1) := by decide +kernel
theorem dX8_dawns_37 : decode cX8_dawns 37 = .ok (.iastore, 1) := by decide +kernel
theorem dX8_dawns_38 : decode cX8_dawns 38 = .ok (.return_, 1) := by decide +kernel
theorem dX8_dawn_0 : decode cX8_dawn 0 = .ok (.iload_n 1, 1) := by decide +kernel
theorem dX8_dawn_1 : decode cX8_dawn 1 = .ok (.iconst 1, 1) := by decide +kernel
theorem dX8_dawn_2 : decode cX8_dawn 2 = .ok (.bipush 99, 2) := by decide +kernel
theorem dX8_dawn_4 : decode cX8_dawn 4 = .ok (.invokestatic 53, 3) := by decide +kernel
theorem dX8_dawn_7 : decode cX8_dawn 7 = .ok (.ifCond .ne 6, 3) := by decide +kernel
theorem dX8_dawn_10 : decode cX8_dawn 10 = .ok (.bipush (-2), 2) := by decide +kernel
theorem dX8_dawn_12 : decode cX8_dawn 12 = .ok (.ireturn, 1) := by decide +kernel
theorem dX8_dawn_13 : decode cX8_dawn 13 = .ok (.aload_n 0, 1) := by decide +kernel
theorem dX8_dawn_14 : decode cX8_dawn 14 = .ok (.getfield 9, 3) := by decide +kernel
theorem dX8_dawn_17 : decode cX8_dawn 17 = .ok (.iconst 0, 1) := by decide +kernel
theorem dX8_dawn_18 : decode cX8_dawn 18 = .ok (.iaload, 1) := by decide +kernel
theorem dX8_dawn_19 : decode cX8_dawn 19 = .ok (.iload_n 1, 1) := by decide +kernel
theorem dX8_dawn_20 : decode cX8_dawn 20 = .ok (.iadd, 1) := by decide +kernel
theorem dX8_dawn_21 : decode cX8_dawn 21 = .ok (.sipush 999, 3) := by decide +kernel
theorem dX8_dawn_24 : decode cX8_dawn 24 = .ok (.if_icmp .le 6, 3) := by decide +kernel
theorem dX8_dawn_27 : decode cX8_dawn 27 = .ok (.bipush (-3), 2) := by decide +kernel
theorem dX8_dawn_29 : decode cX8_dawn 29 = .ok (.ireturn, 1) := by decide +kernel
theorem dX8_dawn_30 : decode cX8_dawn 30 = .ok (.iconst 0, 1) := by decide +kernel
theorem dX8_dawn_31 : decode cX8_dawn 31 = .ok (.istore_n 2, 1) := by decide +kernel
theorem dX8_dawn_32 : decode cX8_dawn 32 = .ok (.iload_n 2, 1) := by decide +kernel
theorem dX8_dawn_33 : decode cX8_dawn 33 = .ok (.iload_n 1, 1) := by decide +kernel
theorem dX8_dawn_34 : decode cX8_dawn 34 = .ok (.if_icmp .ge 13, 3) := by decide +kernel
theorem dX8_dawn_37 : decode cX8_dawn 37 = .ok (.aload_n 0, 1) := by decide +kernel
theorem dX8_dawn_38 : decode cX8_dawn 38 = .ok (.invokevirtual 191, 3) := by decide +kernel
theorem dX8_dawn_41 : decode cX8_dawn 41 = .ok (.iinc 2 1, 3) := by decide +kernel
theorem dX8_dawn_44 : decode cX8_dawn 44 = .ok (.goto (-12), 3) := by decide +kernel
theorem dX8_dawn_47 : decode cX8_dawn 47 = .ok (.aload_n 0, 1) := by decide +kernel
theorem dX8_dawn_48 : decode cX8_dawn 48 = .ok (.getfield 9, 3) := by decide +kernel
theorem dX8_dawn_51 : decode cX8_dawn 51 = .ok (.iconst 0, 1) := by decide +kernel
theorem dX8_dawn_52 : decode cX8_dawn 52 = .ok (.iaload, 1) := by decide +kernel
theorem dX8_dawn_53 : decode cX8_dawn 53 = .ok (.ireturn, 1) := by decide +kernel
theorem dX8_blend_0 : decode cX8_blend 0 = .ok (.aload_n 0, 1) := by decide +kernel
theorem dX8_blend_1 : decode cX8_blend 1 = .ok (.iload_n 1, 1) := by decide +kernel
theorem dX8_blend_2 : decode cX8_blend 2 = .ok (.invokevirtual 175, 3) := by decide +kernel
theorem dX8_blend_5 : decode cX8_blend 5 = .ok (.ifCond .eq 11, 3) := by decide +kernel
theorem dX8_blend_8 : decode cX8_blend 8 = .ok (.aload_n 0, 1) := by decide +kernel
theorem dX8_blend_9 : decode cX8_blend 9 = .ok (.iload_n 2, 1) := by decide +kernel
theorem dX8_blend_10 : decode cX8_blend 10 = .ok (.invokevirtual 175, 3) := by decide +kernel
theorem dX8_blend_13 : decode cX8_blend 13 = .ok (.ifCond .ne 5, 3) := by decide +kernel
theorem dX8_blend_16 : decode cX8_blend 16 = .ok (.iconst (-1), 1) := by decide +kernel
theorem dX8_blend_17 : decode cX8_blend 17 = .ok (.ireturn, 1) := by decide +kernel
theorem dX8_blend_18 : decode cX8_blend 18 = .ok (.iload_n 1, 1) := by decide +kernel
theorem dX8_blend_19 : decode cX8_blend 19 = .ok (.iload_n 2, 1) := by decide +kernel
theorem dX8_blend_20 : decode cX8_blend 20 = .ok (.if_icmp .ne 6, 3) := by decide +kernel
theorem dX8_blend_23 : decode cX8_blend 23 = .ok (.bipush (-2), 2) := by decide +kernel
theorem dX8_blend_25 : decode cX8_blend 25 = .ok (.ireturn, 1) := by decide +kernel
theorem dX8_blend_26 : decode cX8_blend 26 = .ok (.aload_n 0, 1) := by decide +kernel
theorem dX8_blend_27 : decode cX8_blend 27 = .ok (.getfield 9, 3) := by decide +kernel
theorem dX8_blend_30 : decode cX8_blend 30 = .ok (.bipush 7, 2) := by decide +kernel
theorem dX8_blend_32 : decode cX8_blend 32 = .ok (.iload_n 1, 1) := by decide +kernel
theorem dX8_blend_33 : decode cX8_blend 33 = .ok (.iadd, 1) := by decide +kernel
theorem dX8_blend_34 : decode cX8_blend 34 = .ok (.iaload, 1) := by decide +kernel
theorem dX8_blend_35 : decode cX8_blend 35 = .ok (.ifCond .eq 15, 3) := by decide +kernel
theorem dX8_blend_38 : decode cX8_blend 38 = .ok (.aload_n 0, 1) := by decide +kernel
theorem dX8_blend_39 : decode cX8_blend 39 = .ok (.getfield 9, 3) := by decide +kernel
theorem dX8_blend_42 : decode cX8_blend 42 = .ok (.bipush 7, 2) := by decide +kernel
theorem dX8_blend_44 : decode cX8_blend 44 = .ok (.iload_n 2, 1) := by decide +kernel
theorem dX8_blend_45 : decode cX8_blend 45 = .ok (.iadd, 1) := by decide +kernel
theorem dX8_blend_46 : decode cX8_blend 46 = .ok (.iaload, 1) := by decide +kernel
theorem dX8_blend_47 : decode cX8_blend 47 = .ok (.ifCond .ne 6, 3) := by decide +kernel
theorem dX8_blend_50 : decode cX8_blend 50 = .ok (.bipush (-3), 2) := by decide +kernel
theorem dX8_blend_52 : decode cX8_blend 52 = .ok (.ireturn, 1) := by decide +kernel
theorem dX8_blend_53 : decode cX8_blend 53 = .ok (.aload_n 0, 1) := by decide +kernel
theorem dX8_blend_54 : decode cX8_blend 54 = .ok (.getfield 9, 3) := by decide +kernel
theorem dX8_blend_57 : decode cX8_blend 57 = .ok (.bipush 19, 2) := by decide +kernel
theorem dX8_blend_59 : decode cX8_blend 59 = .ok (.iaload, 1) := by decide +kernel
theorem dX8_blend_60 : decode cX8_blend 60 = .ok (.iconst 5, 1) := by decide +kernel
theorem dX8_blend_61 : decode cX8_blend 61 = .ok (.if_icmp .ne 6, 3) := by decide +kernel
theorem dX8_blend_64 : decode cX8_blend 64 = .ok (.bipush (-4), 2) := by decide +kernel
theorem dX8_blend_66 : decode cX8_blend 66 = .ok (.ireturn, 1) := by decide +kernel
theorem dX8_blend_67 : decode cX8_blend 67 = .ok (.aload_n 0, 1) := by decide +kernel
theorem dX8_blend_68 : decode cX8_blend 68 = .ok (.getfield 9, 3) := by decide +kernel
theorem dX8_blend_71 : decode cX8_blend 71 = .ok (.bipush 7, 2) := by decide +kernel
theorem dX8_blend_73 : decode cX8_blend 73 = .ok (.iload_n 1, 1) := by decide +kernel
theorem dX8_blend_74 : decode cX8_blend 74 = .ok (.iadd, 1) := by decide +kernel
theorem dX8_blend_75 : decode cX8_blend 75 = .ok (.dup2, 1) := by decide +kernel
theorem dX8_blend_76 : decode cX8_blend 76 = .ok (.iaload, 1) := by decide +kernel
theorem dX8_blend_77 : decode cX8_blend 77 = .ok (.iconst 1, 1) := by decide +kernel
theorem dX8_blend_78 : decode cX8_blend 78 = .ok (.isub, 1) := by decide +kernel
theorem dX8_blend_79 : decode cX8_blend 79 = .ok (.iastore, 1) := by decide +kernel
theorem dX8_blend_80 : decode cX8_blend 80 = .ok (.aload_n 0, 1) := by decide +kernel
theorem dX8_blend_81 : decode cX8_blend 81 = .ok (.getfield 9, 3) := by decide +kernel
theorem dX8_blend_84 : decode cX8_blend 84 = .ok (.bipush 7, 2) := by decide +kernel
theorem dX8_blend_86 : decode cX8_blend 86 = .ok (.iload_n 2, 1) := by decide +kernel
theorem dX8_blend_87 : decode cX8_blend 87 = .ok (.iadd, 1) := by decide +kernel
theorem dX8_blend_88 : decode cX8_blend 88 = .ok (.dup2, 1) := by decide +kernel
theorem dX8_blend_89 : decode cX8_blend 89 = .ok (.iaload, 1) := by decide +kernel
theorem dX8_blend_90 : decode cX8_blend 90 = .ok (.iconst 1, 1) := by decide +kernel
theorem dX8_blend_91 : decode cX8_blend 91 = .ok (.isub, 1) := by decide +kernel
theorem dX8_blend_92 : decode cX8_blend 92 = .ok (.iastore, 1) := by decide +kernel
theorem dX8_blend_93 : decode cX8_blend 93 = .ok (.aload_n 0, 1) := by decide +kernel
theorem dX8_blend_94 : decode cX8_blend 94 = .ok (.aload_n 0, 1) := by decide +kernel
theorem dX8_blend_95 : decode cX8_blend 95 = .ok (.getfield 9, 3) := by decide +kernel
theorem dX8_blend_98 : decode cX8_blend 98 = .ok (.bipush 68, 2) := by decide +kernel
theorem dX8_blend_100 : decode cX8_blend 100 = .ok (.iload_n 1, 1) := by decide +kernel
theorem dX8_blend_101 : decode cX8_blend 101 = .ok (.iadd, 1) := by decide +kernel
theorem dX8_blend_102 : decode cX8_blend 102 = .ok (.iaload, 1) := by decide +kernel
theorem dX8_blend_103 : decode cX8_blend 103 = .ok (.aload_n 0, 1) := by decide +kernel
theorem dX8_blend_104 : decode cX8_blend 104 = .ok (.getfield 9, 3) := by decide +kernel
theorem dX8_blend_107 : decode cX8_blend 107 = .ok (.bipush 68, 2) := by decide +kernel
theorem dX8_blend_109 : decode cX8_blend 109 = .ok (.iload_n 2, 1) := by decide +kernel
theorem dX8_blend_110 : decode cX8_blend 110 = .ok (.iadd, 1) := by decide +kernel
theorem dX8_blend_111 : decode cX8_blend 111 = .ok (.iaload, 1) := by decide +kernel
theorem dX8_blend_112 : decode cX8_blend 112 = .ok (.iadd, 1) := by decide +kernel
theorem dX8_blend_113 : decode cX8_blend 113 = .ok (.iconst 2, 1) := by decide +kernel
theorem dX8_blend_114 : decode cX8_blend 114 = .ok (.idiv, 1) := by decide +kernel
theorem dX8_blend_115 : decode cX8_blend 115 = .ok (.iconst 2, 1) := by decide +kernel
theorem dX8_blend_116 : decode cX8_blend 116 = .ok (.invokevirtual 166, 3) := by decide +kernel
theorem dX8_blend_119 : decode cX8_blend 119 = .ok (.ireturn, 1) := by decide +kernel
theorem dX8_alive_0 : decode cX8_alive 0 = .ok (.iload_n 1, 1) := by decide +kernel
theorem dX8_alive_1 : decode cX8_alive 1 = .ok (.iconst 0, 1) := by decide +kernel
theorem dX8_alive_2 : decode cX8_alive 2 = .ok (.bipush 99, 2) := by decide +kernel
theorem dX8_alive_4 : decode cX8_alive 4 = .ok (.invokestatic 53, 3) := by decide +kernel
theorem dX8_alive_7 : decode cX8_alive 7 = .ok (.ifCond .ne 6, 3) := by decide +kernel
theorem dX8_alive_10 : decode cX8_alive 10 = .ok (.bipush (-2), 2) := by decide +kernel
theorem dX8_alive_12 : decode cX8_alive 12 = .ok (.ireturn, 1) := by decide +kernel
theorem dX8_alive_13 : decode cX8_alive 13 = .ok (.aload_n 0, 1) := by decide +kernel
theorem dX8_alive_14 : decode cX8_alive 14 = .ok (.invokevirtual 194, 3) := by decide +kernel
theorem dX8_alive_17 : decode cX8_alive 17 = .ok (.iconst 0, 1) := by decide +kernel
theorem dX8_alive_18 : decode cX8_alive 18 = .ok (.istore_n 2, 1) := by decide +kernel
theorem dX8_alive_19 : decode cX8_alive 19 = .ok (.iload_n 2, 1) := by decide +kernel
theorem dX8_alive_20 : decode cX8_alive 20 = .ok (.iload_n 1, 1) := by decide +kernel
theorem dX8_alive_21 : decode cX8_alive 21 = .ok (.if_icmp .ge 13, 3) := by decide +kernel
theorem dX8_alive_24 : decode cX8_alive 24 = .ok (.aload_n 0, 1) := by decide +kernel
theorem dX8_alive_25 : decode cX8_alive 25 = .ok (.invokevirtual 191, 3) := by decide +kernel
theorem dX8_alive_28 : decode cX8_alive 28 = .ok (.iinc 2 1, 3) := by decide +kernel
theorem dX8_alive_31 : decode cX8_alive 31 = .ok (.goto (-12), 3) := by decide +kernel
theorem dX8_alive_34 : decode cX8_alive 34 = .ok (.aload_n 0, 1) := by decide +kernel
theorem dX8_alive_35 : decode cX8_alive 35 = .ok (.invokevirtual 178, 3) := by decide +kernel
theorem dX8_alive_38 : decode cX8_alive 38 = .ok (.istore_n 2, 1) := by decide +kernel
theorem dX8_alive_39 : decode cX8_alive 39 = .ok (.aload_n 0, 1) := by decide +kernel
theorem dX8_alive_40 : decode cX8_alive 40 = .ok (.invokevirtual 197, 3) := by decide +kernel
theorem dX8_alive_43 : decode cX8_alive 43 = .ok (.iload_n 2, 1) := by decide +kernel
theorem dX8_alive_44 : decode cX8_alive 44 = .ok (.ireturn, 1) := by decide +kernel
theorem dX8_brings_0 : decode cX8_brings 0 = .ok (.aload_n 0, 1) := by decide +kernel
theorem dX8_brings_1 : decode cX8_brings 1 = .ok (.iload_n 1, 1) := by decide +kernel
theorem dX8_brings_2 : decode cX8_brings 2 = .ok (.invokevirtual 169, 3) := by decide +kernel
theorem dX8_brings_5 : decode cX8_brings 5 = .ok (.ifCond .ne 5, 3) := by decide +kernel
theorem dX8_brings_8 : decode cX8_brings 8 = .ok (.iconst (-1), 1) := by decide +kernel
theorem dX8_brings_9 : decode cX8_brings 9 = .ok (.ireturn, 1) := by decide +kernel
theorem dX8_brings_10 : decode cX8_brings 10 = .ok (.iconst 0, 1) := by decide +kernel
theorem dX8_brings_11 : decode cX8_brings 11 = .ok (.istore_n 2, 1) := by decide +kernel
theorem dX8_brings_12 : decode cX8_brings 12 = .ok (.iconst 0, 1) := by decide +kernel
theorem dX8_brings_13 : decode cX8_brings 13 = .ok (.istore_n 3, 1) := by decide +kernel
theorem dX8_brings_14 : decode cX8_brings 14 = .ok (.iload_n 3, 1) := by decide +kernel
theorem dX8_brings_15 : decode cX8_brings 15 = .ok (.aload_n 0, 1) := by decide +kernel
theorem dX8_brings_16 : decode cX8_brings 16 = .ok (.getfield 9, 3) := by decide +kernel
theorem dX8_brings_19 : decode cX8_brings 19 = .ok (.bipush 19, 2) := by decide +kernel
theorem dX8_brings_21 : decode cX8_brings 21 = .ok (.iaload, 1) := by decide +kernel
theorem dX8_brings_22 : decode cX8_brings 22 = .ok (.if_icmp .ge 45, 3) := by decide +kernel
theorem dX8_brings_25 : decode cX8_brings 25 = .ok (.iload_n 2, 1) := by decide +kernel
theorem dX8_brings_26 : decode cX8_brings 26 = .ok (.aload_n 0, 1) := by decide +kernel
theorem dX8_brings_27 : decode cX8_brings 27 = .ok (.getfield 9, 3) := by decide +kernel
theorem dX8_brings_30 : decode cX8_brings 30 = .ok (.bipush 7, 2) := by decide +kernel
theorem dX8_brings_32 : decode cX8_brings 32 = .ok (.iload_n 3, 1) := by decide +kernel
theorem dX8_brings_33 : decode cX8_brings 33 = .ok (.iadd, 1) := by decide +kernel
theorem dX8_brings_34 : decode cX8_brings 34 = .ok (.iaload, 1) := by decide +kernel
theorem dX8_brings_35 : decode cX8_brings 35 = .ok (.ifCond .le 23, 3) := by decide +kernel
theorem dX8_brings_38 : decode cX8_brings 38 = .ok (.aload_n 0, 1) := by decide +kernel
theorem dX8_brings_39 : decode cX8_brings 39 = .ok (.iload_n 1, 1) := by decide +kernel
theorem dX8_brings_40 : decode cX8_brings 40 = .ok (.aload_n 0, 1) := by decide +kernel
theorem dX8_brings_41 : decode cX8_brings 41 = .ok (.iload_n 1, 1) := by decide +kernel
theorem dX8_brings_42 : decode cX8_brings 42 = .ok (.iload_n 3, 1) := by decide +kernel
theorem dX8_brings_43 : decode cX8_brings 43 = .ok (.invokevirtual 146, 3) := by decide +kernel
theorem dX8_brings_46 : decode cX8_brings 46 = .ok (.invokevirtual 139, 3) := by decide +kernel
theorem dX8_brings_49 : decode cX8_brings 49 = .ok (.ifCond .eq 9, 3) := by decide +kernel
theorem dX8_brings_52 : decode cX8_brings 52 = .ok (.iconst 1, 1) := by decide +kernel
theorem dX8_brings_53 : decode cX8_brings 53 = .ok (.iload_n 3, 1) := by decide +kernel
theorem dX8_brings_54 : decode cX8_brings 54 = .ok (.ishl, 1) := by decide +kernel
theorem dX8_brings_55 : decode cX8_brings 55 = .ok (.goto 4, 3) := by decide +kernel
theorem dX8_brings_58 : decode cX8_brings 58 = .ok (.iconst 0, 1) := by decide +kernel
theorem dX8_brings_59 : decode cX8_brings 59 = .ok (.ior, 1) := by decide +kernel
theorem dX8_brings_60 : decode cX8_brings 60 = .ok (.istore_n 2, 1) := by decide +kernel
theorem dX8_brings_61 : decode cX8_brings 61 = .ok (.iinc 3 1, 3) := by decide +kernel
theorem dX8_brings_64 : decode cX8_brings 64 = .ok (.goto (-50), 3) := by decide +kernel
theorem dX8_brings_67 : decode cX8_brings 67 = .ok (.iload_n 2, 1) := by decide +kernel
theorem dX8_brings_68 : decode cX8_brings 68 = .ok (.ireturn, 1) := by decide +kernel
theorem dX8_nearest_0 : decode cX8_nearest 0 = .ok (.aload_n 0, 1) := by decide +kernel
theorem dX8_nearest_1 : decode cX8_nearest 1 = .ok (.iload_n 1, 1) := by decide +kernel
theorem dX8_nearest_2 : decode cX8_nearest 2 = .ok (.invokevirtual 169, 3) := by decide +kernel
theorem dX8_nearest_5 : decode cX8_nearest 5 = .ok (.ifCond .ne 5, 3) := by decide +kernel
theorem dX8_nearest_8 : decode cX8_nearest 8 = .ok (.iconst (-1), 1) := by decide +kernel
theorem dX8_nearest_9 : decode cX8_nearest 9 = .ok (.ireturn, 1) := by decide +kernel
theorem dX8_nearest_10 : decode cX8_nearest 10 = .ok (.iload_n 2, 1) := by decide +kernel
theorem dX8_nearest_11 : decode cX8_nearest 11 = .ok (.iconst 0, 1) := by decide +kernel
theorem dX8_nearest_12 : decode cX8_nearest 12 = .ok (.bipush 120, 2) := by decide +kernel
theorem dX8_nearest_14 : decode cX8_nearest 14 = .ok (.invokestatic 53, 3) := by decide +kernel
theorem dX8_nearest_17 : decode cX8_nearest 17 = .ok (.ifCond .ne 6, 3) := by decide +kernel
theorem dX8_nearest_20 : decode cX8_nearest 20 = .ok (.bipush (-2), 2) := by decide +kernel
theorem dX8_nearest_22 : decode cX8_nearest 22 = .ok (.ireturn, 1) := by decide +kernel
theorem dX8_nearest_23 : decode cX8_nearest 23 = .ok (.bipush (-5), 2) := by decide +kernel
theorem dX8_nearest_25 : decode cX8_nearest 25 = .ok (.istore_n 3, 1) := by decide +kernel
theorem dX8_nearest_26 : decode cX8_nearest 26 = .ok (.ldc 200, 2) := by decide +kernel
theorem dX8_nearest_28 : decode cX8_nearest 28 = .ok (.istore 4, 2) := by decide +kernel
theorem dX8_nearest_30 : decode cX8_nearest 30 = .ok (.iconst 0, 1) := by decide +kernel
theorem dX8_nearest_31 : decode cX8_nearest 31 = .ok (.istore 5, 2) := by decide +kernel
theorem dX8_nearest_33 : decode cX8_nearest 33 = .ok (.iload 5, 2) := by decide +kernel
theorem dX8_nearest_35 : decode cX8_nearest 35 = .ok (.aload_n 0, 1) := by decide +kernel
theorem dX8_nearest_36 : decode cX8_nearest 36 = .ok (.getfield 9, 3) := by decide +kernel
theorem dX8_nearest_39 : decode cX8_nearest 39 = .ok (.bipush 19, 2) := by decide +kernel
theorem dX8_nearest_41 : decode cX8_nearest 41 = .ok (.iaload, 1) := by decide +kernel
theorem dX8_nearest_42 : decode cX8_nearest 42 = .ok (.if_icmp .ge 70, 3) := by decide +kernel
theorem dX8_nearest_45 : decode cX8_nearest 45 = .ok (.aload_n 0, 1) := by decide +kernel
theorem dX8_nearest_46 : decode cX8_nearest 46 = .ok (.getfield 9, 3) := by decide +kernel
theorem dX8_nearest_49 : decode cX8_nearest 49 = .ok (.bipush 7, 2) := by decide +kernel
theorem dX8_nearest_51 : decode cX8_nearest 51 = .ok (.iload 5, 2) := by decide +kernel
theorem dX8_nearest_53 : decode cX8_nearest 53 = .ok (.iadd, 1) := by decide +kernel
theorem dX8_nearest_54 : decode cX8_nearest 54 = .ok (.iaload, 1) := by decide +kernel
theorem dX8_nearest_55 : decode cX8_nearest 55 = .ok (.ifCond .le 17, 3) := by decide +kernel
theorem dX8_nearest_58 : decode cX8_nearest 58 = .ok (.aload_n 0, 1) := by decide +kernel
theorem dX8_nearest_59 : decode cX8_nearest 59 = .ok (.iload_n 1, 1) := by decide +kernel
theorem dX8_nearest_60 : decode cX8_nearest 60 = .ok (.iload 5, 2) := by decide +kernel
theorem dX8_nearest_62 : decode cX8_nearest 62 = .ok (.invokevirtual 146, 3) := by decide +kernel
theorem dX8_nearest_65 : decode cX8_nearest 65 = .ok (.iload_n 2, 1) := by decide +kernel
theorem dX8_nearest_66 : decode cX8_nearest 66 = .ok (.invokestatic 201, 3) := by decide +kernel
theorem dX8_nearest_69 : decode cX8_nearest 69 = .ok (.goto 5, 3) := by decide +kernel
theorem dX8_nearest_72 : decode cX8_nearest 72 = .ok (.ldc 200, 2) := by decide +kernel
theorem dX8_nearest_74 : decode cX8_nearest 74 = .ok (.istore 6, 2) := by decide +kernel
theorem dX8_nearest_76 : decode cX8_nearest 76 = .ok (.iload 6, 2) := by decide +kernel
theorem dX8_nearest_78 : decode cX8_nearest 78 = .ok (.iload 4, 2) := by decide +kernel
theorem dX8_nearest_80 : decode cX8_nearest 80 = .ok (.if_icmp .ge 8, 3) := by decide +kernel
theorem dX8_nearest_83 : decode cX8_nearest 83 = .ok (.iload 5, 2) := by decide +kernel
theorem dX8_nearest_85 : decode cX8_nearest 85 = .ok (.goto 4, 3) := by decide +kernel
theorem dX8_nearest_88 : decode cX8_nearest 88 = .ok (.iload_n 3, 1) := by decide +kernel
theorem dX8_nearest_89 : decode cX8_nearest 89 = .ok (.istore_n 3, 1) := by decide +kernel
theorem dX8_nearest_90 : decode cX8_nearest 90 = .ok (.iload 6, 2) := by decide +kernel
theorem dX8_nearest_92 : decode cX8_nearest 92 = .ok (.iload 4, 2) := by decide +kernel
theorem dX8_nearest_94 : decode cX8_nearest 94 = .ok (.if_icmp .ge 8, 3) := by decide +kernel
theorem dX8_nearest_97 : decode cX8_nearest 97 = .ok (.iload 6, 2) := by decide +kernel
theorem dX8_nearest_99 : decode cX8_nearest 99 = .ok (.goto 5, 3) := by decide +kernel
theorem dX8_nearest_102 : decode cX8_nearest 102 = .ok (.iload 4, 2) := by decide +kernel
theorem dX8_nearest_104 : decode cX8_nearest 104 = .ok (.istore 4, 2) := by decide +kernel
theorem dX8_nearest_106 : decode cX8_nearest 106 = .ok (.iinc 5 1, 3) := by decide +kernel
theorem dX8_nearest_109 : decode cX8_nearest 109 = .ok (.goto (-76), 3) := by decide +kernel
theorem dX8_nearest_112 : decode cX8_nearest 112 = .ok (.iload_n 3, 1) := by decide +kernel
theorem dX8_nearest_113 : decode cX8_nearest 113 = .ok (.ireturn, 1) := by decide +kernel
theorem dX8_two_0 : decode cX8_two 0 = .ok (.bipush (-5), 2) := by decide +kernel
theorem dX8_two_2 : decode cX8_two 2 = .ok (.istore_n 1, 1) := by decide +kernel
theorem dX8_two_3 : decode cX8_two 3 = .ok (.ldc 200, 2) := by decide +kernel
theorem dX8_two_5 : decode cX8_two 5 = .ok (.istore_n 2, 1) := by decide +kernel
theorem dX8_two_6 : decode cX8_two 6 = .ok (.iconst 0, 1) := by decide +kernel
theorem dX8_two_7 : decode cX8_two 7 = .ok (.istore_n 3, 1) := by decide +kernel
theorem dX8_two_8 : decode cX8_two 8 = .ok (.iload_n 3, 1) := by decide +kernel
theorem dX8_two_9 : decode cX8_two 9 = .ok (.aload_n 0, 1) := by decide +kernel
theorem dX8_two_10 : decode cX8_two 10 = .ok (.getfield 9, 3) := by decide +kernel
theorem dX8_two_13 : decode cX8_two 13 = .ok (.bipush 12, 2) := by decide +kernel
theorem dX8_two_15 : decode cX8_two 15 = .ok (.iaload, 1) := by decide +kernel
theorem dX8_two_16 : decode cX8_two 16 = .ok (.if_icmp .ge 101, 3) := by decide +kernel
theorem dX8_two_19 : decode cX8_two 19 = .ok (.iload_n 3, 1) := by decide +kernel
theorem dX8_two_20 : decode cX8_two 20 = .ok (.iconst 1, 1) := by decide +kernel
theorem dX8_two_21 : decode cX8_two 21 = .ok (.iadd, 1) := by decide +kernel
theorem dX8_two_22 : decode cX8_two 22 = .ok (.istore 4, 2) := by decide +kernel
theorem dX8_two_24 : decode cX8_two 24 = .ok (.iload 4, 2) := by decide +kernel
theorem dX8_two_26 : decode cX8_two 26 = .ok (.aload_n 0, 1) := by decide +kernel
theorem dX8_two_27 : decode cX8_two 27 = .ok (.getfield 9, 3) := by decide +kernel
theorem dX8_two_30 : decode cX8_two 30 = .ok (.bipush 12, 2) := by decide +kernel
theorem dX8_two_32 : decode cX8_two 32 = .ok (.iaload, 1) := by decide +kernel
theorem dX8_two_33 : decode cX8_two 33 = .ok (.if_icmp .ge 78, 3) := by decide +kernel
theorem dX8_two_36 : decode cX8_two 36 = .ok (.aload_n 0, 1) := by decide +kernel
theorem dX8_two_37 : decode cX8_two 37 = .ok (.iload_n 3, 1) := by decide +kernel
theorem dX8_two_38 : decode cX8_two 38 = .ok (.invokevirtual 159, 3) := by decide +kernel
theorem dX8_two_41 : decode cX8_two 41 = .ok (.ifCond .eq 29, 3) := by decide +kernel
theorem dX8_two_44 : decode cX8_two 44 = .ok (.aload_n 0, 1) := by decide +kernel
theorem dX8_two_45 : decode cX8_two 45 = .ok (.iload 4, 2) := by decide +kernel
theorem dX8_two_47 : decode cX8_two 47 = .ok (.invokevirtual 159, 3) := by decide +kernel
theorem dX8_two_50 : decode cX8_two 50 = .ok (.ifCond .eq 20, 3) := by decide +kernel
theorem dX8_two_53 : decode cX8_two 53 = .ok (.aload_n 0, 1) := by decide +kernel
theorem dX8_two_54 : decode cX8_two 54 = .ok (.iload_n 3, 1) := by decide +kernel
theorem dX8_two_55 : decode cX8_two 55 = .ok (.invokevirtual 155, 3) := by decide +kernel
theorem dX8_two_58 : decode cX8_two 58 = .ok (.aload_n 0, 1) := by decide +kernel
theorem dX8_two_59 : decode cX8_two 59 = .ok (.iload 4, 2) := by decide +kernel
theorem dX8_two_61 : decode cX8_two 61 = .ok (.invokevirtual 155, 3) := by decide +kernel
theorem dX8_two_64 : decode cX8_two 64 = .ok (.invokestatic 201, 3) := by decide +kernel
theorem dX8_two_67 : decode cX8_two 67 = .ok (.goto 5, 3) := by decide +kernel
theorem dX8_two_70 : decode cX8_two 70 = .ok (.ldc 200, 2) := by decide +kernel
theorem dX8_two_72 : decode cX8_two 72 = .ok (.istore 5, 2) := by decide +kernel
theorem dX8_two_74 : decode cX8_two 74 = .ok (.iload 5, 2) := by decide +kernel
theorem dX8_two_76 : decode cX8_two 76 = .ok (.iload_n 2, 1) := by decide +kernel
theorem dX8_two_77 : decode cX8_two 77 = .ok (.if_icmp .ge 13, 3) := by decide +kernel
theorem dX8_two_80 : decode cX8_two 80 = .ok (.bipush 10, 2) := by decide +kernel
theorem dX8_two_82 : decode cX8_two 82 = .ok (.iload_n 3, 1) := by decide +kernel
theorem dX8_two_83 : decode cX8_two 83 = .ok (.imul, 1) := by decide +kernel
theorem dX8_two_84 : decode cX8_two 84 = .ok (.iload 4, 2) := by decide +kernel
theorem dX8_two_86 : decode cX8_two 86 = .ok (.iadd, 1) := by decide +kernel
theorem dX8_two_87 : decode cX8_two 87 = .ok (.goto 4, 3) := by decide +kernel
theorem dX8_two_90 : decode cX8_two 90 = .ok (.iload_n 1, 1) := by decide +kernel
theorem dX8_two_91 : decode cX8_two 91 = .ok (.istore_n 1, 1) := by decide +kernel
theorem dX8_two_92 : decode cX8_two 92 = .ok (.iload 5, 2) := by decide +kernel
theorem dX8_two_94 : decode cX8_two 94 = .ok (.iload_n 2, 1) := by decide +kernel
theorem dX8_two_95 : decode cX8_two 95 = .ok (.if_icmp .ge 8, 3) := by decide +kernel
theorem dX8_two_98 : decode cX8_two 98 = .ok (.iload 5, 2) := by decide +kernel
theorem dX8_two_100 : decode cX8_two 100 = .ok (.goto 4, 3) := by decide +kernel
theorem dX8_two_103 : decode cX8_two 103 = .ok (.iload_n 2, 1) := by decide +kernel
theorem dX8_two_104 : decode cX8_two 104 = .ok (.istore_n 2, 1) := by decide +kernel
theorem dX8_two_105 : decode cX8_two 105 = .ok (.iinc 4 1, 3) := by decide +kernel
theorem dX8_two_108 : decode cX8_two 108 = .ok (.goto (-84), 3) := by decide +kernel
theorem dX8_two_111 : decode cX8_two 111 = .ok (.iinc 3 1, 3) := by decide +kernel
theorem dX8_two_114 : decode cX8_two 114 = .ok (.goto (-106), 3) := by decide +kernel
theorem dX8_two_117 : decode cX8_two 117 = .ok (.iload_n 1, 1) := by decide +kernel
theorem dX8_two_118 : decode cX8_two 118 = .ok (.ireturn, 1) := by decide +kernel
theorem dX8_meet_0 : decode cX8_meet 0 = .ok (.aload_n 0, 1) := by decide +kernel
theorem dX8_meet_1 : decode cX8_meet 1 = .ok (.iload_n 1, 1) := by decide +kernel
theorem dX8_meet_2 : decode cX8_meet 2 = .ok (.invokevirtual 169, 3) := by decide +kernel
theorem dX8_meet_5 : decode cX8_meet 5 = .ok (.ifCond .eq 20, 3) := by decide +kernel
theorem dX8_meet_8 : decode cX8_meet 8 = .ok (.aload_n 0, 1) := by decide +kernel
theorem dX8_meet_9 : decode cX8_meet 9 = .ok (.iload_n 2, 1) := by decide +kernel
theorem dX8_meet_10 : decode cX8_meet 10 = .ok (.invokevirtual 169, 3) := by decide +kernel
theorem dX8_meet_13 : decode cX8_meet 13 = .ok (.ifCond .eq 12, 3) := by decide +kernel
theorem dX8_meet_16 : decode cX8_meet 16 = .ok (.iload_n 3, 1) := by decide +kernel
theorem dX8_meet_17 : decode cX8_meet 17 = .ok (.iconst 0, 1) := by decide +kernel
theorem dX8_meet_18 : decode cX8_meet 18 = .ok (.iconst 1, 1) := by decide +kernel
theorem dX8_meet_19 : decode cX8_meet 19 = .ok (.invokestatic 53, 3) := by decide +kernel
theorem dX8_meet_22 : decode cX8_meet 22 = .ok (.ifCond .ne 5, 3) := by decide +kernel
theorem dX8_meet_25 : decode cX8_meet 25 = .ok (.iconst (-1), 1) := by decide +kernel
theorem dX8_meet_26 : decode cX8_meet 26 = .ok (.ireturn, 1) := by decide +kernel
theorem dX8_meet_27 : decode cX8_meet 27 = .ok (.iload_n 1, 1) := by decide +kernel
theorem dX8_meet_28 : decode cX8_meet 28 = .ok (.iload_n 2, 1) := by decide +kernel
theorem dX8_meet_29 : decode cX8_meet 29 = .ok (.if_icmp .ne 6, 3) := by decide +kernel
theorem dX8_meet_32 : decode cX8_meet 32 = .ok (.bipush (-2), 2) := by decide +kernel
theorem dX8_meet_34 : decode cX8_meet 34 = .ok (.ireturn, 1) := by decide +kernel
theorem dX8_meet_35 : decode cX8_meet 35 = .ok (.iconst 0, 1) := by decide +kernel
theorem dX8_meet_36 : decode cX8_meet 36 = .ok (.istore 4, 2) := by decide +kernel
theorem dX8_meet_38 : decode cX8_meet 38 = .ok (.bipush (-5), 2) := by decide +kernel
theorem dX8_meet_40 : decode cX8_meet 40 = .ok (.istore 5, 2) := by decide +kernel
theorem dX8_meet_42 : decode cX8_meet 42 = .ok (.sipush 199, 3) := by decide +kernel
theorem dX8_meet_45 : decode cX8_meet 45 = .ok (.istore 6, 2) := by decide +kernel
theorem dX8_meet_47 : decode cX8_meet 47 = .ok (.iload 6, 2) := by decide +kernel
theorem dX8_meet_49 : decode cX8_meet 49 = .ok (.ifCond .lt 75, 3) := by decide +kernel
theorem dX8_meet_52 : decode cX8_meet 52 = .ok (.aload_n 0, 1) := by decide +kernel
theorem dX8_meet_53 : decode cX8_meet 53 = .ok (.iload_n 1, 1) := by decide +kernel
theorem dX8_meet_54 : decode cX8_meet 54 = .ok (.aload_n 0, 1) := by decide +kernel
theorem dX8_meet_55 : decode cX8_meet 55 = .ok (.iload_n 1, 1) := by decide +kernel
theorem dX8_meet_56 : decode cX8_meet 56 = .ok (.iload 6, 2) := by decide +kernel
theorem dX8_meet_58 : decode cX8_meet 58 = .ok (.invokevirtual 135, 3) := by decide +kernel
theorem dX8_meet_61 : decode cX8_meet 61 = .ok (.invokevirtual 139, 3) := by decide +kernel
theorem dX8_meet_64 : decode cX8_meet 64 = .ok (.ifCond .eq 22, 3) := by decide +kernel
theorem dX8_meet_67 : decode cX8_meet 67 = .ok (.aload_n 0, 1) := by decide +kernel
theorem dX8_meet_68 : decode cX8_meet 68 = .ok (.iload_n 2, 1) := by decide +kernel
theorem dX8_meet_69 : decode cX8_meet 69 = .ok (.aload_n 0, 1) := by decide +kernel
theorem dX8_meet_70 : decode cX8_meet 70 = .ok (.iload_n 2, 1) := by decide +kernel
theorem dX8_meet_71 : decode cX8_meet 71 = .ok (.iload 6, 2) := by decide +kernel
theorem dX8_meet_73 : decode cX8_meet 73 = .ok (.invokevirtual 135, 3) := by decide +kernel
theorem dX8_meet_76 : decode cX8_meet 76 = .ok (.invokevirtual 139, 3) := by decide +kernel
theorem dX8_meet_79 : decode cX8_meet 79 = .ok (.ifCond .eq 7, 3) := by decide +kernel
theorem dX8_meet_82 : decode cX8_meet 82 = .ok (.iconst 1, 1) := by decide +kernel
theorem dX8_meet_83 : decode cX8_meet 83 = .ok (.goto 4, 3) := by decide +kernel
theorem dX8_meet_86 : decode cX8_meet 86 = .ok (.iconst 0, 1) := by decide +kernel
theorem dX8_meet_87 : decode cX8_meet 87 = .ok (.istore 7, 2) := by decide +kernel
theorem dX8_meet_89 : decode cX8_meet 89 = .ok (.iload 4, 2) := by decide +kernel
theorem dX8_meet_91 : decode cX8_meet 91 = .ok (.iload 7, 2) := by decide +kernel
theorem dX8_meet_93 : decode cX8_meet 93 = .ok (.ifCond .eq 7, 3) := by decide +kernel
theorem dX8_meet_96 : decode cX8_meet 96 = .ok (.iconst 1, 1) := by decide +kernel
theorem dX8_meet_97 : decode cX8_meet 97 = .ok (.goto 4, 3) := by decide +kernel
theorem dX8_meet_100 : decode cX8_meet 100 = .ok (.iconst 0, 1) := by decide +kernel
theorem dX8_meet_101 : decode cX8_meet 101 = .ok (.iadd, 1) := by decide +kernel
theorem dX8_meet_102 : decode cX8_meet 102 = .ok (.istore 4, 2) := by decide +kernel
theorem dX8_meet_104 : decode cX8_meet 104 = .ok (.iload 7, 2) := by decide +kernel
theorem dX8_meet_106 : decode cX8_meet 106 = .ok (.ifCond .eq 8, 3) := by decide +kernel
theorem dX8_meet_109 : decode cX8_meet 109 = .ok (.iload 6, 2) := by decide +kernel
theorem dX8_meet_111 : decode cX8_meet 111 = .ok (.goto 5, 3) := by decide +kernel
theorem dX8_meet_114 : decode cX8_meet 114 = .ok (.iload 5, 2) := by decide +kernel
theorem dX8_meet_116 : decode cX8_meet 116 = .ok (.istore 5, 2) := by decide +kernel
theorem dX8_meet_118 : decode cX8_meet 118 = .ok (.iinc 6 (-1), 3) := by decide +kernel
theorem dX8_meet_121 : decode cX8_meet 121 = .ok (.goto (-74), 3) := by decide +kernel
theorem dX8_meet_124 : decode cX8_meet 124 = .ok (.iload_n 3, 1) := by decide +kernel
theorem dX8_meet_125 : decode cX8_meet 125 = .ok (.ifCond .ne 8, 3) := by decide +kernel
theorem dX8_meet_128 : decode cX8_meet 128 = .ok (.iload 4, 2) := by decide +kernel
theorem dX8_meet_130 : decode cX8_meet 130 = .ok (.goto 5, 3) := by decide +kernel
theorem dX8_meet_133 : decode cX8_meet 133 = .ok (.iload 5, 2) := by decide +kernel
theorem dX8_meet_135 : decode cX8_meet 135 = .ok (.ireturn, 1) := by decide +kernel
theorem dX8_looksForSeats_0 : decode cX8_looksForSeats 0 = .ok (.iconst 0, 1) := by decide +kernel
theorem dX8_looksForSeats_1 : decode cX8_looksForSeats 1 = .ok (.istore_n 1, 1) := by decide +kernel
theorem dX8_looksForSeats_2 : decode cX8_looksForSeats 2 = .ok (.iload_n 1, 1) := by decide +kernel
theorem dX8_looksForSeats_3 : decode cX8_looksForSeats 3 = .ok (.aload_n 0, 1) := by decide +kernel
theorem dX8_looksForSeats_4 : decode cX8_looksForSeats 4 = .ok (.getfield 9, 3) := by decide +kernel
theorem dX8_looksForSeats_7 : decode cX8_looksForSeats 7 = .ok (.bipush 12, 2) := by decide +kernel
theorem dX8_looksForSeats_9 : decode cX8_looksForSeats 9 = .ok (.iaload, 1) := by decide +kernel
theorem dX8_looksForSeats_10 : decode cX8_looksForSeats 10 = .ok (.if_icmp .ge 93, 3) := by decide +kernel
theorem dX8_looksForSeats_13 : decode cX8_looksForSeats 13 = .ok (.iconst 0, 1) := by decide +kernel
theorem dX8_looksForSeats_14 : decode cX8_looksForSeats 14 = .ok (.istore_n 2, 1) := by decide +kernel
theorem dX8_looksForSeats_15 : decode cX8_looksForSeats 15 = .ok (.iload_n 2, 1) := by decide +kernel
theorem dX8_looksForSeats_16 : decode cX8_looksForSeats 16 = .ok (.aload_n 0, 1) := by decide +kernel
theorem dX8_looksForSeats_17 : decode cX8_looksForSeats 17 = .ok (.getfield 9, 3) := by decide +kernel
theorem dX8_looksForSeats_20 : decode cX8_looksForSeats 20 = .ok (.bipush 19, 2) := by decide +kernel
theorem dX8_looksForSeats_22 : decode cX8_looksForSeats 22 = .ok (.iaload, 1) := by decide +kernel
theorem dX8_looksForSeats_23 : decode cX8_looksForSeats 23 = .ok (.if_icmp .gt 74, 3) := by decide +kernel
theorem dX8_looksForSeats_26 : decode cX8_looksForSeats 26 = .ok (.aload_n 0, 1) := by decide +kernel
theorem dX8_looksForSeats_27 : decode cX8_looksForSeats 27 = .ok (.getfield 28, 3) := by decide +kernel
theorem dX8_looksForSeats_30 : decode cX8_looksForSeats 30 = .ok (.bipush 6, 2) := by decide +kernel
theorem dX8_looksForSeats_32 : decode cX8_looksForSeats 32 = .ok (.iload_n 1, 1) := by decide +kernel
theorem dX8_looksForSeats_33 : decode cX8_looksForSeats 33 = .ok (.imul, 1) := by decide +kernel
theorem dX8_looksForSeats_34 : decode cX8_looksForSeats 34 = .ok (.iload_n 2, 1) := by decide +kernel
theorem dX8_looksForSeats_35 : decode cX8_looksForSeats 35 = .ok (.iadd, 1) := by decide +kernel
theorem dX8_looksForSeats_36 : decode cX8_looksForSeats 36 = .ok (.aload_n 0, 1) := by decide +kernel
theorem dX8_looksForSeats_37 : decode cX8_looksForSeats 37 = .ok (.iload_n 1, 1) := by decide +kernel
theorem dX8_looksForSeats_38 : decode cX8_looksForSeats 38 = .ok (.iload_n 2, 1) := by decide +kernel
theorem dX8_looksForSeats_39 : decode cX8_looksForSeats 39 = .ok (.iconst 1, 1) := by decide +kernel
theorem dX8_looksForSeats_40 : decode cX8_looksForSeats 40 = .ok (.isub, 1) := by decide +kernel
theorem dX8_looksForSeats_41 : decode cX8_looksForSeats 41 = .ok (.invokevirtual 146, 3) := by decide +kernel
theorem dX8_looksForSeats_44 : decode cX8_looksForSeats 44 = .ok (.iastore, 1) := by decide +kernel
theorem dX8_looksForSeats_45 : decode cX8_looksForSeats 45 = .ok (.aload_n 0, 1) := by decide +kernel
theorem dX8_looksForSeats_46 : decode cX8_looksForSeats 46 = .ok (.getfield 43, 3) := by decide +kernel
theorem dX8_looksForSeats_49 : decode cX8_looksForSeats 49 = .ok (.bipush 6, 2) := by decide +kernel
theorem dX8_looksForSeats_51 : decode cX8_looksForSeats 51 = .ok (.iload_n 1, 1) := by decide +kernel
theorem dX8_looksForSeats_52 : decode cX8_looksForSeats 52 = .ok (.imul, 1) := by decide +kernel
theorem dX8_looksForSeats_53 : decode cX8_looksForSeats 53 = .ok (.iload_n 2, 1) := by decide +kernel
theorem dX8_looksForSeats_54 : decode cX8_looksForSeats 54 = .ok (.iadd, 1) := by decide +kernel
theorem dX8_looksForSeats_55 : decode cX8_looksForSeats 55 = .ok (.aload_n 0, 1) := by decide +kernel
theorem dX8_looksForSeats_56 : decode cX8_looksForSeats 56 = .ok (.iload_n 1, 1) := by decide +kernel
theorem dX8_looksForSeats_57 : decode cX8_looksForSeats 57 = .ok (.aload_n 0, 1) := by decide +kernel
theorem dX8_looksForSeats_58 : decode cX8_looksForSeats 58 = .ok (.getfield 28, 3) := by decide +kernel
theorem dX8_looksForSeats_61 : decode cX8_looksForSeats 61 = .ok (.bipush 6, 2) := by decide +kernel
theorem dX8_looksForSeats_63 : decode cX8_looksForSeats 63 = .ok (.iload_n 1, 1) := by decide +kernel
theorem dX8_looksForSeats_64 : decode cX8_looksForSeats 64 = .ok (.imul, 1) := by decide +kernel
theorem dX8_looksForSeats_65 : decode cX8_looksForSeats 65 = .ok (.iload_n 2, 1) := by decide +kernel
theorem dX8_looksForSeats_66 : decode cX8_looksForSeats 66 = .ok (.iadd, 1) := by decide +kernel
theorem dX8_looksForSeats_67 : decode cX8_looksForSeats 67 = .ok (.iaload, 1) := by decide +kernel
theorem dX8_looksForSeats_68 : decode cX8_looksForSeats 68 = .ok (.invokevirtual 139, 3) := by decide +kernel
theorem dX8_looksForSeats_71 : decode cX8_looksForSeats 71 = .ok (.bastore, 1) := by decide +kernel
theorem dX8_looksForSeats_72 : decode cX8_looksForSeats 72 = .ok (.aload_n 0, 1) := by decide +kernel
theorem dX8_looksForSeats_73 : decode cX8_looksForSeats 73 = .ok (.getfield 31, 3) := by decide +kernel
theorem dX8_looksForSeats_76 : decode cX8_looksForSeats 76 = .ok (.bipush 6, 2) := by decide +kernel
theorem dX8_looksForSeats_78 : decode cX8_looksForSeats 78 = .ok (.iload_n 1, 1) := by decide +kernel
theorem dX8_looksForSeats_79 : decode cX8_looksForSeats 79 = .ok (.imul, 1) := by decide +kernel
theorem dX8_looksForSeats_80 : decode cX8_looksForSeats 80 = .ok (.iload_n 2, 1) := by decide +kernel
theorem dX8_looksForSeats_81 : decode cX8_looksForSeats 81 = .ok (.iadd, 1) := by decide +kernel
theorem dX8_looksForSeats_82 : decode cX8_looksForSeats 82 = .ok (.aload_n 0, 1) := by decide +kernel
theorem dX8_looksForSeats_83 : decode cX8_looksForSeats 83 = .ok (.iload_n 1, 1) := by decide +kernel
theorem dX8_looksForSeats_84 : decode cX8_looksForSeats 84 = .ok (.iload_n 2, 1) := by decide +kernel
theorem dX8_looksForSeats_85 : decode cX8_looksForSeats 85 = .ok (.iconst 1, 1) := by decide +kernel
theorem dX8_looksForSeats_86 : decode cX8_looksForSeats 86 = .ok (.isub, 1) := by decide +kernel
theorem dX8_looksForSeats_87 : decode cX8_looksForSeats 87 = .ok (.invokevirtual 163, 3) := by decide +kernel
theorem dX8_looksForSeats_90 : decode cX8_looksForSeats 90 = .ok (.iastore, 1) := by decide +kernel
theorem dX8_looksForSeats_91 : decode cX8_looksForSeats 91 = .ok (.iinc 2 1, 3) := by decide +kernel
theorem dX8_looksForSeats_94 : decode cX8_looksForSeats 94 = .ok (.goto (-79), 3) := by decide +kernel
theorem dX8_looksForSeats_97 : decode cX8_looksForSeats 97 = .ok (.iinc 1 1, 3) := by decide +kernel
theorem dX8_looksForSeats_100 : decode cX8_looksForSeats 100 = .ok (.goto (-98), 3) := by decide +kernel
theorem dX8_looksForSeats_103 : decode cX8_looksForSeats 103 = .ok (.iconst 0, 1) := by decide +kernel
theorem dX8_looksForSeats_104 : decode cX8_looksForSeats 104 = .ok (.istore_n 1, 1) := by decide +kernel
theorem dX8_looksForSeats_105 : decode cX8_looksForSeats 105 = .ok (.iload_n 1, 1) := by decide +kernel
theorem dX8_looksForSeats_106 : decode cX8_looksForSeats 106 = .ok (.aload_n 0, 1) := by decide +kernel
theorem dX8_looksForSeats_107 : decode cX8_looksForSeats 107 = .ok (.getfield 9, 3) := by decide +kernel
theorem dX8_looksForSeats_110 : decode cX8_looksForSeats 110 = .ok (.bipush 19, 2) := by decide +kernel
theorem dX8_looksForSeats_112 : decode cX8_looksForSeats 112 = .ok (.iaload, 1) := by decide +kernel
theorem dX8_looksForSeats_113 : decode cX8_looksForSeats 113 = .ok (.if_icmp .ge 24, 3) := by decide +kernel
theorem dX8_looksForSeats_116 : decode cX8_looksForSeats 116 = .ok (.aload_n 0, 1) := by decide +kernel
theorem dX8_looksForSeats_117 : decode cX8_looksForSeats 117 = .ok (.getfield 40, 3) := by decide +kernel
theorem dX8_looksForSeats_120 : decode cX8_looksForSeats 120 = .ok (.iload_n 1, 1) := by decide +kernel
theorem dX8_looksForSeats_121 : decode cX8_looksForSeats 121 = .ok (.aload_n 0, 1) := by decide +kernel
theorem dX8_looksForSeats_122 : decode cX8_looksForSeats 122 = .ok (.getfield 9, 3) := by decide +kernel
theorem dX8_looksForSeats_125 : decode cX8_looksForSeats 125 = .ok (.bipush 7, 2) := by decide +kernel
theorem dX8_looksForSeats_127 : decode cX8_looksForSeats 127 = .ok (.iload_n 1, 1) := by decide +kernel
theorem dX8_looksForSeats_128 : decode cX8_looksForSeats 128 = .ok (.iadd, 1) := by decide +kernel
theorem dX8_looksForSeats_129 : decode cX8_looksForSeats 129 = .ok (.iaload, 1) := by decide +kernel
theorem dX8_looksForSeats_130 : decode cX8_looksForSeats 130 = .ok (.iastore, 1) := by decide +kernel
theorem dX8_looksForSeats_131 : decode cX8_looksForSeats 131 = .ok (.iinc 1 1, 3) := by decide +kernel
theorem dX8_looksForSeats_134 : decode cX8_looksForSeats 134 = .ok (.goto (-29), 3) := by decide +kernel
theorem dX8_looksForSeats_137 : decode cX8_looksForSeats 137 = .ok (.return_, 1) := by decide +kernel
theorem dX8_spread_0 : decode cX8_spread 0 = .ok (.iconst 0, 1) := by decide +kernel
theorem dX8_spread_1 : decode cX8_spread 1 = .ok (.istore_n 1, 1) := by decide +kernel
theorem dX8_spread_2 : decode cX8_spread 2 = .ok (.iconst 0, 1) := by decide +kernel
theorem dX8_spread_3 : decode cX8_spread 3 = .ok (.istore_n 2, 1) := by decide +kernel
theorem dX8_spread_4 : decode cX8_spread 4 = .ok (.iload_n 2, 1) := by decide +kernel
theorem dX8_spread_5 : decode cX8_spread 5 = .ok (.aload_n 0, 1) := by decide +kernel
theorem dX8_spread_6 : decode cX8_spread 6 = .ok (.getfield 9, 3) := by decide +kernel
theorem dX8_spread_9 : decode cX8_spread 9 = .ok (.bipush 12, 2) := by decide +kernel
theorem dX8_spread_11 : decode cX8_spread 11 = .ok (.iaload, 1) := by decide +kernel
theorem dX8_spread_12 : decode cX8_spread 12 = .ok (.if_icmp .ge 76, 3) := by decide +kernel
theorem dX8_spread_15 : decode cX8_spread 15 = .ok (.iconst 0, 1) := by decide +kernel
theorem dX8_spread_16 : decode cX8_spread 16 = .ok (.istore_n 3, 1) := by decide +kernel
theorem dX8_spread_17 : decode cX8_spread 17 = .ok (.iload_n 3, 1) := by decide +kernel
theorem dX8_spread_18 : decode cX8_spread 18 = .ok (.aload_n 0, 1) := by decide +kernel
theorem dX8_spread_19 : decode cX8_spread 19 = .ok (.getfield 9, 3) := by decide +kernel
theorem dX8_spread_22 : decode cX8_spread 22 = .ok (.bipush 12, 2) := by decide +kernel
theorem dX8_spread_24 : decode cX8_spread 24 = .ok (.iaload, 1) := by decide +kernel
theorem dX8_spread_25 : decode cX8_spread 25 = .ok (.if_icmp .ge 57, 3) := by decide +kernel
theorem dX8_spread_28 : decode cX8_spread 28 = .ok (.aload_n 0, 1) := by decide +kernel
theorem dX8_spread_29 : decode cX8_spread 29 = .ok (.getfield 28, 3) := by decide +kernel
theorem dX8_spread_32 : decode cX8_spread 32 = .ok (.bipush 6, 2) := by decide +kernel
theorem dX8_spread_34 : decode cX8_spread 34 = .ok (.iload_n 2, 1) := by decide +kernel
theorem dX8_spread_35 : decode cX8_spread 35 = .ok (.imul, 1) := by decide +kernel
theorem dX8_spread_36 : decode cX8_spread 36 = .ok (.aload_n 0, 1) := by decide +kernel
theorem dX8_spread_37 : decode cX8_spread 37 = .ok (.getfield 34, 3) := by decide +kernel
theorem dX8_spread_40 : decode cX8_spread 40 = .ok (.iload_n 2, 1) := by decide +kernel
theorem dX8_spread_41 : decode cX8_spread 41 = .ok (.iaload, 1) := by decide +kernel
theorem dX8_spread_42 : decode cX8_spread 42 = .ok (.iadd, 1) := by decide +kernel
theorem dX8_spread_43 : decode cX8_spread 43 = .ok (.iaload, 1) := by decide +kernel
theorem dX8_spread_44 : decode cX8_spread 44 = .ok (.aload_n 0, 1) := by decide +kernel
theorem dX8_spread_45 : decode cX8_spread 45 = .ok (.getfield 28, 3) := by decide +kernel
theorem dX8_spread_48 : decode cX8_spread 48 = .ok (.bipush 6, 2) := by decide +kernel
theorem dX8_spread_50 : decode cX8_spread 50 = .ok (.iload_n 3, 1) := by decide +kernel
theorem dX8_spread_51 : decode cX8_spread 51 = .ok (.imul, 1) := by decide +kernel
theorem dX8_spread_52 : decode cX8_spread 52 = .ok (.aload_n 0, 1) := by decide +kernel
theorem dX8_spread_53 : decode cX8_spread 53 = .ok (.getfield 34, 3) := by decide +kernel
theorem dX8_spread_56 : decode cX8_spread 56 = .ok (.iload_n 3, 1) := by decide +kernel
theorem dX8_spread_57 : decode cX8_spread 57 = .ok (.iaload, 1) := by decide +kernel
theorem dX8_spread_58 : decode cX8_spread 58 = .ok (.iadd, 1) := by decide +kernel
theorem dX8_spread_59 : decode cX8_spread 59 = .ok (.iaload, 1) := by decide +kernel
theorem dX8_spread_60 : decode cX8_spread 60 = .ok (.isub, 1) := by decide +kernel
theorem dX8_spread_61 : decode cX8_spread 61 = .ok (.istore 4, 2) := by decide +kernel
theorem dX8_spread_63 : decode cX8_spread 63 = .ok (.iload 4, 2) := by decide +kernel
theorem dX8_spread_65 : decode cX8_spread 65 = .ok (.iload_n 1, 1) := by decide +kernel
theorem dX8_spread_66 : decode cX8_spread 66 = .ok (.if_icmp .le 8, 3) := by decide +kernel
theorem dX8_spread_69 : decode cX8_spread 69 = .ok (.iload 4, 2) := by decide +kernel
theorem dX8_spread_71 : decode cX8_spread 71 = .ok (.goto 4, 3) := by decide +kernel
theorem dX8_spread_74 : decode cX8_spread 74 = .ok (.iload_n 1, 1) := by decide +kernel
theorem dX8_spread_75 : decode cX8_spread 75 = .ok (.istore_n 1, 1) := by decide +kernel
theorem dX8_spread_76 : decode cX8_spread 76 = .ok (.iinc 3 1, 3) := by decide +kernel
theorem dX8_spread_79 : decode cX8_spread 79 = .ok (.goto (-62), 3) := by decide +kernel
theorem dX8_spread_82 : decode cX8_spread 82 = .ok (.iinc 2 1, 3) := by decide +kernel
theorem dX8_spread_85 : decode cX8_spread 85 = .ok (.goto (-81), 3) := by decide +kernel
theorem dX8_spread_88 : decode cX8_spread 88 = .ok (.iload_n 1, 1) := by decide +kernel
theorem dX8_spread_89 : decode cX8_spread 89 = .ok (.ireturn, 1) := by decide +kernel
theorem dX8_worth_0 : decode cX8_worth 0 = .ok (.iconst 0, 1) := by decide +kernel
theorem dX8_worth_1 : decode cX8_worth 1 = .ok (.istore_n 1, 1) := by decide +kernel
theorem dX8_worth_2 : decode cX8_worth 2 = .ok (.iconst 0, 1) := by decide +kernel
theorem dX8_worth_3 : decode cX8_worth 3 = .ok (.istore_n 2, 1) := by decide +kernel
theorem dX8_worth_4 : decode cX8_worth 4 = .ok (.iload_n 2, 1) := by decide +kernel
theorem dX8_worth_5 : decode cX8_worth 5 = .ok (.aload_n 0, 1) := by decide +kernel
theorem dX8_worth_6 : decode cX8_worth 6 = .ok (.getfield 9, 3) := by decide +kernel
theorem dX8_worth_9 : decode cX8_worth 9 = .ok (.bipush 12, 2) := by decide +kernel
theorem dX8_worth_11 : decode cX8_worth 11 = .ok (.iaload, 1) := by decide +kernel
theorem dX8_worth_12 : decode cX8_worth 12 = .ok (.if_icmp .ge 28, 3) := by decide +kernel
theorem dX8_worth_15 : decode cX8_worth 15 = .ok (.iload_n 1, 1) := by decide +kernel
theorem dX8_worth_16 : decode cX8_worth 16 = .ok (.aload_n 0, 1) := by decide +kernel
theorem dX8_worth_17 : decode cX8_worth 17 = .ok (.getfield 31, 3) := by decide +kernel
theorem dX8_worth_20 : decode cX8_worth 20 = .ok (.bipush 6, 2) := by decide +kernel
theorem dX8_worth_22 : decode cX8_worth 22 = .ok (.iload_n 2, 1) := by decide +kernel
theorem dX8_worth_23 : decode cX8_worth 23 = .ok (.imul, 1) := by decide +kernel
theorem dX8_worth_24 : decode cX8_worth 24 = .ok (.aload_n 0, 1) := by decide +kernel
theorem dX8_worth_25 : decode cX8_worth 25 = .ok (.getfield 34, 3) := by decide +kernel
theorem dX8_worth_28 : decode cX8_worth 28 = .ok (.iload_n 2, 1) := by decide +kernel
theorem dX8_worth_29 : decode cX8_worth 29 = .ok (.iaload, 1) := by decide +kernel
theorem dX8_worth_30 : decode cX8_worth 30 = .ok (.iadd, 1) := by decide +kernel
theorem dX8_worth_31 : decode cX8_worth 31 = .ok (.iaload, 1) := by decide +kernel
theorem dX8_worth_32 : decode cX8_worth 32 = .ok (.iadd, 1) := by decide +kernel
theorem dX8_worth_33 : decode cX8_worth 33 = .ok (.istore_n 1, 1) := by decide +kernel
theorem dX8_worth_34 : decode cX8_worth 34 = .ok (.iinc 2 1, 3) := by decide +kernel
theorem dX8_worth_37 : decode cX8_worth 37 = .ok (.goto (-33), 3) := by decide +kernel
theorem dX8_worth_40 : decode cX8_worth 40 = .ok (.aload_n 0, 1) := by decide +kernel
theorem dX8_worth_41 : decode cX8_worth 41 = .ok (.getfield 204, 3) := by decide +kernel
theorem dX8_worth_44 : decode cX8_worth 44 = .ok (.ifCond .ne 7, 3) := by decide +kernel
theorem dX8_worth_47 : decode cX8_worth 47 = .ok (.iconst 0, 1) := by decide +kernel
theorem dX8_worth_48 : decode cX8_worth 48 = .ok (.goto 20, 3) := by decide +kernel
theorem dX8_worth_51 : decode cX8_worth 51 = .ok (.aload_n 0, 1) := by decide +kernel
theorem dX8_worth_52 : decode cX8_worth 52 = .ok (.getfield 204, 3) := by decide +kernel
theorem dX8_worth_55 : decode cX8_worth 55 = .ok (.iconst 1, 1) := by decide +kernel
theorem dX8_worth_56 : decode cX8_worth 56 = .ok (.if_icmp .ne 11, 3) := by decide +kernel
theorem dX8_worth_59 : decode cX8_worth 59 = .ok (.aload_n 0, 1) := by decide +kernel
theorem dX8_worth_60 : decode cX8_worth 60 = .ok (.invokevirtual 207, 3) := by decide +kernel
theorem dX8_worth_63 : decode cX8_worth 63 = .ok (.ineg, 1) := by decide +kernel
theorem dX8_worth_64 : decode cX8_worth 64 = .ok (.goto 4, 3) := by decide +kernel
theorem dX8_worth_67 : decode cX8_worth 67 = .ok (.iload_n 1, 1) := by decide +kernel
theorem dX8_worth_68 : decode cX8_worth 68 = .ok (.ireturn, 1) := by decide +kernel
theorem dX8_keepsSeat_0 : decode cX8_keepsSeat 0 = .ok (.aload_n 0, 1) := by decide +kernel
theorem dX8_keepsSeat_1 : decode cX8_keepsSeat 1 = .ok (.invokevirtual 210, 3) := by decide +kernel
theorem dX8_keepsSeat_4 : decode cX8_keepsSeat 4 = .ok (.istore_n 2, 1) := by decide +kernel
theorem dX8_keepsSeat_5 : decode cX8_keepsSeat 5 = .ok (.aload_n 0, 1) := by decide +kernel
theorem dX8_keepsSeat_6 : decode cX8_keepsSeat 6 = .ok (.getfield 213, 3) := by decide +kernel
theorem dX8_keepsSeat_9 : decode cX8_keepsSeat 9 = .ok (.iconst (-1), 1) := by decide +kernel
theorem dX8_keepsSeat_10 : decode cX8_keepsSeat 10 = .ok (.if_icmp .eq 27, 3) := by decide +kernel
theorem dX8_keepsSeat_13 : decode cX8_keepsSeat 13 = .ok (.iload_n 2, 1) := by decide +kernel
theorem dX8_keepsSeat_14 : decode cX8_keepsSeat 14 = .ok (.aload_n 0, 1) := by decide +kernel
theorem dX8_keepsSeat_15 : decode cX8_keepsSeat 15 = .ok (.getfield 216, 3) := by decide +kernel
theorem dX8_keepsSeat_18 : decode cX8_keepsSeat 18 = .ok (.if_icmp .gt 19, 3) := by decide +kernel
theorem dX8_keepsSeat_21 : decode cX8_keepsSeat 21 = .ok (.iload_n 2, 1) := by decide +kernel
theorem dX8_keepsSeat_22 : decode cX8_keepsSeat 22 = .ok (.aload_n 0, 1) := by decide +kernel
theorem dX8_keepsSeat_23 : decode cX8_keepsSeat 23 = .ok (.getfield 216, 3) := by decide +kernel
theorem dX8_keepsSeat_26 : decode cX8_keepsSeat 26 = .ok (.if_icmp .ne 52, 3) := by decide +kernel
theorem dX8_keepsSeat_29 : decode cX8_keepsSeat 29 = .ok (.iload_n 1, 1) := by decide +kernel
theorem dX8_keepsSeat_30 : decode cX8_keepsSeat 30 = .ok (.aload_n 0, 1) := by decide +kernel
theorem dX8_keepsSeat_31 : decode cX8_keepsSeat 31 = .ok (.getfield 213, 3) := by decide +kernel
theorem dX8_keepsSeat_34 : decode cX8_keepsSeat 34 = .ok (.if_icmp .ge 44, 3) := by decide +kernel
theorem dX8_keepsSeat_37 : decode cX8_keepsSeat 37 = .ok (.aload_n 0, 1) := by decide +kernel
theorem dX8_keepsSeat_38 : decode cX8_keepsSeat 38 = .ok (.iload_n 1, 1) := by decide +kernel
theorem dX8_keepsSeat_39 : decode cX8_keepsSeat 39 = .ok (.putfield 213, 3) := by decide +kernel
theorem dX8_keepsSeat_42 : decode cX8_keepsSeat 42 = .ok (.aload_n 0, 1) := by decide +kernel
theorem dX8_keepsSeat_43 : decode cX8_keepsSeat 43 = .ok (.iload_n 2, 1) := by decide +kernel
theorem dX8_keepsSeat_44 : decode cX8_keepsSeat 44 = .ok (.putfield 216, 3) := by decide +kernel
theorem dX8_keepsSeat_47 : decode cX8_keepsSeat 47 = .ok (.iconst 0, 1) := by decide +kernel
theorem dX8_keepsSeat_48 : decode cX8_keepsSeat 48 = .ok (.istore_n 3, 1) := by decide +kernel
theorem dX8_keepsSeat_49 : decode cX8_keepsSeat 49 = .ok (.iload_n 3, 1) := by decide +kernel
theorem dX8_keepsSeat_50 : decode cX8_keepsSeat 50 = .ok (.aload_n 0, 1) := by decide +kernel
theorem dX8_keepsSeat_51 : decode cX8_keepsSeat 51 = .ok (.getfield 9, 3) := by decide +kernel
theorem dX8_keepsSeat_54 : decode cX8_keepsSeat 54 = .ok (.bipush 12, 2) := by decide +kernel
theorem dX8_keepsSeat_56 : decode cX8_keepsSeat 56 = .ok (.iaload, 1) := by decide +kernel
theorem dX8_keepsSeat_57 : decode cX8_keepsSeat 57 = .ok (.if_icmp .ge 21, 3) := by decide +kernel
theorem dX8_keepsSeat_60 : decode cX8_keepsSeat 60 = .ok (.aload_n 0, 1) := by decide +kernel
theorem dX8_keepsSeat_61 : decode cX8_keepsSeat 61 = .ok (.getfield 37, 3) := by decide +kernel
theorem dX8_keepsSeat_64 : decode cX8_keepsSeat 64 = .ok (.iload_n 3, 1) := by decide +kernel
theorem dX8_keepsSeat_65 : decode cX8_keepsSeat 65 = .ok (.aload_n 0, 1) := by decide +kernel
theorem dX8_keepsSeat_66 : decode cX8_keepsSeat 66 = .ok (.getfield 34, 3) := by decide +kernel
theorem dX8_keepsSeat_69 : decode cX8_keepsSeat 69 = .ok (.iload_n 3, 1) := by decide +kernel
theorem dX8_keepsSeat_70 : decode cX8_keepsSeat 70 = .ok (.iaload, 1) := by decide +kernel
theorem dX8_keepsSeat_71 : decode cX8_keepsSeat 71 = .ok (.iastore, 1) := by decide +kernel
theorem dX8_keepsSeat_72 : decode cX8_keepsSeat 72 = .ok (.iinc 3 1, 3) := by decide +kernel
theorem dX8_keepsSeat_75 : decode cX8_keepsSeat 75 = .ok (.goto (-26), 3) := by decide +kernel
theorem dX8_keepsSeat_78 : decode cX8_keepsSeat 78 = .ok (.return_, 1) := by decide +kernel
theorem dX8_seatsFrom_0 : decode cX8_seatsFrom 0 = .ok (.iload_n 1, 1) := by decide +kernel
theorem dX8_seatsFrom_1 : decode cX8_seatsFrom 1 = .ok (.aload_n 0, 1) := by decide +kernel
theorem dX8_seatsFrom_2 : decode cX8_seatsFrom 2 = .ok (.getfield 9, 3) := by decide +kernel
theorem dX8_seatsFrom_5 : decode cX8_seatsFrom 5 = .ok (.bipush 12, 2) := by decide +kernel
theorem dX8_seatsFrom_7 : decode cX8_seatsFrom 7 = .ok (.iaload, 1) := by decide +kernel
theorem dX8_seatsFrom_8 : decode cX8_seatsFrom 8 = .ok (.if_icmp .ne 9, 3) := by decide +kernel
theorem dX8_seatsFrom_11 : decode cX8_seatsFrom 11 = .ok (.aload_n 0, 1) := by decide +kernel
theorem dX8_seatsFrom_12 : decode cX8_seatsFrom 12 = .ok (.iload_n 2, 1) := by decide +kernel
theorem dX8_seatsFrom_13 : decode cX8_seatsFrom 13 = .ok (.invokevirtual 219, 3) := by decide +kernel
theorem dX8_seatsFrom_16 : decode cX8_seatsFrom 16 = .ok (.return_, 1) := by decide +kernel
theorem dX8_seatsFrom_17 : decode cX8_seatsFrom 17 = .ok (.iconst 0, 1) := by decide +kernel
theorem dX8_seatsFrom_18 : decode cX8_seatsFrom 18 = .ok (.istore_n 3, 1) := by decide +kernel
theorem dX8_seatsFrom_19 : decode cX8_seatsFrom 19 = .ok (.iload_n 3, 1) := by decide +kernel
theorem dX8_seatsFrom_20 : decode cX8_seatsFrom 20 = .ok (.aload_n 0, 1) := by decide +kernel
theorem dX8_seatsFrom_21 : decode cX8_seatsFrom 21 = .ok (.getfield 9, 3) := by decide +kernel
theorem dX8_seatsFrom_24 : decode cX8_seatsFrom 24 = .ok (.bipush 19, 2) := by decide +kernel
theorem dX8_seatsFrom_26 : decode cX8_seatsFrom 26 = .ok (.iaload, 1) := by decide +kernel
theorem dX8_seatsFrom_27 : decode cX8_seatsFrom 27 = .ok (.if_icmp .gt 132, 3) := by decide +kernel
theorem dX8_seatsFrom_30 : decode cX8_seatsFrom 30 = .ok (.aload_n 0, 1) := by decide +kernel
theorem dX8_seatsFrom_31 : decode cX8_seatsFrom 31 = .ok (.getfield 204, 3) := by decide +kernel
theorem dX8_seatsFrom_34 : decode cX8_seatsFrom 34 = .ok (.iconst 2, 1) := by decide +kernel
theorem dX8_seatsFrom_35 : decode cX8_seatsFrom 35 = .ok (.if_icmp .eq 34, 3) := by decide +kernel
theorem dX8_seatsFrom_38 : decode cX8_seatsFrom 38 = .ok (.aload_n 0, 1) := by decide +kernel
theorem dX8_seatsFrom_39 : decode cX8_seatsFrom 39 = .ok (.getfield 43, 3) := by decide +kernel
theorem dX8_seatsFrom_42 : decode cX8_seatsFrom 42 = .ok (.bipush 6, 2) := by decide +kernel
theorem dX8_seatsFrom_44 : decode cX8_seatsFrom 44 = .ok (.iload_n 1, 1) := by decide +kernel
theorem dX8_seatsFrom_45 : decode cX8_seatsFrom 45 = .ok (.imul, 1) := by decide +kernel
theorem dX8_seatsFrom_46 : decode cX8_seatsFrom 46 = .ok (.iload_n 3, 1) := by decide +kernel
theorem dX8_seatsFrom_47 : decode cX8_seatsFrom 47 = .ok (.iadd, 1) := by decide +kernel
theorem dX8_seatsFrom_48 : decode cX8_seatsFrom 48 = .ok (.baload, 1) := by decide +kernel
theorem dX8_seatsFrom_49 : decode cX8_seatsFrom 49 = .ok (.aload_n 0, 1) := by decide +kernel
theorem dX8_seatsFrom_50 : decode cX8_seatsFrom 50 = .ok (.getfield 222, 3) := by decide +kernel
theorem dX8_seatsFrom_53 : decode cX8_seatsFrom 53 = .ok (.iload_n 1, 1) := by decide +kernel
theorem dX8_seatsFrom_54 : decode cX8_seatsFrom 54 = .ok (.ishr, 1) := by decide +kernel
theorem dX8_seatsFrom_55 : decode cX8_seatsFrom 55 = .ok (.iconst 1, 1) := by decide +kernel
theorem dX8_seatsFrom_56 : decode cX8_seatsFrom 56 = .ok (.iand, 1) := by decide +kernel
theorem dX8_seatsFrom_57 : decode cX8_seatsFrom 57 = .ok (.iconst 1, 1) := by decide +kernel
theorem dX8_seatsFrom_58 : decode cX8_seatsFrom 58 = .ok (.if_icmp .ne 7, 3) := by decide +kernel
theorem dX8_seatsFrom_61 : decode cX8_seatsFrom 61 = .ok (.iconst 1, 1) := by decide +kernel
theorem dX8_seatsFrom_62 : decode cX8_seatsFrom 62 = .ok (.goto 4, 3) := by decide +kernel
theorem dX8_seatsFrom_65 : decode cX8_seatsFrom 65 = .ok (.iconst 0, 1) := by decide +kernel
theorem dX8_seatsFrom_66 : decode cX8_seatsFrom 66 = .ok (.if_icmp .ne 7, 3) := by decide +kernel
theorem dX8_seatsFrom_69 : decode cX8_seatsFrom 69 = .ok (.iconst 1, 1) := by decide +kernel
theorem dX8_seatsFrom_70 : decode cX8_seatsFrom 70 = .ok (.goto 4, 3) := by decide +kernel
theorem dX8_seatsFrom_73 : decode cX8_seatsFrom 73 = .ok (.iconst 0, 1) := by decide +kernel
theorem dX8_seatsFrom_74 : decode cX8_seatsFrom 74 = .ok (.istore 4, 2) := by decide +kernel
theorem dX8_seatsFrom_76 : decode cX8_seatsFrom 76 = .ok (.iload 4, 2) := by decide +kernel
theorem dX8_seatsFrom_78 : decode cX8_seatsFrom 78 = .ok (.ifCond .eq 75, 3) := by decide +kernel
theorem dX8_seatsFrom_81 : decode cX8_seatsFrom 81 = .ok (.iload_n 3, 1) := by decide +kernel
theorem dX8_seatsFrom_82 : decode cX8_seatsFrom 82 = .ok (.ifCond .eq 14, 3) := by decide +kernel
theorem dX8_seatsFrom_85 : decode cX8_seatsFrom 85 = .ok (.aload_n 0, 1) := by decide +kernel
theorem dX8_seatsFrom_86 : decode cX8_seatsFrom 86 = .ok (.getfield 40, 3) := by decide +kernel
theorem dX8_seatsFrom_89 : decode cX8_seatsFrom 89 = .ok (.iload_n 3, 1) := by decide +kernel
theorem dX8_seatsFrom_90 : decode cX8_seatsFrom 90 = .ok (.iconst 1, 1) := by decide +kernel
theorem dX8_seatsFrom_91 : decode cX8_seatsFrom 91 = .ok (.isub, 1) := by decide +kernel
theorem dX8_seatsFrom_92 : decode cX8_seatsFrom 92 = .ok (.iaload, 1) := by decide +kernel
theorem dX8_seatsFrom_93 : decode cX8_seatsFrom 93 = .ok (.ifCond .le 60, 3) := by decide +kernel
theorem dX8_seatsFrom_96 : decode cX8_seatsFrom 96 = .ok (.aload_n 0, 1) := by decide +kernel
theorem dX8_seatsFrom_97 : decode cX8_seatsFrom 97 = .ok (.getfield 34, 3) := by decide +kernel
theorem dX8_seatsFrom_100 : decode cX8_seatsFrom 100 = .ok (.iload_n 1, 1) := by decide +kernel
theorem dX8_seatsFrom_101 : decode cX8_seatsFrom 101 = .ok (.iload_n 3, 1) := by decide +kernel
theorem dX8_seatsFrom_102 : decode cX8_seatsFrom 102 = .ok (.iastore, 1) := by decide +kernel
theorem dX8_seatsFrom_103 : decode cX8_seatsFrom 103 = .ok (.iload_n 3, 1) := by decide +kernel
theorem dX8_seatsFrom_104 : decode cX8_seatsFrom 104 = .ok (.ifCond .le 15, 3) := by decide +kernel
theorem dX8_seatsFrom_107 : decode cX8_seatsFrom 107 = .ok (.aload_n 0, 1) := by decide +kernel
theorem dX8_seatsFrom_108 : decode cX8_seatsFrom 108 = .ok (.getfield 40, 3) := by decide +kernel
theorem dX8_seatsFrom_111 : decode cX8_seatsFrom 111 = .ok (.iload_n 3, 1) := by decide +kernel
theorem dX8_seatsFrom_112 : decode cX8_seatsFrom 112 = .ok (.iconst 1, 1) := by decide +kernel
theorem dX8_seatsFrom_113 : decode cX8_seatsFrom 113 = .ok (.isub, 1) := by decide +kernel
theorem dX8_seatsFrom_114 : decode cX8_seatsFrom 114 = .ok (.dup2, 1) := by decide +kernel
theorem dX8_seatsFrom_115 : decode cX8_seatsFrom 115 = .ok (.iaload, 1) := by decide +kernel
theorem dX8_seatsFrom_116 : decode cX8_seatsFrom 116 = .ok (.iconst 1, 1) := by decide +kernel
theorem dX8_seatsFrom_117 : decode cX8_seatsFrom 117 = .ok (.isub, 1) := by decide +kernel
theorem dX8_seatsFrom_118 : decode cX8_seatsFrom 118 = .ok (.iastore, 1) := by decide +kernel
theorem dX8_seatsFrom_119 : decode cX8_seatsFrom 119 = .ok (.aload_n 0, 1) := by decide +kernel
theorem dX8_seatsFrom_120 : decode cX8_seatsFrom 120 = .ok (.iload_n 1, 1) := by decide +kernel
theorem dX8_seatsFrom_121 : decode cX8_seatsFrom 121 = .ok (.iconst 1, 1) := by decide +kernel
theorem dX8_seatsFrom_122 : decode cX8_seatsFrom 122 = .ok (.iadd, 1) := by decide +kernel
theorem dX8_seatsFrom_123 : decode cX8_seatsFrom 123 = .ok (.iload_n 2, 1) := by decide +kernel
theorem dX8_seatsFrom_124 : decode cX8_seatsFrom 124 = .ok (.iload_n 3, 1) := by decide +kernel
theorem dX8_seatsFrom_125 : decode cX8_seatsFrom 125 = .ok (.ifCond .le 7, 3) := by decide +kernel
theorem dX8_seatsFrom_128 : decode cX8_seatsFrom 128 = .ok (.iconst 1, 1) := by decide +kernel
theorem dX8_seatsFrom_129 : decode cX8_seatsFrom 129 = .ok (.goto 4, 3) := by decide +kernel
theorem dX8_seatsFrom_132 : decode cX8_seatsFrom 132 = .ok (.iconst 0, 1) := by decide +kernel
theorem dX8_seatsFrom_133 : decode cX8_seatsFrom 133 = .ok (.iadd, 1) := by decide +kernel
theorem dX8_seatsFrom_134 : decode cX8_seatsFrom 134 = .ok (.invokevirtual 225, 3) := by decide +kernel
theorem dX8_seatsFrom_137 : decode cX8_seatsFrom 137 = .ok (.iload_n 3, 1) := by decide +kernel
theorem dX8_seatsFrom_138 : decode cX8_seatsFrom 138 = .ok (.ifCond .le 15, 3) := by decide +kernel
theorem dX8_seatsFrom_141 : decode cX8_seatsFrom 141 = .ok (.aload_n 0, 1) := by decide +kernel
theorem dX8_seatsFrom_142 : decode cX8_seatsFrom 142 = .ok (.getfield 40, 3) := by decide +kernel
theorem dX8_seatsFrom_145 : decode cX8_seatsFrom 145 = .ok (.iload_n 3, 1) := by decide +kernel
theorem dX8_seatsFrom_146 : decode cX8_seatsFrom 146 = .ok (.iconst 1, 1) := by decide +kernel
theorem dX8_seatsFrom_147 : decode cX8_seatsFrom 147 = .ok (.isub, 1) := by decide +kernel
theorem dX8_seatsFrom_148 : decode cX8_seatsFrom 148 = .ok (.dup2, 1) := by decide +kernel
theorem dX8_seatsFrom_149 : decode cX8_seatsFrom 149 = .ok (.iaload, 1) := by decide +kernel
theorem dX8_seatsFrom_150 : decode cX8_seatsFrom 150 = .ok (.iconst 1, 1) := by decide +kernel
theorem dX8_seatsFrom_151 : decode cX8_seatsFrom 151 = .ok (.iadd, 1) := by decide +kernel
theorem dX8_seatsFrom_152 : decode cX8_seatsFrom 152 = .ok (.iastore, 1) := by decide +kernel
theorem dX8_seatsFrom_153 : decode cX8_seatsFrom 153 = .ok (.iinc 3 1, 3) := by decide +kernel
theorem dX8_seatsFrom_156 : decode cX8_seatsFrom 156 = .ok (.goto (-137), 3) := by decide +kernel
theorem dX8_seatsFrom_159 : decode cX8_seatsFrom 159 = .ok (.return_, 1) := by decide +kernel
theorem dX8_looksForSeating_0 : decode cX8_looksForSeating 0 = .ok (.aload_n 0, 1) := by decide +kernel
theorem dX8_looksForSeating_1 : decode cX8_looksForSeating 1 = .ok (.invokevirtual 228, 3) := by decide +kernel
theorem dX8_looksForSeating_4 : decode cX8_looksForSeating 4 = .ok (.aload_n 0, 1) := by decide +kernel
theorem dX8_looksForSeating_5 : decode cX8_looksForSeating 5 = .ok (.iload_n 1, 1) := by decide +kernel
theorem dX8_looksForSeating_6 : decode cX8_looksForSeating 6 = .ok (.putfield 204, 3) := by decide +kernel
theorem dX8_looksForSeating_9 : decode cX8_looksForSeating 9 = .ok (.aload_n 0, 1) := by decide +kernel
theorem dX8_looksForSeating_10 : decode cX8_looksForSeating 10 = .ok (.iload_n 2, 1) := by decide +kernel
theorem dX8_looksForSeating_11 : decode cX8_looksForSeating 11 = .ok (.putfield 222, 3) := by decide +kernel
theorem dX8_looksForSeating_14 : decode cX8_looksForSeating 14 = .ok (.aload_n 0, 1) := by decide +kernel
theorem dX8_looksForSeating_15 : decode cX8_looksForSeating 15 = .ok (.iconst (-1), 1) := by decide +kernel
theorem dX8_looksForSeating_16 : decode cX8_looksForSeating 16 = .ok (.putfield 213, 3) := by decide +kernel
theorem dX8_looksForSeating_19 : decode cX8_looksForSeating 19 = .ok (.aload_n 0, 1) := by decide +kernel
theorem dX8_looksForSeating_20 : decode cX8_looksForSeating 20 = .ok (.iconst 0, 1) := by decide +kernel
theorem dX8_looksForSeating_21 : decode cX8_looksForSeating 21 = .ok (.iconst 0, 1) := by decide +kernel
theorem dX8_looksForSeating_22 : decode cX8_looksForSeating 22 = .ok (.invokevirtual 225, 3) := by decide +kernel
theorem dX8_looksForSeating_25 : decode cX8_looksForSeating 25 = .ok (.return_, 1) := by decide +kernel
theorem dX8_everybody_0 : decode cX8_everybody 0 = .ok (.iconst 1, 1) := by decide +kernel
theorem dX8_everybody_1 : decode cX8_everybody 1 = .ok (.aload_n 0, 1) := by decide +kernel
theorem dX8_everybody_2 : decode cX8_everybody 2 = .ok (.getfield 9, 3) := by decide +kernel
theorem dX8_everybody_5 : decode cX8_everybody 5 = .ok (.bipush 12, 2) := by decide +kernel
theorem dX8_everybody_7 : decode cX8_everybody 7 = .ok (.iaload, 1) := by decide +kernel
theorem dX8_everybody_8 : decode cX8_everybody 8 = .ok (.ishl, 1) := by decide +kernel
theorem dX8_everybody_9 : decode cX8_everybody 9 = .ok (.iconst 1, 1) := by decide +kernel
theorem dX8_everybody_10 : decode cX8_everybody 10 = .ok (.isub, 1) := by decide +kernel
theorem dX8_everybody_11 : decode cX8_everybody 11 = .ok (.ireturn, 1) := by decide +kernel
theorem dX8_isAsked_0 : decode cX8_isAsked 0 = .ok (.iload_n 1, 1) := by decide +kernel
theorem dX8_isAsked_1 : decode cX8_isAsked 1 = .ok (.ifCond .eq 14, 3) := by decide +kernel
theorem dX8_isAsked_4 : decode cX8_isAsked 4 = .ok (.aload_n 0, 1) := by decide +kernel
theorem dX8_isAsked_5 : decode cX8_isAsked 5 = .ok (.iload_n 1, 1) := by decide +kernel
theorem dX8_isAsked_6 : decode cX8_isAsked 6 = .ok (.bipush 10, 2) := by decide +kernel
theorem dX8_isAsked_8 : decode cX8_isAsked 8 = .ok (.isub, 1) := by decide +kernel
theorem dX8_isAsked_9 : decode cX8_isAsked 9 = .ok (.invokevirtual 169, 3) := by decide +kernel
theorem dX8_isAsked_12 : decode cX8_isAsked 12 = .ok (.ifCond .eq 7, 3) := by decide +kernel
theorem dX8_isAsked_15 : decode cX8_isAsked 15 = .ok (.iconst 1, 1) := by decide +kernel
theorem dX8_isAsked_16 : decode cX8_isAsked 16 = .ok (.goto 4, 3) := by decide +kernel
theorem dX8_isAsked_19 : decode cX8_isAsked 19 = .ok (.iconst 0, 1) := by decide +kernel
theorem dX8_isAsked_20 : decode cX8_isAsked 20 = .ok (.ireturn, 1) := by decide +kernel
theorem dX8_seatOf_0 : decode cX8_seatOf 0 = .ok (.aload_n 0, 1) := by decide +kernel
theorem dX8_seatOf_1 : decode cX8_seatOf 1 = .ok (.getfield 37, 3) := by decide +kernel
theorem dX8_seatOf_4 : decode cX8_seatOf 4 = .ok (.iload_n 1, 1) := by decide +kernel
theorem dX8_seatOf_5 : decode cX8_seatOf 5 = .ok (.bipush 10, 2) := by decide +kernel
theorem dX8_seatOf_7 : decode cX8_seatOf 7 = .ok (.isub, 1) := by decide +kernel
theorem dX8_seatOf_8 : decode cX8_seatOf 8 = .ok (.iaload, 1) := by decide +kernel
theorem dX8_seatOf_9 : decode cX8_seatOf 9 = .ok (.ifCond .ne 8, 3) := by decide +kernel
theorem dX8_seatOf_12 : decode cX8_seatOf 12 = .ok (.bipush (-5), 2) := by decide +kernel
theorem dX8_seatOf_14 : decode cX8_seatOf 14 = .ok (.goto 14, 3) := by decide +kernel
theorem dX8_seatOf_17 : decode cX8_seatOf 17 = .ok (.aload_n 0, 1) := by decide +kernel
theorem dX8_seatOf_18 : decode cX8_seatOf 18 = .ok (.getfield 37, 3) := by decide +kernel
theorem dX8_seatOf_21 : decode cX8_seatOf 21 = .ok (.iload_n 1, 1) := by decide +kernel
theorem dX8_seatOf_22 : decode cX8_seatOf 22 = .ok (.bipush 10, 2) := by decide +kernel
theorem dX8_seatOf_24 : decode cX8_seatOf 24 = .ok (.isub, 1) := by decide +kernel
theorem dX8_seatOf_25 : decode cX8_seatOf 25 = .ok (.iaload, 1) := by decide +kernel
theorem dX8_seatOf_26 : decode cX8_seatOf 26 = .ok (.iconst 1, 1) := by decide +kernel
theorem dX8_seatOf_27 : decode cX8_seatOf 27 = .ok (.isub, 1) := by decide +kernel
theorem dX8_seatOf_28 : decode cX8_seatOf 28 = .ok (.ireturn, 1) := by decide +kernel
theorem dX8_fewest_0 : decode cX8_fewest 0 = .ok (.aload_n 0, 1) := by decide +kernel
theorem dX8_fewest_1 : decode cX8_fewest 1 = .ok (.iload_n 2, 1) := by decide +kernel
theorem dX8_fewest_2 : decode cX8_fewest 2 = .ok (.invokevirtual 231, 3) := by decide +kernel
theorem dX8_fewest_5 : decode cX8_fewest 5 = .ok (.ifCond .ne 5, 3) := by decide +kernel
theorem dX8_fewest_8 : decode cX8_fewest 8 = .ok (.iconst (-1), 1) := by decide +kernel
theorem dX8_fewest_9 : decode cX8_fewest 9 = .ok (.ireturn, 1) := by decide +kernel
theorem dX8_fewest_10 : decode cX8_fewest 10 = .ok (.iload_n 1, 1) := by decide +kernel
theorem dX8_fewest_11 : decode cX8_fewest 11 = .ok (.iconst 0, 1) := by decide +kernel
theorem dX8_fewest_12 : decode cX8_fewest 12 = .ok (.aload_n 0, 1) := by decide +kernel
theorem dX8_fewest_13 : decode cX8_fewest 13 = .ok (.invokevirtual 234, 3) := by decide +kernel
theorem dX8_fewest_16 : decode cX8_fewest 16 = .ok (.invokestatic 53, 3) := by decide +kernel
theorem dX8_fewest_19 : decode cX8_fewest 19 = .ok (.ifCond .ne 6, 3) := by decide +kernel
theorem dX8_fewest_22 : decode cX8_fewest 22 = .ok (.bipush (-2), 2) := by decide +kernel
theorem dX8_fewest_24 : decode cX8_fewest 24 = .ok (.ireturn, 1) := by decide +kernel
theorem dX8_fewest_25 : decode cX8_fewest 25 = .ok (.aload_n 0, 1) := by decide +kernel
theorem dX8_fewest_26 : decode cX8_fewest 26 = .ok (.iconst 0, 1) := by decide +kernel
theorem dX8_fewest_27 : decode cX8_fewest 27 = .ok (.iload_n 1, 1) := by decide +kernel
theorem dX8_fewest_28 : decode cX8_fewest 28 = .ok (.invokevirtual 237, 3) := by decide +kernel
theorem dX8_fewest_31 : decode cX8_fewest 31 = .ok (.aload_n 0, 1) := by decide +kernel
theorem dX8_fewest_32 : decode cX8_fewest 32 = .ok (.getfield 213, 3) := by decide +kernel
theorem dX8_fewest_35 : decode cX8_fewest 35 = .ok (.iconst (-1), 1) := by decide +kernel
theorem dX8_fewest_36 : decode cX8_fewest 36 = .ok (.if_icmp .ne 8, 3) := by decide +kernel
theorem dX8_fewest_39 : decode cX8_fewest 39 = .ok (.bipush (-6), 2) := by decide +kernel
theorem dX8_fewest_41 : decode cX8_fewest 41 = .ok (.goto 19, 3) := by decide +kernel
theorem dX8_fewest_44 : decode cX8_fewest 44 = .ok (.iload_n 2, 1) := by decide +kernel
theorem dX8_fewest_45 : decode cX8_fewest 45 = .ok (.ifCond .ne 10, 3) := by decide +kernel
theorem dX8_fewest_48 : decode cX8_fewest 48 = .ok (.aload_n 0, 1) := by decide +kernel
theorem dX8_fewest_49 : decode cX8_fewest 49 = .ok (.getfield 213, 3) := by decide +kernel
theorem dX8_fewest_52 : decode cX8_fewest 52 = .ok (.goto 8, 3) := by decide +kernel
theorem dX8_fewest_55 : decode cX8_fewest 55 = .ok (.aload_n 0, 1) := by decide +kernel
theorem dX8_fewest_56 : decode cX8_fewest 56 = .ok (.iload_n 2, 1) := by decide +kernel
theorem dX8_fewest_57 : decode cX8_fewest 57 = .ok (.invokevirtual 240, 3) := by decide +kernel
theorem dX8_fewest_60 : decode cX8_fewest 60 = .ok (.ireturn, 1) := by decide +kernel
theorem dX8_close_0 : decode cX8_close 0 = .ok (.aload_n 0, 1) := by decide +kernel
theorem dX8_close_1 : decode cX8_close 1 = .ok (.iload_n 1, 1) := by decide +kernel
theorem dX8_close_2 : decode cX8_close 2 = .ok (.invokevirtual 231, 3) := by decide +kernel
theorem dX8_close_5 : decode cX8_close 5 = .ok (.ifCond .ne 5, 3) := by decide +kernel
theorem dX8_close_8 : decode cX8_close 8 = .ok (.iconst (-1), 1) := by decide +kernel
theorem dX8_close_9 : decode cX8_close 9 = .ok (.ireturn, 1) := by decide +kernel
theorem dX8_close_10 : decode cX8_close 10 = .ok (.aload_n 0, 1) := by decide +kernel
theorem dX8_close_11 : decode cX8_close 11 = .ok (.iconst 1, 1) := by decide +kernel
theorem dX8_close_12 : decode cX8_close 12 = .ok (.aload_n 0, 1) := by decide +kernel
theorem dX8_close_13 : decode cX8_close 13 = .ok (.invokevirtual 234, 3) := by decide +kernel
theorem dX8_close_16 : decode cX8_close 16 = .ok (.invokevirtual 237, 3) := by decide +kernel
theorem dX8_close_19 : decode cX8_close 19 = .ok (.aload_n 0, 1) := by decide +kernel
theorem dX8_close_20 : decode cX8_close 20 = .ok (.getfield 213, 3) := by decide +kernel
theorem dX8_close_23 : decode cX8_close 23 = .ok (.iconst (-1), 1) := by decide +kernel
theorem dX8_close_24 : decode cX8_close 24 = .ok (.if_icmp .ne 8, 3) := by decide +kernel
theorem dX8_close_27 : decode cX8_close 27 = .ok (.bipush (-6), 2) := by decide +kernel
theorem dX8_close_29 : decode cX8_close 29 = .ok (.goto 20, 3) := by decide +kernel
theorem dX8_close_32 : decode cX8_close 32 = .ok (.iload_n 1, 1) := by decide +kernel
theorem dX8_close_33 : decode cX8_close 33 = .ok (.ifCond .ne 11, 3) := by decide +kernel
theorem dX8_close_36 : decode cX8_close 36 = .ok (.aload_n 0, 1) := by decide +kernel
theorem dX8_close_37 : decode cX8_close 37 = .ok (.getfield 216, 3) := by decide +kernel
theorem dX8_close_40 : decode cX8_close 40 = .ok (.ineg, 1) := by decide +kernel
theorem dX8_close_41 : decode cX8_close 41 = .ok (.goto 8, 3) := by decide +kernel
theorem dX8_close_44 : decode cX8_close 44 = .ok (.aload_n 0, 1) := by decide +kernel
theorem dX8_close_45 : decode cX8_close 45 = .ok (.iload_n 1, 1) := by decide +kernel
theorem dX8_close_46 : decode cX8_close 46 = .ok (.invokevirtual 240, 3) := by decide +kernel
theorem dX8_close_49 : decode cX8_close 49 = .ok (.ireturn, 1) := by decide +kernel
theorem dX8_boldest_0 : decode cX8_boldest 0 = .ok (.aload_n 0, 1) := by decide +kernel
theorem dX8_boldest_1 : decode cX8_boldest 1 = .ok (.iload_n 1, 1) := by decide +kernel
theorem dX8_boldest_2 : decode cX8_boldest 2 = .ok (.invokevirtual 231, 3) := by decide +kernel
theorem dX8_boldest_5 : decode cX8_boldest 5 = .ok (.ifCond .ne 5, 3) := by decide +kernel
theorem dX8_boldest_8 : decode cX8_boldest 8 = .ok (.iconst (-1), 1) := by decide +kernel
theorem dX8_boldest_9 : decode cX8_boldest 9 = .ok (.ireturn, 1) := by decide +kernel
theorem dX8_boldest_10 : decode cX8_boldest 10 = .ok (.aload_n 0, 1) := by decide +kernel
theorem dX8_boldest_11 : decode cX8_boldest 11 = .ok (.iconst 2, 1) := by decide +kernel
theorem dX8_boldest_12 : decode cX8_boldest 12 = .ok (.iconst 0, 1) := by decide +kernel
theorem dX8_boldest_13 : decode cX8_boldest 13 = .ok (.invokevirtual 237, 3) := by decide +kernel
theorem dX8_boldest_16 : decode cX8_boldest 16 = .ok (.iload_n 1, 1) := by decide +kernel
theorem dX8_boldest_17 : decode cX8_boldest 17 = .ok (.ifCond .ne 10, 3) := by decide +kernel
theorem dX8_boldest_20 : decode cX8_boldest 20 = .ok (.aload_n 0, 1) := by decide +kernel
theorem dX8_boldest_21 : decode cX8_boldest 21 = .ok (.getfield 216, 3) := by decide +kernel
theorem dX8_boldest_24 : decode cX8_boldest 24 = .ok (.goto 8, 3) := by decide +kernel
theorem dX8_boldest_27 : decode cX8_boldest 27 = .ok (.aload_n 0, 1) := by decide +kernel
theorem dX8_boldest_28 : decode cX8_boldest 28 = .ok (.iload_n 1, 1) := by decide +kernel
theorem dX8_boldest_29 : decode cX8_boldest 29 = .ok (.invokevirtual 240, 3) := by decide +kernel
theorem dX8_boldest_32 : decode cX8_boldest 32 = .ok (.ireturn, 1) := by decide +kernel
theorem dX8_see_0 : decode cX8_see 0 = .ok (.iload_n 1, 1) := by decide +kernel
theorem dX8_see_1 : decode cX8_see 1 = .ok (.iconst (-1), 1) := by decide +kernel
theorem dX8_see_2 : decode cX8_see 2 = .ok (.if_icmp .ne 13, 3) := by decide +kernel
theorem dX8_see_5 : decode cX8_see 5 = .ok (.aload_n 0, 1) := by decide +kernel
theorem dX8_see_6 : decode cX8_see 6 = .ok (.getfield 9, 3) := by decide +kernel
theorem dX8_see_9 : decode cX8_see 9 = .ok (.bipush 14, 2) := by decide +kernel
theorem dX8_see_11 : decode cX8_see 11 = .ok (.iconst 0, 1) := by decide +kernel
theorem dX8_see_12 : decode cX8_see 12 = .ok (.iastore, 1) := by decide +kernel
theorem dX8_see_13 : decode cX8_see 13 = .ok (.iconst 0, 1) := by decide +kernel
theorem dX8_see_14 : decode cX8_see 14 = .ok (.ireturn, 1) := by decide +kernel
theorem dX8_see_15 : decode cX8_see 15 = .ok (.aload_n 0, 1) := by decide +kernel
theorem dX8_see_16 : decode cX8_see 16 = .ok (.iload_n 1, 1) := by decide +kernel
theorem dX8_see_17 : decode cX8_see 17 = .ok (.invokevirtual 169, 3) := by decide +kernel
theorem dX8_see_20 : decode cX8_see 20 = .ok (.ifCond .ne 5, 3) := by decide +kernel
theorem dX8_see_23 : decode cX8_see 23 = .ok (.iconst (-1), 1) := by decide +kernel
theorem dX8_see_24 : decode cX8_see 24 = .ok (.ireturn, 1) := by decide +kernel
theorem dX8_see_25 : decode cX8_see 25 = .ok (.iload_n 2, 1) := by decide +kernel
theorem dX8_see_26 : decode cX8_see 26 = .ok (.invokestatic 243, 3) := by decide +kernel
theorem dX8_see_29 : decode cX8_see 29 = .ok (.ifCond .ne 6, 3) := by decide +kernel
theorem dX8_see_32 : decode cX8_see 32 = .ok (.bipush (-2), 2) := by decide +kernel
theorem dX8_see_34 : decode cX8_see 34 = .ok (.ireturn, 1) := by decide +kernel
theorem dX8_see_35 : decode cX8_see 35 = .ok (.aload_n 0, 1) := by decide +kernel
theorem dX8_see_36 : decode cX8_see 36 = .ok (.getfield 9, 3) := by decide +kernel
theorem dX8_see_39 : decode cX8_see 39 = .ok (.bipush 14, 2) := by decide +kernel
theorem dX8_see_41 : decode cX8_see 41 = .ok (.iaload, 1) := by decide +kernel
theorem dX8_see_42 : decode cX8_see 42 = .ok (.iconst 5, 1) := by decide +kernel
theorem dX8_see_43 : decode cX8_see 43 = .ok (.if_icmp .ne 6, 3) := by decide +kernel
theorem dX8_see_46 : decode cX8_see 46 = .ok (.bipush (-4), 2) := by decide +kernel
theorem dX8_see_48 : decode cX8_see 48 = .ok (.ireturn, 1) := by decide +kernel
theorem dX8_see_49 : decode cX8_see 49 = .ok (.aload_n 0, 1) := by decide +kernel
theorem dX8_see_50 : decode cX8_see 50 = .ok (.getfield 9, 3) := by decide +kernel
theorem dX8_see_53 : decode cX8_see 53 = .ok (.bipush 73, 2) := by decide +kernel
theorem dX8_see_55 : decode cX8_see 55 = .ok (.aload_n 0, 1) := by decide +kernel
theorem dX8_see_56 : decode cX8_see 56 = .ok (.getfield 9, 3) := by decide +kernel
theorem dX8_see_59 : decode cX8_see 59 = .ok (.bipush 14, 2) := by decide +kernel
theorem dX8_see_61 : decode cX8_see 61 = .ok (.iaload, 1) := by decide +kernel
theorem dX8_see_62 : decode cX8_see 62 = .ok (.iadd, 1) := by decide +kernel
theorem dX8_see_63 : decode cX8_see 63 = .ok (.iload_n 1, 1) := by decide +kernel
theorem dX8_see_64 : decode cX8_see 64 = .ok (.iastore, 1) := by decide +kernel
theorem dX8_see_65 : decode cX8_see 65 = .ok (.aload_n 0, 1) := by decide +kernel
theorem dX8_see_66 : decode cX8_see 66 = .ok (.getfield 9, 3) := by decide +kernel
theorem dX8_see_69 : decode cX8_see 69 = .ok (.bipush 78, 2) := by decide +kernel
theorem dX8_see_71 : decode cX8_see 71 = .ok (.aload_n 0, 1) := by decide +kernel
theorem dX8_see_72 : decode cX8_see 72 = .ok (.getfield 9, 3) := by decide +kernel
theorem dX8_see_75 : decode cX8_see 75 = .ok (.bipush 14, 2) := by decide +kernel
theorem dX8_see_77 : decode cX8_see 77 = .ok (.iaload, 1) := by decide +kernel
theorem dX8_see_78 : decode cX8_see 78 = .ok (.iadd, 1) := by decide +kernel
theorem dX8_see_79 : decode cX8_see 79 = .ok (.iload_n 2, 1) := by decide +kernel
theorem dX8_see_80 : decode cX8_see 80 = .ok (.iastore, 1) := by decide +kernel
theorem dX8_see_81 : decode cX8_see 81 = .ok (.aload_n 0, 1) := by decide +kernel
theorem dX8_see_82 : decode cX8_see 82 = .ok (.getfield 9, 3) := by decide +kernel
theorem dX8_see_85 : decode cX8_see 85 = .ok (.bipush 14, 2) := by decide +kernel
theorem dX8_see_87 : decode cX8_see 87 = .ok (.dup2, 1) := by decide +kernel
theorem dX8_see_88 : decode cX8_see 88 = .ok (.iaload, 1) := by decide +kernel
theorem dX8_see_89 : decode cX8_see 89 = .ok (.iconst 1, 1) := by decide +kernel
theorem dX8_see_90 : decode cX8_see 90 = .ok (.iadd, 1) := by decide +kernel
theorem dX8_see_91 : decode cX8_see 91 = .ok (.iastore, 1) := by decide +kernel
theorem dX8_see_92 : decode cX8_see 92 = .ok (.aload_n 0, 1) := by decide +kernel
theorem dX8_see_93 : decode cX8_see 93 = .ok (.getfield 9, 3) := by decide +kernel
theorem dX8_see_96 : decode cX8_see 96 = .ok (.bipush 14, 2) := by decide +kernel
theorem dX8_see_98 : decode cX8_see 98 = .ok (.iaload, 1) := by decide +kernel
theorem dX8_see_99 : decode cX8_see 99 = .ok (.ireturn, 1) := by decide +kernel
theorem dX8_isAsSeen_0 : decode cX8_isAsSeen 0 = .ok (.iconst 1, 1) := by decide +kernel
theorem dX8_isAsSeen_1 : decode cX8_isAsSeen 1 = .ok (.istore_n 3, 1) := by decide +kernel
theorem dX8_isAsSeen_2 : decode cX8_isAsSeen 2 = .ok (.iconst 0, 1) := by decide +kernel
theorem dX8_isAsSeen_3 : decode cX8_isAsSeen 3 = .ok (.istore 4, 2) := by decide +kernel
theorem dX8_isAsSeen_5 : decode cX8_isAsSeen 5 = .ok (.iload 4, 2) := by decide +kernel
theorem dX8_isAsSeen_7 : decode cX8_isAsSeen 7 = .ok (.aload_n 0, 1) := by decide +kernel
theorem dX8_isAsSeen_8 : decode cX8_isAsSeen 8 = .ok (.getfield 9, 3) := by decide +kernel
theorem dX8_isAsSeen_11 : decode cX8_isAsSeen 11 = .ok (.bipush 14, 2) := by decide +kernel
theorem dX8_isAsSeen_13 : decode cX8_isAsSeen 13 = .ok (.iaload, 1) := by decide +kernel
theorem dX8_isAsSeen_14 : decode cX8_isAsSeen 14 = .ok (.if_icmp .ge 47, 3) := by decide +kernel
theorem dX8_isAsSeen_17 : decode cX8_isAsSeen 17 = .ok (.iload_n 3, 1) := by decide +kernel
theorem dX8_isAsSeen_18 : decode cX8_isAsSeen 18 = .ok (.ifCond .eq 35, 3) := by decide +kernel
theorem dX8_isAsSeen_21 : decode cX8_isAsSeen 21 = .ok (.aload_n 0, 1) := by decide +kernel
theorem dX8_isAsSeen_22 : decode cX8_isAsSeen 22 = .ok (.getfield 9, 3) := by decide +kernel
theorem dX8_isAsSeen_25 : decode cX8_isAsSeen 25 = .ok (.bipush 73, 2) := by decide +kernel
theorem dX8_isAsSeen_27 : decode cX8_isAsSeen 27 = .ok (.iload 4, 2) := by decide +kernel
theorem dX8_isAsSeen_29 : decode cX8_isAsSeen 29 = .ok (.iadd, 1) := by decide +kernel
theorem dX8_isAsSeen_30 : decode cX8_isAsSeen 30 = .ok (.iaload, 1) := by decide +kernel
theorem dX8_isAsSeen_31 : decode cX8_isAsSeen 31 = .ok (.iload_n 1, 1) := by decide +kernel
theorem dX8_isAsSeen_32 : decode cX8_isAsSeen 32 = .ok (.if_icmp .ne 17, 3) := by decide +kernel
theorem dX8_isAsSeen_35 : decode cX8_isAsSeen 35 = .ok (.aload_n 0, 1) := by decide +kernel
theorem dX8_isAsSeen_36 : decode cX8_isAsSeen 36 = .ok (.getfield 9, 3) := by decide +kernel
theorem dX8_isAsSeen_39 : decode cX8_isAsSeen 39 = .ok (.bipush 78, 2) := by decide +kernel
theorem dX8_isAsSeen_41 : decode cX8_isAsSeen 41 = .ok (.iload 4, 2) := by decide +kernel
theorem dX8_isAsSeen_43 : decode cX8_isAsSeen 43 = .ok (.iadd, 1) := by decide +kernel
theorem dX8_isAsSeen_44 : decode cX8_isAsSeen 44 = .ok (.iaload, 1) := by decide +kernel
theorem dX8_isAsSeen_45 : decode cX8_isAsSeen 45 = .ok (.iload_n 2, 1) := by decide +kernel
theorem dX8_isAsSeen_46 : decode cX8_isAsSeen 46 = .ok (.if_icmp .ne 7, 3) := by decide +kernel
theorem dX8_isAsSeen_49 : decode cX8_isAsSeen 49 = .ok (.iconst 1, 1) := by decide +kernel
theorem dX8_isAsSeen_50 : decode cX8_isAsSeen 50 = .ok (.goto 4, 3) := by decide +kernel
theorem dX8_isAsSeen_53 : decode cX8_isAsSeen 53 = .ok (.iconst 0, 1) := by decide +kernel
theorem dX8_isAsSeen_54 : decode cX8_isAsSeen 54 = .ok (.istore_n 3, 1) := by decide +kernel
theorem dX8_isAsSeen_55 : decode cX8_isAsSeen 55 = .ok (.iinc 4 1, 3) := by decide +kernel
theorem dX8_isAsSeen_58 : decode cX8_isAsSeen 58 = .ok (.goto (-53), 3) := by decide +kernel
theorem dX8_isAsSeen_61 : decode cX8_isAsSeen 61 = .ok (.iload_n 3, 1) := by decide +kernel
theorem dX8_isAsSeen_62 : decode cX8_isAsSeen 62 = .ok (.ireturn, 1) := by decide +kernel
theorem dX8_drank_0 : decode cX8_drank 0 = .ok (.aload_n 0, 1) := by decide +kernel
theorem dX8_drank_1 : decode cX8_drank 1 = .ok (.iload_n 1, 1) := by decide +kernel
theorem dX8_drank_2 : decode cX8_drank 2 = .ok (.invokevirtual 169, 3) := by decide +kernel
theorem dX8_drank_5 : decode cX8_drank 5 = .ok (.ifCond .ne 5, 3) := by decide +kernel
theorem dX8_drank_8 : decode cX8_drank 8 = .ok (.iconst (-1), 1) := by decide +kernel
theorem dX8_drank_9 : decode cX8_drank 9 = .ok (.ireturn, 1) := by decide +kernel
theorem dX8_drank_10 : decode cX8_drank 10 = .ok (.aload_n 0, 1) := by decide +kernel
theorem dX8_drank_11 : decode cX8_drank 11 = .ok (.iload_n 1, 1) := by decide +kernel
theorem dX8_drank_12 : decode cX8_drank 12 = .ok (.aload_n 0, 1) := by decide +kernel
theorem dX8_drank_13 : decode cX8_drank 13 = .ok (.iload_n 1, 1) := by decide +kernel
theorem dX8_drank_14 : decode cX8_drank 14 = .ok (.iconst (-1), 1) := by decide +kernel
theorem dX8_drank_15 : decode cX8_drank 15 = .ok (.invokevirtual 146, 3) := by decide +kernel
theorem dX8_drank_18 : decode cX8_drank 18 = .ok (.invokevirtual 246, 3) := by decide +kernel
theorem dX8_drank_21 : decode cX8_drank 21 = .ok (.ifCond .eq 8, 3) := by decide +kernel
theorem dX8_drank_24 : decode cX8_drank 24 = .ok (.bipush 32, 2) := by decide +kernel
theorem dX8_drank_26 : decode cX8_drank 26 = .ok (.goto 4, 3) := by decide +kernel
theorem dX8_drank_29 : decode cX8_drank 29 = .ok (.iconst 0, 1) := by decide +kernel
theorem dX8_drank_30 : decode cX8_drank 30 = .ok (.istore_n 2, 1) := by decide +kernel
theorem dX8_drank_31 : decode cX8_drank 31 = .ok (.iconst 0, 1) := by decide +kernel
theorem dX8_drank_32 : decode cX8_drank 32 = .ok (.istore_n 3, 1) := by decide +kernel
theorem dX8_drank_33 : decode cX8_drank 33 = .ok (.iload_n 3, 1) := by decide +kernel
theorem dX8_drank_34 : decode cX8_drank 34 = .ok (.aload_n 0, 1) := by decide +kernel
theorem dX8_drank_35 : decode cX8_drank 35 = .ok (.getfield 9, 3) := by decide +kernel
theorem dX8_drank_38 : decode cX8_drank 38 = .ok (.bipush 19, 2) := by decide +kernel
theorem dX8_drank_40 : decode cX8_drank 40 = .ok (.iaload, 1) := by decide +kernel
theorem dX8_drank_41 : decode cX8_drank 41 = .ok (.if_icmp .ge 33, 3) := by decide +kernel
theorem dX8_drank_44 : decode cX8_drank 44 = .ok (.iload_n 2, 1) := by decide +kernel
theorem dX8_drank_45 : decode cX8_drank 45 = .ok (.aload_n 0, 1) := by decide +kernel
theorem dX8_drank_46 : decode cX8_drank 46 = .ok (.iload_n 1, 1) := by decide +kernel
theorem dX8_drank_47 : decode cX8_drank 47 = .ok (.aload_n 0, 1) := by decide +kernel
theorem dX8_drank_48 : decode cX8_drank 48 = .ok (.iload_n 1, 1) := by decide +kernel
theorem dX8_drank_49 : decode cX8_drank 49 = .ok (.iload_n 3, 1) := by decide +kernel
theorem dX8_drank_50 : decode cX8_drank 50 = .ok (.invokevirtual 146, 3) := by decide +kernel
theorem dX8_drank_53 : decode cX8_drank 53 = .ok (.invokevirtual 246, 3) := by decide +kernel
theorem dX8_drank_56 : decode cX8_drank 56 = .ok (.ifCond .eq 9, 3) := by decide +kernel
theorem dX8_drank_59 : decode cX8_drank 59 = .ok (.iconst 1, 1) := by decide +kernel
theorem dX8_drank_60 : decode cX8_drank 60 = .ok (.iload_n 3, 1) := by decide +kernel
theorem dX8_drank_61 : decode cX8_drank 61 = .ok (.ishl, 1) := by decide +kernel
theorem dX8_drank_62 : decode cX8_drank 62 = .ok (.goto 4, 3) := by decide +kernel
theorem dX8_drank_65 : decode cX8_drank 65 = .ok (.iconst 0, 1) := by decide +kernel
theorem dX8_drank_66 : decode cX8_drank 66 = .ok (.ior, 1) := by decide +kernel
theorem dX8_drank_67 : decode cX8_drank 67 = .ok (.istore_n 2, 1) := by decide +kernel
theorem dX8_drank_68 : decode cX8_drank 68 = .ok (.iinc 3 1, 3) := by decide +kernel
theorem dX8_drank_71 : decode cX8_drank 71 = .ok (.goto (-38), 3) := by decide +kernel
theorem dX8_drank_74 : decode cX8_drank 74 = .ok (.iload_n 2, 1) := by decide +kernel
theorem dX8_drank_75 : decode cX8_drank 75 = .ok (.ireturn, 1) := by decide +kernel
theorem dX8_looksForFitting_0 : decode cX8_looksForFitting 0 = .ok (.aload_n 0, 1) := by decide +kernel
theorem dX8_looksForFitting_1 : decode cX8_looksForFitting 1 = .ok (.getfield 9, 3) := by decide +kernel
theorem dX8_looksForFitting_4 : decode cX8_looksForFitting 4 = .ok (.iload_n 2, 1) := by decide +kernel
theorem dX8_looksForFitting_5 : decode cX8_looksForFitting 5 = .ok (.iaload, 1) := by decide +kernel
theorem dX8_looksForFitting_6 : decode cX8_looksForFitting 6 = .ok (.istore 4, 2) := by decide +kernel
theorem dX8_looksForFitting_8 : decode cX8_looksForFitting 8 = .ok (.aload_n 0, 1) := by decide +kernel
theorem dX8_looksForFitting_9 : decode cX8_looksForFitting 9 = .ok (.iconst 0, 1) := by decide +kernel
theorem dX8_looksForFitting_10 : decode cX8_looksForFitting 10 = .ok (.putfield 249, 3) := by decide +kernel
theorem dX8_looksForFitting_13 : decode cX8_looksForFitting 13 = .ok (.aload_n 0, 1) := by decide +kernel
theorem dX8_looksForFitting_14 : decode cX8_looksForFitting 14 = .ok (.bipush (-5), 2) := by decide +kernel
theorem dX8_looksForFitting_16 : decode cX8_looksForFitting 16 = .ok (.putfield 252, 3) := by decide +kernel
theorem dX8_looksForFitting_19 : decode cX8_looksForFitting 19 = .ok (.iload_n 3, 1) := by decide +kernel
theorem dX8_looksForFitting_20 : decode cX8_looksForFitting 20 = .ok (.istore 5, 2) := by decide +kernel
theorem dX8_looksForFitting_22 : decode cX8_looksForFitting 22 = .ok (.iload 5, 2) := by decide +kernel
theorem dX8_looksForFitting_24 : decode cX8_looksForFitting 24 = .ok (.ifCond .lt 66, 3) := by decide +kernel
theorem dX8_looksForFitting_27 : decode cX8_looksForFitting 27 = .ok (.aload_n 0, 1) := by decide +kernel
theorem dX8_looksForFitting_28 : decode cX8_looksForFitting 28 = .ok (.getfield 9, 3) := by decide +kernel
theorem dX8_looksForFitting_31 : decode cX8_looksForFitting 31 = .ok (.iload_n 2, 1) := by decide +kernel
theorem dX8_looksForFitting_32 : decode cX8_looksForFitting 32 = .ok (.iload 5, 2) := by decide +kernel
theorem dX8_looksForFitting_34 : decode cX8_looksForFitting 34 = .ok (.iastore, 1) := by decide +kernel
theorem dX8_looksForFitting_35 : decode cX8_looksForFitting 35 = .ok (.aload_n 0, 1) := by decide +kernel
theorem dX8_looksForFitting_36 : decode cX8_looksForFitting 36 = .ok (.iload_n 1, 1) := by decide +kernel
theorem dX8_looksForFitting_37 : decode cX8_looksForFitting 37 = .ok (.aload_n 0, 1) := by decide +kernel
theorem dX8_looksForFitting_38 : decode cX8_looksForFitting 38 = .ok (.iload_n 1, 1) := by decide +kernel
theorem dX8_looksForFitting_39 : decode cX8_looksForFitting 39 = .ok (.invokevirtual 155, 3) := by decide +kernel
theorem dX8_looksForFitting_42 : decode cX8_looksForFitting 42 = .ok (.invokevirtual 246, 3) := by decide +kernel
theorem dX8_looksForFitting_45 : decode cX8_looksForFitting 45 = .ok (.istore 6, 2) := by decide +kernel
theorem dX8_looksForFitting_47 : decode cX8_looksForFitting 47 = .ok (.aload_n 0, 1) := by decide +kernel
theorem dX8_looksForFitting_48 : decode cX8_looksForFitting 48 = .ok (.dup, 1) := by decide +kernel
theorem dX8_looksForFitting_49 : decode cX8_looksForFitting 49 = .ok (.getfield 249, 3) := by decide +kernel
theorem dX8_looksForFitting_52 : decode cX8_looksForFitting 52 = .ok (.iload 6, 2) := by decide +kernel
theorem dX8_looksForFitting_54 : decode cX8_looksForFitting 54 = .ok (.ifCond .eq 7, 3) := by decide +kernel
theorem dX8_looksForFitting_57 : decode cX8_looksForFitting 57 = .ok (.iconst 1, 1) := by decide +kernel
theorem dX8_looksForFitting_58 : decode cX8_looksForFitting 58 = .ok (.goto 4, 3) := by decide +kernel
theorem dX8_looksForFitting_61 : decode cX8_looksForFitting 61 = .ok (.iconst 0, 1) := by decide +kernel
theorem dX8_looksForFitting_62 : decode cX8_looksForFitting 62 = .ok (.iadd, 1) := by decide +kernel
theorem dX8_looksForFitting_63 : decode cX8_looksForFitting 63 = .ok (.putfield 249, 3) := by decide +kernel
theorem dX8_looksForFitting_66 : decode cX8_looksForFitting 66 = .ok (.aload_n 0, 1) := by decide +kernel
theorem dX8_looksForFitting_67 : decode cX8_looksForFitting 67 = .ok (.iload 6, 2) := by decide +kernel
theorem dX8_looksForFitting_69 : decode cX8_looksForFitting 69 = .ok (.ifCond .eq 8, 3) := by decide +kernel
theorem dX8_looksForFitting_72 : decode cX8_looksForFitting 72 = .ok (.iload 5, 2) := by decide +kernel
theorem dX8_looksForFitting_74 : decode cX8_looksForFitting 74 = .ok (.goto 7, 3) := by decide +kernel
theorem dX8_looksForFitting_77 : decode cX8_looksForFitting 77 = .ok (.aload_n 0, 1) := by decide +kernel
theorem dX8_looksForFitting_78 : decode cX8_looksForFitting 78 = .ok (.getfield 252, 3) := by decide +kernel
theorem dX8_looksForFitting_81 : decode cX8_looksForFitting 81 = .ok (.putfield 252, 3) := by decide +kernel
theorem dX8_looksForFitting_84 : decode cX8_looksForFitting 84 = .ok (.iinc 5 (-1), 3) := by decide +kernel
theorem dX8_looksForFitting_87 : decode cX8_looksForFitting 87 = .ok (.goto (-65), 3) := by decide +kernel
theorem dX8_looksForFitting_90 : decode cX8_looksForFitting 90 = .ok (.aload_n 0, 1) := by decide +kernel
theorem dX8_looksForFitting_91 : decode cX8_looksForFitting 91 = .ok (.getfield 9, 3) := by decide +kernel
theorem dX8_looksForFitting_94 : decode cX8_looksForFitting 94 = .ok (.iload_n 2, 1) := by decide +kernel
theorem dX8_looksForFitting_95 : decode cX8_looksForFitting 95 = .ok (.iload 4, 2) := by decide +kernel
theorem dX8_looksForFitting_97 : decode cX8_looksForFitting 97 = .ok (.iastore, 1) := by decide +kernel
theorem dX8_looksForFitting_98 : decode cX8_looksForFitting 98 = .ok (.return_, 1) := by decide +kernel
theorem dX8_birth_0 : decode cX8_birth 0 = .ok (.aload_n 0, 1) := by decide +kernel
theorem dX8_birth_1 : decode cX8_birth 1 = .ok (.iload_n 1, 1) := by decide +kernel
theorem dX8_birth_2 : decode cX8_birth 2 = .ok (.invokevirtual 169, 3) := by decide +kernel
theorem dX8_birth_5 : decode cX8_birth 5 = .ok (.ifCond .eq 12, 3) := by decide +kernel
theorem dX8_birth_8 : decode cX8_birth 8 = .ok (.iload_n 2, 1) := by decide +kernel
theorem dX8_birth_9 : decode cX8_birth 9 = .ok (.iconst 0, 1) := by decide +kernel
theorem dX8_birth_10 : decode cX8_birth 10 = .ok (.iconst 1, 1) := by decide +kernel
theorem dX8_birth_11 : decode cX8_birth 11 = .ok (.invokestatic 53, 3) := by decide +kernel
theorem dX8_birth_14 : decode cX8_birth 14 = .ok (.ifCond .ne 5, 3) := by decide +kernel
theorem dX8_birth_17 : decode cX8_birth 17 = .ok (.iconst (-1), 1) := by decide +kernel
theorem dX8_birth_18 : decode cX8_birth 18 = .ok (.ireturn, 1) := by decide +kernel
theorem dX8_birth_19 : decode cX8_birth 19 = .ok (.aload_n 0, 1) := by decide +kernel
theorem dX8_birth_20 : decode cX8_birth 20 = .ok (.iload_n 1, 1) := by decide +kernel
theorem dX8_birth_21 : decode cX8_birth 21 = .ok (.bipush 32, 2) := by decide +kernel
theorem dX8_birth_23 : decode cX8_birth 23 = .ok (.iload_n 1, 1) := by decide +kernel
theorem dX8_birth_24 : decode cX8_birth 24 = .ok (.iadd, 1) := by decide +kernel
theorem dX8_birth_25 : decode cX8_birth 25 = .ok (.sipush 199, 3) := by decide +kernel
theorem dX8_birth_28 : decode cX8_birth 28 = .ok (.invokevirtual 255, 3) := by decide +kernel
theorem dX8_birth_31 : decode cX8_birth 31 = .ok (.iload_n 2, 1) := by decide +kernel
theorem dX8_birth_32 : decode cX8_birth 32 = .ok (.ifCond .ne 10, 3) := by decide +kernel
theorem dX8_birth_35 : decode cX8_birth 35 = .ok (.aload_n 0, 1) := by decide +kernel
theorem dX8_birth_36 : decode cX8_birth 36 = .ok (.getfield 249, 3) := by decide +kernel
theorem dX8_birth_39 : decode cX8_birth 39 = .ok (.goto 7, 3) := by decide +kernel
theorem dX8_birth_42 : decode cX8_birth 42 = .ok (.aload_n 0, 1) := by decide +kernel
theorem dX8_birth_43 : decode cX8_birth 43 = .ok (.getfield 252, 3) := by decide +kernel
theorem dX8_birth_46 : decode cX8_birth 46 = .ok (.ireturn, 1) := by decide +kernel
theorem dX8_firm_0 : decode cX8_firm 0 = .ok (.aload_n 0, 1) := by decide +kernel
theorem dX8_firm_1 : decode cX8_firm 1 = .ok (.iload_n 1, 1) := by decide +kernel
theorem dX8_firm_2 : decode cX8_firm 2 = .ok (.invokevirtual 169, 3) := by decide +kernel
theorem dX8_firm_5 : decode cX8_firm 5 = .ok (.ifCond .eq 12, 3) := by decide +kernel
theorem dX8_firm_8 : decode cX8_firm 8 = .ok (.iload_n 2, 1) := by decide +kernel
theorem dX8_firm_9 : decode cX8_firm 9 = .ok (.iconst 0, 1) := by decide +kernel
theorem dX8_firm_10 : decode cX8_firm 10 = .ok (.iconst 1, 1) := by decide +kernel
theorem dX8_firm_11 : decode cX8_firm 11 = .ok (.invokestatic 53, 3) := by decide +kernel
theorem dX8_firm_14 : decode cX8_firm 14 = .ok (.ifCond .ne 5, 3) := by decide +kernel
theorem dX8_firm_17 : decode cX8_firm 17 = .ok (.iconst (-1), 1) := by decide +kernel
theorem dX8_firm_18 : decode cX8_firm 18 = .ok (.ireturn, 1) := by decide +kernel
theorem dX8_firm_19 : decode cX8_firm 19 = .ok (.aload_n 0, 1) := by decide +kernel
theorem dX8_firm_20 : decode cX8_firm 20 = .ok (.iload_n 1, 1) := by decide +kernel
theorem dX8_firm_21 : decode cX8_firm 21 = .ok (.bipush 26, 2) := by decide +kernel
theorem dX8_firm_23 : decode cX8_firm 23 = .ok (.iload_n 1, 1) := by decide +kernel
theorem dX8_firm_24 : decode cX8_firm 24 = .ok (.iadd, 1) := by decide +kernel
theorem dX8_firm_25 : decode cX8_firm 25 = .ok (.bipush 9, 2) := by decide +kernel
theorem dX8_firm_27 : decode cX8_firm 27 = .ok (.invokevirtual 255, 3) := by decide +kernel
theorem dX8_firm_30 : decode cX8_firm 30 = .ok (.iload_n 2, 1) := by decide +kernel
theorem dX8_firm_31 : decode cX8_firm 31 = .ok (.ifCond .ne 10, 3) := by decide +kernel
theorem dX8_firm_34 : decode cX8_firm 34 = .ok (.aload_n 0, 1) := by decide +kernel
theorem dX8_firm_35 : decode cX8_firm 35 = .ok (.getfield 249, 3) := by decide +kernel
theorem dX8_firm_38 : decode cX8_firm 38 = .ok (.goto 7, 3) := by decide +kernel
theorem dX8_firm_41 : decode cX8_firm 41 = .ok (.aload_n 0, 1) := by decide +kernel
theorem dX8_firm_42 : decode cX8_firm 42 = .ok (.getfield 252, 3) := by decide +kernel
theorem dX8_firm_45 : decode cX8_firm 45 = .ok (.ireturn, 1) := by decide +kernel
theorem dX8_lowest_0 : decode cX8_lowest 0 = .ok (.lload_n 0, 1) := by decide +kernel
theorem dX8_lowest_1 : decode cX8_lowest 1 = .ok (.lstore 5, 2) := by decide +kernel
theorem dX8_lowest_3 : decode cX8_lowest 3 = .ok (.lload_n 2, 1) := by decide +kernel
theorem dX8_lowest_4 : decode cX8_lowest 4 = .ok (.lstore 7, 2) := by decide +kernel
theorem dX8_lowest_6 : decode cX8_lowest 6 = .ok (.lload 7, 2) := by decide +kernel
theorem dX8_lowest_8 : decode cX8_lowest 8 = .ok (.lconst 0, 1) := by decide +kernel
theorem dX8_lowest_9 : decode cX8_lowest 9 = .ok (.lcmp, 1) := by decide +kernel
theorem dX8_lowest_10 : decode cX8_lowest 10 = .ok (.ifCond .eq 21, 3) := by decide +kernel
theorem dX8_lowest_13 : decode cX8_lowest 13 = .ok (.lload 5, 2) := by decide +kernel
theorem dX8_lowest_15 : decode cX8_lowest 15 = .ok (.lload 7, 2) := by decide +kernel
theorem dX8_lowest_17 : decode cX8_lowest 17 = .ok (.lrem, 1) := by decide +kernel
theorem dX8_lowest_18 : decode cX8_lowest 18 = .ok (.lstore 9, 2) := by decide +kernel
theorem dX8_lowest_20 : decode cX8_lowest 20 = .ok (.lload 7, 2) := by decide +kernel
theorem dX8_lowest_22 : decode cX8_lowest 22 = .ok (.lstore 5, 2) := by decide +kernel
theorem dX8_lowest_24 : decode cX8_lowest 24 = .ok (.lload 9, 2) := by decide +kernel
theorem dX8_lowest_26 : decode cX8_lowest 26 = .ok (.lstore 7, 2) := by decide +kernel
theorem dX8_lowest_28 : decode cX8_lowest 28 = .ok (.goto (-22), 3) := by decide +kernel
theorem dX8_lowest_31 : decode cX8_lowest 31 = .ok (.iload 4, 2) := by decide +kernel
theorem dX8_lowest_33 : decode cX8_lowest 33 = .ok (.ifCond .ne 7, 3) := by decide +kernel
theorem dX8_lowest_36 : decode cX8_lowest 36 = .ok (.lload_n 0, 1) := by decide +kernel
theorem dX8_lowest_37 : decode cX8_lowest 37 = .ok (.goto 4, 3) := by decide +kernel
theorem dX8_lowest_40 : decode cX8_lowest 40 = .ok (.lload_n 2, 1) := by decide +kernel
theorem dX8_lowest_41 : decode cX8_lowest 41 = .ok (.lload 5, 2) := by decide +kernel
theorem dX8_lowest_43 : decode cX8_lowest 43 = .ok (.ldiv, 1) := by decide +kernel
theorem dX8_lowest_44 : decode cX8_lowest 44 = .ok (.lreturn, 1) := by decide +kernel
theorem dX8_odds_0 : decode cX8_odds 0 = .ok (.aload_n 0, 1) := by decide +kernel
theorem dX8_odds_1 : decode cX8_odds 1 = .ok (.iload_n 1, 1) := by decide +kernel
theorem dX8_odds_2 : decode cX8_odds 2 = .ok (.invokevirtual 169, 3) := by decide +kernel
theorem dX8_odds_5 : decode cX8_odds 5 = .ok (.ifCond .eq 28, 3) := by decide +kernel
theorem dX8_odds_8 : decode cX8_odds 8 = .ok (.iload_n 2, 1) := by decide +kernel
theorem dX8_odds_9 : decode cX8_odds 9 = .ok (.iconst 0, 1) := by decide +kernel
theorem dX8_odds_10 : decode cX8_odds 10 = .ok (.iconst 3, 1) := by decide +kernel
theorem dX8_odds_11 : decode cX8_odds 11 = .ok (.invokestatic 53, 3) := by decide +kernel
theorem dX8_odds_14 : decode cX8_odds 14 = .ok (.ifCond .eq 19, 3) := by decide +kernel
theorem dX8_odds_17 : decode cX8_odds 17 = .ok (.iload_n 3, 1) := by decide +kernel
theorem dX8_odds_18 : decode cX8_odds 18 = .ok (.iconst 0, 1) := by decide +kernel
theorem dX8_odds_19 : decode cX8_odds 19 = .ok (.iconst 1, 1) := by decide +kernel
theorem dX8_odds_20 : decode cX8_odds 20 = .ok (.invokestatic 53, 3) := by decide +kernel
theorem dX8_odds_23 : decode cX8_odds 23 = .ok (.ifCond .eq 10, 3) := by decide +kernel
theorem dX8_odds_26 : decode cX8_odds 26 = .ok (.aload_n 0, 1) := by decide +kernel
theorem dX8_odds_27 : decode cX8_odds 27 = .ok (.invokevirtual 184, 3) := by decide +kernel
theorem dX8_odds_30 : decode cX8_odds 30 = .ok (.ifCond .ne 7, 3) := by decide +kernel
theorem dX8_odds_33 : decode cX8_odds 33 = .ok (.ldc2_w 259, 3) := by decide +kernel
theorem dX8_odds_36 : decode cX8_odds 36 = .ok (.lreturn, 1) := by decide +kernel
theorem dX8_odds_37 : decode cX8_odds 37 = .ok (.lconst 0, 1) := by decide +kernel
theorem dX8_odds_38 : decode cX8_odds 38 = .ok (.lstore 4, 2) := by decide +kernel
theorem dX8_odds_40 : decode cX8_odds 40 = .ok (.iconst 0, 1) := by decide +kernel
theorem dX8_odds_41 : decode cX8_odds 41 = .ok (.istore 6, 2) := by decide +kernel
theorem dX8_odds_43 : decode cX8_odds 43 = .ok (.iload 6, 2) := by decide +kernel
theorem dX8_odds_45 : decode cX8_odds 45 = .ok (.aload_n 0, 1) := by decide +kernel
theorem dX8_odds_46 : decode cX8_odds 46 = .ok (.getfield 9, 3) := by decide +kernel
theorem dX8_odds_49 : decode cX8_odds 49 = .ok (.bipush 19, 2) := by decide +kernel
theorem dX8_odds_51 : decode cX8_odds 51 = .ok (.iaload, 1) := by decide +kernel
theorem dX8_odds_52 : decode cX8_odds 52 = .ok (.if_icmp .ge 45, 3) := by decide +kernel
theorem dX8_odds_55 : decode cX8_odds 55 = .ok (.lload 4, 2) := by decide +kernel
theorem dX8_odds_57 : decode cX8_odds 57 = .ok (.aload_n 0, 1) := by decide +kernel
theorem dX8_odds_58 : decode cX8_odds 58 = .ok (.iload_n 1, 1) := by decide +kernel
theorem dX8_odds_59 : decode cX8_odds 59 = .ok (.aload_n 0, 1) := by decide +kernel
theorem dX8_odds_60 : decode cX8_odds 60 = .ok (.iload_n 1, 1) := by decide +kernel
theorem dX8_odds_61 : decode cX8_odds 61 = .ok (.iload 6, 2) := by decide +kernel
theorem dX8_odds_63 : decode cX8_odds 63 = .ok (.invokevirtual 146, 3) := by decide +kernel
theorem dX8_odds_66 : decode cX8_odds 66 = .ok (.invokevirtual 149, 3) := by decide +kernel
theorem dX8_odds_69 : decode cX8_odds 69 = .ok (.iload_n 2, 1) := by decide +kernel
theorem dX8_odds_70 : decode cX8_odds 70 = .ok (.if_icmp .ne 17, 3) := by decide +kernel
theorem dX8_odds_73 : decode cX8_odds 73 = .ok (.aload_n 0, 1) := by decide +kernel
theorem dX8_odds_74 : decode cX8_odds 74 = .ok (.getfield 9, 3) := by decide +kernel
theorem dX8_odds_77 : decode cX8_odds 77 = .ok (.bipush 7, 2) := by decide +kernel
theorem dX8_odds_79 : decode cX8_odds 79 = .ok (.iload 6, 2) := by decide +kernel
theorem dX8_odds_81 : decode cX8_odds 81 = .ok (.iadd, 1) := by decide +kernel
theorem dX8_odds_82 : decode cX8_odds 82 = .ok (.iaload, 1) := by decide +kernel
theorem dX8_odds_83 : decode cX8_odds 83 = .ok (.i2l, 1) := by decide +kernel
theorem dX8_odds_84 : decode cX8_odds 84 = .ok (.goto 4, 3) := by decide +kernel
theorem dX8_odds_87 : decode cX8_odds 87 = .ok (.lconst 0, 1) := by decide +kernel
theorem dX8_odds_88 : decode cX8_odds 88 = .ok (.ladd, 1) := by decide +kernel
theorem dX8_odds_89 : decode cX8_odds 89 = .ok (.lstore 4, 2) := by decide +kernel
theorem dX8_odds_91 : decode cX8_odds 91 = .ok (.iinc 6 1, 3) := by decide +kernel
theorem dX8_odds_94 : decode cX8_odds 94 = .ok (.goto (-51), 3) := by decide +kernel
theorem dX8_odds_97 : decode cX8_odds 97 = .ok (.lload 4, 2) := by decide +kernel
theorem dX8_odds_99 : decode cX8_odds 99 = .ok (.aload_n 0, 1) := by decide +kernel
theorem dX8_odds_100 : decode cX8_odds 100 = .ok (.invokevirtual 184, 3) := by decide +kernel
theorem dX8_odds_103 : decode cX8_odds 103 = .ok (.i2l, 1) := by decide +kernel
theorem dX8_odds_104 : decode cX8_odds 104 = .ok (.iload_n 3, 1) := by decide +kernel
theorem dX8_odds_105 : decode cX8_odds 105 = .ok (.invokestatic 261, 3) := by decide +kernel
theorem dX8_odds_108 : decode cX8_odds 108 = .ok (.lreturn, 1) := by decide +kernel
theorem dX8_mean_0 : decode cX8_mean 0 = .ok (.iload_n 1, 1) := by decide +kernel
theorem dX8_mean_1 : decode cX8_mean 1 = .ok (.iconst 0, 1) := by decide +kernel
theorem dX8_mean_2 : decode cX8_mean 2 = .ok (.iconst 1, 1) := by decide +kernel
theorem dX8_mean_3 : decode cX8_mean 3 = .ok (.invokestatic 53, 3) := by decide +kernel
theorem dX8_mean_6 : decode cX8_mean 6 = .ok (.ifCond .eq 10, 3) := by decide +kernel
theorem dX8_mean_9 : decode cX8_mean 9 = .ok (.aload_n 0, 1) := by decide +kernel
theorem dX8_mean_10 : decode cX8_mean 10 = .ok (.invokevirtual 178, 3) := by decide +kernel
theorem dX8_mean_13 : decode cX8_mean 13 = .ok (.ifCond .ne 7, 3) := by decide +kernel
theorem dX8_mean_16 : decode cX8_mean 16 = .ok (.ldc2_w 259, 3) := by decide +kernel
theorem dX8_mean_19 : decode cX8_mean 19 = .ok (.lreturn, 1) := by decide +kernel
theorem dX8_mean_20 : decode cX8_mean 20 = .ok (.lconst 0, 1) := by decide +kernel
theorem dX8_mean_21 : decode cX8_mean 21 = .ok (.lstore_n 2, 1) := by decide +kernel
theorem dX8_mean_22 : decode cX8_mean 22 = .ok (.iconst 0, 1) := by decide +kernel
theorem dX8_mean_23 : decode cX8_mean 23 = .ok (.istore 4, 2) := by decide +kernel
theorem dX8_mean_25 : decode cX8_mean 25 = .ok (.iload 4, 2) := by decide +kernel
theorem dX8_mean_27 : decode cX8_mean 27 = .ok (.aload_n 0, 1) := by decide +kernel
theorem dX8_mean_28 : decode cX8_mean 28 = .ok (.getfield 9, 3) := by decide +kernel
theorem dX8_mean_31 : decode cX8_mean 31 = .ok (.bipush 12, 2) := by decide +kernel
theorem dX8_mean_33 : decode cX8_mean 33 = .ok (.iaload, 1) := by decide +kernel
theorem dX8_mean_34 : decode cX8_mean 34 = .ok (.if_icmp .ge 32, 3) := by decide +kernel
theorem dX8_mean_37 : decode cX8_mean 37 = .ok (.lload_n 2, 1) := by decide +kernel
theorem dX8_mean_38 : decode cX8_mean 38 = .ok (.aload_n 0, 1) := by decide +kernel
theorem dX8_mean_39 : decode cX8_mean 39 = .ok (.iload 4, 2) := by decide +kernel
theorem dX8_mean_41 : decode cX8_mean 41 = .ok (.invokevirtual 159, 3) := by decide +kernel
theorem dX8_mean_44 : decode cX8_mean 44 = .ok (.ifCond .eq 13, 3) := by decide +kernel
theorem dX8_mean_47 : decode cX8_mean 47 = .ok (.aload_n 0, 1) := by decide +kernel
theorem dX8_mean_48 : decode cX8_mean 48 = .ok (.iload 4, 2) := by decide +kernel
theorem dX8_mean_50 : decode cX8_mean 50 = .ok (.invokevirtual 155, 3) := by decide +kernel
theorem dX8_mean_53 : decode cX8_mean 53 = .ok (.i2l, 1) := by decide +kernel
theorem dX8_mean_54 : decode cX8_mean 54 = .ok (.goto 4, 3) := by decide +kernel
theorem dX8_mean_57 : decode cX8_mean 57 = .ok (.lconst 0, 1) := by decide +kernel
theorem dX8_mean_58 : decode cX8_mean 58 = .ok (.ladd, 1) := by decide +kernel
theorem dX8_mean_59 : decode cX8_mean 59 = .ok (.lstore_n 2, 1) := by decide +kernel
theorem dX8_mean_60 : decode cX8_mean 60 = .ok (.iinc 4 1, 3) := by decide +kernel
theorem dX8_mean_63 : decode cX8_mean 63 = .ok (.goto (-38), 3) := by decide +kernel
theorem dX8_mean_66 : decode cX8_mean 66 = .ok (.lload_n 2, 1) := by decide +kernel
theorem dX8_mean_67 : decode cX8_mean 67 = .ok (.aload_n 0, 1) := by decide +kernel
theorem dX8_mean_68 : decode cX8_mean 68 = .ok (.invokevirtual 178, 3) := by decide +kernel
theorem dX8_mean_71 : decode cX8_mean 71 = .ok (.invokestatic 265, 3) := by decide +kernel
theorem dX8_mean_74 : decode cX8_mean 74 = .ok (.i2l, 1) := by decide +kernel
theorem dX8_mean_75 : decode cX8_mean 75 = .ok (.iload_n 1, 1) := by decide +kernel
theorem dX8_mean_76 : decode cX8_mean 76 = .ok (.invokestatic 261, 3) := by decide +kernel
theorem dX8_mean_79 : decode cX8_mean 79 = .ok (.lreturn, 1) := by decide +kernel
theorem dX8_night_0 : decode cX8_night 0 = .ok (.iload_n 1, 1) := by decide +kernel
theorem dX8_night_1 : decode cX8_night 1 = .ok (.iconst (-1), 1) := by decide +kernel
theorem dX8_night_2 : decode cX8_night 2 = .ok (.if_icmp .ne 13, 3) := by decide +kernel
theorem dX8_night_5 : decode cX8_night 5 = .ok (.aload_n 0, 1) := by decide +kernel
theorem dX8_night_6 : decode cX8_night 6 = .ok (.getfield 9, 3) := by decide +kernel
theorem dX8_night_9 : decode cX8_night 9 = .ok (.bipush 15, 2) := by decide +kernel
theorem dX8_night_11 : decode cX8_night 11 = .ok (.iconst 0, 1) := by decide +kernel
theorem dX8_night_12 : decode cX8_night 12 = .ok (.iastore, 1) := by decide +kernel
theorem dX8_night_13 : decode cX8_night 13 = .ok (.iconst 0, 1) := by decide +kernel
theorem dX8_night_14 : decode cX8_night 14 = .ok (.ireturn, 1) := by decide +kernel
theorem dX8_night_15 : decode cX8_night 15 = .ok (.iload_n 1, 1) := by decide +kernel
theorem dX8_night_16 : decode cX8_night 16 = .ok (.iconst 0, 1) := by decide +kernel
theorem dX8_night_17 : decode cX8_night 17 = .ok (.iconst 2, 1) := by decide +kernel
theorem dX8_night_18 : decode cX8_night 18 = .ok (.invokestatic 53, 3) := by decide +kernel
theorem dX8_night_21 : decode cX8_night 21 = .ok (.ifCond .eq 28, 3) := by decide +kernel
theorem dX8_night_24 : decode cX8_night 24 = .ok (.iload_n 1, 1) := by decide +kernel
theorem dX8_night_25 : decode cX8_night 25 = .ok (.ifCond .le 11, 3) := by decide +kernel
theorem dX8_night_28 : decode cX8_night 28 = .ok (.aload_n 0, 1) := by decide +kernel
theorem dX8_night_29 : decode cX8_night 29 = .ok (.iload_n 2, 1) := by decide +kernel
theorem dX8_night_30 : decode cX8_night 30 = .ok (.invokevirtual 169, 3) := by decide +kernel
theorem dX8_night_33 : decode cX8_night 33 = .ok (.ifCond .eq 16, 3) := by decide +kernel
theorem dX8_night_36 : decode cX8_night 36 = .ok (.iload_n 1, 1) := by decide +kernel
theorem dX8_night_37 : decode cX8_night 37 = .ok (.iconst 1, 1) := by decide +kernel
theorem dX8_night_38 : decode cX8_night 38 = .ok (.if_icmp .ne 13, 3) := by decide +kernel
theorem dX8_night_41 : decode cX8_night 41 = .ok (.aload_n 0, 1) := by decide +kernel
theorem dX8_night_42 : decode cX8_night 42 = .ok (.iload_n 3, 1) := by decide +kernel
theorem dX8_night_43 : decode cX8_night 43 = .ok (.invokevirtual 175, 3) := by decide +kernel
theorem dX8_night_46 : decode cX8_night 46 = .ok (.ifCond .ne 5, 3) := by decide +kernel
theorem dX8_night_49 : decode cX8_night 49 = .ok (.iconst (-1), 1) := by decide +kernel
theorem dX8_night_50 : decode cX8_night 50 = .ok (.ireturn, 1) := by decide +kernel
theorem dX8_night_51 : decode cX8_night 51 = .ok (.aload_n 0, 1) := by decide +kernel
theorem dX8_night_52 : decode cX8_night 52 = .ok (.getfield 9, 3) := by decide +kernel
theorem dX8_night_55 : decode cX8_night 55 = .ok (.bipush 15, 2) := by decide +kernel
theorem dX8_night_57 : decode cX8_night 57 = .ok (.iaload, 1) := by decide +kernel
theorem dX8_night_58 : decode cX8_night 58 = .ok (.bipush 8, 2) := by decide +kernel
theorem dX8_night_60 : decode cX8_night 60 = .ok (.if_icmp .ne 6, 3) := by decide +kernel
theorem dX8_night_63 : decode cX8_night 63 = .ok (.bipush (-4), 2) := by decide +kernel
theorem dX8_night_65 : decode cX8_night 65 = .ok (.ireturn, 1) := by decide +kernel
theorem dX8_night_66 : decode cX8_night 66 = .ok (.aload_n 0, 1) := by decide +kernel
theorem dX8_night_67 : decode cX8_night 67 = .ok (.getfield 9, 3) := by decide +kernel
theorem dX8_night_70 : decode cX8_night 70 = .ok (.bipush 83, 2) := by decide +kernel
theorem dX8_night_72 : decode cX8_night 72 = .ok (.aload_n 0, 1) := by decide +kernel
theorem dX8_night_73 : decode cX8_night 73 = .ok (.getfield 9, 3) := by decide +kernel
theorem dX8_night_76 : decode cX8_night 76 = .ok (.bipush 15, 2) := by decide +kernel
theorem dX8_night_78 : decode cX8_night 78 = .ok (.iaload, 1) := by decide +kernel
theorem dX8_night_79 : decode cX8_night 79 = .ok (.iadd, 1) := by decide +kernel
theorem dX8_night_80 : decode cX8_night 80 = .ok (.iload_n 1, 1) := by decide +kernel
theorem dX8_night_81 : decode cX8_night 81 = .ok (.iastore, 1) := by decide +kernel
theorem dX8_night_82 : decode cX8_night 82 = .ok (.aload_n 0, 1) := by decide +kernel
theorem dX8_night_83 : decode cX8_night 83 = .ok (.getfield 9, 3) := by decide +kernel
theorem dX8_night_86 : decode cX8_night 86 = .ok (.bipush 91, 2) := by decide +kernel
theorem dX8_night_88 : decode cX8_night 88 = .ok (.aload_n 0, 1) := by decide +kernel
theorem dX8_night_89 : decode cX8_night 89 = .ok (.getfield 9, 3) := by decide +kernel
theorem dX8_night_92 : decode cX8_night 92 = .ok (.bipush 15, 2) := by decide +kernel
theorem dX8_night_94 : decode cX8_night 94 = .ok (.iaload, 1) := by decide +kernel
theorem dX8_night_95 : decode cX8_night 95 = .ok (.iadd, 1) := by decide +kernel
theorem dX8_night_96 : decode cX8_night 96 = .ok (.iload_n 2, 1) := by decide +kernel
theorem dX8_night_97 : decode cX8_night 97 = .ok (.iastore, 1) := by decide +kernel
theorem dX8_night_98 : decode cX8_night 98 = .ok (.aload_n 0, 1) := by decide +kernel
theorem dX8_night_99 : decode cX8_night 99 = .ok (.getfield 9, 3) := by decide +kernel
theorem dX8_night_102 : decode cX8_night 102 = .ok (.bipush 99, 2) := by decide +kernel
theorem dX8_night_104 : decode cX8_night 104 = .ok (.aload_n 0, 1) := by decide +kernel
theorem dX8_night_105 : decode cX8_night 105 = .ok (.getfield 9, 3) := by decide +kernel
theorem dX8_night_108 : decode cX8_night 108 = .ok (.bipush 15, 2) := by decide +kernel
theorem dX8_night_110 : decode cX8_night 110 = .ok (.iaload, 1) := by decide +kernel
theorem dX8_night_111 : decode cX8_night 111 = .ok (.iadd, 1) := by decide +kernel
theorem dX8_night_112 : decode cX8_night 112 = .ok (.iload_n 3, 1) := by decide +kernel
theorem dX8_night_113 : decode cX8_night 113 = .ok (.iastore, 1) := by decide +kernel
theorem dX8_night_114 : decode cX8_night 114 = .ok (.aload_n 0, 1) := by decide +kernel
theorem dX8_night_115 : decode cX8_night 115 = .ok (.getfield 9, 3) := by decide +kernel
theorem dX8_night_118 : decode cX8_night 118 = .ok (.bipush 15, 2) := by decide +kernel
theorem dX8_night_120 : decode cX8_night 120 = .ok (.dup2, 1) := by decide +kernel
theorem dX8_night_121 : decode cX8_night 121 = .ok (.iaload, 1) := by decide +kernel
theorem dX8_night_122 : decode cX8_night 122 = .ok (.iconst 1, 1) := by decide +kernel
theorem dX8_night_123 : decode cX8_night 123 = .ok (.iadd, 1) := by decide +kernel
theorem dX8_night_124 : decode cX8_night 124 = .ok (.iastore, 1) := by decide +kernel
theorem dX8_night_125 : decode cX8_night 125 = .ok (.aload_n 0, 1) := by decide +kernel
theorem dX8_night_126 : decode cX8_night 126 = .ok (.getfield 9, 3) := by decide +kernel
theorem dX8_night_129 : decode cX8_night 129 = .ok (.bipush 15, 2) := by decide +kernel
theorem dX8_night_131 : decode cX8_night 131 = .ok (.iaload, 1) := by decide +kernel
theorem dX8_night_132 : decode cX8_night 132 = .ok (.ireturn, 1) := by decide +kernel
theorem dX8_does_0 : decode cX8_does 0 = .ok (.iload_n 1, 1) := by decide +kernel
theorem dX8_does_1 : decode cX8_does 1 = .ok (.ifCond .ne 10, 3) := by decide +kernel
theorem dX8_does_4 : decode cX8_does 4 = .ok (.aload_n 0, 1) := by decide +kernel
theorem dX8_does_5 : decode cX8_does 5 = .ok (.invokevirtual 191, 3) := by decide +kernel
theorem dX8_does_8 : decode cX8_does 8 = .ok (.goto 26, 3) := by decide +kernel
theorem dX8_does_11 : decode cX8_does 11 = .ok (.iload_n 1, 1) := by decide +kernel
theorem dX8_does_12 : decode cX8_does 12 = .ok (.iconst 1, 1) := by decide +kernel
theorem dX8_does_13 : decode cX8_does 13 = .ok (.if_icmp .ne 12, 3) := by decide +kernel
theorem dX8_does_16 : decode cX8_does 16 = .ok (.aload_n 0, 1) := by decide +kernel
theorem dX8_does_17 : decode cX8_does 17 = .ok (.iload_n 2, 1) := by decide +kernel
theorem dX8_does_18 : decode cX8_does 18 = .ok (.iload_n 3, 1) := by decide +kernel
theorem dX8_does_19 : decode cX8_does 19 = .ok (.invokevirtual 187, 3) := by decide +kernel
theorem dX8_does_22 : decode cX8_does 22 = .ok (.goto 12, 3) := by decide +kernel
theorem dX8_does_25 : decode cX8_does 25 = .ok (.aload_n 0, 1) := by decide +kernel
theorem dX8_does_26 : decode cX8_does 26 = .ok (.getfield 9, 3) := by decide +kernel
theorem dX8_does_29 : decode cX8_does 29 = .ok (.iconst 1, 1) := by decide +kernel
theorem dX8_does_30 : decode cX8_does 30 = .ok (.iload_n 2, 1) := by decide +kernel
theorem dX8_does_31 : decode cX8_does 31 = .ok (.iadd, 1) := by decide +kernel
theorem dX8_does_32 : decode cX8_does 32 = .ok (.iconst (-1), 1) := by decide +kernel
theorem dX8_does_33 : decode cX8_does 33 = .ok (.iastore, 1) := by decide +kernel
theorem dX8_does_34 : decode cX8_does 34 = .ok (.return_, 1) := by decide +kernel
theorem dX8_done_0 : decode cX8_done 0 = .ok (.iload_n 1, 1) := by decide +kernel
theorem dX8_done_1 : decode cX8_done 1 = .ok (.iconst 0, 1) := by decide +kernel
theorem dX8_done_2 : decode cX8_done 2 = .ok (.iconst 1, 1) := by decide +kernel
theorem dX8_done_3 : decode cX8_done 3 = .ok (.invokestatic 53, 3) := by decide +kernel
theorem dX8_done_6 : decode cX8_done 6 = .ok (.ifCond .ne 5, 3) := by decide +kernel
theorem dX8_done_9 : decode cX8_done 9 = .ok (.iconst (-1), 1) := by decide +kernel
theorem dX8_done_10 : decode cX8_done 10 = .ok (.ireturn, 1) := by decide +kernel
theorem dX8_done_11 : decode cX8_done 11 = .ok (.aload_n 0, 1) := by decide +kernel
theorem dX8_done_12 : decode cX8_done 12 = .ok (.invokevirtual 194, 3) := by decide +kernel
theorem dX8_done_15 : decode cX8_done 15 = .ok (.iconst 0, 1) := by decide +kernel
theorem dX8_done_16 : decode cX8_done 16 = .ok (.istore_n 2, 1) := by decide +kernel
theorem dX8_done_17 : decode cX8_done 17 = .ok (.iload_n 2, 1) := by decide +kernel
theorem dX8_done_18 : decode cX8_done 18 = .ok (.aload_n 0, 1) := by decide +kernel
theorem dX8_done_19 : decode cX8_done 19 = .ok (.getfield 9, 3) := by decide +kernel
theorem dX8_done_22 : decode cX8_done 22 = .ok (.bipush 15, 2) := by decide +kernel
theorem dX8_done_24 : decode cX8_done 24 = .ok (.iaload, 1) := by decide +kernel
theorem dX8_done_25 : decode cX8_done 25 = .ok (.if_icmp .ge 40, 3) := by decide +kernel
theorem dX8_done_28 : decode cX8_done 28 = .ok (.aload_n 0, 1) := by decide +kernel
theorem dX8_done_29 : decode cX8_done 29 = .ok (.aload_n 0, 1) := by decide +kernel
theorem dX8_done_30 : decode cX8_done 30 = .ok (.getfield 9, 3) := by decide +kernel
theorem dX8_done_33 : decode cX8_done 33 = .ok (.bipush 83, 2) := by decide +kernel
theorem dX8_done_35 : decode cX8_done 35 = .ok (.iload_n 2, 1) := by decide +kernel
theorem dX8_done_36 : decode cX8_done 36 = .ok (.iadd, 1) := by decide +kernel
theorem dX8_done_37 : decode cX8_done 37 = .ok (.iaload, 1) := by decide +kernel
theorem dX8_done_38 : decode cX8_done 38 = .ok (.aload_n 0, 1) := by decide +kernel
theorem dX8_done_39 : decode cX8_done 39 = .ok (.getfield 9, 3) := by decide +kernel
theorem dX8_done_42 : decode cX8_done 42 = .ok (.bipush 91, 2) := by decide +kernel
theorem dX8_done_44 : decode cX8_done 44 = .ok (.iload_n 2, 1) := by decide +kernel
theorem dX8_done_45 : decode cX8_done 45 = .ok (.iadd, 1) := by decide +kernel
theorem dX8_done_46 : decode cX8_done 46 = .ok (.iaload, 1) := by decide +kernel
theorem dX8_done_47 : decode cX8_done 47 = .ok (.aload_n 0, 1) := by decide +kernel
theorem dX8_done_48 : decode cX8_done 48 = .ok (.getfield 9, 3) := by decide +kernel
theorem dX8_done_51 : decode cX8_done 51 = .ok (.bipush 99, 2) := by decide +kernel
theorem dX8_done_53 : decode cX8_done 53 = .ok (.iload_n 2, 1) := by decide +kernel
theorem dX8_done_54 : decode cX8_done 54 = .ok (.iadd, 1) := by decide +kernel
theorem dX8_done_55 : decode cX8_done 55 = .ok (.iaload, 1) := by decide +kernel
theorem dX8_done_56 : decode cX8_done 56 = .ok (.invokevirtual 268, 3) := by decide +kernel
theorem dX8_done_59 : decode cX8_done 59 = .ok (.iinc 2 1, 3) := by decide +kernel
theorem dX8_done_62 : decode cX8_done 62 = .ok (.goto (-45), 3) := by decide +kernel
theorem dX8_done_65 : decode cX8_done 65 = .ok (.iload_n 1, 1) := by decide +kernel
theorem dX8_done_66 : decode cX8_done 66 = .ok (.ifCond .ne 13, 3) := by decide +kernel
theorem dX8_done_69 : decode cX8_done 69 = .ok (.aload_n 0, 1) := by decide +kernel
theorem dX8_done_70 : decode cX8_done 70 = .ok (.invokevirtual 178, 3) := by decide +kernel
theorem dX8_done_73 : decode cX8_done 73 = .ok (.invokestatic 265, 3) := by decide +kernel
theorem dX8_done_76 : decode cX8_done 76 = .ok (.goto 7, 3) := by decide +kernel
theorem dX8_done_79 : decode cX8_done 79 = .ok (.aload_n 0, 1) := by decide +kernel
theorem dX8_done_80 : decode cX8_done 80 = .ok (.invokevirtual 181, 3) := by decide +kernel
theorem dX8_done_83 : decode cX8_done 83 = .ok (.istore_n 2, 1) := by decide +kernel
theorem dX8_done_84 : decode cX8_done 84 = .ok (.aload_n 0, 1) := by decide +kernel
theorem dX8_done_85 : decode cX8_done 85 = .ok (.invokevirtual 197, 3) := by decide +kernel
theorem dX8_done_88 : decode cX8_done 88 = .ok (.iload_n 2, 1) := by decide +kernel
theorem dX8_done_89 : decode cX8_done 89 = .ok (.ireturn, 1) := by decide +kernel
theorem dX8_book_0 : decode cX8_book 0 = .ok (.iload_n 1, 1) := by decide +kernel
theorem dX8_book_1 : decode cX8_book 1 = .ok (.iconst (-1), 1) := by decide +kernel
theorem dX8_book_2 : decode cX8_book 2 = .ok (.if_icmp .ne 13, 3) := by decide +kernel
theorem dX8_book_5 : decode cX8_book 5 = .ok (.aload_n 0, 1) := by decide +kernel
theorem dX8_book_6 : decode cX8_book 6 = .ok (.getfield 9, 3) := by decide +kernel
theorem dX8_book_9 : decode cX8_book 9 = .ok (.bipush 16, 2) := by decide +kernel
theorem dX8_book_11 : decode cX8_book 11 = .ok (.iconst 0, 1) := by decide +kernel
theorem dX8_book_12 : decode cX8_book 12 = .ok (.iastore, 1) := by decide +kernel
theorem dX8_book_13 : decode cX8_book 13 = .ok (.iconst 0, 1) := by decide +kernel
theorem dX8_book_14 : decode cX8_book 14 = .ok (.ireturn, 1) := by decide +kernel
theorem dX8_book_15 : decode cX8_book 15 = .ok (.aload_n 0, 1) := by decide +kernel
theorem dX8_book_16 : decode cX8_book 16 = .ok (.iload_n 1, 1) := by decide +kernel
theorem dX8_book_17 : decode cX8_book 17 = .ok (.invokevirtual 169, 3) := by decide +kernel
theorem dX8_book_20 : decode cX8_book 20 = .ok (.ifCond .ne 5, 3) := by decide +kernel
theorem dX8_book_23 : decode cX8_book 23 = .ok (.iconst (-1), 1) := by decide +kernel
theorem dX8_book_24 : decode cX8_book 24 = .ok (.ireturn, 1) := by decide +kernel
theorem dX8_book_25 : decode cX8_book 25 = .ok (.iload_n 2, 1) := by decide +kernel
theorem dX8_book_26 : decode cX8_book 26 = .ok (.invokestatic 243, 3) := by decide +kernel
theorem dX8_book_29 : decode cX8_book 29 = .ok (.ifCond .ne 6, 3) := by decide +kernel
theorem dX8_book_32 : decode cX8_book 32 = .ok (.bipush (-2), 2) := by decide +kernel
theorem dX8_book_34 : decode cX8_book 34 = .ok (.ireturn, 1) := by decide +kernel
theorem dX8_book_35 : decode cX8_book 35 = .ok (.aload_n 0, 1) := by decide +kernel
theorem dX8_book_36 : decode cX8_book 36 = .ok (.getfield 9, 3) := by decide +kernel
theorem dX8_book_39 : decode cX8_book 39 = .ok (.bipush 16, 2) := by decide +kernel
theorem dX8_book_41 : decode cX8_book 41 = .ok (.iaload, 1) := by decide +kernel
theorem dX8_book_42 : decode cX8_book 42 = .ok (.bipush 8, 2) := by decide +kernel
theorem dX8_book_44 : decode cX8_book 44 = .ok (.if_icmp .ne 6, 3) := by decide +kernel
theorem dX8_book_47 : decode cX8_book 47 = .ok (.bipush (-4), 2) := by decide +kernel
theorem dX8_book_49 : decode cX8_book 49 = .ok (.ireturn, 1) := by decide +kernel
theorem dX8_book_50 : decode cX8_book 50 = .ok (.aload_n 0, 1) := by decide +kernel
theorem dX8_book_51 : decode cX8_book 51 = .ok (.getfield 9, 3) := by decide +kernel
theorem dX8_book_54 : decode cX8_book 54 = .ok (.bipush 107, 2) := by decide +kernel
theorem dX8_book_56 : decode cX8_book 56 = .ok (.aload_n 0, 1) := by decide +kernel
theorem dX8_book_57 : decode cX8_book 57 = .ok (.getfield 9, 3) := by decide +kernel
theorem dX8_book_60 : decode cX8_book 60 = .ok (.bipush 16, 2) := by decide +kernel
theorem dX8_book_62 : decode cX8_book 62 = .ok (.iaload, 1) := by decide +kernel
theorem dX8_book_63 : decode cX8_book 63 = .ok (.iadd, 1) := by decide +kernel
theorem dX8_book_64 : decode cX8_book 64 = .ok (.iload_n 1, 1) := by decide +kernel
theorem dX8_book_65 : decode cX8_book 65 = .ok (.iastore, 1) := by decide +kernel
theorem dX8_book_66 : decode cX8_book 66 = .ok (.aload_n 0, 1) := by decide +kernel
theorem dX8_book_67 : decode cX8_book 67 = .ok (.getfield 9, 3) := by decide +kernel
theorem dX8_book_70 : decode cX8_book 70 = .ok (.bipush 115, 2) := by decide +kernel
theorem dX8_book_72 : decode cX8_book 72 = .ok (.aload_n 0, 1) := by decide +kernel
theorem dX8_book_73 : decode cX8_book 73 = .ok (.getfield 9, 3) := by decide +kernel
theorem dX8_book_76 : decode cX8_book 76 = .ok (.bipush 16, 2) := by decide +kernel
theorem dX8_book_78 : decode cX8_book 78 = .ok (.iaload, 1) := by decide +kernel
theorem dX8_book_79 : decode cX8_book 79 = .ok (.iadd, 1) := by decide +kernel
theorem dX8_book_80 : decode cX8_book 80 = .ok (.iload_n 2, 1) := by decide +kernel
theorem dX8_book_81 : decode cX8_book 81 = .ok (.iastore, 1) := by decide +kernel
theorem dX8_book_82 : decode cX8_book 82 = .ok (.aload_n 0, 1) := by decide +kernel
theorem dX8_book_83 : decode cX8_book 83 = .ok (.getfield 9, 3) := by decide +kernel
theorem dX8_book_86 : decode cX8_book 86 = .ok (.bipush 16, 2) := by decide +kernel
theorem dX8_book_88 : decode cX8_book 88 = .ok (.dup2, 1) := by decide +kernel
theorem dX8_book_89 : decode cX8_book 89 = .ok (.iaload, 1) := by decide +kernel
theorem dX8_book_90 : decode cX8_book 90 = .ok (.iconst 1, 1) := by decide +kernel
theorem dX8_book_91 : decode cX8_book 91 = .ok (.iadd, 1) := by decide +kernel
theorem dX8_book_92 : decode cX8_book 92 = .ok (.iastore, 1) := by decide +kernel
theorem dX8_book_93 : decode cX8_book 93 = .ok (.aload_n 0, 1) := by decide +kernel
theorem dX8_book_94 : decode cX8_book 94 = .ok (.getfield 9, 3) := by decide +kernel
theorem dX8_book_97 : decode cX8_book 97 = .ok (.bipush 16, 2) := by decide +kernel
theorem dX8_book_99 : decode cX8_book 99 = .ok (.iaload, 1) := by decide +kernel
theorem dX8_book_100 : decode cX8_book 100 = .ok (.ireturn, 1) := by decide +kernel
theorem dX8_looked_0 : decode cX8_looked 0 = .ok (.iconst 0, 1) := by decide +kernel
theorem dX8_looked_1 : decode cX8_looked 1 = .ok (.istore_n 1, 1) := by decide +kernel
theorem dX8_looked_2 : decode cX8_looked 2 = .ok (.iload_n 1, 1) := by decide +kernel
theorem dX8_looked_3 : decode cX8_looked 3 = .ok (.aload_n 0, 1) := by decide +kernel
theorem dX8_looked_4 : decode cX8_looked 4 = .ok (.getfield 9, 3) := by decide +kernel
theorem dX8_looked_7 : decode cX8_looked 7 = .ok (.bipush 16, 2) := by decide +kernel
theorem dX8_looked_9 : decode cX8_looked 9 = .ok (.iaload, 1) := by decide +kernel
theorem dX8_looked_10 : decode cX8_looked 10 = .ok (.if_icmp .ge 36, 3) := by decide +kernel
theorem dX8_looked_13 : decode cX8_looked 13 = .ok (.aload_n 0, 1) := by decide +kernel
theorem dX8_looked_14 : decode cX8_looked 14 = .ok (.aload_n 0, 1) := by decide +kernel
theorem dX8_looked_15 : decode cX8_looked 15 = .ok (.getfield 9, 3) := by decide +kernel
theorem dX8_looked_18 : decode cX8_looked 18 = .ok (.bipush 107, 2) := by decide +kernel
theorem dX8_looked_20 : decode cX8_looked 20 = .ok (.iload_n 1, 1) := by decide +kernel
theorem dX8_looked_21 : decode cX8_looked 21 = .ok (.iadd, 1) := by decide +kernel
theorem dX8_looked_22 : decode cX8_looked 22 = .ok (.iaload, 1) := by decide +kernel
theorem dX8_looked_23 : decode cX8_looked 23 = .ok (.invokevirtual 155, 3) := by decide +kernel
theorem dX8_looked_26 : decode cX8_looked 26 = .ok (.aload_n 0, 1) := by decide +kernel
theorem dX8_looked_27 : decode cX8_looked 27 = .ok (.getfield 9, 3) := by decide +kernel
theorem dX8_looked_30 : decode cX8_looked 30 = .ok (.bipush 115, 2) := by decide +kernel
theorem dX8_looked_32 : decode cX8_looked 32 = .ok (.iload_n 1, 1) := by decide +kernel
theorem dX8_looked_33 : decode cX8_looked 33 = .ok (.iadd, 1) := by decide +kernel
theorem dX8_looked_34 : decode cX8_looked 34 = .ok (.iaload, 1) := by decide +kernel
theorem dX8_looked_35 : decode cX8_looked 35 = .ok (.if_icmp .eq 5, 3) := by decide +kernel
theorem dX8_looked_38 : decode cX8_looked 38 = .ok (.iload_n 1, 1) := by decide +kernel
theorem dX8_looked_39 : decode cX8_looked 39 = .ok (.ireturn, 1) := by decide +kernel
theorem dX8_looked_40 : decode cX8_looked 40 = .ok (.iinc 1 1, 3) := by decide +kernel
theorem dX8_looked_43 : decode cX8_looked 43 = .ok (.goto (-41), 3) := by decide +kernel
theorem dX8_looked_46 : decode cX8_looked 46 = .ok (.bipush (-5), 2) := by decide +kernel
theorem dX8_looked_48 : decode cX8_looked 48 = .ok (.ireturn, 1) := by decide +kernel
theorem dX8_ranBody_0 : decode cX8_ranBody 0 = .ok (.aload_n 0, 1) := by decide +kernel
theorem dX8_ranBody_1 : decode cX8_ranBody 1 = .ok (.getfield 271, 3) := by decide +kernel
theorem dX8_ranBody_4 : decode cX8_ranBody 4 = .ok (.bipush 20, 2) := by decide +kernel
theorem dX8_ranBody_6 : decode cX8_ranBody 6 = .ok (.if_icmp .ge 13, 3) := by decide +kernel
theorem dX8_ranBody_9 : decode cX8_ranBody 9 = .ok (.aload_n 0, 1) := by decide +kernel
theorem dX8_ranBody_10 : decode cX8_ranBody 10 = .ok (.getfield 46, 3) := by decide +kernel
theorem dX8_ranBody_13 : decode cX8_ranBody 13 = .ok (.aload_n 0, 1) := by decide +kernel
theorem dX8_ranBody_14 : decode cX8_ranBody 14 = .ok (.getfield 271, 3) := by decide +kernel
theorem dX8_ranBody_17 : decode cX8_ranBody 17 = .ok (.iload_n 1, 1) := by decide +kernel
theorem dX8_ranBody_18 : decode cX8_ranBody 18 = .ok (.iastore, 1) := by decide +kernel
theorem dX8_ranBody_19 : decode cX8_ranBody 19 = .ok (.aload_n 0, 1) := by decide +kernel
theorem dX8_ranBody_20 : decode cX8_ranBody 20 = .ok (.dup, 1) := by decide +kernel
theorem dX8_ranBody_21 : decode cX8_ranBody 21 = .ok (.getfield 271, 3) := by decide +kernel
theorem dX8_ranBody_24 : decode cX8_ranBody 24 = .ok (.iconst 1, 1) := by decide +kernel
theorem dX8_ranBody_25 : decode cX8_ranBody 25 = .ok (.iadd, 1) := by decide +kernel
theorem dX8_ranBody_26 : decode cX8_ranBody 26 = .ok (.putfield 271, 3) := by decide +kernel
theorem dX8_ranBody_29 : decode cX8_ranBody 29 = .ok (.return_, 1) := by decide +kernel
theorem dX8_isUnder_0 : decode cX8_isUnder 0 = .ok (.iload_n 1, 1) := by decide +kernel
theorem dX8_isUnder_1 : decode cX8_isUnder 1 = .ok (.ifCond .eq 24, 3) := by decide +kernel
theorem dX8_isUnder_4 : decode cX8_isUnder 4 = .ok (.iload_n 1, 1) := by decide +kernel
theorem dX8_isUnder_5 : decode cX8_isUnder 5 = .ok (.iload_n 0, 1) := by decide +kernel
theorem dX8_isUnder_6 : decode cX8_isUnder 6 = .ok (.if_icmp .eq 19, 3) := by decide +kernel
theorem dX8_isUnder_9 : decode cX8_isUnder 9 = .ok (.iload_n 1, 1) := by decide +kernel
theorem dX8_isUnder_10 : decode cX8_isUnder 10 = .ok (.ifCond .le 19, 3) := by decide +kernel
theorem dX8_isUnder_13 : decode cX8_isUnder 13 = .ok (.iload_n 1, 1) := by decide +kernel
theorem dX8_isUnder_14 : decode cX8_isUnder 14 = .ok (.iconst 4, 1) := by decide +kernel
theorem dX8_isUnder_15 : decode cX8_isUnder 15 = .ok (.if_icmp .ge 14, 3) := by decide +kernel
theorem dX8_isUnder_18 : decode cX8_isUnder 18 = .ok (.iload_n 0, 1) := by decide +kernel
theorem dX8_isUnder_19 : decode cX8_isUnder 19 = .ok (.iload_n 1, 1) := by decide +kernel
theorem dX8_isUnder_20 : decode cX8_isUnder 20 = .ok (.iconst 3, 1) := by decide +kernel
theorem dX8_isUnder_21 : decode cX8_isUnder 21 = .ok (.iadd, 1) := by decide +kernel
theorem dX8_isUnder_22 : decode cX8_isUnder 22 = .ok (.if_icmp .ne 7, 3) := by decide +kernel
theorem dX8_isUnder_25 : decode cX8_isUnder 25 = .ok (.iconst 1, 1) := by decide +kernel
theorem dX8_isUnder_26 : decode cX8_isUnder 26 = .ok (.goto 4, 3) := by decide +kernel
theorem dX8_isUnder_29 : decode cX8_isUnder 29 = .ok (.iconst 0, 1) := by decide +kernel
theorem dX8_isUnder_30 : decode cX8_isUnder 30 = .ok (.ireturn, 1) := by decide +kernel
theorem dX8_plainDrinks_0 : decode cX8_plainDrinks 0 = .ok (.aload_n 0, 1) := by decide +kernel
theorem dX8_plainDrinks_1 : decode cX8_plainDrinks 1 = .ok (.iconst 1, 1) := by decide +kernel
theorem dX8_plainDrinks_2 : decode cX8_plainDrinks 2 = .ok (.invokevirtual 274, 3) := by decide +kernel
theorem dX8_plainDrinks_5 : decode cX8_plainDrinks 5 = .ok (.iload_n 1, 1) := by decide +kernel
theorem dX8_plainDrinks_6 : decode cX8_plainDrinks 6 = .ok (.aload_n 0, 1) := by decide +kernel
theorem dX8_plainDrinks_7 : decode cX8_plainDrinks 7 = .ok (.getfield 277, 3) := by decide +kernel
theorem dX8_plainDrinks_10 : decode cX8_plainDrinks 10 = .ok (.iadd, 1) := by decide +kernel
theorem dX8_plainDrinks_11 : decode cX8_plainDrinks 11 = .ok (.ireturn, 1) := by decide +kernel
theorem dX8_drinksActs_0 : decode cX8_drinksActs 0 = .ok (.aload_n 0, 1) := by decide +kernel
theorem dX8_drinksActs_1 : decode cX8_drinksActs 1 = .ok (.getfield 280, 3) := by decide +kernel
theorem dX8_drinksActs_4 : decode cX8_drinksActs 4 = .ok (.iconst 1, 1) := by decide +kernel
theorem dX8_drinksActs_5 : decode cX8_drinksActs 5 = .ok (.invokestatic 283, 3) := by decide +kernel
theorem dX8_drinksActs_8 : decode cX8_drinksActs 8 = .ok (.ifCond .eq 17, 3) := by decide +kernel
theorem dX8_drinksActs_11 : decode cX8_drinksActs 11 = .ok (.aload_n 0, 1) := by decide +kernel
theorem dX8_drinksActs_12 : decode cX8_drinksActs 12 = .ok (.bipush 11, 2) := by decide +kernel
theorem dX8_drinksActs_14 : decode cX8_drinksActs 14 = .ok (.invokevirtual 274, 3) := by decide +kernel
theorem dX8_drinksActs_17 : decode cX8_drinksActs 17 = .ok (.aload_n 0, 1) := by decide +kernel
theorem dX8_drinksActs_18 : decode cX8_drinksActs 18 = .ok (.iload_n 1, 1) := by decide +kernel
theorem dX8_drinksActs_19 : decode cX8_drinksActs 19 = .ok (.iconst 3, 1) := by decide +kernel
theorem dX8_drinksActs_20 : decode cX8_drinksActs 20 = .ok (.imul, 1) := by decide +kernel
theorem dX8_drinksActs_21 : decode cX8_drinksActs 21 = .ok (.invokevirtual 286, 3) := by decide +kernel
theorem dX8_drinksActs_24 : decode cX8_drinksActs 24 = .ok (.ireturn, 1) := by decide +kernel
theorem dX8_drinksActs_25 : decode cX8_drinksActs 25 = .ok (.aload_n 0, 1) := by decide +kernel
theorem dX8_drinksActs_26 : decode cX8_drinksActs 26 = .ok (.getfield 280, 3) := by decide +kernel
theorem dX8_drinksActs_29 : decode cX8_drinksActs 29 = .ok (.iconst 5, 1) := by decide +kernel
theorem dX8_drinksActs_30 : decode cX8_drinksActs 30 = .ok (.if_icmp .ne 20, 3) := by decide +kernel
theorem dX8_drinksActs_33 : decode cX8_drinksActs 33 = .ok (.aload_n 0, 1) := by decide +kernel
theorem dX8_drinksActs_34 : decode cX8_drinksActs 34 = .ok (.bipush 51, 2) := by decide +kernel
theorem dX8_drinksActs_36 : decode cX8_drinksActs 36 = .ok (.invokevirtual 274, 3) := by decide +kernel
theorem dX8_drinksActs_39 : decode cX8_drinksActs 39 = .ok (.aload_n 0, 1) := by decide +kernel
theorem dX8_drinksActs_40 : decode cX8_drinksActs 40 = .ok (.iload_n 1, 1) := by decide +kernel
theorem dX8_drinksActs_41 : decode cX8_drinksActs 41 = .ok (.invokevirtual 286, 3) := by decide +kernel
theorem dX8_drinksActs_44 : decode cX8_drinksActs 44 = .ok (.aload_n 0, 1) := by decide +kernel
theorem dX8_drinksActs_45 : decode cX8_drinksActs 45 = .ok (.getfield 277, 3) := by decide +kernel
theorem dX8_drinksActs_48 : decode cX8_drinksActs 48 = .ok (.ixor, 1) := by decide +kernel
theorem dX8_drinksActs_49 : decode cX8_drinksActs 49 = .ok (.ireturn, 1) := by decide +kernel
theorem dX8_drinksActs_50 : decode cX8_drinksActs 50 = .ok (.aload_n 0, 1) := by decide +kernel
theorem dX8_drinksActs_51 : decode cX8_drinksActs 51 = .ok (.iload_n 1, 1) := by decide +kernel
theorem dX8_drinksActs_52 : decode cX8_drinksActs 52 = .ok (.invokevirtual 286, 3) := by decide +kernel
theorem dX8_drinksActs_55 : decode cX8_drinksActs 55 = .ok (.ireturn, 1) := by decide +kernel
theorem dX8_plainAges_0 : decode cX8_plainAges 0 = .ok (.aload_n 0, 1) := by decide +kernel
theorem dX8_plainAges_1 : decode cX8_plainAges 1 = .ok (.iconst 2, 1) := by decide +kernel
theorem dX8_plainAges_2 : decode cX8_plainAges 2 = .ok (.invokevirtual 274, 3) := by decide +kernel
theorem dX8_plainAges_5 : decode cX8_plainAges 5 = .ok (.aload_n 0, 1) := by decide +kernel
theorem dX8_plainAges_6 : decode cX8_plainAges 6 = .ok (.iload_n 1, 1) := by decide +kernel
theorem dX8_plainAges_7 : decode cX8_plainAges 7 = .ok (.invokevirtual 289, 3) := by decide +kernel
theorem dX8_plainAges_10 : decode cX8_plainAges 10 = .ok (.aload_n 0, 1) := by decide +kernel
theorem dX8_plainAges_11 : decode cX8_plainAges 11 = .ok (.getfield 292, 3) := by decide +kernel
theorem dX8_plainAges_14 : decode cX8_plainAges 14 = .ok (.isub, 1) := by decide +kernel
theorem dX8_plainAges_15 : decode cX8_plainAges 15 = .ok (.ireturn, 1) := by decide +kernel
theorem dX8_agesActs_0 : decode cX8_agesActs 0 = .ok (.aload_n 0, 1) := by decide +kernel
theorem dX8_agesActs_1 : decode cX8_agesActs 1 = .ok (.getfield 280, 3) := by decide +kernel
theorem dX8_agesActs_4 : decode cX8_agesActs 4 = .ok (.iconst 2, 1) := by decide +kernel
theorem dX8_agesActs_5 : decode cX8_agesActs 5 = .ok (.invokestatic 283, 3) := by decide +kernel
theorem dX8_agesActs_8 : decode cX8_agesActs 8 = .ok (.ifCond .eq 16, 3) := by decide +kernel
theorem dX8_agesActs_11 : decode cX8_agesActs 11 = .ok (.aload_n 0, 1) := by decide +kernel
theorem dX8_agesActs_12 : decode cX8_agesActs 12 = .ok (.bipush 21, 2) := by decide +kernel
theorem dX8_agesActs_14 : decode cX8_agesActs 14 = .ok (.invokevirtual 274, 3) := by decide +kernel
theorem dX8_agesActs_17 : decode cX8_agesActs 17 = .ok (.aload_n 0, 1) := by decide +kernel
theorem dX8_agesActs_18 : decode cX8_agesActs 18 = .ok (.iload_n 1, 1) := by decide +kernel
theorem dX8_agesActs_19 : decode cX8_agesActs 19 = .ok (.invokevirtual 295, 3) := by decide +kernel
theorem dX8_agesActs_22 : decode cX8_agesActs 22 = .ok (.ineg, 1) := by decide +kernel
theorem dX8_agesActs_23 : decode cX8_agesActs 23 = .ok (.ireturn, 1) := by decide +kernel
theorem dX8_agesActs_24 : decode cX8_agesActs 24 = .ok (.aload_n 0, 1) := by decide +kernel
theorem dX8_agesActs_25 : decode cX8_agesActs 25 = .ok (.getfield 280, 3) := by decide +kernel
theorem dX8_agesActs_28 : decode cX8_agesActs 28 = .ok (.bipush 6, 2) := by decide +kernel
theorem dX8_agesActs_30 : decode cX8_agesActs 30 = .ok (.if_icmp .ne 20, 3) := by decide +kernel
theorem dX8_agesActs_33 : decode cX8_agesActs 33 = .ok (.aload_n 0, 1) := by decide +kernel
theorem dX8_agesActs_34 : decode cX8_agesActs 34 = .ok (.bipush 61, 2) := by decide +kernel
theorem dX8_agesActs_36 : decode cX8_agesActs 36 = .ok (.invokevirtual 274, 3) := by decide +kernel
theorem dX8_agesActs_39 : decode cX8_agesActs 39 = .ok (.aload_n 0, 1) := by decide +kernel
theorem dX8_agesActs_40 : decode cX8_agesActs 40 = .ok (.iload_n 1, 1) := by decide +kernel
theorem dX8_agesActs_41 : decode cX8_agesActs 41 = .ok (.invokevirtual 295, 3) := by decide +kernel
theorem dX8_agesActs_44 : decode cX8_agesActs 44 = .ok (.aload_n 0, 1) := by decide +kernel
theorem dX8_agesActs_45 : decode cX8_agesActs 45 = .ok (.getfield 292, 3) := by decide +kernel
theorem dX8_agesActs_48 : decode cX8_agesActs 48 = .ok (.iadd, 1) := by decide +kernel
theorem dX8_agesActs_49 : decode cX8_agesActs 49 = .ok (.ireturn, 1) := by decide +kernel
theorem dX8_agesActs_50 : decode cX8_agesActs 50 = .ok (.aload_n 0, 1) := by decide +kernel
theorem dX8_agesActs_51 : decode cX8_agesActs 51 = .ok (.iload_n 1, 1) := by decide +kernel
theorem dX8_agesActs_52 : decode cX8_agesActs 52 = .ok (.invokevirtual 295, 3) := by decide +kernel
theorem dX8_agesActs_55 : decode cX8_agesActs 55 = .ok (.ireturn, 1) := by decide +kernel
theorem dX8_plainTelling_0 : decode cX8_plainTelling 0 = .ok (.aload_n 0, 1) := by decide +kernel
theorem dX8_plainTelling_1 : decode cX8_plainTelling 1 = .ok (.iconst 3, 1) := by decide +kernel
theorem dX8_plainTelling_2 : decode cX8_plainTelling 2 = .ok (.invokevirtual 274, 3) := by decide +kernel
theorem dX8_plainTelling_5 : decode cX8_plainTelling 5 = .ok (.aload_n 0, 1) := by decide +kernel
theorem dX8_plainTelling_6 : decode cX8_plainTelling 6 = .ok (.iload_n 1, 1) := by decide +kernel
theorem dX8_plainTelling_7 : decode cX8_plainTelling 7 = .ok (.invokevirtual 298, 3) := by decide +kernel
theorem dX8_plainTelling_10 : decode cX8_plainTelling 10 = .ok (.iconst 2, 1) := by decide +kernel
theorem dX8_plainTelling_11 : decode cX8_plainTelling 11 = .ok (.imul, 1) := by decide +kernel
theorem dX8_plainTelling_12 : decode cX8_plainTelling 12 = .ok (.ireturn, 1) := by decide +kernel
theorem dX8_tellsActs_0 : decode cX8_tellsActs 0 = .ok (.aload_n 0, 1) := by decide +kernel
theorem dX8_tellsActs_1 : decode cX8_tellsActs 1 = .ok (.getfield 280, 3) := by decide +kernel
theorem dX8_tellsActs_4 : decode cX8_tellsActs 4 = .ok (.iconst 3, 1) := by decide +kernel
theorem dX8_tellsActs_5 : decode cX8_tellsActs 5 = .ok (.invokestatic 283, 3) := by decide +kernel
theorem dX8_tellsActs_8 : decode cX8_tellsActs 8 = .ok (.ifCond .eq 18, 3) := by decide +kernel
theorem dX8_tellsActs_11 : decode cX8_tellsActs 11 = .ok (.aload_n 0, 1) := by decide +kernel
theorem dX8_tellsActs_12 : decode cX8_tellsActs 12 = .ok (.bipush 31, 2) := by decide +kernel
theorem dX8_tellsActs_14 : decode cX8_tellsActs 14 = .ok (.invokevirtual 274, 3) := by decide +kernel
theorem dX8_tellsActs_17 : decode cX8_tellsActs 17 = .ok (.aload_n 0, 1) := by decide +kernel
theorem dX8_tellsActs_18 : decode cX8_tellsActs 18 = .ok (.iload_n 1, 1) := by decide +kernel
theorem dX8_tellsActs_19 : decode cX8_tellsActs 19 = .ok (.invokevirtual 301, 3) := by decide +kernel
theorem dX8_tellsActs_22 : decode cX8_tellsActs 22 = .ok (.bipush 7, 2) := by decide +kernel
theorem dX8_tellsActs_24 : decode cX8_tellsActs 24 = .ok (.ixor, 1) := by decide +kernel
theorem dX8_tellsActs_25 : decode cX8_tellsActs 25 = .ok (.ireturn, 1) := by decide +kernel
theorem dX8_tellsActs_26 : decode cX8_tellsActs 26 = .ok (.aload_n 0, 1) := by decide +kernel
theorem dX8_tellsActs_27 : decode cX8_tellsActs 27 = .ok (.getfield 280, 3) := by decide +kernel
theorem dX8_tellsActs_30 : decode cX8_tellsActs 30 = .ok (.iconst 4, 1) := by decide +kernel
theorem dX8_tellsActs_31 : decode cX8_tellsActs 31 = .ok (.if_icmp .ne 25, 3) := by decide +kernel
theorem dX8_tellsActs_34 : decode cX8_tellsActs 34 = .ok (.aload_n 0, 1) := by decide +kernel
theorem dX8_tellsActs_35 : decode cX8_tellsActs 35 = .ok (.bipush 41, 2) := by decide +kernel
theorem dX8_tellsActs_37 : decode cX8_tellsActs 37 = .ok (.invokevirtual 274, 3) := by decide +kernel
theorem dX8_tellsActs_40 : decode cX8_tellsActs 40 = .ok (.aload_n 0, 1) := by decide +kernel
theorem dX8_tellsActs_41 : decode cX8_tellsActs 41 = .ok (.iload_n 1, 1) := by decide +kernel
theorem dX8_tellsActs_42 : decode cX8_tellsActs 42 = .ok (.iconst 1, 1) := by decide +kernel
theorem dX8_tellsActs_43 : decode cX8_tellsActs 43 = .ok (.isub, 1) := by decide +kernel
theorem dX8_tellsActs_44 : decode cX8_tellsActs 44 = .ok (.invokevirtual 301, 3) := by decide +kernel
theorem dX8_tellsActs_47 : decode cX8_tellsActs 47 = .ok (.istore_n 2, 1) := by decide +kernel
theorem dX8_tellsActs_48 : decode cX8_tellsActs 48 = .ok (.iload_n 2, 1) := by decide +kernel
theorem dX8_tellsActs_49 : decode cX8_tellsActs 49 = .ok (.aload_n 0, 1) := by decide +kernel
theorem dX8_tellsActs_50 : decode cX8_tellsActs 50 = .ok (.iconst 2, 1) := by decide +kernel
theorem dX8_tellsActs_51 : decode cX8_tellsActs 51 = .ok (.invokevirtual 289, 3) := by decide +kernel
theorem dX8_tellsActs_54 : decode cX8_tellsActs 54 = .ok (.iadd, 1) := by decide +kernel
theorem dX8_tellsActs_55 : decode cX8_tellsActs 55 = .ok (.ireturn, 1) := by decide +kernel
theorem dX8_tellsActs_56 : decode cX8_tellsActs 56 = .ok (.aload_n 0, 1) := by decide +kernel
theorem dX8_tellsActs_57 : decode cX8_tellsActs 57 = .ok (.iload_n 1, 1) := by decide +kernel
theorem dX8_tellsActs_58 : decode cX8_tellsActs 58 = .ok (.invokevirtual 301, 3) := by decide +kernel
theorem dX8_tellsActs_61 : decode cX8_tellsActs 61 = .ok (.ireturn, 1) := by decide +kernel
theorem dX8_act_0 : decode cX8_act 0 = .ok (.aload_n 0, 1) := by decide +kernel
theorem dX8_act_1 : decode cX8_act 1 = .ok (.iconst 0, 1) := by decide +kernel
theorem dX8_act_2 : decode cX8_act 2 = .ok (.putfield 271, 3) := by decide +kernel
theorem dX8_act_5 : decode cX8_act 5 = .ok (.aload_n 0, 1) := by decide +kernel
theorem dX8_act_6 : decode cX8_act 6 = .ok (.iload_n 1, 1) := by decide +kernel
theorem dX8_act_7 : decode cX8_act 7 = .ok (.invokevirtual 169, 3) := by decide +kernel
theorem dX8_act_10 : decode cX8_act 10 = .ok (.ifCond .eq 12, 3) := by decide +kernel
theorem dX8_act_13 : decode cX8_act 13 = .ok (.iload_n 2, 1) := by decide +kernel
theorem dX8_act_14 : decode cX8_act 14 = .ok (.iconst 0, 1) := by decide +kernel
theorem dX8_act_15 : decode cX8_act 15 = .ok (.iconst 2, 1) := by decide +kernel
theorem dX8_act_16 : decode cX8_act 16 = .ok (.invokestatic 53, 3) := by decide +kernel
theorem dX8_act_19 : decode cX8_act 19 = .ok (.ifCond .ne 5, 3) := by decide +kernel
theorem dX8_act_22 : decode cX8_act 22 = .ok (.iconst 0, 1) := by decide +kernel
theorem dX8_act_23 : decode cX8_act 23 = .ok (.ireturn, 1) := by decide +kernel
theorem dX8_act_24 : decode cX8_act 24 = .ok (.aload_n 0, 1) := by decide +kernel
theorem dX8_act_25 : decode cX8_act 25 = .ok (.aload_n 0, 1) := by decide +kernel
theorem dX8_act_26 : decode cX8_act 26 = .ok (.getfield 9, 3) := by decide +kernel
theorem dX8_act_29 : decode cX8_act 29 = .ok (.bipush 20, 2) := by decide +kernel
theorem dX8_act_31 : decode cX8_act 31 = .ok (.iload_n 1, 1) := by decide +kernel
theorem dX8_act_32 : decode cX8_act 32 = .ok (.iadd, 1) := by decide +kernel
theorem dX8_act_33 : decode cX8_act 33 = .ok (.iaload, 1) := by decide +kernel
theorem dX8_act_34 : decode cX8_act 34 = .ok (.putfield 280, 3) := by decide +kernel
theorem dX8_act_37 : decode cX8_act 37 = .ok (.aload_n 0, 1) := by decide +kernel
theorem dX8_act_38 : decode cX8_act 38 = .ok (.iload_n 1, 1) := by decide +kernel
theorem dX8_act_39 : decode cX8_act 39 = .ok (.putfield 277, 3) := by decide +kernel
theorem dX8_act_42 : decode cX8_act 42 = .ok (.aload_n 0, 1) := by decide +kernel
theorem dX8_act_43 : decode cX8_act 43 = .ok (.aload_n 0, 1) := by decide +kernel
theorem dX8_act_44 : decode cX8_act 44 = .ok (.getfield 9, 3) := by decide +kernel
theorem dX8_act_47 : decode cX8_act 47 = .ok (.bipush 26, 2) := by decide +kernel
theorem dX8_act_49 : decode cX8_act 49 = .ok (.iload_n 1, 1) := by decide +kernel
theorem dX8_act_50 : decode cX8_act 50 = .ok (.iadd, 1) := by decide +kernel
theorem dX8_act_51 : decode cX8_act 51 = .ok (.iaload, 1) := by decide +kernel
theorem dX8_act_52 : decode cX8_act 52 = .ok (.putfield 292, 3) := by decide +kernel
theorem dX8_act_55 : decode cX8_act 55 = .ok (.iload_n 2, 1) := by decide +kernel
theorem dX8_act_56 : decode cX8_act 56 = .ok (.ifCond .ne 11, 3) := by decide +kernel
theorem dX8_act_59 : decode cX8_act 59 = .ok (.aload_n 0, 1) := by decide +kernel
theorem dX8_act_60 : decode cX8_act 60 = .ok (.iload_n 3, 1) := by decide +kernel
theorem dX8_act_61 : decode cX8_act 61 = .ok (.invokevirtual 289, 3) := by decide +kernel
theorem dX8_act_64 : decode cX8_act 64 = .ok (.goto 21, 3) := by decide +kernel
theorem dX8_act_67 : decode cX8_act 67 = .ok (.iload_n 2, 1) := by decide +kernel
theorem dX8_act_68 : decode cX8_act 68 = .ok (.iconst 1, 1) := by decide +kernel
theorem dX8_act_69 : decode cX8_act 69 = .ok (.if_icmp .ne 11, 3) := by decide +kernel
theorem dX8_act_72 : decode cX8_act 72 = .ok (.aload_n 0, 1) := by decide +kernel
theorem dX8_act_73 : decode cX8_act 73 = .ok (.iload_n 3, 1) := by decide +kernel
theorem dX8_act_74 : decode cX8_act 74 = .ok (.invokevirtual 298, 3) := by decide +kernel
theorem dX8_act_77 : decode cX8_act 77 = .ok (.goto 8, 3) := by decide +kernel
theorem dX8_act_80 : decode cX8_act 80 = .ok (.aload_n 0, 1) := by decide +kernel
theorem dX8_act_81 : decode cX8_act 81 = .ok (.iload_n 3, 1) := by decide +kernel
theorem dX8_act_82 : decode cX8_act 82 = .ok (.invokevirtual 304, 3) := by decide +kernel
theorem dX8_act_85 : decode cX8_act 85 = .ok (.ireturn, 1) := by decide +kernel
theorem dX8_trace_0 : decode cX8_trace 0 = .ok (.iload_n 1, 1) := by decide +kernel
theorem dX8_trace_1 : decode cX8_trace 1 = .ok (.iconst 0, 1) := by decide +kernel
theorem dX8_trace_2 : decode cX8_trace 2 = .ok (.aload_n 0, 1) := by decide +kernel
theorem dX8_trace_3 : decode cX8_trace 3 = .ok (.getfield 271, 3) := by decide +kernel
theorem dX8_trace_6 : decode cX8_trace 6 = .ok (.bipush 20, 2) := by decide +kernel
theorem dX8_trace_8 : decode cX8_trace 8 = .ok (.if_icmp .ge 10, 3) := by decide +kernel
theorem dX8_trace_11 : decode cX8_trace 11 = .ok (.aload_n 0, 1) := by decide +kernel
theorem dX8_trace_12 : decode cX8_trace 12 = .ok (.getfield 271, 3) := by decide +kernel
theorem dX8_trace_15 : decode cX8_trace 15 = .ok (.goto 5, 3) := by decide +kernel
theorem dX8_trace_18 : decode cX8_trace 18 = .ok (.bipush 20, 2) := by decide +kernel
theorem dX8_trace_20 : decode cX8_trace 20 = .ok (.iconst 1, 1) := by decide +kernel
theorem dX8_trace_21 : decode cX8_trace 21 = .ok (.isub, 1) := by decide +kernel
theorem dX8_trace_22 : decode cX8_trace 22 = .ok (.invokestatic 53, 3) := by decide +kernel
theorem dX8_trace_25 : decode cX8_trace 25 = .ok (.ifCond .eq 12, 3) := by decide +kernel
theorem dX8_trace_28 : decode cX8_trace 28 = .ok (.aload_n 0, 1) := by decide +kernel
theorem dX8_trace_29 : decode cX8_trace 29 = .ok (.getfield 46, 3) := by decide +kernel
theorem dX8_trace_32 : decode cX8_trace 32 = .ok (.iload_n 1, 1) := by decide +kernel
theorem dX8_trace_33 : decode cX8_trace 33 = .ok (.iaload, 1) := by decide +kernel
theorem dX8_trace_34 : decode cX8_trace 34 = .ok (.goto 4, 3) := by decide +kernel
theorem dX8_trace_37 : decode cX8_trace 37 = .ok (.iconst (-1), 1) := by decide +kernel
theorem dX8_trace_38 : decode cX8_trace 38 = .ok (.ireturn, 1) := by decide +kernel
theorem dX8_as_0 : decode cX8_as 0 = .ok (.aload_n 0, 1) := by decide +kernel
theorem dX8_as_1 : decode cX8_as 1 = .ok (.iload_n 1, 1) := by decide +kernel
theorem dX8_as_2 : decode cX8_as 2 = .ok (.invokevirtual 169, 3) := by decide +kernel
theorem dX8_as_5 : decode cX8_as 5 = .ok (.ifCond .eq 13, 3) := by decide +kernel
theorem dX8_as_8 : decode cX8_as 8 = .ok (.iload_n 2, 1) := by decide +kernel
theorem dX8_as_9 : decode cX8_as 9 = .ok (.iconst 0, 1) := by decide +kernel
theorem dX8_as_10 : decode cX8_as 10 = .ok (.bipush 6, 2) := by decide +kernel
theorem dX8_as_12 : decode cX8_as 12 = .ok (.invokestatic 53, 3) := by decide +kernel
theorem dX8_as_15 : decode cX8_as 15 = .ok (.ifCond .ne 5, 3) := by decide +kernel
theorem dX8_as_18 : decode cX8_as 18 = .ok (.iconst (-1), 1) := by decide +kernel
theorem dX8_as_19 : decode cX8_as 19 = .ok (.ireturn, 1) := by decide +kernel
theorem dX8_as_20 : decode cX8_as 20 = .ok (.aload_n 0, 1) := by decide +kernel
theorem dX8_as_21 : decode cX8_as 21 = .ok (.getfield 9, 3) := by decide +kernel
theorem dX8_as_24 : decode cX8_as 24 = .ok (.bipush 20, 2) := by decide +kernel
theorem dX8_as_26 : decode cX8_as 26 = .ok (.iload_n 1, 1) := by decide +kernel
theorem dX8_as_27 : decode cX8_as 27 = .ok (.iadd, 1) := by decide +kernel
theorem dX8_as_28 : decode cX8_as 28 = .ok (.iaload, 1) := by decide +kernel
theorem dX8_as_29 : decode cX8_as 29 = .ok (.iload_n 2, 1) := by decide +kernel
theorem dX8_as_30 : decode cX8_as 30 = .ok (.invokestatic 283, 3) := by decide +kernel
theorem dX8_as_33 : decode cX8_as 33 = .ok (.ifCond .eq 15, 3) := by decide +kernel
theorem dX8_as_36 : decode cX8_as 36 = .ok (.aload_n 0, 1) := by decide +kernel
theorem dX8_as_37 : decode cX8_as 37 = .ok (.getfield 9, 3) := by decide +kernel
theorem dX8_as_40 : decode cX8_as 40 = .ok (.bipush 26, 2) := by decide +kernel
theorem dX8_as_42 : decode cX8_as 42 = .ok (.iload_n 1, 1) := by decide +kernel
theorem dX8_as_43 : decode cX8_as 43 = .ok (.iadd, 1) := by decide +kernel
theorem dX8_as_44 : decode cX8_as 44 = .ok (.iaload, 1) := by decide +kernel
theorem dX8_as_45 : decode cX8_as 45 = .ok (.goto 5, 3) := by decide +kernel
theorem dX8_as_48 : decode cX8_as 48 = .ok (.bipush (-6), 2) := by decide +kernel
theorem dX8_as_50 : decode cX8_as 50 = .ok (.ireturn, 1) := by decide +kernel
theorem dX8_image_0 : decode cX8_image 0 = .ok (.iconst 0, 1) := by decide +kernel
theorem dX8_image_1 : decode cX8_image 1 = .ok (.istore_n 1, 1) := by decide +kernel
theorem dX8_image_2 : decode cX8_image 2 = .ok (.iload_n 1, 1) := by decide +kernel
theorem dX8_image_3 : decode cX8_image 3 = .ok (.sipush 938, 3) := by decide +kernel
theorem dX8_image_6 : decode cX8_image 6 = .ok (.if_icmp .ge 21, 3) := by decide +kernel
theorem dX8_image_9 : decode cX8_image 9 = .ok (.aload_n 0, 1) := by decide +kernel
theorem dX8_image_10 : decode cX8_image 10 = .ok (.getfield 15, 3) := by decide +kernel
theorem dX8_image_13 : decode cX8_image 13 = .ok (.iload_n 1, 1) := by decide +kernel
theorem dX8_image_14 : decode cX8_image 14 = .ok (.aload_n 0, 1) := by decide +kernel
theorem dX8_image_15 : decode cX8_image 15 = .ok (.getfield 9, 3) := by decide +kernel
theorem dX8_image_18 : decode cX8_image 18 = .ok (.iload_n 1, 1) := by decide +kernel
theorem dX8_image_19 : decode cX8_image 19 = .ok (.iaload, 1) := by decide +kernel
theorem dX8_image_20 : decode cX8_image 20 = .ok (.iastore, 1) := by decide +kernel
theorem dX8_image_21 : decode cX8_image 21 = .ok (.iinc 1 1, 3) := by decide +kernel
theorem dX8_image_24 : decode cX8_image 24 = .ok (.goto (-22), 3) := by decide +kernel
theorem dX8_image_27 : decode cX8_image 27 = .ok (.aload_n 0, 1) := by decide +kernel
theorem dX8_image_28 : decode cX8_image 28 = .ok (.iconst 1, 1) := by decide +kernel
theorem dX8_image_29 : decode cX8_image 29 = .ok (.putfield 307, 3) := by decide +kernel
theorem dX8_image_32 : decode cX8_image 32 = .ok (.aload_n 0, 1) := by decide +kernel
theorem dX8_image_33 : decode cX8_image 33 = .ok (.getfield 9, 3) := by decide +kernel
theorem dX8_image_36 : decode cX8_image 36 = .ok (.bipush 12, 2) := by decide +kernel
theorem dX8_image_38 : decode cX8_image 38 = .ok (.iaload, 1) := by decide +kernel
theorem dX8_image_39 : decode cX8_image 39 = .ok (.ireturn, 1) := by decide +kernel
theorem dX8_undo_0 : decode cX8_undo 0 = .ok (.aload_n 0, 1) := by decide +kernel
theorem dX8_undo_1 : decode cX8_undo 1 = .ok (.getfield 307, 3) := by decide +kernel
theorem dX8_undo_4 : decode cX8_undo 4 = .ok (.ifCond .ne 6, 3) := by decide +kernel
theorem dX8_undo_7 : decode cX8_undo 7 = .ok (.bipush (-3), 2) := by decide +kernel
theorem dX8_undo_9 : decode cX8_undo 9 = .ok (.ireturn, 1) := by decide +kernel
theorem dX8_undo_10 : decode cX8_undo 10 = .ok (.iconst 0, 1) := by decide +kernel
theorem dX8_undo_11 : decode cX8_undo 11 = .ok (.istore_n 1, 1) := by decide +kernel
theorem dX8_undo_12 : decode cX8_undo 12 = .ok (.iload_n 1, 1) := by decide +kernel
theorem dX8_undo_13 : decode cX8_undo 13 = .ok (.sipush 938, 3) := by decide +kernel
theorem dX8_undo_16 : decode cX8_undo 16 = .ok (.if_icmp .ge 21, 3) := by decide +kernel
theorem dX8_undo_19 : decode cX8_undo 19 = .ok (.aload_n 0, 1) := by decide +kernel
theorem dX8_undo_20 : decode cX8_undo 20 = .ok (.getfield 9, 3) := by decide +kernel
theorem dX8_undo_23 : decode cX8_undo 23 = .ok (.iload_n 1, 1) := by decide +kernel
theorem dX8_undo_24 : decode cX8_undo 24 = .ok (.aload_n 0, 1) := by decide +kernel
theorem dX8_undo_25 : decode cX8_undo 25 = .ok (.getfield 15, 3) := by decide +kernel
theorem dX8_undo_28 : decode cX8_undo 28 = .ok (.iload_n 1, 1) := by decide +kernel
theorem dX8_undo_29 : decode cX8_undo 29 = .ok (.iaload, 1) := by decide +kernel
theorem dX8_undo_30 : decode cX8_undo 30 = .ok (.iastore, 1) := by decide +kernel
theorem dX8_undo_31 : decode cX8_undo 31 = .ok (.iinc 1 1, 3) := by decide +kernel
theorem dX8_undo_34 : decode cX8_undo 34 = .ok (.goto (-22), 3) := by decide +kernel
theorem dX8_undo_37 : decode cX8_undo 37 = .ok (.aload_n 0, 1) := by decide +kernel
theorem dX8_undo_38 : decode cX8_undo 38 = .ok (.getfield 9, 3) := by decide +kernel
theorem dX8_undo_41 : decode cX8_undo 41 = .ok (.bipush 12, 2) := by decide +kernel
theorem dX8_undo_43 : decode cX8_undo 43 = .ok (.iaload, 1) := by decide +kernel
theorem dX8_undo_44 : decode cX8_undo 44 = .ok (.ireturn, 1) := by decide +kernel
theorem dX8_count_0 : decode cX8_count 0 = .ok (.iload_n 1, 1) := by decide +kernel
theorem dX8_count_1 : decode cX8_count 1 = .ok (.bipush 6, 2) := by decide +kernel
theorem dX8_count_3 : decode cX8_count 3 = .ok (.if_icmp .ne 10, 3) := by decide +kernel
theorem dX8_count_6 : decode cX8_count 6 = .ok (.aload_n 0, 1) := by decide +kernel
theorem dX8_count_7 : decode cX8_count 7 = .ok (.getfield 271, 3) := by decide +kernel
theorem dX8_count_10 : decode cX8_count 10 = .ok (.goto 41, 3) := by decide +kernel
theorem dX8_count_13 : decode cX8_count 13 = .ok (.iload_n 1, 1) := by decide +kernel
theorem dX8_count_14 : decode cX8_count 14 = .ok (.bipush 7, 2) := by decide +kernel
theorem dX8_count_16 : decode cX8_count 16 = .ok (.if_icmp .ne 13, 3) := by decide +kernel
theorem dX8_count_19 : decode cX8_count 19 = .ok (.aload_n 0, 1) := by decide +kernel
theorem dX8_count_20 : decode cX8_count 20 = .ok (.getfield 9, 3) := by decide +kernel
theorem dX8_count_23 : decode cX8_count 23 = .ok (.bipush 19, 2) := by decide +kernel
theorem dX8_count_25 : decode cX8_count 25 = .ok (.iaload, 1) := by decide +kernel
theorem dX8_count_26 : decode cX8_count 26 = .ok (.goto 25, 3) := by decide +kernel
theorem dX8_count_29 : decode cX8_count 29 = .ok (.iload_n 1, 1) := by decide +kernel
theorem dX8_count_30 : decode cX8_count 30 = .ok (.iconst 0, 1) := by decide +kernel
theorem dX8_count_31 : decode cX8_count 31 = .ok (.iconst 5, 1) := by decide +kernel
theorem dX8_count_32 : decode cX8_count 32 = .ok (.invokestatic 53, 3) := by decide +kernel
theorem dX8_count_35 : decode cX8_count 35 = .ok (.ifCond .eq 15, 3) := by decide +kernel
theorem dX8_count_38 : decode cX8_count 38 = .ok (.aload_n 0, 1) := by decide +kernel
theorem dX8_count_39 : decode cX8_count 39 = .ok (.getfield 9, 3) := by decide +kernel
theorem dX8_count_42 : decode cX8_count 42 = .ok (.bipush 12, 2) := by decide +kernel
theorem dX8_count_44 : decode cX8_count 44 = .ok (.iload_n 1, 1) := by decide +kernel
theorem dX8_count_45 : decode cX8_count 45 = .ok (.iadd, 1) := by decide +kernel
theorem dX8_count_46 : decode cX8_count 46 = .ok (.iaload, 1) := by decide +kernel
theorem dX8_count_47 : decode cX8_count 47 = .ok (.goto 4, 3) := by decide +kernel
theorem dX8_count_50 : decode cX8_count 50 = .ok (.iconst (-1), 1) := by decide +kernel
theorem dX8_count_51 : decode cX8_count 51 = .ok (.ireturn, 1) := by decide +kernel
