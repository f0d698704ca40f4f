theorem dX0_init_0 : decode cX0_init 0 = .ok (.aload_n 0, 1) := by decide +kernel
theorem dX0_init_1 : decode cX0_init 1 = .ok (.invokespecial 3, 3) := by decide +kernel
theorem dX0_init_4 : decode cX0_init 4 = .ok (.aload_n 0, 1) := by decide +kernel
theorem dX0_init_5 : decode cX0_init 5 = .ok (.bipush 6, 2) := by decide +kernel
theorem dX0_init_7 : decode cX0_init 7 = .ok (.sipush 300, 3) := by decide +kernel
theorem dX0_init_10 : decode cX0_init 10 = .ok (.multianewarray 9 2, 4) := by decide +kernel
theorem dX0_init_14 : decode cX0_init 14 = .ok (.putfield 11, 3) := by decide +kernel
theorem dX0_init_17 : decode cX0_init 17 = .ok (.return_, 1) := by decide +kernel
theorem dX0_placeOf_0 : decode cX0_placeOf 0 = .ok (.aload_n 0, 1) := by decide +kernel
theorem dX0_placeOf_1 : decode cX0_placeOf 1 = .ok (.getfield 16, 3) := by decide +kernel
theorem dX0_placeOf_4 : decode cX0_placeOf 4 = .ok (.iload_n 1, 1) := by decide +kernel
theorem dX0_placeOf_5 : decode cX0_placeOf 5 = .ok (.iadd, 1) := by decide +kernel
theorem dX0_placeOf_6 : decode cX0_placeOf 6 = .ok (.istore_n 2, 1) := by decide +kernel
theorem dX0_placeOf_7 : decode cX0_placeOf 7 = .ok (.iload_n 2, 1) := by decide +kernel
theorem dX0_placeOf_8 : decode cX0_placeOf 8 = .ok (.sipush 300, 3) := by decide +kernel
theorem dX0_placeOf_11 : decode cX0_placeOf 11 = .ok (.if_icmp .lt 11, 3) := by decide +kernel
theorem dX0_placeOf_14 : decode cX0_placeOf 14 = .ok (.iload_n 2, 1) := by decide +kernel
theorem dX0_placeOf_15 : decode cX0_placeOf 15 = .ok (.sipush 300, 3) := by decide +kernel
theorem dX0_placeOf_18 : decode cX0_placeOf 18 = .ok (.isub, 1) := by decide +kernel
theorem dX0_placeOf_19 : decode cX0_placeOf 19 = .ok (.goto 4, 3) := by decide +kernel
theorem dX0_placeOf_22 : decode cX0_placeOf 22 = .ok (.iload_n 2, 1) := by decide +kernel
theorem dX0_placeOf_23 : decode cX0_placeOf 23 = .ok (.ireturn, 1) := by decide +kernel
theorem dX0_read_0 : decode cX0_read 0 = .ok (.aload_n 0, 1) := by decide +kernel
theorem dX0_read_1 : decode cX0_read 1 = .ok (.getfield 11, 3) := by decide +kernel
theorem dX0_read_4 : decode cX0_read 4 = .ok (.iload_n 2, 1) := by decide +kernel
theorem dX0_read_5 : decode cX0_read 5 = .ok (.aaload, 1) := by decide +kernel
theorem dX0_read_6 : decode cX0_read 6 = .ok (.aload_n 0, 1) := by decide +kernel
theorem dX0_read_7 : decode cX0_read 7 = .ok (.iload_n 1, 1) := by decide +kernel
theorem dX0_read_8 : decode cX0_read 8 = .ok (.invokevirtual 20, 3) := by decide +kernel
theorem dX0_read_11 : decode cX0_read 11 = .ok (.iaload, 1) := by decide +kernel
theorem dX0_read_12 : decode cX0_read 12 = .ok (.ireturn, 1) := by decide +kernel
theorem dX0_send_0 : decode cX0_send 0 = .ok (.aload_n 0, 1) := by decide +kernel
theorem dX0_send_1 : decode cX0_send 1 = .ok (.dup, 1) := by decide +kernel
theorem dX0_send_2 : decode cX0_send 2 = .ok (.getfield 24, 3) := by decide +kernel
theorem dX0_send_5 : decode cX0_send 5 = .ok (.iconst 1, 1) := by decide +kernel
theorem dX0_send_6 : decode cX0_send 6 = .ok (.iadd, 1) := by decide +kernel
theorem dX0_send_7 : decode cX0_send 7 = .ok (.putfield 24, 3) := by decide +kernel
theorem dX0_send_10 : decode cX0_send 10 = .ok (.aload_n 0, 1) := by decide +kernel
theorem dX0_send_11 : decode cX0_send 11 = .ok (.getfield 27, 3) := by decide +kernel
theorem dX0_send_14 : decode cX0_send 14 = .ok (.sipush 300, 3) := by decide +kernel
theorem dX0_send_17 : decode cX0_send 17 = .ok (.if_icmp .lt 14, 3) := by decide +kernel
theorem dX0_send_20 : decode cX0_send 20 = .ok (.aload_n 0, 1) := by decide +kernel
theorem dX0_send_21 : decode cX0_send 21 = .ok (.dup, 1) := by decide +kernel
theorem dX0_send_22 : decode cX0_send 22 = .ok (.getfield 30, 3) := by decide +kernel
theorem dX0_send_25 : decode cX0_send 25 = .ok (.iconst 1, 1) := by decide +kernel
theorem dX0_send_26 : decode cX0_send 26 = .ok (.iadd, 1) := by decide +kernel
theorem dX0_send_27 : decode cX0_send 27 = .ok (.putfield 30, 3) := by decide +kernel
theorem dX0_send_30 : decode cX0_send 30 = .ok (.return_, 1) := by decide +kernel
theorem dX0_send_31 : decode cX0_send 31 = .ok (.aload_n 0, 1) := by decide +kernel
theorem dX0_send_32 : decode cX0_send 32 = .ok (.aload_n 0, 1) := by decide +kernel
theorem dX0_send_33 : decode cX0_send 33 = .ok (.getfield 27, 3) := by decide +kernel
theorem dX0_send_36 : decode cX0_send 36 = .ok (.invokevirtual 20, 3) := by decide +kernel
theorem dX0_send_39 : decode cX0_send 39 = .ok (.istore 7, 2) := by decide +kernel
theorem dX0_send_41 : decode cX0_send 41 = .ok (.aload_n 0, 1) := by decide +kernel
theorem dX0_send_42 : decode cX0_send 42 = .ok (.getfield 11, 3) := by decide +kernel
theorem dX0_send_45 : decode cX0_send 45 = .ok (.iconst 0, 1) := by decide +kernel
theorem dX0_send_46 : decode cX0_send 46 = .ok (.aaload, 1) := by decide +kernel
theorem dX0_send_47 : decode cX0_send 47 = .ok (.iload 7, 2) := by decide +kernel
theorem dX0_send_49 : decode cX0_send 49 = .ok (.iload_n 1, 1) := by decide +kernel
theorem dX0_send_50 : decode cX0_send 50 = .ok (.iastore, 1) := by decide +kernel
theorem dX0_send_51 : decode cX0_send 51 = .ok (.aload_n 0, 1) := by decide +kernel
theorem dX0_send_52 : decode cX0_send 52 = .ok (.getfield 11, 3) := by decide +kernel
theorem dX0_send_55 : decode cX0_send 55 = .ok (.iconst 1, 1) := by decide +kernel
theorem dX0_send_56 : decode cX0_send 56 = .ok (.aaload, 1) := by decide +kernel
theorem dX0_send_57 : decode cX0_send 57 = .ok (.iload 7, 2) := by decide +kernel
theorem dX0_send_59 : decode cX0_send 59 = .ok (.iload_n 2, 1) := by decide +kernel
theorem dX0_send_60 : decode cX0_send 60 = .ok (.iastore, 1) := by decide +kernel
theorem dX0_send_61 : decode cX0_send 61 = .ok (.aload_n 0, 1) := by decide +kernel
theorem dX0_send_62 : decode cX0_send 62 = .ok (.getfield 11, 3) := by decide +kernel
theorem dX0_send_65 : decode cX0_send 65 = .ok (.iconst 2, 1) := by decide +kernel
theorem dX0_send_66 : decode cX0_send 66 = .ok (.aaload, 1) := by decide +kernel
theorem dX0_send_67 : decode cX0_send 67 = .ok (.iload 7, 2) := by decide +kernel
theorem dX0_send_69 : decode cX0_send 69 = .ok (.iload_n 3, 1) := by decide +kernel
theorem dX0_send_70 : decode cX0_send 70 = .ok (.iastore, 1) := by decide +kernel
theorem dX0_send_71 : decode cX0_send 71 = .ok (.aload_n 0, 1) := by decide +kernel
theorem dX0_send_72 : decode cX0_send 72 = .ok (.getfield 11, 3) := by decide +kernel
theorem dX0_send_75 : decode cX0_send 75 = .ok (.iconst 3, 1) := by decide +kernel
theorem dX0_send_76 : decode cX0_send 76 = .ok (.aaload, 1) := by decide +kernel
theorem dX0_send_77 : decode cX0_send 77 = .ok (.iload 7, 2) := by decide +kernel
theorem dX0_send_79 : decode cX0_send 79 = .ok (.iload 4, 2) := by decide +kernel
theorem dX0_send_81 : decode cX0_send 81 = .ok (.iastore, 1) := by decide +kernel
theorem dX0_send_82 : decode cX0_send 82 = .ok (.aload_n 0, 1) := by decide +kernel
theorem dX0_send_83 : decode cX0_send 83 = .ok (.getfield 11, 3) := by decide +kernel
theorem dX0_send_86 : decode cX0_send 86 = .ok (.iconst 4, 1) := by decide +kernel
theorem dX0_send_87 : decode cX0_send 87 = .ok (.aaload, 1) := by decide +kernel
theorem dX0_send_88 : decode cX0_send 88 = .ok (.iload 7, 2) := by decide +kernel
theorem dX0_send_90 : decode cX0_send 90 = .ok (.iload 5, 2) := by decide +kernel
theorem dX0_send_92 : decode cX0_send 92 = .ok (.iastore, 1) := by decide +kernel
theorem dX0_send_93 : decode cX0_send 93 = .ok (.aload_n 0, 1) := by decide +kernel
theorem dX0_send_94 : decode cX0_send 94 = .ok (.getfield 11, 3) := by decide +kernel
theorem dX0_send_97 : decode cX0_send 97 = .ok (.iconst 5, 1) := by decide +kernel
theorem dX0_send_98 : decode cX0_send 98 = .ok (.aaload, 1) := by decide +kernel
theorem dX0_send_99 : decode cX0_send 99 = .ok (.iload 7, 2) := by decide +kernel
theorem dX0_send_101 : decode cX0_send 101 = .ok (.iload 6, 2) := by decide +kernel
theorem dX0_send_103 : decode cX0_send 103 = .ok (.iastore, 1) := by decide +kernel
theorem dX0_send_104 : decode cX0_send 104 = .ok (.aload_n 0, 1) := by decide +kernel
theorem dX0_send_105 : decode cX0_send 105 = .ok (.dup, 1) := by decide +kernel
theorem dX0_send_106 : decode cX0_send 106 = .ok (.getfield 27, 3) := by decide +kernel
theorem dX0_send_109 : decode cX0_send 109 = .ok (.iconst 1, 1) := by decide +kernel
theorem dX0_send_110 : decode cX0_send 110 = .ok (.iadd, 1) := by decide +kernel
theorem dX0_send_111 : decode cX0_send 111 = .ok (.putfield 27, 3) := by decide +kernel
theorem dX0_send_114 : decode cX0_send 114 = .ok (.return_, 1) := by decide +kernel
theorem dX0_repeat_0 : decode cX0_repeat 0 = .ok (.aload_n 0, 1) := by decide +kernel
theorem dX0_repeat_1 : decode cX0_repeat 1 = .ok (.getfield 27, 3) := by decide +kernel
theorem dX0_repeat_4 : decode cX0_repeat 4 = .ok (.sipush 300, 3) := by decide +kernel
theorem dX0_repeat_7 : decode cX0_repeat 7 = .ok (.if_icmp .lt 5, 3) := by decide +kernel
theorem dX0_repeat_10 : decode cX0_repeat 10 = .ok (.iconst 0, 1) := by decide +kernel
theorem dX0_repeat_11 : decode cX0_repeat 11 = .ok (.ireturn, 1) := by decide +kernel
theorem dX0_repeat_12 : decode cX0_repeat 12 = .ok (.aload_n 0, 1) := by decide +kernel
theorem dX0_repeat_13 : decode cX0_repeat 13 = .ok (.iload_n 1, 1) := by decide +kernel
theorem dX0_repeat_14 : decode cX0_repeat 14 = .ok (.aload_n 0, 1) := by decide +kernel
theorem dX0_repeat_15 : decode cX0_repeat 15 = .ok (.getfield 27, 3) := by decide +kernel
theorem dX0_repeat_18 : decode cX0_repeat 18 = .ok (.invokevirtual 33, 3) := by decide +kernel
theorem dX0_repeat_21 : decode cX0_repeat 21 = .ok (.aload_n 0, 1) := by decide +kernel
theorem dX0_repeat_22 : decode cX0_repeat 22 = .ok (.dup, 1) := by decide +kernel
theorem dX0_repeat_23 : decode cX0_repeat 23 = .ok (.getfield 27, 3) := by decide +kernel
theorem dX0_repeat_26 : decode cX0_repeat 26 = .ok (.iconst 1, 1) := by decide +kernel
theorem dX0_repeat_27 : decode cX0_repeat 27 = .ok (.iadd, 1) := by decide +kernel
theorem dX0_repeat_28 : decode cX0_repeat 28 = .ok (.putfield 27, 3) := by decide +kernel
theorem dX0_repeat_31 : decode cX0_repeat 31 = .ok (.iconst 1, 1) := by decide +kernel
theorem dX0_repeat_32 : decode cX0_repeat 32 = .ok (.ireturn, 1) := by decide +kernel
theorem dX0_takeAway_0 : decode cX0_takeAway 0 = .ok (.iload_n 1, 1) := by decide +kernel
theorem dX0_takeAway_1 : decode cX0_takeAway 1 = .ok (.istore_n 2, 1) := by decide +kernel
theorem dX0_takeAway_2 : decode cX0_takeAway 2 = .ok (.iload_n 2, 1) := by decide +kernel
theorem dX0_takeAway_3 : decode cX0_takeAway 3 = .ok (.ifCond .le 17, 3) := by decide +kernel
theorem dX0_takeAway_6 : decode cX0_takeAway 6 = .ok (.aload_n 0, 1) := by decide +kernel
theorem dX0_takeAway_7 : decode cX0_takeAway 7 = .ok (.iload_n 2, 1) := by decide +kernel
theorem dX0_takeAway_8 : decode cX0_takeAway 8 = .ok (.iconst 1, 1) := by decide +kernel
theorem dX0_takeAway_9 : decode cX0_takeAway 9 = .ok (.isub, 1) := by decide +kernel
theorem dX0_takeAway_10 : decode cX0_takeAway 10 = .ok (.iload_n 2, 1) := by decide +kernel
theorem dX0_takeAway_11 : decode cX0_takeAway 11 = .ok (.invokevirtual 33, 3) := by decide +kernel
theorem dX0_takeAway_14 : decode cX0_takeAway 14 = .ok (.iinc 2 (-1), 3) := by decide +kernel
theorem dX0_takeAway_17 : decode cX0_takeAway 17 = .ok (.goto (-15), 3) := by decide +kernel
theorem dX0_takeAway_20 : decode cX0_takeAway 20 = .ok (.aload_n 0, 1) := by decide +kernel
theorem dX0_takeAway_21 : decode cX0_takeAway 21 = .ok (.aload_n 0, 1) := by decide +kernel
theorem dX0_takeAway_22 : decode cX0_takeAway 22 = .ok (.iconst 1, 1) := by decide +kernel
theorem dX0_takeAway_23 : decode cX0_takeAway 23 = .ok (.invokevirtual 20, 3) := by decide +kernel
theorem dX0_takeAway_26 : decode cX0_takeAway 26 = .ok (.putfield 16, 3) := by decide +kernel
theorem dX0_takeAway_29 : decode cX0_takeAway 29 = .ok (.aload_n 0, 1) := by decide +kernel
theorem dX0_takeAway_30 : decode cX0_takeAway 30 = .ok (.dup, 1) := by decide +kernel
theorem dX0_takeAway_31 : decode cX0_takeAway 31 = .ok (.getfield 27, 3) := by decide +kernel
theorem dX0_takeAway_34 : decode cX0_takeAway 34 = .ok (.iconst 1, 1) := by decide +kernel
theorem dX0_takeAway_35 : decode cX0_takeAway 35 = .ok (.isub, 1) := by decide +kernel
theorem dX0_takeAway_36 : decode cX0_takeAway 36 = .ok (.putfield 27, 3) := by decide +kernel
theorem dX0_takeAway_39 : decode cX0_takeAway 39 = .ok (.return_, 1) := by decide +kernel
theorem dX0_loseAllOf_0 : decode cX0_loseAllOf 0 = .ok (.iconst 0, 1) := by decide +kernel
theorem dX0_loseAllOf_1 : decode cX0_loseAllOf 1 = .ok (.istore_n 2, 1) := by decide +kernel
theorem dX0_loseAllOf_2 : decode cX0_loseAllOf 2 = .ok (.iconst 0, 1) := by decide +kernel
theorem dX0_loseAllOf_3 : decode cX0_loseAllOf 3 = .ok (.istore_n 3, 1) := by decide +kernel
theorem dX0_loseAllOf_4 : decode cX0_loseAllOf 4 = .ok (.iload_n 3, 1) := by decide +kernel
theorem dX0_loseAllOf_5 : decode cX0_loseAllOf 5 = .ok (.aload_n 0, 1) := by decide +kernel
theorem dX0_loseAllOf_6 : decode cX0_loseAllOf 6 = .ok (.getfield 27, 3) := by decide +kernel
theorem dX0_loseAllOf_9 : decode cX0_loseAllOf 9 = .ok (.if_icmp .ge 38, 3) := by decide +kernel
theorem dX0_loseAllOf_12 : decode cX0_loseAllOf 12 = .ok (.aload_n 0, 1) := by decide +kernel
theorem dX0_loseAllOf_13 : decode cX0_loseAllOf 13 = .ok (.iload_n 3, 1) := by decide +kernel
theorem dX0_loseAllOf_14 : decode cX0_loseAllOf 14 = .ok (.iconst 1, 1) := by decide +kernel
theorem dX0_loseAllOf_15 : decode cX0_loseAllOf 15 = .ok (.invokevirtual 37, 3) := by decide +kernel
theorem dX0_loseAllOf_18 : decode cX0_loseAllOf 18 = .ok (.iload_n 1, 1) := by decide +kernel
theorem dX0_loseAllOf_19 : decode cX0_loseAllOf 19 = .ok (.if_icmp .eq 22, 3) := by decide +kernel
theorem dX0_loseAllOf_22 : decode cX0_loseAllOf 22 = .ok (.aload_n 0, 1) := by decide +kernel
theorem dX0_loseAllOf_23 : decode cX0_loseAllOf 23 = .ok (.iload_n 3, 1) := by decide +kernel
theorem dX0_loseAllOf_24 : decode cX0_loseAllOf 24 = .ok (.iconst 2, 1) := by decide +kernel
theorem dX0_loseAllOf_25 : decode cX0_loseAllOf 25 = .ok (.invokevirtual 37, 3) := by decide +kernel
theorem dX0_loseAllOf_28 : decode cX0_loseAllOf 28 = .ok (.iload_n 1, 1) := by decide +kernel
theorem dX0_loseAllOf_29 : decode cX0_loseAllOf 29 = .ok (.if_icmp .eq 12, 3) := by decide +kernel
theorem dX0_loseAllOf_32 : decode cX0_loseAllOf 32 = .ok (.aload_n 0, 1) := by decide +kernel
theorem dX0_loseAllOf_33 : decode cX0_loseAllOf 33 = .ok (.iload_n 3, 1) := by decide +kernel
theorem dX0_loseAllOf_34 : decode cX0_loseAllOf 34 = .ok (.iload_n 2, 1) := by decide +kernel
theorem dX0_loseAllOf_35 : decode cX0_loseAllOf 35 = .ok (.invokevirtual 33, 3) := by decide +kernel
theorem dX0_loseAllOf_38 : decode cX0_loseAllOf 38 = .ok (.iinc 2 1, 3) := by decide +kernel
theorem dX0_loseAllOf_41 : decode cX0_loseAllOf 41 = .ok (.iinc 3 1, 3) := by decide +kernel
theorem dX0_loseAllOf_44 : decode cX0_loseAllOf 44 = .ok (.goto (-40), 3) := by decide +kernel
theorem dX0_loseAllOf_47 : decode cX0_loseAllOf 47 = .ok (.aload_n 0, 1) := by decide +kernel
theorem dX0_loseAllOf_48 : decode cX0_loseAllOf 48 = .ok (.getfield 27, 3) := by decide +kernel
theorem dX0_loseAllOf_51 : decode cX0_loseAllOf 51 = .ok (.iload_n 2, 1) := by decide +kernel
theorem dX0_loseAllOf_52 : decode cX0_loseAllOf 52 = .ok (.isub, 1) := by decide +kernel
theorem dX0_loseAllOf_53 : decode cX0_loseAllOf 53 = .ok (.istore_n 3, 1) := by decide +kernel
theorem dX0_loseAllOf_54 : decode cX0_loseAllOf 54 = .ok (.aload_n 0, 1) := by decide +kernel
theorem dX0_loseAllOf_55 : decode cX0_loseAllOf 55 = .ok (.iload_n 2, 1) := by decide +kernel
theorem dX0_loseAllOf_56 : decode cX0_loseAllOf 56 = .ok (.putfield 27, 3) := by decide +kernel
theorem dX0_loseAllOf_59 : decode cX0_loseAllOf 59 = .ok (.aload_n 0, 1) := by decide +kernel
theorem dX0_loseAllOf_60 : decode cX0_loseAllOf 60 = .ok (.dup, 1) := by decide +kernel
theorem dX0_loseAllOf_61 : decode cX0_loseAllOf 61 = .ok (.getfield 41, 3) := by decide +kernel
theorem dX0_loseAllOf_64 : decode cX0_loseAllOf 64 = .ok (.iload_n 3, 1) := by decide +kernel
theorem dX0_loseAllOf_65 : decode cX0_loseAllOf 65 = .ok (.iadd, 1) := by decide +kernel
theorem dX0_loseAllOf_66 : decode cX0_loseAllOf 66 = .ok (.putfield 41, 3) := by decide +kernel
theorem dX0_loseAllOf_69 : decode cX0_loseAllOf 69 = .ok (.iload_n 3, 1) := by decide +kernel
theorem dX0_loseAllOf_70 : decode cX0_loseAllOf 70 = .ok (.ireturn, 1) := by decide +kernel
theorem dX0_put_0 : decode cX0_put 0 = .ok (.aload_n 0, 1) := by decide +kernel
theorem dX0_put_1 : decode cX0_put 1 = .ok (.iload_n 1, 1) := by decide +kernel
theorem dX0_put_2 : decode cX0_put 2 = .ok (.invokevirtual 20, 3) := by decide +kernel
theorem dX0_put_5 : decode cX0_put 5 = .ok (.istore_n 3, 1) := by decide +kernel
theorem dX0_put_6 : decode cX0_put 6 = .ok (.aload_n 0, 1) := by decide +kernel
theorem dX0_put_7 : decode cX0_put 7 = .ok (.iload_n 2, 1) := by decide +kernel
theorem dX0_put_8 : decode cX0_put 8 = .ok (.invokevirtual 20, 3) := by decide +kernel
theorem dX0_put_11 : decode cX0_put 11 = .ok (.istore 4, 2) := by decide +kernel
theorem dX0_put_13 : decode cX0_put 13 = .ok (.iconst 0, 1) := by decide +kernel
theorem dX0_put_14 : decode cX0_put 14 = .ok (.istore 5, 2) := by decide +kernel
theorem dX0_put_16 : decode cX0_put 16 = .ok (.iload 5, 2) := by decide +kernel
theorem dX0_put_18 : decode cX0_put 18 = .ok (.bipush 6, 2) := by decide +kernel
theorem dX0_put_20 : decode cX0_put 20 = .ok (.if_icmp .ge 28, 3) := by decide +kernel
theorem dX0_put_23 : decode cX0_put 23 = .ok (.aload_n 0, 1) := by decide +kernel
theorem dX0_put_24 : decode cX0_put 24 = .ok (.getfield 11, 3) := by decide +kernel
theorem dX0_put_27 : decode cX0_put 27 = .ok (.iload 5, 2) := by decide +kernel
theorem dX0_put_29 : decode cX0_put 29 = .ok (.aaload, 1) := by decide +kernel
theorem dX0_put_30 : decode cX0_put 30 = .ok (.iload 4, 2) := by decide +kernel
theorem dX0_put_32 : decode cX0_put 32 = .ok (.aload_n 0, 1) := by decide +kernel
theorem dX0_put_33 : decode cX0_put 33 = .ok (.getfield 11, 3) := by decide +kernel
theorem dX0_put_36 : decode cX0_put 36 = .ok (.iload 5, 2) := by decide +kernel
theorem dX0_put_38 : decode cX0_put 38 = .ok (.aaload, 1) := by decide +kernel
theorem dX0_put_39 : decode cX0_put 39 = .ok (.iload_n 3, 1) := by decide +kernel
theorem dX0_put_40 : decode cX0_put 40 = .ok (.iaload, 1) := by decide +kernel
theorem dX0_put_41 : decode cX0_put 41 = .ok (.iastore, 1) := by decide +kernel
theorem dX0_put_42 : decode cX0_put 42 = .ok (.iinc 5 1, 3) := by decide +kernel
theorem dX0_put_45 : decode cX0_put 45 = .ok (.goto (-29), 3) := by decide +kernel
theorem dX0_put_48 : decode cX0_put 48 = .ok (.return_, 1) := by decide +kernel
theorem dX1_init_0 : decode cX1_init 0 = .ok (.aload_n 0, 1) := by decide +kernel
theorem dX1_init_1 : decode cX1_init 1 = .ok (.invokespecial 3, 3) := by decide +kernel
theorem dX1_init_4 : decode cX1_init 4 = .ok (.aload_n 0, 1) := by decide +kernel
theorem dX1_init_5 : decode cX1_init 5 = .ok (.bipush 12, 2) := by decide +kernel
theorem dX1_init_7 : decode cX1_init 7 = .ok (.newarray .int, 2) := by decide +kernel
theorem dX1_init_9 : decode cX1_init 9 = .ok (.putfield 9, 3) := by decide +kernel
theorem dX1_init_12 : decode cX1_init 12 = .ok (.aload_n 0, 1) := by decide +kernel
theorem dX1_init_13 : decode cX1_init 13 = .ok (.bipush 12, 2) := by decide +kernel
theorem dX1_init_15 : decode cX1_init 15 = .ok (.newarray .int, 2) := by decide +kernel
theorem dX1_init_17 : decode cX1_init 17 = .ok (.putfield 15, 3) := by decide +kernel
theorem dX1_init_20 : decode cX1_init 20 = .ok (.aload_n 0, 1) := by decide +kernel
theorem dX1_init_21 : decode cX1_init 21 = .ok (.bipush 12, 2) := by decide +kernel
theorem dX1_init_23 : decode cX1_init 23 = .ok (.newarray .int, 2) := by decide +kernel
theorem dX1_init_25 : decode cX1_init 25 = .ok (.putfield 18, 3) := by decide +kernel
theorem dX1_init_28 : decode cX1_init 28 = .ok (.aload_n 0, 1) := by decide +kernel
theorem dX1_init_29 : decode cX1_init 29 = .ok (.bipush 12, 2) := by decide +kernel
theorem dX1_init_31 : decode cX1_init 31 = .ok (.newarray .int, 2) := by decide +kernel
theorem dX1_init_33 : decode cX1_init 33 = .ok (.putfield 21, 3) := by decide +kernel
theorem dX1_init_36 : decode cX1_init 36 = .ok (.aload_n 0, 1) := by decide +kernel
theorem dX1_init_37 : decode cX1_init 37 = .ok (.bipush 12, 2) := by decide +kernel
theorem dX1_init_39 : decode cX1_init 39 = .ok (.newarray .int, 2) := by decide +kernel
theorem dX1_init_41 : decode cX1_init 41 = .ok (.putfield 24, 3) := by decide +kernel
theorem dX1_init_44 : decode cX1_init 44 = .ok (.aload_n 0, 1) := by decide +kernel
theorem dX1_init_45 : decode cX1_init 45 = .ok (.bipush 12, 2) := by decide +kernel
theorem dX1_init_47 : decode cX1_init 47 = .ok (.newarray .int, 2) := by decide +kernel
theorem dX1_init_49 : decode cX1_init 49 = .ok (.putfield 27, 3) := by decide +kernel
theorem dX1_init_52 : decode cX1_init 52 = .ok (.aload_n 0, 1) := by decide +kernel
theorem dX1_init_53 : decode cX1_init 53 = .ok (.bipush 12, 2) := by decide +kernel
theorem dX1_init_55 : decode cX1_init 55 = .ok (.newarray .int, 2) := by decide +kernel
theorem dX1_init_57 : decode cX1_init 57 = .ok (.putfield 30, 3) := by decide +kernel
theorem dX1_init_60 : decode cX1_init 60 = .ok (.aload_n 0, 1) := by decide +kernel
theorem dX1_init_61 : decode cX1_init 61 = .ok (.bipush 12, 2) := by decide +kernel
theorem dX1_init_63 : decode cX1_init 63 = .ok (.bipush 12, 2) := by decide +kernel
theorem dX1_init_65 : decode cX1_init 65 = .ok (.multianewarray 33 2, 4) := by decide +kernel
theorem dX1_init_69 : decode cX1_init 69 = .ok (.putfield 35, 3) := by decide +kernel
theorem dX1_init_72 : decode cX1_init 72 = .ok (.aload_n 0, 1) := by decide +kernel
theorem dX1_init_73 : decode cX1_init 73 = .ok (.bipush 12, 2) := by decide +kernel
theorem dX1_init_75 : decode cX1_init 75 = .ok (.bipush 12, 2) := by decide +kernel
theorem dX1_init_77 : decode cX1_init 77 = .ok (.multianewarray 33 2, 4) := by decide +kernel
theorem dX1_init_81 : decode cX1_init 81 = .ok (.putfield 38, 3) := by decide +kernel
theorem dX1_init_84 : decode cX1_init 84 = .ok (.aload_n 0, 1) := by decide +kernel
theorem dX1_init_85 : decode cX1_init 85 = .ok (.iload_n 1, 1) := by decide +kernel
theorem dX1_init_86 : decode cX1_init 86 = .ok (.putfield 41, 3) := by decide +kernel
theorem dX1_init_89 : decode cX1_init 89 = .ok (.aload_n 0, 1) := by decide +kernel
theorem dX1_init_90 : decode cX1_init 90 = .ok (.getfield 15, 3) := by decide +kernel
theorem dX1_init_93 : decode cX1_init 93 = .ok (.iconst (-1), 1) := by decide +kernel
theorem dX1_init_94 : decode cX1_init 94 = .ok (.invokestatic 45, 3) := by decide +kernel
theorem dX1_init_97 : decode cX1_init 97 = .ok (.aload_n 0, 1) := by decide +kernel
theorem dX1_init_98 : decode cX1_init 98 = .ok (.getfield 18, 3) := by decide +kernel
theorem dX1_init_101 : decode cX1_init 101 = .ok (.iconst (-1), 1) := by decide +kernel
theorem dX1_init_102 : decode cX1_init 102 = .ok (.invokestatic 45, 3) := by decide +kernel
theorem dX1_init_105 : decode cX1_init 105 = .ok (.aload_n 0, 1) := by decide +kernel
theorem dX1_init_106 : decode cX1_init 106 = .ok (.getfield 21, 3) := by decide +kernel
theorem dX1_init_109 : decode cX1_init 109 = .ok (.iconst (-1), 1) := by decide +kernel
theorem dX1_init_110 : decode cX1_init 110 = .ok (.invokestatic 45, 3) := by decide +kernel
theorem dX1_init_113 : decode cX1_init 113 = .ok (.aload_n 0, 1) := by decide +kernel
theorem dX1_init_114 : decode cX1_init 114 = .ok (.getfield 24, 3) := by decide +kernel
theorem dX1_init_117 : decode cX1_init 117 = .ok (.iconst (-1), 1) := by decide +kernel
theorem dX1_init_118 : decode cX1_init 118 = .ok (.invokestatic 45, 3) := by decide +kernel
theorem dX1_init_121 : decode cX1_init 121 = .ok (.aload_n 0, 1) := by decide +kernel
theorem dX1_init_122 : decode cX1_init 122 = .ok (.getfield 27, 3) := by decide +kernel
theorem dX1_init_125 : decode cX1_init 125 = .ok (.iconst (-1), 1) := by decide +kernel
theorem dX1_init_126 : decode cX1_init 126 = .ok (.invokestatic 45, 3) := by decide +kernel
theorem dX1_init_129 : decode cX1_init 129 = .ok (.aload_n 0, 1) := by decide +kernel
theorem dX1_init_130 : decode cX1_init 130 = .ok (.getfield 30, 3) := by decide +kernel
theorem dX1_init_133 : decode cX1_init 133 = .ok (.iconst (-1), 1) := by decide +kernel
theorem dX1_init_134 : decode cX1_init 134 = .ok (.invokestatic 45, 3) := by decide +kernel
theorem dX1_init_137 : decode cX1_init 137 = .ok (.iconst 0, 1) := by decide +kernel
theorem dX1_init_138 : decode cX1_init 138 = .ok (.istore_n 2, 1) := by decide +kernel
theorem dX1_init_139 : decode cX1_init 139 = .ok (.iload_n 2, 1) := by decide +kernel
theorem dX1_init_140 : decode cX1_init 140 = .ok (.bipush 12, 2) := by decide +kernel
theorem dX1_init_142 : decode cX1_init 142 = .ok (.if_icmp .ge 29, 3) := by decide +kernel
theorem dX1_init_145 : decode cX1_init 145 = .ok (.aload_n 0, 1) := by decide +kernel
theorem dX1_init_146 : decode cX1_init 146 = .ok (.getfield 35, 3) := by decide +kernel
theorem dX1_init_149 : decode cX1_init 149 = .ok (.iload_n 2, 1) := by decide +kernel
theorem dX1_init_150 : decode cX1_init 150 = .ok (.aaload, 1) := by decide +kernel
theorem dX1_init_151 : decode cX1_init 151 = .ok (.iconst (-1), 1) := by decide +kernel
theorem dX1_init_152 : decode cX1_init 152 = .ok (.invokestatic 45, 3) := by decide +kernel
theorem dX1_init_155 : decode cX1_init 155 = .ok (.aload_n 0, 1) := by decide +kernel
theorem dX1_init_156 : decode cX1_init 156 = .ok (.getfield 38, 3) := by decide +kernel
theorem dX1_init_159 : decode cX1_init 159 = .ok (.iload_n 2, 1) := by decide +kernel
theorem dX1_init_160 : decode cX1_init 160 = .ok (.aaload, 1) := by decide +kernel
theorem dX1_init_161 : decode cX1_init 161 = .ok (.iconst (-1), 1) := by decide +kernel
theorem dX1_init_162 : decode cX1_init 162 = .ok (.invokestatic 45, 3) := by decide +kernel
theorem dX1_init_165 : decode cX1_init 165 = .ok (.iinc 2 1, 3) := by decide +kernel
theorem dX1_init_168 : decode cX1_init 168 = .ok (.goto (-29), 3) := by decide +kernel
theorem dX1_init_171 : decode cX1_init 171 = .ok (.aload_n 0, 1) := by decide +kernel
theorem dX1_init_172 : decode cX1_init 172 = .ok (.getfield 21, 3) := by decide +kernel
theorem dX1_init_175 : decode cX1_init 175 = .ok (.iload_n 1, 1) := by decide +kernel
theorem dX1_init_176 : decode cX1_init 176 = .ok (.iload_n 1, 1) := by decide +kernel
theorem dX1_init_177 : decode cX1_init 177 = .ok (.iastore, 1) := by decide +kernel
theorem dX1_init_178 : decode cX1_init 178 = .ok (.aload_n 0, 1) := by decide +kernel
theorem dX1_init_179 : decode cX1_init 179 = .ok (.getfield 24, 3) := by decide +kernel
theorem dX1_init_182 : decode cX1_init 182 = .ok (.iload_n 1, 1) := by decide +kernel
theorem dX1_init_183 : decode cX1_init 183 = .ok (.iconst 0, 1) := by decide +kernel
theorem dX1_init_184 : decode cX1_init 184 = .ok (.iastore, 1) := by decide +kernel
theorem dX1_init_185 : decode cX1_init 185 = .ok (.aload_n 0, 1) := by decide +kernel
theorem dX1_init_186 : decode cX1_init 186 = .ok (.getfield 27, 3) := by decide +kernel
theorem dX1_init_189 : decode cX1_init 189 = .ok (.iload_n 1, 1) := by decide +kernel
theorem dX1_init_190 : decode cX1_init 190 = .ok (.iconst 0, 1) := by decide +kernel
theorem dX1_init_191 : decode cX1_init 191 = .ok (.iastore, 1) := by decide +kernel
theorem dX1_init_192 : decode cX1_init 192 = .ok (.return_, 1) := by decide +kernel
theorem dX1_hasWay_0 : decode cX1_hasWay 0 = .ok (.aload_n 0, 1) := by decide +kernel
theorem dX1_hasWay_1 : decode cX1_hasWay 1 = .ok (.getfield 21, 3) := by decide +kernel
theorem dX1_hasWay_4 : decode cX1_hasWay 4 = .ok (.iload_n 1, 1) := by decide +kernel
theorem dX1_hasWay_5 : decode cX1_hasWay 5 = .ok (.iaload, 1) := by decide +kernel
theorem dX1_hasWay_6 : decode cX1_hasWay 6 = .ok (.iconst (-1), 1) := by decide +kernel
theorem dX1_hasWay_7 : decode cX1_hasWay 7 = .ok (.if_icmp .eq 7, 3) := by decide +kernel
theorem dX1_hasWay_10 : decode cX1_hasWay 10 = .ok (.iconst 1, 1) := by decide +kernel
theorem dX1_hasWay_11 : decode cX1_hasWay 11 = .ok (.goto 4, 3) := by decide +kernel
theorem dX1_hasWay_14 : decode cX1_hasWay 14 = .ok (.iconst 0, 1) := by decide +kernel
theorem dX1_hasWay_15 : decode cX1_hasWay 15 = .ok (.ireturn, 1) := by decide +kernel
theorem dX1_hasBound_0 : decode cX1_hasBound 0 = .ok (.aload_n 0, 1) := by decide +kernel
theorem dX1_hasBound_1 : decode cX1_hasBound 1 = .ok (.getfield 15, 3) := by decide +kernel
theorem dX1_hasBound_4 : decode cX1_hasBound 4 = .ok (.iload_n 1, 1) := by decide +kernel
theorem dX1_hasBound_5 : decode cX1_hasBound 5 = .ok (.iaload, 1) := by decide +kernel
theorem dX1_hasBound_6 : decode cX1_hasBound 6 = .ok (.iconst (-1), 1) := by decide +kernel
theorem dX1_hasBound_7 : decode cX1_hasBound 7 = .ok (.if_icmp .eq 7, 3) := by decide +kernel
theorem dX1_hasBound_10 : decode cX1_hasBound 10 = .ok (.iconst 1, 1) := by decide +kernel
theorem dX1_hasBound_11 : decode cX1_hasBound 11 = .ok (.goto 4, 3) := by decide +kernel
theorem dX1_hasBound_14 : decode cX1_hasBound 14 = .ok (.iconst 0, 1) := by decide +kernel
theorem dX1_hasBound_15 : decode cX1_hasBound 15 = .ok (.ireturn, 1) := by decide +kernel
theorem dX1_isGood_0 : decode cX1_isGood 0 = .ok (.iload_n 3, 1) := by decide +kernel
theorem dX1_isGood_1 : decode cX1_isGood 1 = .ok (.ldc 51, 2) := by decide +kernel
theorem dX1_isGood_3 : decode cX1_isGood 3 = .ok (.if_icmp .ne 5, 3) := by decide +kernel
theorem dX1_isGood_6 : decode cX1_isGood 6 = .ok (.iconst 0, 1) := by decide +kernel
theorem dX1_isGood_7 : decode cX1_isGood 7 = .ok (.ireturn, 1) := by decide +kernel
theorem dX1_isGood_8 : decode cX1_isGood 8 = .ok (.aload_n 0, 1) := by decide +kernel
theorem dX1_isGood_9 : decode cX1_isGood 9 = .ok (.getfield 15, 3) := by decide +kernel
theorem dX1_isGood_12 : decode cX1_isGood 12 = .ok (.iload_n 1, 1) := by decide +kernel
theorem dX1_isGood_13 : decode cX1_isGood 13 = .ok (.iaload, 1) := by decide +kernel
theorem dX1_isGood_14 : decode cX1_isGood 14 = .ok (.iconst (-1), 1) := by decide +kernel
theorem dX1_isGood_15 : decode cX1_isGood 15 = .ok (.if_icmp .eq 36, 3) := by decide +kernel
theorem dX1_isGood_18 : decode cX1_isGood 18 = .ok (.iload_n 2, 1) := by decide +kernel
theorem dX1_isGood_19 : decode cX1_isGood 19 = .ok (.aload_n 0, 1) := by decide +kernel
theorem dX1_isGood_20 : decode cX1_isGood 20 = .ok (.getfield 15, 3) := by decide +kernel
theorem dX1_isGood_23 : decode cX1_isGood 23 = .ok (.iload_n 1, 1) := by decide +kernel
theorem dX1_isGood_24 : decode cX1_isGood 24 = .ok (.iaload, 1) := by decide +kernel
theorem dX1_isGood_25 : decode cX1_isGood 25 = .ok (.invokestatic 52, 3) := by decide +kernel
theorem dX1_isGood_28 : decode cX1_isGood 28 = .ok (.ifCond .ne 23, 3) := by decide +kernel
theorem dX1_isGood_31 : decode cX1_isGood 31 = .ok (.iload_n 2, 1) := by decide +kernel
theorem dX1_isGood_32 : decode cX1_isGood 32 = .ok (.aload_n 0, 1) := by decide +kernel
theorem dX1_isGood_33 : decode cX1_isGood 33 = .ok (.getfield 15, 3) := by decide +kernel
theorem dX1_isGood_36 : decode cX1_isGood 36 = .ok (.iload_n 1, 1) := by decide +kernel
theorem dX1_isGood_37 : decode cX1_isGood 37 = .ok (.iaload, 1) := by decide +kernel
theorem dX1_isGood_38 : decode cX1_isGood 38 = .ok (.if_icmp .ne 17, 3) := by decide +kernel
theorem dX1_isGood_41 : decode cX1_isGood 41 = .ok (.iload_n 3, 1) := by decide +kernel
theorem dX1_isGood_42 : decode cX1_isGood 42 = .ok (.aload_n 0, 1) := by decide +kernel
theorem dX1_isGood_43 : decode cX1_isGood 43 = .ok (.getfield 18, 3) := by decide +kernel
theorem dX1_isGood_46 : decode cX1_isGood 46 = .ok (.iload_n 1, 1) := by decide +kernel
theorem dX1_isGood_47 : decode cX1_isGood 47 = .ok (.iaload, 1) := by decide +kernel
theorem dX1_isGood_48 : decode cX1_isGood 48 = .ok (.if_icmp .ge 7, 3) := by decide +kernel
theorem dX1_isGood_51 : decode cX1_isGood 51 = .ok (.iconst 1, 1) := by decide +kernel
theorem dX1_isGood_52 : decode cX1_isGood 52 = .ok (.goto 4, 3) := by decide +kernel
theorem dX1_isGood_55 : decode cX1_isGood 55 = .ok (.iconst 0, 1) := by decide +kernel
theorem dX1_isGood_56 : decode cX1_isGood 56 = .ok (.ireturn, 1) := by decide +kernel
theorem dX1_hasPassedOn_0 : decode cX1_hasPassedOn 0 = .ok (.aload_n 0, 1) := by decide +kernel
theorem dX1_hasPassedOn_1 : decode cX1_hasPassedOn 1 = .ok (.getfield 30, 3) := by decide +kernel
theorem dX1_hasPassedOn_4 : decode cX1_hasPassedOn 4 = .ok (.iload_n 1, 1) := by decide +kernel
theorem dX1_hasPassedOn_5 : decode cX1_hasPassedOn 5 = .ok (.iaload, 1) := by decide +kernel
theorem dX1_hasPassedOn_6 : decode cX1_hasPassedOn 6 = .ok (.istore_n 3, 1) := by decide +kernel
theorem dX1_hasPassedOn_7 : decode cX1_hasPassedOn 7 = .ok (.iload_n 3, 1) := by decide +kernel
theorem dX1_hasPassedOn_8 : decode cX1_hasPassedOn 8 = .ok (.iconst (-1), 1) := by decide +kernel
theorem dX1_hasPassedOn_9 : decode cX1_hasPassedOn 9 = .ok (.if_icmp .eq 20, 3) := by decide +kernel
theorem dX1_hasPassedOn_12 : decode cX1_hasPassedOn 12 = .ok (.iload_n 3, 1) := by decide +kernel
theorem dX1_hasPassedOn_13 : decode cX1_hasPassedOn 13 = .ok (.iload_n 2, 1) := by decide +kernel
theorem dX1_hasPassedOn_14 : decode cX1_hasPassedOn 14 = .ok (.if_icmp .eq 11, 3) := by decide +kernel
theorem dX1_hasPassedOn_17 : decode cX1_hasPassedOn 17 = .ok (.iload_n 3, 1) := by decide +kernel
theorem dX1_hasPassedOn_18 : decode cX1_hasPassedOn 18 = .ok (.iload_n 2, 1) := by decide +kernel
theorem dX1_hasPassedOn_19 : decode cX1_hasPassedOn 19 = .ok (.invokestatic 52, 3) := by decide +kernel
theorem dX1_hasPassedOn_22 : decode cX1_hasPassedOn 22 = .ok (.ifCond .eq 7, 3) := by decide +kernel
theorem dX1_hasPassedOn_25 : decode cX1_hasPassedOn 25 = .ok (.iconst 1, 1) := by decide +kernel
theorem dX1_hasPassedOn_26 : decode cX1_hasPassedOn 26 = .ok (.goto 4, 3) := by decide +kernel
theorem dX1_hasPassedOn_29 : decode cX1_hasPassedOn 29 = .ok (.iconst 0, 1) := by decide +kernel
theorem dX1_hasPassedOn_30 : decode cX1_hasPassedOn 30 = .ok (.ireturn, 1) := by decide +kernel
theorem dX1_raiseOwnNumber_0 : decode cX1_raiseOwnNumber 0 = .ok (.aload_n 0, 1) := by decide +kernel
theorem dX1_raiseOwnNumber_1 : decode cX1_raiseOwnNumber 1 = .ok (.getfield 24, 3) := by decide +kernel
theorem dX1_raiseOwnNumber_4 : decode cX1_raiseOwnNumber 4 = .ok (.aload_n 0, 1) := by decide +kernel
theorem dX1_raiseOwnNumber_5 : decode cX1_raiseOwnNumber 5 = .ok (.getfield 41, 3) := by decide +kernel
theorem dX1_raiseOwnNumber_8 : decode cX1_raiseOwnNumber 8 = .ok (.aload_n 0, 1) := by decide +kernel
theorem dX1_raiseOwnNumber_9 : decode cX1_raiseOwnNumber 9 = .ok (.getfield 24, 3) := by decide +kernel
theorem dX1_raiseOwnNumber_12 : decode cX1_raiseOwnNumber 12 = .ok (.aload_n 0, 1) := by decide +kernel
theorem dX1_raiseOwnNumber_13 : decode cX1_raiseOwnNumber 13 = .ok (.getfield 41, 3) := by decide +kernel
theorem dX1_raiseOwnNumber_16 : decode cX1_raiseOwnNumber 16 = .ok (.iaload, 1) := by decide +kernel
theorem dX1_raiseOwnNumber_17 : decode cX1_raiseOwnNumber 17 = .ok (.invokestatic 56, 3) := by decide +kernel
theorem dX1_raiseOwnNumber_20 : decode cX1_raiseOwnNumber 20 = .ok (.iastore, 1) := by decide +kernel
theorem dX1_raiseOwnNumber_21 : decode cX1_raiseOwnNumber 21 = .ok (.aload_n 0, 1) := by decide +kernel
theorem dX1_raiseOwnNumber_22 : decode cX1_raiseOwnNumber 22 = .ok (.getfield 24, 3) := by decide +kernel
theorem dX1_raiseOwnNumber_25 : decode cX1_raiseOwnNumber 25 = .ok (.aload_n 0, 1) := by decide +kernel
theorem dX1_raiseOwnNumber_26 : decode cX1_raiseOwnNumber 26 = .ok (.getfield 41, 3) := by decide +kernel
theorem dX1_raiseOwnNumber_29 : decode cX1_raiseOwnNumber 29 = .ok (.iaload, 1) := by decide +kernel
theorem dX1_raiseOwnNumber_30 : decode cX1_raiseOwnNumber 30 = .ok (.ireturn, 1) := by decide +kernel
theorem dX1_countLinks_0 : decode cX1_countLinks 0 = .ok (.iconst 0, 1) := by decide +kernel
theorem dX1_countLinks_1 : decode cX1_countLinks 1 = .ok (.istore_n 1, 1) := by decide +kernel
theorem dX1_countLinks_2 : decode cX1_countLinks 2 = .ok (.iconst 0, 1) := by decide +kernel
theorem dX1_countLinks_3 : decode cX1_countLinks 3 = .ok (.istore_n 2, 1) := by decide +kernel
theorem dX1_countLinks_4 : decode cX1_countLinks 4 = .ok (.iload_n 2, 1) := by decide +kernel
theorem dX1_countLinks_5 : decode cX1_countLinks 5 = .ok (.bipush 12, 2) := by decide +kernel
theorem dX1_countLinks_7 : decode cX1_countLinks 7 = .ok (.if_icmp .ge 21, 3) := by decide +kernel
theorem dX1_countLinks_10 : decode cX1_countLinks 10 = .ok (.aload_n 0, 1) := by decide +kernel
theorem dX1_countLinks_11 : decode cX1_countLinks 11 = .ok (.getfield 9, 3) := by decide +kernel
theorem dX1_countLinks_14 : decode cX1_countLinks 14 = .ok (.iload_n 2, 1) := by decide +kernel
theorem dX1_countLinks_15 : decode cX1_countLinks 15 = .ok (.iaload, 1) := by decide +kernel
theorem dX1_countLinks_16 : decode cX1_countLinks 16 = .ok (.ifCond .eq 6, 3) := by decide +kernel
theorem dX1_countLinks_19 : decode cX1_countLinks 19 = .ok (.iinc 1 1, 3) := by decide +kernel
theorem dX1_countLinks_22 : decode cX1_countLinks 22 = .ok (.iinc 2 1, 3) := by decide +kernel
theorem dX1_countLinks_25 : decode cX1_countLinks 25 = .ok (.goto (-21), 3) := by decide +kernel
theorem dX1_countLinks_28 : decode cX1_countLinks 28 = .ok (.iload_n 1, 1) := by decide +kernel
theorem dX1_countLinks_29 : decode cX1_countLinks 29 = .ok (.ireturn, 1) := by decide +kernel
theorem dX1_forgetNeighbour_0 : decode cX1_forgetNeighbour 0 = .ok (.aload_n 0, 1) := by decide +kernel
theorem dX1_forgetNeighbour_1 : decode cX1_forgetNeighbour 1 = .ok (.getfield 35, 3) := by decide +kernel
theorem dX1_forgetNeighbour_4 : decode cX1_forgetNeighbour 4 = .ok (.iload_n 1, 1) := by decide +kernel
theorem dX1_forgetNeighbour_5 : decode cX1_forgetNeighbour 5 = .ok (.aaload, 1) := by decide +kernel
theorem dX1_forgetNeighbour_6 : decode cX1_forgetNeighbour 6 = .ok (.iconst (-1), 1) := by decide +kernel
theorem dX1_forgetNeighbour_7 : decode cX1_forgetNeighbour 7 = .ok (.invokestatic 45, 3) := by decide +kernel
theorem dX1_forgetNeighbour_10 : decode cX1_forgetNeighbour 10 = .ok (.aload_n 0, 1) := by decide +kernel
theorem dX1_forgetNeighbour_11 : decode cX1_forgetNeighbour 11 = .ok (.getfield 38, 3) := by decide +kernel
theorem dX1_forgetNeighbour_14 : decode cX1_forgetNeighbour 14 = .ok (.iload_n 1, 1) := by decide +kernel
theorem dX1_forgetNeighbour_15 : decode cX1_forgetNeighbour 15 = .ok (.aaload, 1) := by decide +kernel
theorem dX1_forgetNeighbour_16 : decode cX1_forgetNeighbour 16 = .ok (.iconst (-1), 1) := by decide +kernel
theorem dX1_forgetNeighbour_17 : decode cX1_forgetNeighbour 17 = .ok (.invokestatic 45, 3) := by decide +kernel
theorem dX1_forgetNeighbour_20 : decode cX1_forgetNeighbour 20 = .ok (.return_, 1) := by decide +kernel
theorem dX1_forgetBounds_0 : decode cX1_forgetBounds 0 = .ok (.aload_n 0, 1) := by decide +kernel
theorem dX1_forgetBounds_1 : decode cX1_forgetBounds 1 = .ok (.getfield 15, 3) := by decide +kernel
theorem dX1_forgetBounds_4 : decode cX1_forgetBounds 4 = .ok (.iconst (-1), 1) := by decide +kernel
theorem dX1_forgetBounds_5 : decode cX1_forgetBounds 5 = .ok (.invokestatic 45, 3) := by decide +kernel
theorem dX1_forgetBounds_8 : decode cX1_forgetBounds 8 = .ok (.aload_n 0, 1) := by decide +kernel
theorem dX1_forgetBounds_9 : decode cX1_forgetBounds 9 = .ok (.getfield 18, 3) := by decide +kernel
theorem dX1_forgetBounds_12 : decode cX1_forgetBounds 12 = .ok (.iconst (-1), 1) := by decide +kernel
theorem dX1_forgetBounds_13 : decode cX1_forgetBounds 13 = .ok (.invokestatic 45, 3) := by decide +kernel
theorem dX1_forgetBounds_16 : decode cX1_forgetBounds 16 = .ok (.aload_n 0, 1) := by decide +kernel
theorem dX1_forgetBounds_17 : decode cX1_forgetBounds 17 = .ok (.getfield 30, 3) := by decide +kernel
theorem dX1_forgetBounds_20 : decode cX1_forgetBounds 20 = .ok (.iconst (-1), 1) := by decide +kernel
theorem dX1_forgetBounds_21 : decode cX1_forgetBounds 21 = .ok (.invokestatic 45, 3) := by decide +kernel
theorem dX1_forgetBounds_24 : decode cX1_forgetBounds 24 = .ok (.return_, 1) := by decide +kernel
theorem dX1_takeBestWay_0 : decode cX1_takeBestWay 0 = .ok (.aload_n 0, 1) := by decide +kernel
theorem dX1_takeBestWay_1 : decode cX1_takeBestWay 1 = .ok (.iload_n 1, 1) := by decide +kernel
theorem dX1_takeBestWay_2 : decode cX1_takeBestWay 2 = .ok (.invokevirtual 60, 3) := by decide +kernel
theorem dX1_takeBestWay_5 : decode cX1_takeBestWay 5 = .ok (.istore_n 2, 1) := by decide +kernel
theorem dX1_takeBestWay_6 : decode cX1_takeBestWay 6 = .ok (.iload_n 2, 1) := by decide +kernel
theorem dX1_takeBestWay_7 : decode cX1_takeBestWay 7 = .ok (.iconst (-1), 1) := by decide +kernel
theorem dX1_takeBestWay_8 : decode cX1_takeBestWay 8 = .ok (.if_icmp .ne 7, 3) := by decide +kernel
theorem dX1_takeBestWay_11 : decode cX1_takeBestWay 11 = .ok (.iconst (-1), 1) := by decide +kernel
theorem dX1_takeBestWay_12 : decode cX1_takeBestWay 12 = .ok (.goto 11, 3) := by decide +kernel
theorem dX1_takeBestWay_15 : decode cX1_takeBestWay 15 = .ok (.aload_n 0, 1) := by decide +kernel
theorem dX1_takeBestWay_16 : decode cX1_takeBestWay 16 = .ok (.getfield 35, 3) := by decide +kernel
theorem dX1_takeBestWay_19 : decode cX1_takeBestWay 19 = .ok (.iload_n 2, 1) := by decide +kernel
theorem dX1_takeBestWay_20 : decode cX1_takeBestWay 20 = .ok (.aaload, 1) := by decide +kernel
theorem dX1_takeBestWay_21 : decode cX1_takeBestWay 21 = .ok (.iload_n 1, 1) := by decide +kernel
theorem dX1_takeBestWay_22 : decode cX1_takeBestWay 22 = .ok (.iaload, 1) := by decide +kernel
theorem dX1_takeBestWay_23 : decode cX1_takeBestWay 23 = .ok (.istore_n 3, 1) := by decide +kernel
theorem dX1_takeBestWay_24 : decode cX1_takeBestWay 24 = .ok (.iload_n 2, 1) := by decide +kernel
theorem dX1_takeBestWay_25 : decode cX1_takeBestWay 25 = .ok (.iconst (-1), 1) := by decide +kernel
theorem dX1_takeBestWay_26 : decode cX1_takeBestWay 26 = .ok (.if_icmp .ne 7, 3) := by decide +kernel
theorem dX1_takeBestWay_29 : decode cX1_takeBestWay 29 = .ok (.iconst (-1), 1) := by decide +kernel
theorem dX1_takeBestWay_30 : decode cX1_takeBestWay 30 = .ok (.goto 18, 3) := by decide +kernel
theorem dX1_takeBestWay_33 : decode cX1_takeBestWay 33 = .ok (.aload_n 0, 1) := by decide +kernel
theorem dX1_takeBestWay_34 : decode cX1_takeBestWay 34 = .ok (.getfield 38, 3) := by decide +kernel
theorem dX1_takeBestWay_37 : decode cX1_takeBestWay 37 = .ok (.iload_n 2, 1) := by decide +kernel
theorem dX1_takeBestWay_38 : decode cX1_takeBestWay 38 = .ok (.aaload, 1) := by decide +kernel
theorem dX1_takeBestWay_39 : decode cX1_takeBestWay 39 = .ok (.iload_n 1, 1) := by decide +kernel
theorem dX1_takeBestWay_40 : decode cX1_takeBestWay 40 = .ok (.iaload, 1) := by decide +kernel
theorem dX1_takeBestWay_41 : decode cX1_takeBestWay 41 = .ok (.aload_n 0, 1) := by decide +kernel
theorem dX1_takeBestWay_42 : decode cX1_takeBestWay 42 = .ok (.getfield 9, 3) := by decide +kernel
theorem dX1_takeBestWay_45 : decode cX1_takeBestWay 45 = .ok (.iload_n 2, 1) := by decide +kernel
theorem dX1_takeBestWay_46 : decode cX1_takeBestWay 46 = .ok (.iaload, 1) := by decide +kernel
theorem dX1_takeBestWay_47 : decode cX1_takeBestWay 47 = .ok (.iadd, 1) := by decide +kernel
theorem dX1_takeBestWay_48 : decode cX1_takeBestWay 48 = .ok (.istore 4, 2) := by decide +kernel
theorem dX1_takeBestWay_50 : decode cX1_takeBestWay 50 = .ok (.iload_n 2, 1) := by decide +kernel
theorem dX1_takeBestWay_51 : decode cX1_takeBestWay 51 = .ok (.aload_n 0, 1) := by decide +kernel
theorem dX1_takeBestWay_52 : decode cX1_takeBestWay 52 = .ok (.getfield 21, 3) := by decide +kernel
theorem dX1_takeBestWay_55 : decode cX1_takeBestWay 55 = .ok (.iload_n 1, 1) := by decide +kernel
theorem dX1_takeBestWay_56 : decode cX1_takeBestWay 56 = .ok (.iaload, 1) := by decide +kernel
theorem dX1_takeBestWay_57 : decode cX1_takeBestWay 57 = .ok (.if_icmp .ne 24, 3) := by decide +kernel
theorem dX1_takeBestWay_60 : decode cX1_takeBestWay 60 = .ok (.iload_n 3, 1) := by decide +kernel
theorem dX1_takeBestWay_61 : decode cX1_takeBestWay 61 = .ok (.aload_n 0, 1) := by decide +kernel
theorem dX1_takeBestWay_62 : decode cX1_takeBestWay 62 = .ok (.getfield 24, 3) := by decide +kernel
theorem dX1_takeBestWay_65 : decode cX1_takeBestWay 65 = .ok (.iload_n 1, 1) := by decide +kernel
theorem dX1_takeBestWay_66 : decode cX1_takeBestWay 66 = .ok (.iaload, 1) := by decide +kernel
theorem dX1_takeBestWay_67 : decode cX1_takeBestWay 67 = .ok (.if_icmp .ne 14, 3) := by decide +kernel
theorem dX1_takeBestWay_70 : decode cX1_takeBestWay 70 = .ok (.iload 4, 2) := by decide +kernel
theorem dX1_takeBestWay_72 : decode cX1_takeBestWay 72 = .ok (.aload_n 0, 1) := by decide +kernel
theorem dX1_takeBestWay_73 : decode cX1_takeBestWay 73 = .ok (.getfield 27, 3) := by decide +kernel
theorem dX1_takeBestWay_76 : decode cX1_takeBestWay 76 = .ok (.iload_n 1, 1) := by decide +kernel
theorem dX1_takeBestWay_77 : decode cX1_takeBestWay 77 = .ok (.iaload, 1) := by decide +kernel
theorem dX1_takeBestWay_78 : decode cX1_takeBestWay 78 = .ok (.if_icmp .eq 7, 3) := by decide +kernel
theorem dX1_takeBestWay_81 : decode cX1_takeBestWay 81 = .ok (.iconst 1, 1) := by decide +kernel
theorem dX1_takeBestWay_82 : decode cX1_takeBestWay 82 = .ok (.goto 4, 3) := by decide +kernel
theorem dX1_takeBestWay_85 : decode cX1_takeBestWay 85 = .ok (.iconst 0, 1) := by decide +kernel
theorem dX1_takeBestWay_86 : decode cX1_takeBestWay 86 = .ok (.istore 5, 2) := by decide +kernel
theorem dX1_takeBestWay_88 : decode cX1_takeBestWay 88 = .ok (.aload_n 0, 1) := by decide +kernel
theorem dX1_takeBestWay_89 : decode cX1_takeBestWay 89 = .ok (.getfield 21, 3) := by decide +kernel
theorem dX1_takeBestWay_92 : decode cX1_takeBestWay 92 = .ok (.iload_n 1, 1) := by decide +kernel
theorem dX1_takeBestWay_93 : decode cX1_takeBestWay 93 = .ok (.iload_n 2, 1) := by decide +kernel
theorem dX1_takeBestWay_94 : decode cX1_takeBestWay 94 = .ok (.iastore, 1) := by decide +kernel
theorem dX1_takeBestWay_95 : decode cX1_takeBestWay 95 = .ok (.aload_n 0, 1) := by decide +kernel
theorem dX1_takeBestWay_96 : decode cX1_takeBestWay 96 = .ok (.getfield 24, 3) := by decide +kernel
theorem dX1_takeBestWay_99 : decode cX1_takeBestWay 99 = .ok (.iload_n 1, 1) := by decide +kernel
theorem dX1_takeBestWay_100 : decode cX1_takeBestWay 100 = .ok (.iload_n 3, 1) := by decide +kernel
theorem dX1_takeBestWay_101 : decode cX1_takeBestWay 101 = .ok (.iastore, 1) := by decide +kernel
theorem dX1_takeBestWay_102 : decode cX1_takeBestWay 102 = .ok (.aload_n 0, 1) := by decide +kernel
theorem dX1_takeBestWay_103 : decode cX1_takeBestWay 103 = .ok (.getfield 27, 3) := by decide +kernel
theorem dX1_takeBestWay_106 : decode cX1_takeBestWay 106 = .ok (.iload_n 1, 1) := by decide +kernel
theorem dX1_takeBestWay_107 : decode cX1_takeBestWay 107 = .ok (.iload 4, 2) := by decide +kernel
theorem dX1_takeBestWay_109 : decode cX1_takeBestWay 109 = .ok (.iastore, 1) := by decide +kernel
theorem dX1_takeBestWay_110 : decode cX1_takeBestWay 110 = .ok (.iload 5, 2) := by decide +kernel
theorem dX1_takeBestWay_112 : decode cX1_takeBestWay 112 = .ok (.ireturn, 1) := by decide +kernel
theorem dX1_findBestNeighbour_0 : decode cX1_findBestNeighbour 0 = .ok (.iconst (-1), 1) := by decide +kernel
theorem dX1_findBestNeighbour_1 : decode cX1_findBestNeighbour 1 = .ok (.istore_n 2, 1) := by decide +kernel
theorem dX1_findBestNeighbour_2 : decode cX1_findBestNeighbour 2 = .ok (.ldc 51, 2) := by decide +kernel
theorem dX1_findBestNeighbour_4 : decode cX1_findBestNeighbour 4 = .ok (.istore_n 3, 1) := by decide +kernel
theorem dX1_findBestNeighbour_5 : decode cX1_findBestNeighbour 5 = .ok (.iconst 0, 1) := by decide +kernel
theorem dX1_findBestNeighbour_6 : decode cX1_findBestNeighbour 6 = .ok (.istore 4, 2) := by decide +kernel
theorem dX1_findBestNeighbour_8 : decode cX1_findBestNeighbour 8 = .ok (.iload 4, 2) := by decide +kernel
theorem dX1_findBestNeighbour_10 : decode cX1_findBestNeighbour 10 = .ok (.bipush 12, 2) := by decide +kernel
theorem dX1_findBestNeighbour_12 : decode cX1_findBestNeighbour 12 = .ok (.if_icmp .ge 100, 3) := by decide +kernel
theorem dX1_findBestNeighbour_15 : decode cX1_findBestNeighbour 15 = .ok (.aload_n 0, 1) := by decide +kernel
theorem dX1_findBestNeighbour_16 : decode cX1_findBestNeighbour 16 = .ok (.getfield 35, 3) := by decide +kernel
theorem dX1_findBestNeighbour_19 : decode cX1_findBestNeighbour 19 = .ok (.iload 4, 2) := by decide +kernel
theorem dX1_findBestNeighbour_21 : decode cX1_findBestNeighbour 21 = .ok (.aaload, 1) := by decide +kernel
theorem dX1_findBestNeighbour_22 : decode cX1_findBestNeighbour 22 = .ok (.iload_n 1, 1) := by decide +kernel
theorem dX1_findBestNeighbour_23 : decode cX1_findBestNeighbour 23 = .ok (.iaload, 1) := by decide +kernel
theorem dX1_findBestNeighbour_24 : decode cX1_findBestNeighbour 24 = .ok (.istore 5, 2) := by decide +kernel
theorem dX1_findBestNeighbour_26 : decode cX1_findBestNeighbour 26 = .ok (.aload_n 0, 1) := by decide +kernel
theorem dX1_findBestNeighbour_27 : decode cX1_findBestNeighbour 27 = .ok (.getfield 38, 3) := by decide +kernel
theorem dX1_findBestNeighbour_30 : decode cX1_findBestNeighbour 30 = .ok (.iload 4, 2) := by decide +kernel
theorem dX1_findBestNeighbour_32 : decode cX1_findBestNeighbour 32 = .ok (.aaload, 1) := by decide +kernel
theorem dX1_findBestNeighbour_33 : decode cX1_findBestNeighbour 33 = .ok (.iload_n 1, 1) := by decide +kernel
theorem dX1_findBestNeighbour_34 : decode cX1_findBestNeighbour 34 = .ok (.iaload, 1) := by decide +kernel
theorem dX1_findBestNeighbour_35 : decode cX1_findBestNeighbour 35 = .ok (.istore 6, 2) := by decide +kernel
theorem dX1_findBestNeighbour_37 : decode cX1_findBestNeighbour 37 = .ok (.iload 6, 2) := by decide +kernel
theorem dX1_findBestNeighbour_39 : decode cX1_findBestNeighbour 39 = .ok (.aload_n 0, 1) := by decide +kernel
theorem dX1_findBestNeighbour_40 : decode cX1_findBestNeighbour 40 = .ok (.getfield 9, 3) := by decide +kernel
theorem dX1_findBestNeighbour_43 : decode cX1_findBestNeighbour 43 = .ok (.iload 4, 2) := by decide +kernel
theorem dX1_findBestNeighbour_45 : decode cX1_findBestNeighbour 45 = .ok (.iaload, 1) := by decide +kernel
theorem dX1_findBestNeighbour_46 : decode cX1_findBestNeighbour 46 = .ok (.iadd, 1) := by decide +kernel
theorem dX1_findBestNeighbour_47 : decode cX1_findBestNeighbour 47 = .ok (.istore 7, 2) := by decide +kernel
theorem dX1_findBestNeighbour_49 : decode cX1_findBestNeighbour 49 = .ok (.iload 5, 2) := by decide +kernel
theorem dX1_findBestNeighbour_51 : decode cX1_findBestNeighbour 51 = .ok (.iconst (-1), 1) := by decide +kernel
theorem dX1_findBestNeighbour_52 : decode cX1_findBestNeighbour 52 = .ok (.if_icmp .eq 54, 3) := by decide +kernel
theorem dX1_findBestNeighbour_55 : decode cX1_findBestNeighbour 55 = .ok (.iload 7, 2) := by decide +kernel
theorem dX1_findBestNeighbour_57 : decode cX1_findBestNeighbour 57 = .ok (.ldc 63, 2) := by decide +kernel
theorem dX1_findBestNeighbour_59 : decode cX1_findBestNeighbour 59 = .ok (.if_icmp .gt 47, 3) := by decide +kernel
theorem dX1_findBestNeighbour_62 : decode cX1_findBestNeighbour 62 = .ok (.aload_n 0, 1) := by decide +kernel
theorem dX1_findBestNeighbour_63 : decode cX1_findBestNeighbour 63 = .ok (.iload_n 1, 1) := by decide +kernel
theorem dX1_findBestNeighbour_64 : decode cX1_findBestNeighbour 64 = .ok (.iload 5, 2) := by decide +kernel
theorem dX1_findBestNeighbour_66 : decode cX1_findBestNeighbour 66 = .ok (.iload 6, 2) := by decide +kernel
theorem dX1_findBestNeighbour_68 : decode cX1_findBestNeighbour 68 = .ok (.invokevirtual 64, 3) := by decide +kernel
theorem dX1_findBestNeighbour_71 : decode cX1_findBestNeighbour 71 = .ok (.ifCond .ne 6, 3) := by decide +kernel
theorem dX1_findBestNeighbour_74 : decode cX1_findBestNeighbour 74 = .ok (.goto 32, 3) := by decide +kernel
theorem dX1_findBestNeighbour_77 : decode cX1_findBestNeighbour 77 = .ok (.iload 7, 2) := by decide +kernel
theorem dX1_findBestNeighbour_79 : decode cX1_findBestNeighbour 79 = .ok (.iload_n 3, 1) := by decide +kernel
theorem dX1_findBestNeighbour_80 : decode cX1_findBestNeighbour 80 = .ok (.if_icmp .lt 20, 3) := by decide +kernel
theorem dX1_findBestNeighbour_83 : decode cX1_findBestNeighbour 83 = .ok (.iload 7, 2) := by decide +kernel
theorem dX1_findBestNeighbour_85 : decode cX1_findBestNeighbour 85 = .ok (.iload_n 3, 1) := by decide +kernel
theorem dX1_findBestNeighbour_86 : decode cX1_findBestNeighbour 86 = .ok (.if_icmp .ne 20, 3) := by decide +kernel
theorem dX1_findBestNeighbour_89 : decode cX1_findBestNeighbour 89 = .ok (.iload 4, 2) := by decide +kernel
theorem dX1_findBestNeighbour_91 : decode cX1_findBestNeighbour 91 = .ok (.aload_n 0, 1) := by decide +kernel
theorem dX1_findBestNeighbour_92 : decode cX1_findBestNeighbour 92 = .ok (.getfield 21, 3) := by decide +kernel
theorem dX1_findBestNeighbour_95 : decode cX1_findBestNeighbour 95 = .ok (.iload_n 1, 1) := by decide +kernel
theorem dX1_findBestNeighbour_96 : decode cX1_findBestNeighbour 96 = .ok (.iaload, 1) := by decide +kernel
theorem dX1_findBestNeighbour_97 : decode cX1_findBestNeighbour 97 = .ok (.if_icmp .ne 9, 3) := by decide +kernel
theorem dX1_findBestNeighbour_100 : decode cX1_findBestNeighbour 100 = .ok (.iload 4, 2) := by decide +kernel
theorem dX1_findBestNeighbour_102 : decode cX1_findBestNeighbour 102 = .ok (.istore_n 2, 1) := by decide +kernel
theorem dX1_findBestNeighbour_103 : decode cX1_findBestNeighbour 103 = .ok (.iload 7, 2) := by decide +kernel
theorem dX1_findBestNeighbour_105 : decode cX1_findBestNeighbour 105 = .ok (.istore_n 3, 1) := by decide +kernel
theorem dX1_findBestNeighbour_106 : decode cX1_findBestNeighbour 106 = .ok (.iinc 4 1, 3) := by decide +kernel
theorem dX1_findBestNeighbour_109 : decode cX1_findBestNeighbour 109 = .ok (.goto (-101), 3) := by decide +kernel
theorem dX1_findBestNeighbour_112 : decode cX1_findBestNeighbour 112 = .ok (.iload_n 2, 1) := by decide +kernel
theorem dX1_findBestNeighbour_113 : decode cX1_findBestNeighbour 113 = .ok (.ireturn, 1) := by decide +kernel
theorem dJ7_fill_53178_0 : decode cJ7_fill_53178 0 = .ok (.iconst 0, 1) := by decide +kernel
theorem dJ7_fill_53178_1 : decode cJ7_fill_53178 1 = .ok (.istore_n 2, 1) := by decide +kernel
theorem dJ7_fill_53178_2 : decode cJ7_fill_53178 2 = .ok (.aload_n 0, 1) := by decide +kernel
theorem dJ7_fill_53178_3 : decode cJ7_fill_53178 3 = .ok (.arraylength, 1) := by decide +kernel
theorem dJ7_fill_53178_4 : decode cJ7_fill_53178 4 = .ok (.istore_n 3, 1) := by decide +kernel
theorem dJ7_fill_53178_5 : decode cJ7_fill_53178 5 = .ok (.iload_n 2, 1) := by decide +kernel
theorem dJ7_fill_53178_6 : decode cJ7_fill_53178 6 = .ok (.iload_n 3, 1) := by decide +kernel
theorem dJ7_fill_53178_7 : decode cJ7_fill_53178 7 = .ok (.if_icmp .ge 13, 3) := by decide +kernel
theorem dJ7_fill_53178_10 : decode cJ7_fill_53178 10 = .ok (.aload_n 0, 1) := by decide +kernel
theorem dJ7_fill_53178_11 : decode cJ7_fill_53178 11 = .ok (.iload_n 2, 1) := by decide +kernel
theorem dJ7_fill_53178_12 : decode cJ7_fill_53178 12 = .ok (.iload_n 1, 1) := by decide +kernel
theorem dJ7_fill_53178_13 : decode cJ7_fill_53178 13 = .ok (.iastore, 1) := by decide +kernel
theorem dJ7_fill_53178_14 : decode cJ7_fill_53178 14 = .ok (.iinc 2 1, 3) := by decide +kernel
theorem dJ7_fill_53178_17 : decode cJ7_fill_53178 17 = .ok (.goto (-12), 3) := by decide +kernel
theorem dJ7_fill_53178_20 : decode cJ7_fill_53178 20 = .ok (.return_, 1) := by decide +kernel
theorem dJ9_max_7cf53_0 : decode cJ9_max_7cf53 0 = .ok (.iload_n 0, 1) := by decide +kernel
theorem dJ9_max_7cf53_1 : decode cJ9_max_7cf53 1 = .ok (.iload_n 1, 1) := by decide +kernel
theorem dJ9_max_7cf53_2 : decode cJ9_max_7cf53 2 = .ok (.if_icmp .lt 7, 3) := by decide +kernel
theorem dJ9_max_7cf53_5 : decode cJ9_max_7cf53 5 = .ok (.iload_n 0, 1) := by decide +kernel
theorem dJ9_max_7cf53_6 : decode cJ9_max_7cf53 6 = .ok (.goto 4, 3) := by decide +kernel
theorem dJ9_max_7cf53_9 : decode cJ9_max_7cf53 9 = .ok (.iload_n 1, 1) := by decide +kernel
theorem dJ9_max_7cf53_10 : decode cJ9_max_7cf53 10 = .ok (.ireturn, 1) := by decide +kernel
theorem dJ9_min_7cf53_0 : decode cJ9_min_7cf53 0 = .ok (.iload_n 0, 1) := by decide +kernel
theorem dJ9_min_7cf53_1 : decode cJ9_min_7cf53 1 = .ok (.iload_n 1, 1) := by decide +kernel
theorem dJ9_min_7cf53_2 : decode cJ9_min_7cf53 2 = .ok (.if_icmp .gt 7, 3) := by decide +kernel
theorem dJ9_min_7cf53_5 : decode cJ9_min_7cf53 5 = .ok (.iload_n 0, 1) := by decide +kernel
theorem dJ9_min_7cf53_6 : decode cJ9_min_7cf53 6 = .ok (.goto 4, 3) := by decide +kernel
theorem dJ9_min_7cf53_9 : decode cJ9_min_7cf53 9 = .ok (.iload_n 1, 1) := by decide +kernel
theorem dJ9_min_7cf53_10 : decode cJ9_min_7cf53 10 = .ok (.ireturn, 1) := by decide +kernel
