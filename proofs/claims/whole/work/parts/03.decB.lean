theorem dX2_init_0 : decode cX2_init 0 = .ok (.aload_n 0, 1) := by decide +kernel
theorem dX2_init_1 : decode cX2_init 1 = .ok (.invokespecial 1, 3) := by decide +kernel
theorem dX2_init_4 : decode cX2_init 4 = .ok (.aload_n 0, 1) := by decide +kernel
theorem dX2_init_5 : decode cX2_init 5 = .ok (.bipush 12, 2) := by decide +kernel
theorem dX2_init_7 : decode cX2_init 7 = .ok (.anewarray 9, 3) := by decide +kernel
theorem dX2_init_10 : decode cX2_init 10 = .ok (.putfield 11, 3) := by decide +kernel
theorem dX2_init_13 : decode cX2_init 13 = .ok (.iconst 0, 1) := by decide +kernel
theorem dX2_init_14 : decode cX2_init 14 = .ok (.istore_n 1, 1) := by decide +kernel
theorem dX2_init_15 : decode cX2_init 15 = .ok (.iload_n 1, 1) := by decide +kernel
theorem dX2_init_16 : decode cX2_init 16 = .ok (.bipush 12, 2) := by decide +kernel
theorem dX2_init_18 : decode cX2_init 18 = .ok (.if_icmp .ge 23, 3) := by decide +kernel
theorem dX2_init_21 : decode cX2_init 21 = .ok (.aload_n 0, 1) := by decide +kernel
theorem dX2_init_22 : decode cX2_init 22 = .ok (.getfield 11, 3) := by decide +kernel
theorem dX2_init_25 : decode cX2_init 25 = .ok (.iload_n 1, 1) := by decide +kernel
theorem dX2_init_26 : decode cX2_init 26 = .ok (.new 9, 3) := by decide +kernel
theorem dX2_init_29 : decode cX2_init 29 = .ok (.dup, 1) := by decide +kernel
theorem dX2_init_30 : decode cX2_init 30 = .ok (.iload_n 1, 1) := by decide +kernel
theorem dX2_init_31 : decode cX2_init 31 = .ok (.invokespecial 15, 3) := by decide +kernel
theorem dX2_init_34 : decode cX2_init 34 = .ok (.aastore, 1) := by decide +kernel
theorem dX2_init_35 : decode cX2_init 35 = .ok (.iinc 1 1, 3) := by decide +kernel
theorem dX2_init_38 : decode cX2_init 38 = .ok (.goto (-23), 3) := by decide +kernel
theorem dX2_init_41 : decode cX2_init 41 = .ok (.aload_n 0, 1) := by decide +kernel
theorem dX2_init_42 : decode cX2_init 42 = .ok (.new 18, 3) := by decide +kernel
theorem dX2_init_45 : decode cX2_init 45 = .ok (.dup, 1) := by decide +kernel
theorem dX2_init_46 : decode cX2_init 46 = .ok (.invokespecial 20, 3) := by decide +kernel
theorem dX2_init_49 : decode cX2_init 49 = .ok (.putfield 21, 3) := by decide +kernel
theorem dX2_init_52 : decode cX2_init 52 = .ok (.return_, 1) := by decide +kernel
theorem dX2_link_0 : decode cX2_link 0 = .ok (.iload_n 1, 1) := by decide +kernel
theorem dX2_link_1 : decode cX2_link 1 = .ok (.iload_n 2, 1) := by decide +kernel
theorem dX2_link_2 : decode cX2_link 2 = .ok (.invokestatic 25, 3) := by decide +kernel
theorem dX2_link_5 : decode cX2_link 5 = .ok (.iload_n 3, 1) := by decide +kernel
theorem dX2_link_6 : decode cX2_link 6 = .ok (.sipush 1000, 3) := by decide +kernel
theorem dX2_link_9 : decode cX2_link 9 = .ok (.invokestatic 29, 3) := by decide +kernel
theorem dX2_link_12 : decode cX2_link 12 = .ok (.aload_n 0, 1) := by decide +kernel
theorem dX2_link_13 : decode cX2_link 13 = .ok (.getfield 11, 3) := by decide +kernel
theorem dX2_link_16 : decode cX2_link 16 = .ok (.iload_n 1, 1) := by decide +kernel
theorem dX2_link_17 : decode cX2_link 17 = .ok (.aaload, 1) := by decide +kernel
theorem dX2_link_18 : decode cX2_link 18 = .ok (.getfield 32, 3) := by decide +kernel
theorem dX2_link_21 : decode cX2_link 21 = .ok (.iload_n 2, 1) := by decide +kernel
theorem dX2_link_22 : decode cX2_link 22 = .ok (.iaload, 1) := by decide +kernel
theorem dX2_link_23 : decode cX2_link 23 = .ok (.istore 4, 2) := by decide +kernel
theorem dX2_link_25 : decode cX2_link 25 = .ok (.iload_n 3, 1) := by decide +kernel
theorem dX2_link_26 : decode cX2_link 26 = .ok (.iload 4, 2) := by decide +kernel
theorem dX2_link_28 : decode cX2_link 28 = .ok (.if_icmp .ne 6, 3) := by decide +kernel
theorem dX2_link_31 : decode cX2_link 31 = .ok (.iload 4, 2) := by decide +kernel
theorem dX2_link_33 : decode cX2_link 33 = .ok (.ireturn, 1) := by decide +kernel
theorem dX2_link_34 : decode cX2_link 34 = .ok (.aload_n 0, 1) := by decide +kernel
theorem dX2_link_35 : decode cX2_link 35 = .ok (.getfield 11, 3) := by decide +kernel
theorem dX2_link_38 : decode cX2_link 38 = .ok (.iload_n 1, 1) := by decide +kernel
theorem dX2_link_39 : decode cX2_link 39 = .ok (.aaload, 1) := by decide +kernel
theorem dX2_link_40 : decode cX2_link 40 = .ok (.getfield 32, 3) := by decide +kernel
theorem dX2_link_43 : decode cX2_link 43 = .ok (.iload_n 2, 1) := by decide +kernel
theorem dX2_link_44 : decode cX2_link 44 = .ok (.iload_n 3, 1) := by decide +kernel
theorem dX2_link_45 : decode cX2_link 45 = .ok (.iastore, 1) := by decide +kernel
theorem dX2_link_46 : decode cX2_link 46 = .ok (.aload_n 0, 1) := by decide +kernel
theorem dX2_link_47 : decode cX2_link 47 = .ok (.getfield 11, 3) := by decide +kernel
theorem dX2_link_50 : decode cX2_link 50 = .ok (.iload_n 2, 1) := by decide +kernel
theorem dX2_link_51 : decode cX2_link 51 = .ok (.aaload, 1) := by decide +kernel
theorem dX2_link_52 : decode cX2_link 52 = .ok (.getfield 32, 3) := by decide +kernel
theorem dX2_link_55 : decode cX2_link 55 = .ok (.iload_n 1, 1) := by decide +kernel
theorem dX2_link_56 : decode cX2_link 56 = .ok (.iload_n 3, 1) := by decide +kernel
theorem dX2_link_57 : decode cX2_link 57 = .ok (.iastore, 1) := by decide +kernel
theorem dX2_link_58 : decode cX2_link 58 = .ok (.iload_n 1, 1) := by decide +kernel
theorem dX2_link_59 : decode cX2_link 59 = .ok (.iload_n 2, 1) := by decide +kernel
theorem dX2_link_60 : decode cX2_link 60 = .ok (.invokestatic 36, 3) := by decide +kernel
theorem dX2_link_63 : decode cX2_link 63 = .ok (.istore 5, 2) := by decide +kernel
theorem dX2_link_65 : decode cX2_link 65 = .ok (.iload_n 1, 1) := by decide +kernel
theorem dX2_link_66 : decode cX2_link 66 = .ok (.iload_n 2, 1) := by decide +kernel
theorem dX2_link_67 : decode cX2_link 67 = .ok (.invokestatic 42, 3) := by decide +kernel
theorem dX2_link_70 : decode cX2_link 70 = .ok (.istore 6, 2) := by decide +kernel
theorem dX2_link_72 : decode cX2_link 72 = .ok (.iload 4, 2) := by decide +kernel
theorem dX2_link_74 : decode cX2_link 74 = .ok (.ifCond .ne 22, 3) := by decide +kernel
theorem dX2_link_77 : decode cX2_link 77 = .ok (.aload_n 0, 1) := by decide +kernel
theorem dX2_link_78 : decode cX2_link 78 = .ok (.iload 5, 2) := by decide +kernel
theorem dX2_link_80 : decode cX2_link 80 = .ok (.iload 6, 2) := by decide +kernel
theorem dX2_link_82 : decode cX2_link 82 = .ok (.invokevirtual 45, 3) := by decide +kernel
theorem dX2_link_85 : decode cX2_link 85 = .ok (.aload_n 0, 1) := by decide +kernel
theorem dX2_link_86 : decode cX2_link 86 = .ok (.iload 6, 2) := by decide +kernel
theorem dX2_link_88 : decode cX2_link 88 = .ok (.iload 5, 2) := by decide +kernel
theorem dX2_link_90 : decode cX2_link 90 = .ok (.invokevirtual 45, 3) := by decide +kernel
theorem dX2_link_93 : decode cX2_link 93 = .ok (.iload 4, 2) := by decide +kernel
theorem dX2_link_95 : decode cX2_link 95 = .ok (.ireturn, 1) := by decide +kernel
theorem dX2_link_96 : decode cX2_link 96 = .ok (.iload_n 3, 1) := by decide +kernel
theorem dX2_link_97 : decode cX2_link 97 = .ok (.ifCond .ne 23, 3) := by decide +kernel
theorem dX2_link_100 : decode cX2_link 100 = .ok (.aload_n 0, 1) := by decide +kernel
theorem dX2_link_101 : decode cX2_link 101 = .ok (.getfield 11, 3) := by decide +kernel
theorem dX2_link_104 : decode cX2_link 104 = .ok (.iload_n 1, 1) := by decide +kernel
theorem dX2_link_105 : decode cX2_link 105 = .ok (.aaload, 1) := by decide +kernel
theorem dX2_link_106 : decode cX2_link 106 = .ok (.iload_n 2, 1) := by decide +kernel
theorem dX2_link_107 : decode cX2_link 107 = .ok (.invokevirtual 48, 3) := by decide +kernel
theorem dX2_link_110 : decode cX2_link 110 = .ok (.aload_n 0, 1) := by decide +kernel
theorem dX2_link_111 : decode cX2_link 111 = .ok (.getfield 11, 3) := by decide +kernel
theorem dX2_link_114 : decode cX2_link 114 = .ok (.iload_n 2, 1) := by decide +kernel
theorem dX2_link_115 : decode cX2_link 115 = .ok (.aaload, 1) := by decide +kernel
theorem dX2_link_116 : decode cX2_link 116 = .ok (.iload_n 1, 1) := by decide +kernel
theorem dX2_link_117 : decode cX2_link 117 = .ok (.invokevirtual 48, 3) := by decide +kernel
theorem dX2_link_120 : decode cX2_link 120 = .ok (.aload_n 0, 1) := by decide +kernel
theorem dX2_link_121 : decode cX2_link 121 = .ok (.iload 5, 2) := by decide +kernel
theorem dX2_link_123 : decode cX2_link 123 = .ok (.invokevirtual 51, 3) := by decide +kernel
theorem dX2_link_126 : decode cX2_link 126 = .ok (.aload_n 0, 1) := by decide +kernel
theorem dX2_link_127 : decode cX2_link 127 = .ok (.iload 6, 2) := by decide +kernel
theorem dX2_link_129 : decode cX2_link 129 = .ok (.invokevirtual 51, 3) := by decide +kernel
theorem dX2_link_132 : decode cX2_link 132 = .ok (.iload 4, 2) := by decide +kernel
theorem dX2_link_134 : decode cX2_link 134 = .ok (.ireturn, 1) := by decide +kernel
theorem dX2_announce_0 : decode cX2_announce 0 = .ok (.iload_n 1, 1) := by decide +kernel
theorem dX2_announce_1 : decode cX2_announce 1 = .ok (.invokestatic 54, 3) := by decide +kernel
theorem dX2_announce_4 : decode cX2_announce 4 = .ok (.aload_n 0, 1) := by decide +kernel
theorem dX2_announce_5 : decode cX2_announce 5 = .ok (.getfield 21, 3) := by decide +kernel
theorem dX2_announce_8 : decode cX2_announce 8 = .ok (.getfield 57, 3) := by decide +kernel
theorem dX2_announce_11 : decode cX2_announce 11 = .ok (.istore_n 2, 1) := by decide +kernel
theorem dX2_announce_12 : decode cX2_announce 12 = .ok (.iconst 0, 1) := by decide +kernel
theorem dX2_announce_13 : decode cX2_announce 13 = .ok (.istore_n 3, 1) := by decide +kernel
theorem dX2_announce_14 : decode cX2_announce 14 = .ok (.iload_n 3, 1) := by decide +kernel
theorem dX2_announce_15 : decode cX2_announce 15 = .ok (.bipush 12, 2) := by decide +kernel
theorem dX2_announce_17 : decode cX2_announce 17 = .ok (.if_icmp .ge 41, 3) := by decide +kernel
theorem dX2_announce_20 : decode cX2_announce 20 = .ok (.aload_n 0, 1) := by decide +kernel
theorem dX2_announce_21 : decode cX2_announce 21 = .ok (.getfield 11, 3) := by decide +kernel
theorem dX2_announce_24 : decode cX2_announce 24 = .ok (.iload_n 1, 1) := by decide +kernel
theorem dX2_announce_25 : decode cX2_announce 25 = .ok (.aaload, 1) := by decide +kernel
theorem dX2_announce_26 : decode cX2_announce 26 = .ok (.iload_n 3, 1) := by decide +kernel
theorem dX2_announce_27 : decode cX2_announce 27 = .ok (.invokevirtual 61, 3) := by decide +kernel
theorem dX2_announce_30 : decode cX2_announce 30 = .ok (.ifCond .ne 16, 3) := by decide +kernel
theorem dX2_announce_33 : decode cX2_announce 33 = .ok (.aload_n 0, 1) := by decide +kernel
theorem dX2_announce_34 : decode cX2_announce 34 = .ok (.getfield 11, 3) := by decide +kernel
theorem dX2_announce_37 : decode cX2_announce 37 = .ok (.iload_n 1, 1) := by decide +kernel
theorem dX2_announce_38 : decode cX2_announce 38 = .ok (.aaload, 1) := by decide +kernel
theorem dX2_announce_39 : decode cX2_announce 39 = .ok (.iload_n 3, 1) := by decide +kernel
theorem dX2_announce_40 : decode cX2_announce 40 = .ok (.invokevirtual 65, 3) := by decide +kernel
theorem dX2_announce_43 : decode cX2_announce 43 = .ok (.ifCond .eq 9, 3) := by decide +kernel
theorem dX2_announce_46 : decode cX2_announce 46 = .ok (.aload_n 0, 1) := by decide +kernel
theorem dX2_announce_47 : decode cX2_announce 47 = .ok (.iload_n 1, 1) := by decide +kernel
theorem dX2_announce_48 : decode cX2_announce 48 = .ok (.iload_n 3, 1) := by decide +kernel
theorem dX2_announce_49 : decode cX2_announce 49 = .ok (.invokevirtual 68, 3) := by decide +kernel
theorem dX2_announce_52 : decode cX2_announce 52 = .ok (.iinc 3 1, 3) := by decide +kernel
theorem dX2_announce_55 : decode cX2_announce 55 = .ok (.goto (-41), 3) := by decide +kernel
theorem dX2_announce_58 : decode cX2_announce 58 = .ok (.aload_n 0, 1) := by decide +kernel
theorem dX2_announce_59 : decode cX2_announce 59 = .ok (.getfield 21, 3) := by decide +kernel
theorem dX2_announce_62 : decode cX2_announce 62 = .ok (.getfield 57, 3) := by decide +kernel
theorem dX2_announce_65 : decode cX2_announce 65 = .ok (.iload_n 2, 1) := by decide +kernel
theorem dX2_announce_66 : decode cX2_announce 66 = .ok (.isub, 1) := by decide +kernel
theorem dX2_announce_67 : decode cX2_announce 67 = .ok (.ireturn, 1) := by decide +kernel
theorem dX2_renew_0 : decode cX2_renew 0 = .ok (.iload_n 1, 1) := by decide +kernel
theorem dX2_renew_1 : decode cX2_renew 1 = .ok (.invokestatic 54, 3) := by decide +kernel
theorem dX2_renew_4 : decode cX2_renew 4 = .ok (.aload_n 0, 1) := by decide +kernel
theorem dX2_renew_5 : decode cX2_renew 5 = .ok (.getfield 11, 3) := by decide +kernel
theorem dX2_renew_8 : decode cX2_renew 8 = .ok (.iload_n 1, 1) := by decide +kernel
theorem dX2_renew_9 : decode cX2_renew 9 = .ok (.aaload, 1) := by decide +kernel
theorem dX2_renew_10 : decode cX2_renew 10 = .ok (.invokevirtual 71, 3) := by decide +kernel
theorem dX2_renew_13 : decode cX2_renew 13 = .ok (.istore_n 2, 1) := by decide +kernel
theorem dX2_renew_14 : decode cX2_renew 14 = .ok (.aload_n 0, 1) := by decide +kernel
theorem dX2_renew_15 : decode cX2_renew 15 = .ok (.iload_n 1, 1) := by decide +kernel
theorem dX2_renew_16 : decode cX2_renew 16 = .ok (.iload_n 1, 1) := by decide +kernel
theorem dX2_renew_17 : decode cX2_renew 17 = .ok (.invokevirtual 68, 3) := by decide +kernel
theorem dX2_renew_20 : decode cX2_renew 20 = .ok (.iload_n 2, 1) := by decide +kernel
theorem dX2_renew_21 : decode cX2_renew 21 = .ok (.ireturn, 1) := by decide +kernel
theorem dX2_ask_0 : decode cX2_ask 0 = .ok (.iload_n 1, 1) := by decide +kernel
theorem dX2_ask_1 : decode cX2_ask 1 = .ok (.iload_n 2, 1) := by decide +kernel
theorem dX2_ask_2 : decode cX2_ask 2 = .ok (.invokestatic 25, 3) := by decide +kernel
theorem dX2_ask_5 : decode cX2_ask 5 = .ok (.aload_n 0, 1) := by decide +kernel
theorem dX2_ask_6 : decode cX2_ask 6 = .ok (.getfield 21, 3) := by decide +kernel
theorem dX2_ask_9 : decode cX2_ask 9 = .ok (.getfield 57, 3) := by decide +kernel
theorem dX2_ask_12 : decode cX2_ask 12 = .ok (.istore_n 3, 1) := by decide +kernel
theorem dX2_ask_13 : decode cX2_ask 13 = .ok (.aload_n 0, 1) := by decide +kernel
theorem dX2_ask_14 : decode cX2_ask 14 = .ok (.getfield 11, 3) := by decide +kernel
theorem dX2_ask_17 : decode cX2_ask 17 = .ok (.iload_n 1, 1) := by decide +kernel
theorem dX2_ask_18 : decode cX2_ask 18 = .ok (.aaload, 1) := by decide +kernel
theorem dX2_ask_19 : decode cX2_ask 19 = .ok (.iload_n 2, 1) := by decide +kernel
theorem dX2_ask_20 : decode cX2_ask 20 = .ok (.invokevirtual 61, 3) := by decide +kernel
theorem dX2_ask_23 : decode cX2_ask 23 = .ok (.ifCond .ne 9, 3) := by decide +kernel
theorem dX2_ask_26 : decode cX2_ask 26 = .ok (.aload_n 0, 1) := by decide +kernel
theorem dX2_ask_27 : decode cX2_ask 27 = .ok (.iload_n 1, 1) := by decide +kernel
theorem dX2_ask_28 : decode cX2_ask 28 = .ok (.iload_n 2, 1) := by decide +kernel
theorem dX2_ask_29 : decode cX2_ask 29 = .ok (.invokevirtual 75, 3) := by decide +kernel
theorem dX2_ask_32 : decode cX2_ask 32 = .ok (.aload_n 0, 1) := by decide +kernel
theorem dX2_ask_33 : decode cX2_ask 33 = .ok (.getfield 21, 3) := by decide +kernel
theorem dX2_ask_36 : decode cX2_ask 36 = .ok (.getfield 57, 3) := by decide +kernel
theorem dX2_ask_39 : decode cX2_ask 39 = .ok (.iload_n 3, 1) := by decide +kernel
theorem dX2_ask_40 : decode cX2_ask 40 = .ok (.isub, 1) := by decide +kernel
theorem dX2_ask_41 : decode cX2_ask 41 = .ok (.ireturn, 1) := by decide +kernel
theorem dX2_reboot_0 : decode cX2_reboot 0 = .ok (.iload_n 1, 1) := by decide +kernel
theorem dX2_reboot_1 : decode cX2_reboot 1 = .ok (.invokestatic 54, 3) := by decide +kernel
theorem dX2_reboot_4 : decode cX2_reboot 4 = .ok (.aload_n 0, 1) := by decide +kernel
theorem dX2_reboot_5 : decode cX2_reboot 5 = .ok (.getfield 11, 3) := by decide +kernel
theorem dX2_reboot_8 : decode cX2_reboot 8 = .ok (.iload_n 1, 1) := by decide +kernel
theorem dX2_reboot_9 : decode cX2_reboot 9 = .ok (.aaload, 1) := by decide +kernel
theorem dX2_reboot_10 : decode cX2_reboot 10 = .ok (.invokevirtual 78, 3) := by decide +kernel
theorem dX2_reboot_13 : decode cX2_reboot 13 = .ok (.ifCond .eq 13, 3) := by decide +kernel
theorem dX2_reboot_16 : decode cX2_reboot 16 = .ok (.new 81, 3) := by decide +kernel
theorem dX2_reboot_19 : decode cX2_reboot 19 = .ok (.dup, 1) := by decide +kernel
theorem dX2_reboot_20 : decode cX2_reboot 20 = .ok (.ldc 83, 2) := by decide +kernel
theorem dX2_reboot_22 : decode cX2_reboot 22 = .ok (.invokespecial 85, 3) := by decide +kernel
theorem dX2_reboot_25 : decode cX2_reboot 25 = .ok (.athrow, 1) := by decide +kernel
theorem dX2_reboot_26 : decode cX2_reboot 26 = .ok (.aload_n 0, 1) := by decide +kernel
theorem dX2_reboot_27 : decode cX2_reboot 27 = .ok (.getfield 11, 3) := by decide +kernel
theorem dX2_reboot_30 : decode cX2_reboot 30 = .ok (.iload_n 1, 1) := by decide +kernel
theorem dX2_reboot_31 : decode cX2_reboot 31 = .ok (.aaload, 1) := by decide +kernel
theorem dX2_reboot_32 : decode cX2_reboot 32 = .ok (.invokevirtual 88, 3) := by decide +kernel
theorem dX2_reboot_35 : decode cX2_reboot 35 = .ok (.aload_n 0, 1) := by decide +kernel
theorem dX2_reboot_36 : decode cX2_reboot 36 = .ok (.getfield 21, 3) := by decide +kernel
theorem dX2_reboot_39 : decode cX2_reboot 39 = .ok (.iload_n 1, 1) := by decide +kernel
theorem dX2_reboot_40 : decode cX2_reboot 40 = .ok (.invokevirtual 91, 3) := by decide +kernel
theorem dX2_reboot_43 : decode cX2_reboot 43 = .ok (.ireturn, 1) := by decide +kernel
theorem dX2_deliver_0 : decode cX2_deliver 0 = .ok (.aload_n 0, 1) := by decide +kernel
theorem dX2_deliver_1 : decode cX2_deliver 1 = .ok (.iload_n 1, 1) := by decide +kernel
theorem dX2_deliver_2 : decode cX2_deliver 2 = .ok (.invokevirtual 95, 3) := by decide +kernel
theorem dX2_deliver_5 : decode cX2_deliver 5 = .ok (.aload_n 0, 1) := by decide +kernel
theorem dX2_deliver_6 : decode cX2_deliver 6 = .ok (.getfield 21, 3) := by decide +kernel
theorem dX2_deliver_9 : decode cX2_deliver 9 = .ok (.getfield 57, 3) := by decide +kernel
theorem dX2_deliver_12 : decode cX2_deliver 12 = .ok (.istore_n 2, 1) := by decide +kernel
theorem dX2_deliver_13 : decode cX2_deliver 13 = .ok (.aload_n 0, 1) := by decide +kernel
theorem dX2_deliver_14 : decode cX2_deliver 14 = .ok (.iload_n 1, 1) := by decide +kernel
theorem dX2_deliver_15 : decode cX2_deliver 15 = .ok (.invokevirtual 98, 3) := by decide +kernel
theorem dX2_deliver_18 : decode cX2_deliver 18 = .ok (.aload_n 0, 1) := by decide +kernel
theorem dX2_deliver_19 : decode cX2_deliver 19 = .ok (.getfield 21, 3) := by decide +kernel
theorem dX2_deliver_22 : decode cX2_deliver 22 = .ok (.getfield 57, 3) := by decide +kernel
theorem dX2_deliver_25 : decode cX2_deliver 25 = .ok (.iload_n 2, 1) := by decide +kernel
theorem dX2_deliver_26 : decode cX2_deliver 26 = .ok (.isub, 1) := by decide +kernel
theorem dX2_deliver_27 : decode cX2_deliver 27 = .ok (.ireturn, 1) := by decide +kernel
theorem dX2_run_0 : decode cX2_run 0 = .ok (.iload_n 1, 1) := by decide +kernel
theorem dX2_run_1 : decode cX2_run 1 = .ok (.sipush 500, 3) := by decide +kernel
theorem dX2_run_4 : decode cX2_run 4 = .ok (.invokestatic 29, 3) := by decide +kernel
theorem dX2_run_7 : decode cX2_run 7 = .ok (.iconst 0, 1) := by decide +kernel
theorem dX2_run_8 : decode cX2_run 8 = .ok (.istore_n 2, 1) := by decide +kernel
theorem dX2_run_9 : decode cX2_run 9 = .ok (.iload_n 2, 1) := by decide +kernel
theorem dX2_run_10 : decode cX2_run 10 = .ok (.iload_n 1, 1) := by decide +kernel
theorem dX2_run_11 : decode cX2_run 11 = .ok (.if_icmp .ge 24, 3) := by decide +kernel
theorem dX2_run_14 : decode cX2_run 14 = .ok (.aload_n 0, 1) := by decide +kernel
theorem dX2_run_15 : decode cX2_run 15 = .ok (.getfield 21, 3) := by decide +kernel
theorem dX2_run_18 : decode cX2_run 18 = .ok (.getfield 101, 3) := by decide +kernel
theorem dX2_run_21 : decode cX2_run 21 = .ok (.ifCond .le 14, 3) := by decide +kernel
theorem dX2_run_24 : decode cX2_run 24 = .ok (.aload_n 0, 1) := by decide +kernel
theorem dX2_run_25 : decode cX2_run 25 = .ok (.iconst 0, 1) := by decide +kernel
theorem dX2_run_26 : decode cX2_run 26 = .ok (.invokevirtual 98, 3) := by decide +kernel
theorem dX2_run_29 : decode cX2_run 29 = .ok (.iinc 2 1, 3) := by decide +kernel
theorem dX2_run_32 : decode cX2_run 32 = .ok (.goto (-23), 3) := by decide +kernel
theorem dX2_run_35 : decode cX2_run 35 = .ok (.iload_n 2, 1) := by decide +kernel
theorem dX2_run_36 : decode cX2_run 36 = .ok (.ireturn, 1) := by decide +kernel
theorem dX2_drop_0 : decode cX2_drop 0 = .ok (.aload_n 0, 1) := by decide +kernel
theorem dX2_drop_1 : decode cX2_drop 1 = .ok (.iload_n 1, 1) := by decide +kernel
theorem dX2_drop_2 : decode cX2_drop 2 = .ok (.invokevirtual 95, 3) := by decide +kernel
theorem dX2_drop_5 : decode cX2_drop 5 = .ok (.aload_n 0, 1) := by decide +kernel
theorem dX2_drop_6 : decode cX2_drop 6 = .ok (.getfield 21, 3) := by decide +kernel
theorem dX2_drop_9 : decode cX2_drop 9 = .ok (.iload_n 1, 1) := by decide +kernel
theorem dX2_drop_10 : decode cX2_drop 10 = .ok (.iconst 0, 1) := by decide +kernel
theorem dX2_drop_11 : decode cX2_drop 11 = .ok (.invokevirtual 104, 3) := by decide +kernel
theorem dX2_drop_14 : decode cX2_drop 14 = .ok (.istore_n 2, 1) := by decide +kernel
theorem dX2_drop_15 : decode cX2_drop 15 = .ok (.aload_n 0, 1) := by decide +kernel
theorem dX2_drop_16 : decode cX2_drop 16 = .ok (.getfield 21, 3) := by decide +kernel
theorem dX2_drop_19 : decode cX2_drop 19 = .ok (.iload_n 1, 1) := by decide +kernel
theorem dX2_drop_20 : decode cX2_drop 20 = .ok (.invokevirtual 107, 3) := by decide +kernel
theorem dX2_drop_23 : decode cX2_drop 23 = .ok (.iload_n 2, 1) := by decide +kernel
theorem dX2_drop_24 : decode cX2_drop 24 = .ok (.ireturn, 1) := by decide +kernel
theorem dX2_copy_0 : decode cX2_copy 0 = .ok (.aload_n 0, 1) := by decide +kernel
theorem dX2_copy_1 : decode cX2_copy 1 = .ok (.iload_n 1, 1) := by decide +kernel
theorem dX2_copy_2 : decode cX2_copy 2 = .ok (.invokevirtual 95, 3) := by decide +kernel
theorem dX2_copy_5 : decode cX2_copy 5 = .ok (.aload_n 0, 1) := by decide +kernel
theorem dX2_copy_6 : decode cX2_copy 6 = .ok (.getfield 21, 3) := by decide +kernel
theorem dX2_copy_9 : decode cX2_copy 9 = .ok (.iload_n 1, 1) := by decide +kernel
theorem dX2_copy_10 : decode cX2_copy 10 = .ok (.invokevirtual 110, 3) := by decide +kernel
theorem dX2_copy_13 : decode cX2_copy 13 = .ok (.ireturn, 1) := by decide +kernel
theorem dX2_letter_0 : decode cX2_letter 0 = .ok (.aload_n 0, 1) := by decide +kernel
theorem dX2_letter_1 : decode cX2_letter 1 = .ok (.iload_n 1, 1) := by decide +kernel
theorem dX2_letter_2 : decode cX2_letter 2 = .ok (.invokevirtual 95, 3) := by decide +kernel
theorem dX2_letter_5 : decode cX2_letter 5 = .ok (.iload_n 2, 1) := by decide +kernel
theorem dX2_letter_6 : decode cX2_letter 6 = .ok (.iconst 5, 1) := by decide +kernel
theorem dX2_letter_7 : decode cX2_letter 7 = .ok (.invokestatic 29, 3) := by decide +kernel
theorem dX2_letter_10 : decode cX2_letter 10 = .ok (.aload_n 0, 1) := by decide +kernel
theorem dX2_letter_11 : decode cX2_letter 11 = .ok (.getfield 21, 3) := by decide +kernel
theorem dX2_letter_14 : decode cX2_letter 14 = .ok (.iload_n 1, 1) := by decide +kernel
theorem dX2_letter_15 : decode cX2_letter 15 = .ok (.iload_n 2, 1) := by decide +kernel
theorem dX2_letter_16 : decode cX2_letter 16 = .ok (.invokevirtual 104, 3) := by decide +kernel
theorem dX2_letter_19 : decode cX2_letter 19 = .ok (.ireturn, 1) := by decide +kernel
theorem dX2_way_0 : decode cX2_way 0 = .ok (.iload_n 1, 1) := by decide +kernel
theorem dX2_way_1 : decode cX2_way 1 = .ok (.invokestatic 54, 3) := by decide +kernel
theorem dX2_way_4 : decode cX2_way 4 = .ok (.iload_n 2, 1) := by decide +kernel
theorem dX2_way_5 : decode cX2_way 5 = .ok (.invokestatic 54, 3) := by decide +kernel
theorem dX2_way_8 : decode cX2_way 8 = .ok (.iload_n 3, 1) := by decide +kernel
theorem dX2_way_9 : decode cX2_way 9 = .ok (.iconst 4, 1) := by decide +kernel
theorem dX2_way_10 : decode cX2_way 10 = .ok (.invokestatic 29, 3) := by decide +kernel
theorem dX2_way_13 : decode cX2_way 13 = .ok (.aload_n 0, 1) := by decide +kernel
theorem dX2_way_14 : decode cX2_way 14 = .ok (.getfield 11, 3) := by decide +kernel
theorem dX2_way_17 : decode cX2_way 17 = .ok (.iload_n 1, 1) := by decide +kernel
theorem dX2_way_18 : decode cX2_way 18 = .ok (.aaload, 1) := by decide +kernel
theorem dX2_way_19 : decode cX2_way 19 = .ok (.astore 4, 2) := by decide +kernel
theorem dX2_way_21 : decode cX2_way 21 = .ok (.iload_n 3, 1) := by decide +kernel
theorem dX2_way_22 : decode cX2_way 22 = .ok (.tableswitch 62 0 3 #[30, 38, 46, 54], 30) := by decide +kernel
theorem dX2_way_52 : decode cX2_way 52 = .ok (.aload 4, 2) := by decide +kernel
theorem dX2_way_54 : decode cX2_way 54 = .ok (.getfield 113, 3) := by decide +kernel
theorem dX2_way_57 : decode cX2_way 57 = .ok (.iload_n 2, 1) := by decide +kernel
theorem dX2_way_58 : decode cX2_way 58 = .ok (.iaload, 1) := by decide +kernel
theorem dX2_way_59 : decode cX2_way 59 = .ok (.ireturn, 1) := by decide +kernel
theorem dX2_way_60 : decode cX2_way 60 = .ok (.aload 4, 2) := by decide +kernel
theorem dX2_way_62 : decode cX2_way 62 = .ok (.getfield 116, 3) := by decide +kernel
theorem dX2_way_65 : decode cX2_way 65 = .ok (.iload_n 2, 1) := by decide +kernel
theorem dX2_way_66 : decode cX2_way 66 = .ok (.iaload, 1) := by decide +kernel
theorem dX2_way_67 : decode cX2_way 67 = .ok (.ireturn, 1) := by decide +kernel
theorem dX2_way_68 : decode cX2_way 68 = .ok (.aload 4, 2) := by decide +kernel
theorem dX2_way_70 : decode cX2_way 70 = .ok (.getfield 119, 3) := by decide +kernel
theorem dX2_way_73 : decode cX2_way 73 = .ok (.iload_n 2, 1) := by decide +kernel
theorem dX2_way_74 : decode cX2_way 74 = .ok (.iaload, 1) := by decide +kernel
theorem dX2_way_75 : decode cX2_way 75 = .ok (.ireturn, 1) := by decide +kernel
theorem dX2_way_76 : decode cX2_way 76 = .ok (.aload 4, 2) := by decide +kernel
theorem dX2_way_78 : decode cX2_way 78 = .ok (.getfield 122, 3) := by decide +kernel
theorem dX2_way_81 : decode cX2_way 81 = .ok (.iload_n 2, 1) := by decide +kernel
theorem dX2_way_82 : decode cX2_way 82 = .ok (.iaload, 1) := by decide +kernel
theorem dX2_way_83 : decode cX2_way 83 = .ok (.ireturn, 1) := by decide +kernel
theorem dX2_way_84 : decode cX2_way 84 = .ok (.aload 4, 2) := by decide +kernel
theorem dX2_way_86 : decode cX2_way 86 = .ok (.getfield 125, 3) := by decide +kernel
theorem dX2_way_89 : decode cX2_way 89 = .ok (.iload_n 2, 1) := by decide +kernel
theorem dX2_way_90 : decode cX2_way 90 = .ok (.iaload, 1) := by decide +kernel
theorem dX2_way_91 : decode cX2_way 91 = .ok (.ireturn, 1) := by decide +kernel
theorem dX2_told_0 : decode cX2_told 0 = .ok (.iload_n 1, 1) := by decide +kernel
theorem dX2_told_1 : decode cX2_told 1 = .ok (.iload_n 2, 1) := by decide +kernel
theorem dX2_told_2 : decode cX2_told 2 = .ok (.invokestatic 25, 3) := by decide +kernel
theorem dX2_told_5 : decode cX2_told 5 = .ok (.iload_n 1, 1) := by decide +kernel
theorem dX2_told_6 : decode cX2_told 6 = .ok (.iload_n 3, 1) := by decide +kernel
theorem dX2_told_7 : decode cX2_told 7 = .ok (.invokestatic 25, 3) := by decide +kernel
theorem dX2_told_10 : decode cX2_told 10 = .ok (.iload 4, 2) := by decide +kernel
theorem dX2_told_12 : decode cX2_told 12 = .ok (.iconst 2, 1) := by decide +kernel
theorem dX2_told_13 : decode cX2_told 13 = .ok (.invokestatic 29, 3) := by decide +kernel
theorem dX2_told_16 : decode cX2_told 16 = .ok (.aload_n 0, 1) := by decide +kernel
theorem dX2_told_17 : decode cX2_told 17 = .ok (.getfield 11, 3) := by decide +kernel
theorem dX2_told_20 : decode cX2_told 20 = .ok (.iload_n 1, 1) := by decide +kernel
theorem dX2_told_21 : decode cX2_told 21 = .ok (.aaload, 1) := by decide +kernel
theorem dX2_told_22 : decode cX2_told 22 = .ok (.astore 5, 2) := by decide +kernel
theorem dX2_told_24 : decode cX2_told 24 = .ok (.aload 5, 2) := by decide +kernel
theorem dX2_told_26 : decode cX2_told 26 = .ok (.getfield 128, 3) := by decide +kernel
theorem dX2_told_29 : decode cX2_told 29 = .ok (.iload_n 2, 1) := by decide +kernel
theorem dX2_told_30 : decode cX2_told 30 = .ok (.aaload, 1) := by decide +kernel
theorem dX2_told_31 : decode cX2_told 31 = .ok (.iload_n 3, 1) := by decide +kernel
theorem dX2_told_32 : decode cX2_told 32 = .ok (.iaload, 1) := by decide +kernel
theorem dX2_told_33 : decode cX2_told 33 = .ok (.istore 6, 2) := by decide +kernel
theorem dX2_told_35 : decode cX2_told 35 = .ok (.aload 5, 2) := by decide +kernel
theorem dX2_told_37 : decode cX2_told 37 = .ok (.getfield 132, 3) := by decide +kernel
theorem dX2_told_40 : decode cX2_told 40 = .ok (.iload_n 2, 1) := by decide +kernel
theorem dX2_told_41 : decode cX2_told 41 = .ok (.aaload, 1) := by decide +kernel
theorem dX2_told_42 : decode cX2_told 42 = .ok (.iload_n 3, 1) := by decide +kernel
theorem dX2_told_43 : decode cX2_told 43 = .ok (.iaload, 1) := by decide +kernel
theorem dX2_told_44 : decode cX2_told 44 = .ok (.istore 7, 2) := by decide +kernel
theorem dX2_told_46 : decode cX2_told 46 = .ok (.iload 4, 2) := by decide +kernel
theorem dX2_told_48 : decode cX2_told 48 = .ok (.ifCond .ne 6, 3) := by decide +kernel
theorem dX2_told_51 : decode cX2_told 51 = .ok (.iload 6, 2) := by decide +kernel
theorem dX2_told_53 : decode cX2_told 53 = .ok (.ireturn, 1) := by decide +kernel
theorem dX2_told_54 : decode cX2_told 54 = .ok (.iload 4, 2) := by decide +kernel
theorem dX2_told_56 : decode cX2_told 56 = .ok (.iconst 1, 1) := by decide +kernel
theorem dX2_told_57 : decode cX2_told 57 = .ok (.if_icmp .ne 6, 3) := by decide +kernel
theorem dX2_told_60 : decode cX2_told 60 = .ok (.iload 7, 2) := by decide +kernel
theorem dX2_told_62 : decode cX2_told 62 = .ok (.ireturn, 1) := by decide +kernel
theorem dX2_told_63 : decode cX2_told 63 = .ok (.iload 6, 2) := by decide +kernel
theorem dX2_told_65 : decode cX2_told 65 = .ok (.iconst (-1), 1) := by decide +kernel
theorem dX2_told_66 : decode cX2_told 66 = .ok (.if_icmp .eq 20, 3) := by decide +kernel
theorem dX2_told_69 : decode cX2_told 69 = .ok (.aload 5, 2) := by decide +kernel
theorem dX2_told_71 : decode cX2_told 71 = .ok (.iload_n 3, 1) := by decide +kernel
theorem dX2_told_72 : decode cX2_told 72 = .ok (.iload 6, 2) := by decide +kernel
theorem dX2_told_74 : decode cX2_told 74 = .ok (.iload 7, 2) := by decide +kernel
theorem dX2_told_76 : decode cX2_told 76 = .ok (.invokevirtual 135, 3) := by decide +kernel
theorem dX2_told_79 : decode cX2_told 79 = .ok (.ifCond .eq 7, 3) := by decide +kernel
theorem dX2_told_82 : decode cX2_told 82 = .ok (.iconst 1, 1) := by decide +kernel
theorem dX2_told_83 : decode cX2_told 83 = .ok (.goto 4, 3) := by decide +kernel
theorem dX2_told_86 : decode cX2_told 86 = .ok (.iconst 0, 1) := by decide +kernel
theorem dX2_told_87 : decode cX2_told 87 = .ok (.ireturn, 1) := by decide +kernel
theorem dX2_trace_0 : decode cX2_trace 0 = .ok (.iload_n 1, 1) := by decide +kernel
theorem dX2_trace_1 : decode cX2_trace 1 = .ok (.invokestatic 54, 3) := by decide +kernel
theorem dX2_trace_4 : decode cX2_trace 4 = .ok (.iload_n 2, 1) := by decide +kernel
theorem dX2_trace_5 : decode cX2_trace 5 = .ok (.invokestatic 54, 3) := by decide +kernel
theorem dX2_trace_8 : decode cX2_trace 8 = .ok (.iload_n 1, 1) := by decide +kernel
theorem dX2_trace_9 : decode cX2_trace 9 = .ok (.istore_n 3, 1) := by decide +kernel
theorem dX2_trace_10 : decode cX2_trace 10 = .ok (.iconst 0, 1) := by decide +kernel
theorem dX2_trace_11 : decode cX2_trace 11 = .ok (.istore 4, 2) := by decide +kernel
theorem dX2_trace_13 : decode cX2_trace 13 = .ok (.iload 4, 2) := by decide +kernel
theorem dX2_trace_15 : decode cX2_trace 15 = .ok (.bipush 12, 2) := by decide +kernel
theorem dX2_trace_17 : decode cX2_trace 17 = .ok (.if_icmp .ge 36, 3) := by decide +kernel
theorem dX2_trace_20 : decode cX2_trace 20 = .ok (.iload_n 3, 1) := by decide +kernel
theorem dX2_trace_21 : decode cX2_trace 21 = .ok (.iload_n 2, 1) := by decide +kernel
theorem dX2_trace_22 : decode cX2_trace 22 = .ok (.if_icmp .ne 6, 3) := by decide +kernel
theorem dX2_trace_25 : decode cX2_trace 25 = .ok (.iload 4, 2) := by decide +kernel
theorem dX2_trace_27 : decode cX2_trace 27 = .ok (.ireturn, 1) := by decide +kernel
theorem dX2_trace_28 : decode cX2_trace 28 = .ok (.aload_n 0, 1) := by decide +kernel
theorem dX2_trace_29 : decode cX2_trace 29 = .ok (.getfield 11, 3) := by decide +kernel
theorem dX2_trace_32 : decode cX2_trace 32 = .ok (.iload_n 3, 1) := by decide +kernel
theorem dX2_trace_33 : decode cX2_trace 33 = .ok (.aaload, 1) := by decide +kernel
theorem dX2_trace_34 : decode cX2_trace 34 = .ok (.getfield 113, 3) := by decide +kernel
theorem dX2_trace_37 : decode cX2_trace 37 = .ok (.iload_n 2, 1) := by decide +kernel
theorem dX2_trace_38 : decode cX2_trace 38 = .ok (.iaload, 1) := by decide +kernel
theorem dX2_trace_39 : decode cX2_trace 39 = .ok (.istore_n 3, 1) := by decide +kernel
theorem dX2_trace_40 : decode cX2_trace 40 = .ok (.iload_n 3, 1) := by decide +kernel
theorem dX2_trace_41 : decode cX2_trace 41 = .ok (.iconst (-1), 1) := by decide +kernel
theorem dX2_trace_42 : decode cX2_trace 42 = .ok (.if_icmp .ne 5, 3) := by decide +kernel
theorem dX2_trace_45 : decode cX2_trace 45 = .ok (.iconst (-1), 1) := by decide +kernel
theorem dX2_trace_46 : decode cX2_trace 46 = .ok (.ireturn, 1) := by decide +kernel
theorem dX2_trace_47 : decode cX2_trace 47 = .ok (.iinc 4 1, 3) := by decide +kernel
theorem dX2_trace_50 : decode cX2_trace 50 = .ok (.goto (-37), 3) := by decide +kernel
theorem dX2_trace_53 : decode cX2_trace 53 = .ok (.iconst (-1), 1) := by decide +kernel
theorem dX2_trace_54 : decode cX2_trace 54 = .ok (.ireturn, 1) := by decide +kernel
theorem dX2_cost_0 : decode cX2_cost 0 = .ok (.iload_n 1, 1) := by decide +kernel
theorem dX2_cost_1 : decode cX2_cost 1 = .ok (.iload_n 2, 1) := by decide +kernel
theorem dX2_cost_2 : decode cX2_cost 2 = .ok (.invokestatic 25, 3) := by decide +kernel
theorem dX2_cost_5 : decode cX2_cost 5 = .ok (.aload_n 0, 1) := by decide +kernel
theorem dX2_cost_6 : decode cX2_cost 6 = .ok (.getfield 11, 3) := by decide +kernel
theorem dX2_cost_9 : decode cX2_cost 9 = .ok (.iload_n 1, 1) := by decide +kernel
theorem dX2_cost_10 : decode cX2_cost 10 = .ok (.aaload, 1) := by decide +kernel
theorem dX2_cost_11 : decode cX2_cost 11 = .ok (.getfield 32, 3) := by decide +kernel
theorem dX2_cost_14 : decode cX2_cost 14 = .ok (.iload_n 2, 1) := by decide +kernel
theorem dX2_cost_15 : decode cX2_cost 15 = .ok (.iaload, 1) := by decide +kernel
theorem dX2_cost_16 : decode cX2_cost 16 = .ok (.ireturn, 1) := by decide +kernel
theorem dX2_total_0 : decode cX2_total 0 = .ok (.iload_n 1, 1) := by decide +kernel
theorem dX2_total_1 : decode cX2_total 1 = .ok (.iconst 4, 1) := by decide +kernel
theorem dX2_total_2 : decode cX2_total 2 = .ok (.invokestatic 29, 3) := by decide +kernel
theorem dX2_total_5 : decode cX2_total 5 = .ok (.iload_n 1, 1) := by decide +kernel
theorem dX2_total_6 : decode cX2_total 6 = .ok (.tableswitch 62 0 3 #[30, 38, 46, 54], 30) := by decide +kernel
theorem dX2_total_36 : decode cX2_total 36 = .ok (.aload_n 0, 1) := by decide +kernel
theorem dX2_total_37 : decode cX2_total 37 = .ok (.getfield 21, 3) := by decide +kernel
theorem dX2_total_40 : decode cX2_total 40 = .ok (.getfield 101, 3) := by decide +kernel
theorem dX2_total_43 : decode cX2_total 43 = .ok (.ireturn, 1) := by decide +kernel
theorem dX2_total_44 : decode cX2_total 44 = .ok (.aload_n 0, 1) := by decide +kernel
theorem dX2_total_45 : decode cX2_total 45 = .ok (.getfield 21, 3) := by decide +kernel
theorem dX2_total_48 : decode cX2_total 48 = .ok (.getfield 57, 3) := by decide +kernel
theorem dX2_total_51 : decode cX2_total 51 = .ok (.ireturn, 1) := by decide +kernel
theorem dX2_total_52 : decode cX2_total 52 = .ok (.aload_n 0, 1) := by decide +kernel
theorem dX2_total_53 : decode cX2_total 53 = .ok (.getfield 21, 3) := by decide +kernel
theorem dX2_total_56 : decode cX2_total 56 = .ok (.getfield 139, 3) := by decide +kernel
theorem dX2_total_59 : decode cX2_total 59 = .ok (.ireturn, 1) := by decide +kernel
theorem dX2_total_60 : decode cX2_total 60 = .ok (.aload_n 0, 1) := by decide +kernel
theorem dX2_total_61 : decode cX2_total 61 = .ok (.getfield 21, 3) := by decide +kernel
theorem dX2_total_64 : decode cX2_total 64 = .ok (.getfield 142, 3) := by decide +kernel
theorem dX2_total_67 : decode cX2_total 67 = .ok (.ireturn, 1) := by decide +kernel
theorem dX2_total_68 : decode cX2_total 68 = .ok (.aload_n 0, 1) := by decide +kernel
theorem dX2_total_69 : decode cX2_total 69 = .ok (.invokevirtual 145, 3) := by decide +kernel
theorem dX2_total_72 : decode cX2_total 72 = .ok (.ireturn, 1) := by decide +kernel
theorem dX2_requireNode_0 : decode cX2_requireNode 0 = .ok (.iload_n 0, 1) := by decide +kernel
theorem dX2_requireNode_1 : decode cX2_requireNode 1 = .ok (.ifCond .lt 9, 3) := by decide +kernel
theorem dX2_requireNode_4 : decode cX2_requireNode 4 = .ok (.iload_n 0, 1) := by decide +kernel
theorem dX2_requireNode_5 : decode cX2_requireNode 5 = .ok (.bipush 12, 2) := by decide +kernel
theorem dX2_requireNode_7 : decode cX2_requireNode 7 = .ok (.if_icmp .lt 13, 3) := by decide +kernel
theorem dX2_requireNode_10 : decode cX2_requireNode 10 = .ok (.new 148, 3) := by decide +kernel
theorem dX2_requireNode_13 : decode cX2_requireNode 13 = .ok (.dup, 1) := by decide +kernel
theorem dX2_requireNode_14 : decode cX2_requireNode 14 = .ok (.ldc 150, 2) := by decide +kernel
theorem dX2_requireNode_16 : decode cX2_requireNode 16 = .ok (.invokespecial 152, 3) := by decide +kernel
theorem dX2_requireNode_19 : decode cX2_requireNode 19 = .ok (.athrow, 1) := by decide +kernel
theorem dX2_requireNode_20 : decode cX2_requireNode 20 = .ok (.return_, 1) := by decide +kernel
theorem dX2_requirePair_0 : decode cX2_requirePair 0 = .ok (.iload_n 0, 1) := by decide +kernel
theorem dX2_requirePair_1 : decode cX2_requirePair 1 = .ok (.invokestatic 54, 3) := by decide +kernel
theorem dX2_requirePair_4 : decode cX2_requirePair 4 = .ok (.iload_n 1, 1) := by decide +kernel
theorem dX2_requirePair_5 : decode cX2_requirePair 5 = .ok (.invokestatic 54, 3) := by decide +kernel
theorem dX2_requirePair_8 : decode cX2_requirePair 8 = .ok (.iload_n 0, 1) := by decide +kernel
theorem dX2_requirePair_9 : decode cX2_requirePair 9 = .ok (.iload_n 1, 1) := by decide +kernel
theorem dX2_requirePair_10 : decode cX2_requirePair 10 = .ok (.if_icmp .ne 13, 3) := by decide +kernel
theorem dX2_requirePair_13 : decode cX2_requirePair 13 = .ok (.new 148, 3) := by decide +kernel
theorem dX2_requirePair_16 : decode cX2_requirePair 16 = .ok (.dup, 1) := by decide +kernel
theorem dX2_requirePair_17 : decode cX2_requirePair 17 = .ok (.ldc 153, 2) := by decide +kernel
theorem dX2_requirePair_19 : decode cX2_requirePair 19 = .ok (.invokespecial 152, 3) := by decide +kernel
theorem dX2_requirePair_22 : decode cX2_requirePair 22 = .ok (.athrow, 1) := by decide +kernel
theorem dX2_requirePair_23 : decode cX2_requirePair 23 = .ok (.return_, 1) := by decide +kernel
theorem dX2_requireUpTo_0 : decode cX2_requireUpTo 0 = .ok (.iload_n 0, 1) := by decide +kernel
theorem dX2_requireUpTo_1 : decode cX2_requireUpTo 1 = .ok (.ifCond .lt 8, 3) := by decide +kernel
theorem dX2_requireUpTo_4 : decode cX2_requireUpTo 4 = .ok (.iload_n 0, 1) := by decide +kernel
theorem dX2_requireUpTo_5 : decode cX2_requireUpTo 5 = .ok (.iload_n 1, 1) := by decide +kernel
theorem dX2_requireUpTo_6 : decode cX2_requireUpTo 6 = .ok (.if_icmp .le 13, 3) := by decide +kernel
theorem dX2_requireUpTo_9 : decode cX2_requireUpTo 9 = .ok (.new 148, 3) := by decide +kernel
theorem dX2_requireUpTo_12 : decode cX2_requireUpTo 12 = .ok (.dup, 1) := by decide +kernel
theorem dX2_requireUpTo_13 : decode cX2_requireUpTo 13 = .ok (.ldc 155, 2) := by decide +kernel
theorem dX2_requireUpTo_15 : decode cX2_requireUpTo 15 = .ok (.invokespecial 152, 3) := by decide +kernel
theorem dX2_requireUpTo_18 : decode cX2_requireUpTo 18 = .ok (.athrow, 1) := by decide +kernel
theorem dX2_requireUpTo_19 : decode cX2_requireUpTo 19 = .ok (.return_, 1) := by decide +kernel
theorem dX2_requireLetter_0 : decode cX2_requireLetter 0 = .ok (.iload_n 1, 1) := by decide +kernel
theorem dX2_requireLetter_1 : decode cX2_requireLetter 1 = .ok (.ifCond .lt 14, 3) := by decide +kernel
theorem dX2_requireLetter_4 : decode cX2_requireLetter 4 = .ok (.iload_n 1, 1) := by decide +kernel
theorem dX2_requireLetter_5 : decode cX2_requireLetter 5 = .ok (.aload_n 0, 1) := by decide +kernel
theorem dX2_requireLetter_6 : decode cX2_requireLetter 6 = .ok (.getfield 21, 3) := by decide +kernel
theorem dX2_requireLetter_9 : decode cX2_requireLetter 9 = .ok (.getfield 101, 3) := by decide +kernel
theorem dX2_requireLetter_12 : decode cX2_requireLetter 12 = .ok (.if_icmp .lt 13, 3) := by decide +kernel
theorem dX2_requireLetter_15 : decode cX2_requireLetter 15 = .ok (.new 148, 3) := by decide +kernel
theorem dX2_requireLetter_18 : decode cX2_requireLetter 18 = .ok (.dup, 1) := by decide +kernel
theorem dX2_requireLetter_19 : decode cX2_requireLetter 19 = .ok (.ldc 157, 2) := by decide +kernel
theorem dX2_requireLetter_21 : decode cX2_requireLetter 21 = .ok (.invokespecial 152, 3) := by decide +kernel
theorem dX2_requireLetter_24 : decode cX2_requireLetter 24 = .ok (.athrow, 1) := by decide +kernel
theorem dX2_requireLetter_25 : decode cX2_requireLetter 25 = .ok (.return_, 1) := by decide +kernel
theorem dX2_isNewer_0 : decode cX2_isNewer 0 = .ok (.iload_n 0, 1) := by decide +kernel
theorem dX2_isNewer_1 : decode cX2_isNewer 1 = .ok (.iload_n 1, 1) := by decide +kernel
theorem dX2_isNewer_2 : decode cX2_isNewer 2 = .ok (.isub, 1) := by decide +kernel
theorem dX2_isNewer_3 : decode cX2_isNewer 3 = .ok (.ldc 159, 2) := by decide +kernel
theorem dX2_isNewer_5 : decode cX2_isNewer 5 = .ok (.iand, 1) := by decide +kernel
theorem dX2_isNewer_6 : decode cX2_isNewer 6 = .ok (.istore_n 2, 1) := by decide +kernel
theorem dX2_isNewer_7 : decode cX2_isNewer 7 = .ok (.iload_n 2, 1) := by decide +kernel
theorem dX2_isNewer_8 : decode cX2_isNewer 8 = .ok (.iconst 1, 1) := by decide +kernel
theorem dX2_isNewer_9 : decode cX2_isNewer 9 = .ok (.if_icmp .lt 14, 3) := by decide +kernel
theorem dX2_isNewer_12 : decode cX2_isNewer 12 = .ok (.iload_n 2, 1) := by decide +kernel
theorem dX2_isNewer_13 : decode cX2_isNewer 13 = .ok (.sipush 32767, 3) := by decide +kernel
theorem dX2_isNewer_16 : decode cX2_isNewer 16 = .ok (.if_icmp .gt 7, 3) := by decide +kernel
theorem dX2_isNewer_19 : decode cX2_isNewer 19 = .ok (.iconst 1, 1) := by decide +kernel
theorem dX2_isNewer_20 : decode cX2_isNewer 20 = .ok (.goto 4, 3) := by decide +kernel
theorem dX2_isNewer_23 : decode cX2_isNewer 23 = .ok (.iconst 0, 1) := by decide +kernel
theorem dX2_isNewer_24 : decode cX2_isNewer 24 = .ok (.ireturn, 1) := by decide +kernel
theorem dX2_nextNumber_0 : decode cX2_nextNumber 0 = .ok (.iload_n 0, 1) := by decide +kernel
theorem dX2_nextNumber_1 : decode cX2_nextNumber 1 = .ok (.iconst 1, 1) := by decide +kernel
theorem dX2_nextNumber_2 : decode cX2_nextNumber 2 = .ok (.iadd, 1) := by decide +kernel
theorem dX2_nextNumber_3 : decode cX2_nextNumber 3 = .ok (.ldc 159, 2) := by decide +kernel
theorem dX2_nextNumber_5 : decode cX2_nextNumber 5 = .ok (.iand, 1) := by decide +kernel
theorem dX2_nextNumber_6 : decode cX2_nextNumber 6 = .ok (.ireturn, 1) := by decide +kernel
theorem dX2_countAllLinks_0 : decode cX2_countAllLinks 0 = .ok (.iconst 0, 1) := by decide +kernel
theorem dX2_countAllLinks_1 : decode cX2_countAllLinks 1 = .ok (.istore_n 1, 1) := by decide +kernel
theorem dX2_countAllLinks_2 : decode cX2_countAllLinks 2 = .ok (.iconst 0, 1) := by decide +kernel
theorem dX2_countAllLinks_3 : decode cX2_countAllLinks 3 = .ok (.istore_n 2, 1) := by decide +kernel
theorem dX2_countAllLinks_4 : decode cX2_countAllLinks 4 = .ok (.iload_n 2, 1) := by decide +kernel
theorem dX2_countAllLinks_5 : decode cX2_countAllLinks 5 = .ok (.bipush 12, 2) := by decide +kernel
theorem dX2_countAllLinks_7 : decode cX2_countAllLinks 7 = .ok (.if_icmp .ge 21, 3) := by decide +kernel
theorem dX2_countAllLinks_10 : decode cX2_countAllLinks 10 = .ok (.iload_n 1, 1) := by decide +kernel
theorem dX2_countAllLinks_11 : decode cX2_countAllLinks 11 = .ok (.aload_n 0, 1) := by decide +kernel
theorem dX2_countAllLinks_12 : decode cX2_countAllLinks 12 = .ok (.getfield 11, 3) := by decide +kernel
theorem dX2_countAllLinks_15 : decode cX2_countAllLinks 15 = .ok (.iload_n 2, 1) := by decide +kernel
theorem dX2_countAllLinks_16 : decode cX2_countAllLinks 16 = .ok (.aaload, 1) := by decide +kernel
theorem dX2_countAllLinks_17 : decode cX2_countAllLinks 17 = .ok (.invokevirtual 78, 3) := by decide +kernel
theorem dX2_countAllLinks_20 : decode cX2_countAllLinks 20 = .ok (.iadd, 1) := by decide +kernel
theorem dX2_countAllLinks_21 : decode cX2_countAllLinks 21 = .ok (.istore_n 1, 1) := by decide +kernel
theorem dX2_countAllLinks_22 : decode cX2_countAllLinks 22 = .ok (.iinc 2 1, 3) := by decide +kernel
theorem dX2_countAllLinks_25 : decode cX2_countAllLinks 25 = .ok (.goto (-21), 3) := by decide +kernel
theorem dX2_countAllLinks_28 : decode cX2_countAllLinks 28 = .ok (.iload_n 1, 1) := by decide +kernel
theorem dX2_countAllLinks_29 : decode cX2_countAllLinks 29 = .ok (.iconst 2, 1) := by decide +kernel
theorem dX2_countAllLinks_30 : decode cX2_countAllLinks 30 = .ok (.idiv, 1) := by decide +kernel
theorem dX2_countAllLinks_31 : decode cX2_countAllLinks 31 = .ok (.ireturn, 1) := by decide +kernel
theorem dX2_handOver_0 : decode cX2_handOver 0 = .ok (.aload_n 0, 1) := by decide +kernel
theorem dX2_handOver_1 : decode cX2_handOver 1 = .ok (.getfield 21, 3) := by decide +kernel
theorem dX2_handOver_4 : decode cX2_handOver 4 = .ok (.iload_n 1, 1) := by decide +kernel
theorem dX2_handOver_5 : decode cX2_handOver 5 = .ok (.iconst 0, 1) := by decide +kernel
theorem dX2_handOver_6 : decode cX2_handOver 6 = .ok (.invokevirtual 104, 3) := by decide +kernel
theorem dX2_handOver_9 : decode cX2_handOver 9 = .ok (.istore_n 2, 1) := by decide +kernel
theorem dX2_handOver_10 : decode cX2_handOver 10 = .ok (.aload_n 0, 1) := by decide +kernel
theorem dX2_handOver_11 : decode cX2_handOver 11 = .ok (.getfield 21, 3) := by decide +kernel
theorem dX2_handOver_14 : decode cX2_handOver 14 = .ok (.iload_n 1, 1) := by decide +kernel
theorem dX2_handOver_15 : decode cX2_handOver 15 = .ok (.iconst 1, 1) := by decide +kernel
theorem dX2_handOver_16 : decode cX2_handOver 16 = .ok (.invokevirtual 104, 3) := by decide +kernel
theorem dX2_handOver_19 : decode cX2_handOver 19 = .ok (.istore_n 3, 1) := by decide +kernel
theorem dX2_handOver_20 : decode cX2_handOver 20 = .ok (.aload_n 0, 1) := by decide +kernel
theorem dX2_handOver_21 : decode cX2_handOver 21 = .ok (.getfield 21, 3) := by decide +kernel
theorem dX2_handOver_24 : decode cX2_handOver 24 = .ok (.iload_n 1, 1) := by decide +kernel
theorem dX2_handOver_25 : decode cX2_handOver 25 = .ok (.iconst 2, 1) := by decide +kernel
theorem dX2_handOver_26 : decode cX2_handOver 26 = .ok (.invokevirtual 104, 3) := by decide +kernel
theorem dX2_handOver_29 : decode cX2_handOver 29 = .ok (.istore 4, 2) := by decide +kernel
theorem dX2_handOver_31 : decode cX2_handOver 31 = .ok (.aload_n 0, 1) := by decide +kernel
theorem dX2_handOver_32 : decode cX2_handOver 32 = .ok (.getfield 21, 3) := by decide +kernel
theorem dX2_handOver_35 : decode cX2_handOver 35 = .ok (.iload_n 1, 1) := by decide +kernel
theorem dX2_handOver_36 : decode cX2_handOver 36 = .ok (.iconst 3, 1) := by decide +kernel
theorem dX2_handOver_37 : decode cX2_handOver 37 = .ok (.invokevirtual 104, 3) := by decide +kernel
theorem dX2_handOver_40 : decode cX2_handOver 40 = .ok (.istore 5, 2) := by decide +kernel
theorem dX2_handOver_42 : decode cX2_handOver 42 = .ok (.aload_n 0, 1) := by decide +kernel
theorem dX2_handOver_43 : decode cX2_handOver 43 = .ok (.getfield 21, 3) := by decide +kernel
theorem dX2_handOver_46 : decode cX2_handOver 46 = .ok (.iload_n 1, 1) := by decide +kernel
theorem dX2_handOver_47 : decode cX2_handOver 47 = .ok (.iconst 4, 1) := by decide +kernel
theorem dX2_handOver_48 : decode cX2_handOver 48 = .ok (.invokevirtual 104, 3) := by decide +kernel
theorem dX2_handOver_51 : decode cX2_handOver 51 = .ok (.istore 6, 2) := by decide +kernel
theorem dX2_handOver_53 : decode cX2_handOver 53 = .ok (.aload_n 0, 1) := by decide +kernel
theorem dX2_handOver_54 : decode cX2_handOver 54 = .ok (.getfield 21, 3) := by decide +kernel
theorem dX2_handOver_57 : decode cX2_handOver 57 = .ok (.iload_n 1, 1) := by decide +kernel
theorem dX2_handOver_58 : decode cX2_handOver 58 = .ok (.iconst 5, 1) := by decide +kernel
theorem dX2_handOver_59 : decode cX2_handOver 59 = .ok (.invokevirtual 104, 3) := by decide +kernel
theorem dX2_handOver_62 : decode cX2_handOver 62 = .ok (.istore 7, 2) := by decide +kernel
theorem dX2_handOver_64 : decode cX2_handOver 64 = .ok (.aload_n 0, 1) := by decide +kernel
theorem dX2_handOver_65 : decode cX2_handOver 65 = .ok (.getfield 21, 3) := by decide +kernel
theorem dX2_handOver_68 : decode cX2_handOver 68 = .ok (.iload_n 1, 1) := by decide +kernel
theorem dX2_handOver_69 : decode cX2_handOver 69 = .ok (.invokevirtual 107, 3) := by decide +kernel
theorem dX2_handOver_72 : decode cX2_handOver 72 = .ok (.aload_n 0, 1) := by decide +kernel
theorem dX2_handOver_73 : decode cX2_handOver 73 = .ok (.getfield 11, 3) := by decide +kernel
theorem dX2_handOver_76 : decode cX2_handOver 76 = .ok (.iload 4, 2) := by decide +kernel
theorem dX2_handOver_78 : decode cX2_handOver 78 = .ok (.aaload, 1) := by decide +kernel
theorem dX2_handOver_79 : decode cX2_handOver 79 = .ok (.getfield 32, 3) := by decide +kernel
theorem dX2_handOver_82 : decode cX2_handOver 82 = .ok (.iload_n 3, 1) := by decide +kernel
theorem dX2_handOver_83 : decode cX2_handOver 83 = .ok (.iaload, 1) := by decide +kernel
theorem dX2_handOver_84 : decode cX2_handOver 84 = .ok (.ifCond .ne 19, 3) := by decide +kernel
theorem dX2_handOver_87 : decode cX2_handOver 87 = .ok (.aload_n 0, 1) := by decide +kernel
theorem dX2_handOver_88 : decode cX2_handOver 88 = .ok (.getfield 21, 3) := by decide +kernel
theorem dX2_handOver_91 : decode cX2_handOver 91 = .ok (.dup, 1) := by decide +kernel
theorem dX2_handOver_92 : decode cX2_handOver 92 = .ok (.getfield 142, 3) := by decide +kernel
theorem dX2_handOver_95 : decode cX2_handOver 95 = .ok (.iconst 1, 1) := by decide +kernel
theorem dX2_handOver_96 : decode cX2_handOver 96 = .ok (.iadd, 1) := by decide +kernel
theorem dX2_handOver_97 : decode cX2_handOver 97 = .ok (.putfield 142, 3) := by decide +kernel
theorem dX2_handOver_100 : decode cX2_handOver 100 = .ok (.goto 37, 3) := by decide +kernel
theorem dX2_handOver_103 : decode cX2_handOver 103 = .ok (.iload_n 2, 1) := by decide +kernel
theorem dX2_handOver_104 : decode cX2_handOver 104 = .ok (.iconst 1, 1) := by decide +kernel
theorem dX2_handOver_105 : decode cX2_handOver 105 = .ok (.if_icmp .ne 19, 3) := by decide +kernel
theorem dX2_handOver_108 : decode cX2_handOver 108 = .ok (.aload_n 0, 1) := by decide +kernel
theorem dX2_handOver_109 : decode cX2_handOver 109 = .ok (.iload 4, 2) := by decide +kernel
theorem dX2_handOver_111 : decode cX2_handOver 111 = .ok (.iload_n 3, 1) := by decide +kernel
theorem dX2_handOver_112 : decode cX2_handOver 112 = .ok (.iload 5, 2) := by decide +kernel
theorem dX2_handOver_114 : decode cX2_handOver 114 = .ok (.iload 6, 2) := by decide +kernel
theorem dX2_handOver_116 : decode cX2_handOver 116 = .ok (.iload 7, 2) := by decide +kernel
theorem dX2_handOver_118 : decode cX2_handOver 118 = .ok (.invokevirtual 160, 3) := by decide +kernel
theorem dX2_handOver_121 : decode cX2_handOver 121 = .ok (.goto 16, 3) := by decide +kernel
theorem dX2_handOver_124 : decode cX2_handOver 124 = .ok (.aload_n 0, 1) := by decide +kernel
theorem dX2_handOver_125 : decode cX2_handOver 125 = .ok (.iload 4, 2) := by decide +kernel
theorem dX2_handOver_127 : decode cX2_handOver 127 = .ok (.iload_n 3, 1) := by decide +kernel
theorem dX2_handOver_128 : decode cX2_handOver 128 = .ok (.iload 5, 2) := by decide +kernel
theorem dX2_handOver_130 : decode cX2_handOver 130 = .ok (.iload 6, 2) := by decide +kernel
theorem dX2_handOver_132 : decode cX2_handOver 132 = .ok (.iload 7, 2) := by decide +kernel
theorem dX2_handOver_134 : decode cX2_handOver 134 = .ok (.invokevirtual 164, 3) := by decide +kernel
theorem dX2_handOver_137 : decode cX2_handOver 137 = .ok (.return_, 1) := by decide +kernel
theorem dX2_hearTelling_0 : decode cX2_hearTelling 0 = .ok (.iload_n 3, 1) := by decide +kernel
theorem dX2_hearTelling_1 : decode cX2_hearTelling 1 = .ok (.iload_n 1, 1) := by decide +kernel
theorem dX2_hearTelling_2 : decode cX2_hearTelling 2 = .ok (.if_icmp .ne 4, 3) := by decide +kernel
theorem dX2_hearTelling_5 : decode cX2_hearTelling 5 = .ok (.return_, 1) := by decide +kernel
theorem dX2_hearTelling_6 : decode cX2_hearTelling 6 = .ok (.aload_n 0, 1) := by decide +kernel
theorem dX2_hearTelling_7 : decode cX2_hearTelling 7 = .ok (.getfield 11, 3) := by decide +kernel
theorem dX2_hearTelling_10 : decode cX2_hearTelling 10 = .ok (.iload_n 1, 1) := by decide +kernel
theorem dX2_hearTelling_11 : decode cX2_hearTelling 11 = .ok (.aaload, 1) := by decide +kernel
theorem dX2_hearTelling_12 : decode cX2_hearTelling 12 = .ok (.astore 6, 2) := by decide +kernel
theorem dX2_hearTelling_14 : decode cX2_hearTelling 14 = .ok (.aload 6, 2) := by decide +kernel
theorem dX2_hearTelling_16 : decode cX2_hearTelling 16 = .ok (.getfield 113, 3) := by decide +kernel
theorem dX2_hearTelling_19 : decode cX2_hearTelling 19 = .ok (.iload_n 3, 1) := by decide +kernel
theorem dX2_hearTelling_20 : decode cX2_hearTelling 20 = .ok (.iaload, 1) := by decide +kernel
theorem dX2_hearTelling_21 : decode cX2_hearTelling 21 = .ok (.iload_n 2, 1) := by decide +kernel
theorem dX2_hearTelling_22 : decode cX2_hearTelling 22 = .ok (.if_icmp .ne 27, 3) := by decide +kernel
theorem dX2_hearTelling_25 : decode cX2_hearTelling 25 = .ok (.iload 5, 2) := by decide +kernel
theorem dX2_hearTelling_27 : decode cX2_hearTelling 27 = .ok (.ldc 159, 2) := by decide +kernel
theorem dX2_hearTelling_29 : decode cX2_hearTelling 29 = .ok (.if_icmp .eq 20, 3) := by decide +kernel
theorem dX2_hearTelling_32 : decode cX2_hearTelling 32 = .ok (.aload 6, 2) := by decide +kernel
theorem dX2_hearTelling_34 : decode cX2_hearTelling 34 = .ok (.iload_n 3, 1) := by decide +kernel
theorem dX2_hearTelling_35 : decode cX2_hearTelling 35 = .ok (.iload 4, 2) := by decide +kernel
theorem dX2_hearTelling_37 : decode cX2_hearTelling 37 = .ok (.iload 5, 2) := by decide +kernel
theorem dX2_hearTelling_39 : decode cX2_hearTelling 39 = .ok (.invokevirtual 135, 3) := by decide +kernel
theorem dX2_hearTelling_42 : decode cX2_hearTelling 42 = .ok (.ifCond .ne 7, 3) := by decide +kernel
theorem dX2_hearTelling_45 : decode cX2_hearTelling 45 = .ok (.iconst 1, 1) := by decide +kernel
theorem dX2_hearTelling_46 : decode cX2_hearTelling 46 = .ok (.goto 4, 3) := by decide +kernel
theorem dX2_hearTelling_49 : decode cX2_hearTelling 49 = .ok (.iconst 0, 1) := by decide +kernel
theorem dX2_hearTelling_50 : decode cX2_hearTelling 50 = .ok (.istore 7, 2) := by decide +kernel
theorem dX2_hearTelling_52 : decode cX2_hearTelling 52 = .ok (.iload 7, 2) := by decide +kernel
theorem dX2_hearTelling_54 : decode cX2_hearTelling 54 = .ok (.ifCond .ne 25, 3) := by decide +kernel
theorem dX2_hearTelling_57 : decode cX2_hearTelling 57 = .ok (.aload 6, 2) := by decide +kernel
theorem dX2_hearTelling_59 : decode cX2_hearTelling 59 = .ok (.getfield 128, 3) := by decide +kernel
theorem dX2_hearTelling_62 : decode cX2_hearTelling 62 = .ok (.iload_n 2, 1) := by decide +kernel
theorem dX2_hearTelling_63 : decode cX2_hearTelling 63 = .ok (.aaload, 1) := by decide +kernel
theorem dX2_hearTelling_64 : decode cX2_hearTelling 64 = .ok (.iload_n 3, 1) := by decide +kernel
theorem dX2_hearTelling_65 : decode cX2_hearTelling 65 = .ok (.iload 4, 2) := by decide +kernel
theorem dX2_hearTelling_67 : decode cX2_hearTelling 67 = .ok (.iastore, 1) := by decide +kernel
theorem dX2_hearTelling_68 : decode cX2_hearTelling 68 = .ok (.aload 6, 2) := by decide +kernel
theorem dX2_hearTelling_70 : decode cX2_hearTelling 70 = .ok (.getfield 132, 3) := by decide +kernel
theorem dX2_hearTelling_73 : decode cX2_hearTelling 73 = .ok (.iload_n 2, 1) := by decide +kernel
theorem dX2_hearTelling_74 : decode cX2_hearTelling 74 = .ok (.aaload, 1) := by decide +kernel
theorem dX2_hearTelling_75 : decode cX2_hearTelling 75 = .ok (.iload_n 3, 1) := by decide +kernel
theorem dX2_hearTelling_76 : decode cX2_hearTelling 76 = .ok (.iload 5, 2) := by decide +kernel
theorem dX2_hearTelling_78 : decode cX2_hearTelling 78 = .ok (.iastore, 1) := by decide +kernel
theorem dX2_hearTelling_79 : decode cX2_hearTelling 79 = .ok (.aload_n 0, 1) := by decide +kernel
theorem dX2_hearTelling_80 : decode cX2_hearTelling 80 = .ok (.iload_n 1, 1) := by decide +kernel
theorem dX2_hearTelling_81 : decode cX2_hearTelling 81 = .ok (.iload_n 3, 1) := by decide +kernel
theorem dX2_hearTelling_82 : decode cX2_hearTelling 82 = .ok (.invokevirtual 167, 3) := by decide +kernel
theorem dX2_hearTelling_85 : decode cX2_hearTelling 85 = .ok (.return_, 1) := by decide +kernel
theorem dX2_hearRequest_0 : decode cX2_hearRequest 0 = .ok (.aload_n 0, 1) := by decide +kernel
theorem dX2_hearRequest_1 : decode cX2_hearRequest 1 = .ok (.getfield 11, 3) := by decide +kernel
theorem dX2_hearRequest_4 : decode cX2_hearRequest 4 = .ok (.iload_n 1, 1) := by decide +kernel
theorem dX2_hearRequest_5 : decode cX2_hearRequest 5 = .ok (.aaload, 1) := by decide +kernel
theorem dX2_hearRequest_6 : decode cX2_hearRequest 6 = .ok (.astore 6, 2) := by decide +kernel
theorem dX2_hearRequest_8 : decode cX2_hearRequest 8 = .ok (.iload_n 3, 1) := by decide +kernel
theorem dX2_hearRequest_9 : decode cX2_hearRequest 9 = .ok (.iload_n 1, 1) := by decide +kernel
theorem dX2_hearRequest_10 : decode cX2_hearRequest 10 = .ok (.if_icmp .ne 33, 3) := by decide +kernel
theorem dX2_hearRequest_13 : decode cX2_hearRequest 13 = .ok (.iload 4, 2) := by decide +kernel
theorem dX2_hearRequest_15 : decode cX2_hearRequest 15 = .ok (.aload 6, 2) := by decide +kernel
theorem dX2_hearRequest_17 : decode cX2_hearRequest 17 = .ok (.getfield 116, 3) := by decide +kernel
theorem dX2_hearRequest_20 : decode cX2_hearRequest 20 = .ok (.iload_n 1, 1) := by decide +kernel
theorem dX2_hearRequest_21 : decode cX2_hearRequest 21 = .ok (.iaload, 1) := by decide +kernel
theorem dX2_hearRequest_22 : decode cX2_hearRequest 22 = .ok (.invokestatic 170, 3) := by decide +kernel
theorem dX2_hearRequest_25 : decode cX2_hearRequest 25 = .ok (.ifCond .eq 9, 3) := by decide +kernel
theorem dX2_hearRequest_28 : decode cX2_hearRequest 28 = .ok (.aload 6, 2) := by decide +kernel
theorem dX2_hearRequest_30 : decode cX2_hearRequest 30 = .ok (.invokevirtual 71, 3) := by decide +kernel
theorem dX2_hearRequest_33 : decode cX2_hearRequest 33 = .ok (.pop, 1) := by decide +kernel
theorem dX2_hearRequest_34 : decode cX2_hearRequest 34 = .ok (.aload_n 0, 1) := by decide +kernel
theorem dX2_hearRequest_35 : decode cX2_hearRequest 35 = .ok (.iload_n 1, 1) := by decide +kernel
theorem dX2_hearRequest_36 : decode cX2_hearRequest 36 = .ok (.iload_n 1, 1) := by decide +kernel
theorem dX2_hearRequest_37 : decode cX2_hearRequest 37 = .ok (.invokevirtual 68, 3) := by decide +kernel
theorem dX2_hearRequest_40 : decode cX2_hearRequest 40 = .ok (.goto 76, 3) := by decide +kernel
theorem dX2_hearRequest_43 : decode cX2_hearRequest 43 = .ok (.aload 6, 2) := by decide +kernel
theorem dX2_hearRequest_45 : decode cX2_hearRequest 45 = .ok (.iload_n 3, 1) := by decide +kernel
theorem dX2_hearRequest_46 : decode cX2_hearRequest 46 = .ok (.invokevirtual 61, 3) := by decide +kernel
theorem dX2_hearRequest_49 : decode cX2_hearRequest 49 = .ok (.ifCond .eq 28, 3) := by decide +kernel
theorem dX2_hearRequest_52 : decode cX2_hearRequest 52 = .ok (.iload 4, 2) := by decide +kernel
theorem dX2_hearRequest_54 : decode cX2_hearRequest 54 = .ok (.aload 6, 2) := by decide +kernel
theorem dX2_hearRequest_56 : decode cX2_hearRequest 56 = .ok (.getfield 116, 3) := by decide +kernel
theorem dX2_hearRequest_59 : decode cX2_hearRequest 59 = .ok (.iload_n 3, 1) := by decide +kernel
theorem dX2_hearRequest_60 : decode cX2_hearRequest 60 = .ok (.iaload, 1) := by decide +kernel
theorem dX2_hearRequest_61 : decode cX2_hearRequest 61 = .ok (.invokestatic 170, 3) := by decide +kernel
theorem dX2_hearRequest_64 : decode cX2_hearRequest 64 = .ok (.ifCond .ne 13, 3) := by decide +kernel
theorem dX2_hearRequest_67 : decode cX2_hearRequest 67 = .ok (.aload_n 0, 1) := by decide +kernel
theorem dX2_hearRequest_68 : decode cX2_hearRequest 68 = .ok (.iload_n 1, 1) := by decide +kernel
theorem dX2_hearRequest_69 : decode cX2_hearRequest 69 = .ok (.iload_n 2, 1) := by decide +kernel
theorem dX2_hearRequest_70 : decode cX2_hearRequest 70 = .ok (.iload_n 3, 1) := by decide +kernel
theorem dX2_hearRequest_71 : decode cX2_hearRequest 71 = .ok (.invokevirtual 174, 3) := by decide +kernel
theorem dX2_hearRequest_74 : decode cX2_hearRequest 74 = .ok (.goto 42, 3) := by decide +kernel
theorem dX2_hearRequest_77 : decode cX2_hearRequest 77 = .ok (.iload 5, 2) := by decide +kernel
theorem dX2_hearRequest_79 : decode cX2_hearRequest 79 = .ok (.iconst 1, 1) := by decide +kernel
theorem dX2_hearRequest_80 : decode cX2_hearRequest 80 = .ok (.if_icmp .le 36, 3) := by decide +kernel
theorem dX2_hearRequest_83 : decode cX2_hearRequest 83 = .ok (.aload 6, 2) := by decide +kernel
theorem dX2_hearRequest_85 : decode cX2_hearRequest 85 = .ok (.iload_n 3, 1) := by decide +kernel
theorem dX2_hearRequest_86 : decode cX2_hearRequest 86 = .ok (.iload 4, 2) := by decide +kernel
theorem dX2_hearRequest_88 : decode cX2_hearRequest 88 = .ok (.invokevirtual 178, 3) := by decide +kernel
theorem dX2_hearRequest_91 : decode cX2_hearRequest 91 = .ok (.ifCond .ne 25, 3) := by decide +kernel
theorem dX2_hearRequest_94 : decode cX2_hearRequest 94 = .ok (.aload 6, 2) := by decide +kernel
theorem dX2_hearRequest_96 : decode cX2_hearRequest 96 = .ok (.getfield 181, 3) := by decide +kernel
theorem dX2_hearRequest_99 : decode cX2_hearRequest 99 = .ok (.iload_n 3, 1) := by decide +kernel
theorem dX2_hearRequest_100 : decode cX2_hearRequest 100 = .ok (.iload 4, 2) := by decide +kernel
theorem dX2_hearRequest_102 : decode cX2_hearRequest 102 = .ok (.iastore, 1) := by decide +kernel
theorem dX2_hearRequest_103 : decode cX2_hearRequest 103 = .ok (.aload_n 0, 1) := by decide +kernel
theorem dX2_hearRequest_104 : decode cX2_hearRequest 104 = .ok (.iload_n 1, 1) := by decide +kernel
theorem dX2_hearRequest_105 : decode cX2_hearRequest 105 = .ok (.iload_n 2, 1) := by decide +kernel
theorem dX2_hearRequest_106 : decode cX2_hearRequest 106 = .ok (.iload_n 3, 1) := by decide +kernel
theorem dX2_hearRequest_107 : decode cX2_hearRequest 107 = .ok (.iload 4, 2) := by decide +kernel
theorem dX2_hearRequest_109 : decode cX2_hearRequest 109 = .ok (.iload 5, 2) := by decide +kernel
theorem dX2_hearRequest_111 : decode cX2_hearRequest 111 = .ok (.iconst 1, 1) := by decide +kernel
theorem dX2_hearRequest_112 : decode cX2_hearRequest 112 = .ok (.isub, 1) := by decide +kernel
theorem dX2_hearRequest_113 : decode cX2_hearRequest 113 = .ok (.invokevirtual 184, 3) := by decide +kernel
theorem dX2_hearRequest_116 : decode cX2_hearRequest 116 = .ok (.return_, 1) := by decide +kernel
theorem dX2_chooseEverywhere_0 : decode cX2_chooseEverywhere 0 = .ok (.iconst 0, 1) := by decide +kernel
theorem dX2_chooseEverywhere_1 : decode cX2_chooseEverywhere 1 = .ok (.istore_n 2, 1) := by decide +kernel
theorem dX2_chooseEverywhere_2 : decode cX2_chooseEverywhere 2 = .ok (.iload_n 2, 1) := by decide +kernel
theorem dX2_chooseEverywhere_3 : decode cX2_chooseEverywhere 3 = .ok (.bipush 12, 2) := by decide +kernel
theorem dX2_chooseEverywhere_5 : decode cX2_chooseEverywhere 5 = .ok (.if_icmp .ge 20, 3) := by decide +kernel
theorem dX2_chooseEverywhere_8 : decode cX2_chooseEverywhere 8 = .ok (.iload_n 2, 1) := by decide +kernel
theorem dX2_chooseEverywhere_9 : decode cX2_chooseEverywhere 9 = .ok (.iload_n 1, 1) := by decide +kernel
theorem dX2_chooseEverywhere_10 : decode cX2_chooseEverywhere 10 = .ok (.if_icmp .eq 9, 3) := by decide +kernel
theorem dX2_chooseEverywhere_13 : decode cX2_chooseEverywhere 13 = .ok (.aload_n 0, 1) := by decide +kernel
theorem dX2_chooseEverywhere_14 : decode cX2_chooseEverywhere 14 = .ok (.iload_n 1, 1) := by decide +kernel
theorem dX2_chooseEverywhere_15 : decode cX2_chooseEverywhere 15 = .ok (.iload_n 2, 1) := by decide +kernel
theorem dX2_chooseEverywhere_16 : decode cX2_chooseEverywhere 16 = .ok (.invokevirtual 167, 3) := by decide +kernel
theorem dX2_chooseEverywhere_19 : decode cX2_chooseEverywhere 19 = .ok (.iinc 2 1, 3) := by decide +kernel
theorem dX2_chooseEverywhere_22 : decode cX2_chooseEverywhere 22 = .ok (.goto (-20), 3) := by decide +kernel
theorem dX2_chooseEverywhere_25 : decode cX2_chooseEverywhere 25 = .ok (.return_, 1) := by decide +kernel
theorem dX2_chooseAnew_0 : decode cX2_chooseAnew 0 = .ok (.aload_n 0, 1) := by decide +kernel
theorem dX2_chooseAnew_1 : decode cX2_chooseAnew 1 = .ok (.getfield 11, 3) := by decide +kernel
theorem dX2_chooseAnew_4 : decode cX2_chooseAnew 4 = .ok (.iload_n 1, 1) := by decide +kernel
theorem dX2_chooseAnew_5 : decode cX2_chooseAnew 5 = .ok (.aaload, 1) := by decide +kernel
theorem dX2_chooseAnew_6 : decode cX2_chooseAnew 6 = .ok (.iload_n 2, 1) := by decide +kernel
theorem dX2_chooseAnew_7 : decode cX2_chooseAnew 7 = .ok (.invokevirtual 187, 3) := by decide +kernel
theorem dX2_chooseAnew_10 : decode cX2_chooseAnew 10 = .ok (.ifCond .ne 4, 3) := by decide +kernel
theorem dX2_chooseAnew_13 : decode cX2_chooseAnew 13 = .ok (.return_, 1) := by decide +kernel
theorem dX2_chooseAnew_14 : decode cX2_chooseAnew 14 = .ok (.aload_n 0, 1) := by decide +kernel
theorem dX2_chooseAnew_15 : decode cX2_chooseAnew 15 = .ok (.iload_n 1, 1) := by decide +kernel
theorem dX2_chooseAnew_16 : decode cX2_chooseAnew 16 = .ok (.iload_n 2, 1) := by decide +kernel
theorem dX2_chooseAnew_17 : decode cX2_chooseAnew 17 = .ok (.invokevirtual 68, 3) := by decide +kernel
theorem dX2_chooseAnew_20 : decode cX2_chooseAnew 20 = .ok (.aload_n 0, 1) := by decide +kernel
theorem dX2_chooseAnew_21 : decode cX2_chooseAnew 21 = .ok (.getfield 11, 3) := by decide +kernel
theorem dX2_chooseAnew_24 : decode cX2_chooseAnew 24 = .ok (.iload_n 1, 1) := by decide +kernel
theorem dX2_chooseAnew_25 : decode cX2_chooseAnew 25 = .ok (.aaload, 1) := by decide +kernel
theorem dX2_chooseAnew_26 : decode cX2_chooseAnew 26 = .ok (.iload_n 2, 1) := by decide +kernel
theorem dX2_chooseAnew_27 : decode cX2_chooseAnew 27 = .ok (.invokevirtual 61, 3) := by decide +kernel
theorem dX2_chooseAnew_30 : decode cX2_chooseAnew 30 = .ok (.ifCond .ne 9, 3) := by decide +kernel
theorem dX2_chooseAnew_33 : decode cX2_chooseAnew 33 = .ok (.aload_n 0, 1) := by decide +kernel
theorem dX2_chooseAnew_34 : decode cX2_chooseAnew 34 = .ok (.iload_n 1, 1) := by decide +kernel
theorem dX2_chooseAnew_35 : decode cX2_chooseAnew 35 = .ok (.iload_n 2, 1) := by decide +kernel
theorem dX2_chooseAnew_36 : decode cX2_chooseAnew 36 = .ok (.invokevirtual 75, 3) := by decide +kernel
theorem dX2_chooseAnew_39 : decode cX2_chooseAnew 39 = .ok (.return_, 1) := by decide +kernel
theorem dX2_tellEveryWay_0 : decode cX2_tellEveryWay 0 = .ok (.iconst 0, 1) := by decide +kernel
theorem dX2_tellEveryWay_1 : decode cX2_tellEveryWay 1 = .ok (.istore_n 3, 1) := by decide +kernel
theorem dX2_tellEveryWay_2 : decode cX2_tellEveryWay 2 = .ok (.iload_n 3, 1) := by decide +kernel
theorem dX2_tellEveryWay_3 : decode cX2_tellEveryWay 3 = .ok (.bipush 12, 2) := by decide +kernel
theorem dX2_tellEveryWay_5 : decode cX2_tellEveryWay 5 = .ok (.if_icmp .ge 29, 3) := by decide +kernel
theorem dX2_tellEveryWay_8 : decode cX2_tellEveryWay 8 = .ok (.aload_n 0, 1) := by decide +kernel
theorem dX2_tellEveryWay_9 : decode cX2_tellEveryWay 9 = .ok (.getfield 11, 3) := by decide +kernel
theorem dX2_tellEveryWay_12 : decode cX2_tellEveryWay 12 = .ok (.iload_n 1, 1) := by decide +kernel
theorem dX2_tellEveryWay_13 : decode cX2_tellEveryWay 13 = .ok (.aaload, 1) := by decide +kernel
theorem dX2_tellEveryWay_14 : decode cX2_tellEveryWay 14 = .ok (.iload_n 3, 1) := by decide +kernel
theorem dX2_tellEveryWay_15 : decode cX2_tellEveryWay 15 = .ok (.invokevirtual 61, 3) := by decide +kernel
theorem dX2_tellEveryWay_18 : decode cX2_tellEveryWay 18 = .ok (.ifCond .eq 10, 3) := by decide +kernel
theorem dX2_tellEveryWay_21 : decode cX2_tellEveryWay 21 = .ok (.aload_n 0, 1) := by decide +kernel
theorem dX2_tellEveryWay_22 : decode cX2_tellEveryWay 22 = .ok (.iload_n 1, 1) := by decide +kernel
theorem dX2_tellEveryWay_23 : decode cX2_tellEveryWay 23 = .ok (.iload_n 2, 1) := by decide +kernel
theorem dX2_tellEveryWay_24 : decode cX2_tellEveryWay 24 = .ok (.iload_n 3, 1) := by decide +kernel
theorem dX2_tellEveryWay_25 : decode cX2_tellEveryWay 25 = .ok (.invokevirtual 174, 3) := by decide +kernel
theorem dX2_tellEveryWay_28 : decode cX2_tellEveryWay 28 = .ok (.iinc 3 1, 3) := by decide +kernel
theorem dX2_tellEveryWay_31 : decode cX2_tellEveryWay 31 = .ok (.goto (-29), 3) := by decide +kernel
theorem dX2_tellEveryWay_34 : decode cX2_tellEveryWay 34 = .ok (.return_, 1) := by decide +kernel
theorem dX2_tellAll_0 : decode cX2_tellAll 0 = .ok (.iconst 0, 1) := by decide +kernel
theorem dX2_tellAll_1 : decode cX2_tellAll 1 = .ok (.istore_n 3, 1) := by decide +kernel
theorem dX2_tellAll_2 : decode cX2_tellAll 2 = .ok (.iload_n 3, 1) := by decide +kernel
theorem dX2_tellAll_3 : decode cX2_tellAll 3 = .ok (.bipush 12, 2) := by decide +kernel
theorem dX2_tellAll_5 : decode cX2_tellAll 5 = .ok (.if_icmp .ge 30, 3) := by decide +kernel
theorem dX2_tellAll_8 : decode cX2_tellAll 8 = .ok (.aload_n 0, 1) := by decide +kernel
theorem dX2_tellAll_9 : decode cX2_tellAll 9 = .ok (.getfield 11, 3) := by decide +kernel
theorem dX2_tellAll_12 : decode cX2_tellAll 12 = .ok (.iload_n 1, 1) := by decide +kernel
theorem dX2_tellAll_13 : decode cX2_tellAll 13 = .ok (.aaload, 1) := by decide +kernel
theorem dX2_tellAll_14 : decode cX2_tellAll 14 = .ok (.getfield 32, 3) := by decide +kernel
theorem dX2_tellAll_17 : decode cX2_tellAll 17 = .ok (.iload_n 3, 1) := by decide +kernel
theorem dX2_tellAll_18 : decode cX2_tellAll 18 = .ok (.iaload, 1) := by decide +kernel
theorem dX2_tellAll_19 : decode cX2_tellAll 19 = .ok (.ifCond .eq 10, 3) := by decide +kernel
theorem dX2_tellAll_22 : decode cX2_tellAll 22 = .ok (.aload_n 0, 1) := by decide +kernel
theorem dX2_tellAll_23 : decode cX2_tellAll 23 = .ok (.iload_n 1, 1) := by decide +kernel
theorem dX2_tellAll_24 : decode cX2_tellAll 24 = .ok (.iload_n 3, 1) := by decide +kernel
theorem dX2_tellAll_25 : decode cX2_tellAll 25 = .ok (.iload_n 2, 1) := by decide +kernel
theorem dX2_tellAll_26 : decode cX2_tellAll 26 = .ok (.invokevirtual 174, 3) := by decide +kernel
theorem dX2_tellAll_29 : decode cX2_tellAll 29 = .ok (.iinc 3 1, 3) := by decide +kernel
theorem dX2_tellAll_32 : decode cX2_tellAll 32 = .ok (.goto (-30), 3) := by decide +kernel
theorem dX2_tellAll_35 : decode cX2_tellAll 35 = .ok (.return_, 1) := by decide +kernel
theorem dX2_tell_0 : decode cX2_tell 0 = .ok (.aload_n 0, 1) := by decide +kernel
theorem dX2_tell_1 : decode cX2_tell 1 = .ok (.getfield 11, 3) := by decide +kernel
theorem dX2_tell_4 : decode cX2_tell 4 = .ok (.iload_n 1, 1) := by decide +kernel
theorem dX2_tell_5 : decode cX2_tell 5 = .ok (.aaload, 1) := by decide +kernel
theorem dX2_tell_6 : decode cX2_tell 6 = .ok (.astore 4, 2) := by decide +kernel
theorem dX2_tell_8 : decode cX2_tell 8 = .ok (.aload 4, 2) := by decide +kernel
theorem dX2_tell_10 : decode cX2_tell 10 = .ok (.iload_n 3, 1) := by decide +kernel
theorem dX2_tell_11 : decode cX2_tell 11 = .ok (.invokevirtual 61, 3) := by decide +kernel
theorem dX2_tell_14 : decode cX2_tell 14 = .ok (.ifCond .ne 41, 3) := by decide +kernel
theorem dX2_tell_17 : decode cX2_tell 17 = .ok (.aload 4, 2) := by decide +kernel
theorem dX2_tell_19 : decode cX2_tell 19 = .ok (.iload_n 3, 1) := by decide +kernel
theorem dX2_tell_20 : decode cX2_tell 20 = .ok (.invokevirtual 65, 3) := by decide +kernel
theorem dX2_tell_23 : decode cX2_tell 23 = .ok (.ifCond .eq 13, 3) := by decide +kernel
theorem dX2_tell_26 : decode cX2_tell 26 = .ok (.aload 4, 2) := by decide +kernel
theorem dX2_tell_28 : decode cX2_tell 28 = .ok (.getfield 122, 3) := by decide +kernel
theorem dX2_tell_31 : decode cX2_tell 31 = .ok (.iload_n 3, 1) := by decide +kernel
theorem dX2_tell_32 : decode cX2_tell 32 = .ok (.iaload, 1) := by decide +kernel
theorem dX2_tell_33 : decode cX2_tell 33 = .ok (.goto 4, 3) := by decide +kernel
theorem dX2_tell_36 : decode cX2_tell 36 = .ok (.iconst 0, 1) := by decide +kernel
theorem dX2_tell_37 : decode cX2_tell 37 = .ok (.istore 5, 2) := by decide +kernel
theorem dX2_tell_39 : decode cX2_tell 39 = .ok (.aload_n 0, 1) := by decide +kernel
theorem dX2_tell_40 : decode cX2_tell 40 = .ok (.getfield 21, 3) := by decide +kernel
theorem dX2_tell_43 : decode cX2_tell 43 = .ok (.iconst 1, 1) := by decide +kernel
theorem dX2_tell_44 : decode cX2_tell 44 = .ok (.iload_n 1, 1) := by decide +kernel
theorem dX2_tell_45 : decode cX2_tell 45 = .ok (.iload_n 2, 1) := by decide +kernel
theorem dX2_tell_46 : decode cX2_tell 46 = .ok (.iload_n 3, 1) := by decide +kernel
theorem dX2_tell_47 : decode cX2_tell 47 = .ok (.iload 5, 2) := by decide +kernel
theorem dX2_tell_49 : decode cX2_tell 49 = .ok (.ldc 159, 2) := by decide +kernel
theorem dX2_tell_51 : decode cX2_tell 51 = .ok (.invokevirtual 190, 3) := by decide +kernel
theorem dX2_tell_54 : decode cX2_tell 54 = .ok (.return_, 1) := by decide +kernel
theorem dX2_tell_55 : decode cX2_tell 55 = .ok (.aload 4, 2) := by decide +kernel
theorem dX2_tell_57 : decode cX2_tell 57 = .ok (.getfield 116, 3) := by decide +kernel
theorem dX2_tell_60 : decode cX2_tell 60 = .ok (.iload_n 3, 1) := by decide +kernel
theorem dX2_tell_61 : decode cX2_tell 61 = .ok (.iaload, 1) := by decide +kernel
theorem dX2_tell_62 : decode cX2_tell 62 = .ok (.istore 5, 2) := by decide +kernel
theorem dX2_tell_64 : decode cX2_tell 64 = .ok (.aload 4, 2) := by decide +kernel
theorem dX2_tell_66 : decode cX2_tell 66 = .ok (.getfield 119, 3) := by decide +kernel
theorem dX2_tell_69 : decode cX2_tell 69 = .ok (.iload_n 3, 1) := by decide +kernel
theorem dX2_tell_70 : decode cX2_tell 70 = .ok (.iaload, 1) := by decide +kernel
theorem dX2_tell_71 : decode cX2_tell 71 = .ok (.istore 6, 2) := by decide +kernel
theorem dX2_tell_73 : decode cX2_tell 73 = .ok (.iload_n 3, 1) := by decide +kernel
theorem dX2_tell_74 : decode cX2_tell 74 = .ok (.iload_n 1, 1) := by decide +kernel
theorem dX2_tell_75 : decode cX2_tell 75 = .ok (.if_icmp .eq 34, 3) := by decide +kernel
theorem dX2_tell_78 : decode cX2_tell 78 = .ok (.aload 4, 2) := by decide +kernel
theorem dX2_tell_80 : decode cX2_tell 80 = .ok (.iload_n 3, 1) := by decide +kernel
theorem dX2_tell_81 : decode cX2_tell 81 = .ok (.iload 5, 2) := by decide +kernel
theorem dX2_tell_83 : decode cX2_tell 83 = .ok (.iload 6, 2) := by decide +kernel
theorem dX2_tell_85 : decode cX2_tell 85 = .ok (.invokevirtual 135, 3) := by decide +kernel
theorem dX2_tell_88 : decode cX2_tell 88 = .ok (.ifCond .eq 21, 3) := by decide +kernel
theorem dX2_tell_91 : decode cX2_tell 91 = .ok (.aload 4, 2) := by decide +kernel
theorem dX2_tell_93 : decode cX2_tell 93 = .ok (.getfield 122, 3) := by decide +kernel
theorem dX2_tell_96 : decode cX2_tell 96 = .ok (.iload_n 3, 1) := by decide +kernel
theorem dX2_tell_97 : decode cX2_tell 97 = .ok (.iload 5, 2) := by decide +kernel
theorem dX2_tell_99 : decode cX2_tell 99 = .ok (.iastore, 1) := by decide +kernel
theorem dX2_tell_100 : decode cX2_tell 100 = .ok (.aload 4, 2) := by decide +kernel
theorem dX2_tell_102 : decode cX2_tell 102 = .ok (.getfield 125, 3) := by decide +kernel
theorem dX2_tell_105 : decode cX2_tell 105 = .ok (.iload_n 3, 1) := by decide +kernel
theorem dX2_tell_106 : decode cX2_tell 106 = .ok (.iload 6, 2) := by decide +kernel
theorem dX2_tell_108 : decode cX2_tell 108 = .ok (.iastore, 1) := by decide +kernel
theorem dX2_tell_109 : decode cX2_tell 109 = .ok (.aload_n 0, 1) := by decide +kernel
theorem dX2_tell_110 : decode cX2_tell 110 = .ok (.getfield 21, 3) := by decide +kernel
theorem dX2_tell_113 : decode cX2_tell 113 = .ok (.iconst 1, 1) := by decide +kernel
theorem dX2_tell_114 : decode cX2_tell 114 = .ok (.iload_n 1, 1) := by decide +kernel
theorem dX2_tell_115 : decode cX2_tell 115 = .ok (.iload_n 2, 1) := by decide +kernel
theorem dX2_tell_116 : decode cX2_tell 116 = .ok (.iload_n 3, 1) := by decide +kernel
theorem dX2_tell_117 : decode cX2_tell 117 = .ok (.iload 5, 2) := by decide +kernel
theorem dX2_tell_119 : decode cX2_tell 119 = .ok (.iload 6, 2) := by decide +kernel
theorem dX2_tell_121 : decode cX2_tell 121 = .ok (.invokevirtual 190, 3) := by decide +kernel
theorem dX2_tell_124 : decode cX2_tell 124 = .ok (.return_, 1) := by decide +kernel
theorem dX2_askAll_0 : decode cX2_askAll 0 = .ok (.aload_n 0, 1) := by decide +kernel
theorem dX2_askAll_1 : decode cX2_askAll 1 = .ok (.getfield 11, 3) := by decide +kernel
theorem dX2_askAll_4 : decode cX2_askAll 4 = .ok (.iload_n 1, 1) := by decide +kernel
theorem dX2_askAll_5 : decode cX2_askAll 5 = .ok (.aaload, 1) := by decide +kernel
theorem dX2_askAll_6 : decode cX2_askAll 6 = .ok (.astore_n 3, 1) := by decide +kernel
theorem dX2_askAll_7 : decode cX2_askAll 7 = .ok (.aload_n 3, 1) := by decide +kernel
theorem dX2_askAll_8 : decode cX2_askAll 8 = .ok (.iload_n 2, 1) := by decide +kernel
theorem dX2_askAll_9 : decode cX2_askAll 9 = .ok (.invokevirtual 65, 3) := by decide +kernel
theorem dX2_askAll_12 : decode cX2_askAll 12 = .ok (.ifCond .eq 15, 3) := by decide +kernel
theorem dX2_askAll_15 : decode cX2_askAll 15 = .ok (.aload_n 3, 1) := by decide +kernel
theorem dX2_askAll_16 : decode cX2_askAll 16 = .ok (.getfield 122, 3) := by decide +kernel
theorem dX2_askAll_19 : decode cX2_askAll 19 = .ok (.iload_n 2, 1) := by decide +kernel
theorem dX2_askAll_20 : decode cX2_askAll 20 = .ok (.iaload, 1) := by decide +kernel
theorem dX2_askAll_21 : decode cX2_askAll 21 = .ok (.invokestatic 194, 3) := by decide +kernel
theorem dX2_askAll_24 : decode cX2_askAll 24 = .ok (.goto 4, 3) := by decide +kernel
theorem dX2_askAll_27 : decode cX2_askAll 27 = .ok (.iconst 0, 1) := by decide +kernel
theorem dX2_askAll_28 : decode cX2_askAll 28 = .ok (.istore 4, 2) := by decide +kernel
theorem dX2_askAll_30 : decode cX2_askAll 30 = .ok (.aload_n 0, 1) := by decide +kernel
theorem dX2_askAll_31 : decode cX2_askAll 31 = .ok (.iload_n 1, 1) := by decide +kernel
theorem dX2_askAll_32 : decode cX2_askAll 32 = .ok (.iconst (-1), 1) := by decide +kernel
theorem dX2_askAll_33 : decode cX2_askAll 33 = .ok (.iload_n 2, 1) := by decide +kernel
theorem dX2_askAll_34 : decode cX2_askAll 34 = .ok (.iload 4, 2) := by decide +kernel
theorem dX2_askAll_36 : decode cX2_askAll 36 = .ok (.bipush 8, 2) := by decide +kernel
theorem dX2_askAll_38 : decode cX2_askAll 38 = .ok (.invokevirtual 184, 3) := by decide +kernel
theorem dX2_askAll_41 : decode cX2_askAll 41 = .ok (.return_, 1) := by decide +kernel
theorem dX2_requestAll_0 : decode cX2_requestAll 0 = .ok (.iconst 0, 1) := by decide +kernel
theorem dX2_requestAll_1 : decode cX2_requestAll 1 = .ok (.istore 6, 2) := by decide +kernel
theorem dX2_requestAll_3 : decode cX2_requestAll 3 = .ok (.iload 6, 2) := by decide +kernel
theorem dX2_requestAll_5 : decode cX2_requestAll 5 = .ok (.bipush 12, 2) := by decide +kernel
theorem dX2_requestAll_7 : decode cX2_requestAll 7 = .ok (.if_icmp .ge 46, 3) := by decide +kernel
theorem dX2_requestAll_10 : decode cX2_requestAll 10 = .ok (.iload 6, 2) := by decide +kernel
theorem dX2_requestAll_12 : decode cX2_requestAll 12 = .ok (.iload_n 2, 1) := by decide +kernel
theorem dX2_requestAll_13 : decode cX2_requestAll 13 = .ok (.if_icmp .eq 34, 3) := by decide +kernel
theorem dX2_requestAll_16 : decode cX2_requestAll 16 = .ok (.aload_n 0, 1) := by decide +kernel
theorem dX2_requestAll_17 : decode cX2_requestAll 17 = .ok (.getfield 11, 3) := by decide +kernel
theorem dX2_requestAll_20 : decode cX2_requestAll 20 = .ok (.iload_n 1, 1) := by decide +kernel
theorem dX2_requestAll_21 : decode cX2_requestAll 21 = .ok (.aaload, 1) := by decide +kernel
theorem dX2_requestAll_22 : decode cX2_requestAll 22 = .ok (.getfield 32, 3) := by decide +kernel
theorem dX2_requestAll_25 : decode cX2_requestAll 25 = .ok (.iload 6, 2) := by decide +kernel
theorem dX2_requestAll_27 : decode cX2_requestAll 27 = .ok (.iaload, 1) := by decide +kernel
theorem dX2_requestAll_28 : decode cX2_requestAll 28 = .ok (.ifCond .eq 19, 3) := by decide +kernel
theorem dX2_requestAll_31 : decode cX2_requestAll 31 = .ok (.aload_n 0, 1) := by decide +kernel
theorem dX2_requestAll_32 : decode cX2_requestAll 32 = .ok (.getfield 21, 3) := by decide +kernel
theorem dX2_requestAll_35 : decode cX2_requestAll 35 = .ok (.iconst 2, 1) := by decide +kernel
theorem dX2_requestAll_36 : decode cX2_requestAll 36 = .ok (.iload_n 1, 1) := by decide +kernel
theorem dX2_requestAll_37 : decode cX2_requestAll 37 = .ok (.iload 6, 2) := by decide +kernel
theorem dX2_requestAll_39 : decode cX2_requestAll 39 = .ok (.iload_n 3, 1) := by decide +kernel
theorem dX2_requestAll_40 : decode cX2_requestAll 40 = .ok (.iload 4, 2) := by decide +kernel
theorem dX2_requestAll_42 : decode cX2_requestAll 42 = .ok (.iload 5, 2) := by decide +kernel
theorem dX2_requestAll_44 : decode cX2_requestAll 44 = .ok (.invokevirtual 190, 3) := by decide +kernel
theorem dX2_requestAll_47 : decode cX2_requestAll 47 = .ok (.iinc 6 1, 3) := by decide +kernel
theorem dX2_requestAll_50 : decode cX2_requestAll 50 = .ok (.goto (-47), 3) := by decide +kernel
theorem dX2_requestAll_53 : decode cX2_requestAll 53 = .ok (.return_, 1) := by decide +kernel
