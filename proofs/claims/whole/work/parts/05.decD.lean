theorem dX3_announce_26 : decode cX3_announce 26 = .ok (.iconst 0, 1) := by decide +kernel
theorem dX3_announce_27 : decode cX3_announce 27 = .ok (.istore_n 3, 1) := by decide +kernel
theorem dX3_announce_28 : decode cX3_announce 28 = .ok (.iload_n 3, 1) := by decide +kernel
theorem dX3_announce_29 : decode cX3_announce 29 = .ok (.bipush 12, 2) := by decide +kernel
theorem dX3_announce_31 : decode cX3_announce 31 = .ok (.if_icmp .ge 50, 3) := by decide +kernel
theorem dX3_announce_34 : decode cX3_announce 34 = .ok (.iload_n 3, 1) := by decide +kernel
theorem dX3_announce_35 : decode cX3_announce 35 = .ok (.iload_n 1, 1) := by decide +kernel
theorem dX3_announce_36 : decode cX3_announce 36 = .ok (.if_icmp .eq 33, 3) := by decide +kernel
theorem dX3_announce_39 : decode cX3_announce 39 = .ok (.aload_n 0, 1) := by decide +kernel
theorem dX3_announce_40 : decode cX3_announce 40 = .ok (.getfield 22, 3) := by decide +kernel
theorem dX3_announce_43 : decode cX3_announce 43 = .ok (.bipush 12, 2) := by decide +kernel
theorem dX3_announce_45 : decode cX3_announce 45 = .ok (.iload_n 1, 1) := by decide +kernel
theorem dX3_announce_46 : decode cX3_announce 46 = .ok (.imul, 1) := by decide +kernel
theorem dX3_announce_47 : decode cX3_announce 47 = .ok (.iload_n 3, 1) := by decide +kernel
theorem dX3_announce_48 : decode cX3_announce 48 = .ok (.iadd, 1) := by decide +kernel
theorem dX3_announce_49 : decode cX3_announce 49 = .ok (.iaload, 1) := by decide +kernel
theorem dX3_announce_50 : decode cX3_announce 50 = .ok (.iconst (-1), 1) := by decide +kernel
theorem dX3_announce_51 : decode cX3_announce 51 = .ok (.if_icmp .ne 18, 3) := by decide +kernel
theorem dX3_announce_54 : decode cX3_announce 54 = .ok (.aload_n 0, 1) := by decide +kernel
theorem dX3_announce_55 : decode cX3_announce 55 = .ok (.getfield 19, 3) := by decide +kernel
theorem dX3_announce_58 : decode cX3_announce 58 = .ok (.bipush 12, 2) := by decide +kernel
theorem dX3_announce_60 : decode cX3_announce 60 = .ok (.iload_n 1, 1) := by decide +kernel
theorem dX3_announce_61 : decode cX3_announce 61 = .ok (.imul, 1) := by decide +kernel
theorem dX3_announce_62 : decode cX3_announce 62 = .ok (.iload_n 3, 1) := by decide +kernel
theorem dX3_announce_63 : decode cX3_announce 63 = .ok (.iadd, 1) := by decide +kernel
theorem dX3_announce_64 : decode cX3_announce 64 = .ok (.iaload, 1) := by decide +kernel
theorem dX3_announce_65 : decode cX3_announce 65 = .ok (.iconst (-1), 1) := by decide +kernel
theorem dX3_announce_66 : decode cX3_announce 66 = .ok (.if_icmp .eq 9, 3) := by decide +kernel
theorem dX3_announce_69 : decode cX3_announce 69 = .ok (.aload_n 0, 1) := by decide +kernel
theorem dX3_announce_70 : decode cX3_announce 70 = .ok (.iload_n 1, 1) := by decide +kernel
theorem dX3_announce_71 : decode cX3_announce 71 = .ok (.iload_n 3, 1) := by decide +kernel
theorem dX3_announce_72 : decode cX3_announce 72 = .ok (.invokevirtual 78, 3) := by decide +kernel
theorem dX3_announce_75 : decode cX3_announce 75 = .ok (.iinc 3 1, 3) := by decide +kernel
theorem dX3_announce_78 : decode cX3_announce 78 = .ok (.goto (-50), 3) := by decide +kernel
theorem dX3_announce_81 : decode cX3_announce 81 = .ok (.aload_n 0, 1) := by decide +kernel
theorem dX3_announce_82 : decode cX3_announce 82 = .ok (.getfield 48, 3) := by decide +kernel
theorem dX3_announce_85 : decode cX3_announce 85 = .ok (.iload_n 2, 1) := by decide +kernel
theorem dX3_announce_86 : decode cX3_announce 86 = .ok (.isub, 1) := by decide +kernel
theorem dX3_announce_87 : decode cX3_announce 87 = .ok (.ireturn, 1) := by decide +kernel
theorem dX3_renew_0 : decode cX3_renew 0 = .ok (.aload_n 0, 1) := by decide +kernel
theorem dX3_renew_1 : decode cX3_renew 1 = .ok (.iload_n 1, 1) := by decide +kernel
theorem dX3_renew_2 : decode cX3_renew 2 = .ok (.invokestatic 93, 3) := by decide +kernel
theorem dX3_renew_5 : decode cX3_renew 5 = .ok (.ifCond .eq 7, 3) := by decide +kernel
theorem dX3_renew_8 : decode cX3_renew 8 = .ok (.iconst 0, 1) := by decide +kernel
theorem dX3_renew_9 : decode cX3_renew 9 = .ok (.goto 4, 3) := by decide +kernel
theorem dX3_renew_12 : decode cX3_renew 12 = .ok (.iconst 1, 1) := by decide +kernel
theorem dX3_renew_13 : decode cX3_renew 13 = .ok (.invokevirtual 97, 3) := by decide +kernel
theorem dX3_renew_16 : decode cX3_renew 16 = .ok (.ifCond .eq 5, 3) := by decide +kernel
theorem dX3_renew_19 : decode cX3_renew 19 = .ok (.iconst 0, 1) := by decide +kernel
theorem dX3_renew_20 : decode cX3_renew 20 = .ok (.ireturn, 1) := by decide +kernel
theorem dX3_renew_21 : decode cX3_renew 21 = .ok (.aload_n 0, 1) := by decide +kernel
theorem dX3_renew_22 : decode cX3_renew 22 = .ok (.getfield 13, 3) := by decide +kernel
theorem dX3_renew_25 : decode cX3_renew 25 = .ok (.iload_n 1, 1) := by decide +kernel
theorem dX3_renew_26 : decode cX3_renew 26 = .ok (.aload_n 0, 1) := by decide +kernel
theorem dX3_renew_27 : decode cX3_renew 27 = .ok (.getfield 13, 3) := by decide +kernel
theorem dX3_renew_30 : decode cX3_renew 30 = .ok (.iload_n 1, 1) := by decide +kernel
theorem dX3_renew_31 : decode cX3_renew 31 = .ok (.iaload, 1) := by decide +kernel
theorem dX3_renew_32 : decode cX3_renew 32 = .ok (.iconst 1, 1) := by decide +kernel
theorem dX3_renew_33 : decode cX3_renew 33 = .ok (.iadd, 1) := by decide +kernel
theorem dX3_renew_34 : decode cX3_renew 34 = .ok (.ldc 47, 2) := by decide +kernel
theorem dX3_renew_36 : decode cX3_renew 36 = .ok (.iand, 1) := by decide +kernel
theorem dX3_renew_37 : decode cX3_renew 37 = .ok (.iastore, 1) := by decide +kernel
theorem dX3_renew_38 : decode cX3_renew 38 = .ok (.aload_n 0, 1) := by decide +kernel
theorem dX3_renew_39 : decode cX3_renew 39 = .ok (.iload_n 1, 1) := by decide +kernel
theorem dX3_renew_40 : decode cX3_renew 40 = .ok (.iload_n 1, 1) := by decide +kernel
theorem dX3_renew_41 : decode cX3_renew 41 = .ok (.invokevirtual 78, 3) := by decide +kernel
theorem dX3_renew_44 : decode cX3_renew 44 = .ok (.aload_n 0, 1) := by decide +kernel
theorem dX3_renew_45 : decode cX3_renew 45 = .ok (.getfield 13, 3) := by decide +kernel
theorem dX3_renew_48 : decode cX3_renew 48 = .ok (.iload_n 1, 1) := by decide +kernel
theorem dX3_renew_49 : decode cX3_renew 49 = .ok (.iaload, 1) := by decide +kernel
theorem dX3_renew_50 : decode cX3_renew 50 = .ok (.ireturn, 1) := by decide +kernel
theorem dX3_ask_0 : decode cX3_ask 0 = .ok (.aload_n 0, 1) := by decide +kernel
theorem dX3_ask_1 : decode cX3_ask 1 = .ok (.iload_n 1, 1) := by decide +kernel
theorem dX3_ask_2 : decode cX3_ask 2 = .ok (.invokestatic 93, 3) := by decide +kernel
theorem dX3_ask_5 : decode cX3_ask 5 = .ok (.ifCond .eq 15, 3) := by decide +kernel
theorem dX3_ask_8 : decode cX3_ask 8 = .ok (.iload_n 2, 1) := by decide +kernel
theorem dX3_ask_9 : decode cX3_ask 9 = .ok (.invokestatic 93, 3) := by decide +kernel
theorem dX3_ask_12 : decode cX3_ask 12 = .ok (.ifCond .eq 8, 3) := by decide +kernel
theorem dX3_ask_15 : decode cX3_ask 15 = .ok (.iload_n 1, 1) := by decide +kernel
theorem dX3_ask_16 : decode cX3_ask 16 = .ok (.iload_n 2, 1) := by decide +kernel
theorem dX3_ask_17 : decode cX3_ask 17 = .ok (.if_icmp .ne 7, 3) := by decide +kernel
theorem dX3_ask_20 : decode cX3_ask 20 = .ok (.iconst 1, 1) := by decide +kernel
theorem dX3_ask_21 : decode cX3_ask 21 = .ok (.goto 4, 3) := by decide +kernel
theorem dX3_ask_24 : decode cX3_ask 24 = .ok (.iconst 0, 1) := by decide +kernel
theorem dX3_ask_25 : decode cX3_ask 25 = .ok (.invokevirtual 97, 3) := by decide +kernel
theorem dX3_ask_28 : decode cX3_ask 28 = .ok (.ifCond .eq 5, 3) := by decide +kernel
theorem dX3_ask_31 : decode cX3_ask 31 = .ok (.iconst 0, 1) := by decide +kernel
theorem dX3_ask_32 : decode cX3_ask 32 = .ok (.ireturn, 1) := by decide +kernel
theorem dX3_ask_33 : decode cX3_ask 33 = .ok (.aload_n 0, 1) := by decide +kernel
theorem dX3_ask_34 : decode cX3_ask 34 = .ok (.getfield 48, 3) := by decide +kernel
theorem dX3_ask_37 : decode cX3_ask 37 = .ok (.istore_n 3, 1) := by decide +kernel
theorem dX3_ask_38 : decode cX3_ask 38 = .ok (.aload_n 0, 1) := by decide +kernel
theorem dX3_ask_39 : decode cX3_ask 39 = .ok (.getfield 22, 3) := by decide +kernel
theorem dX3_ask_42 : decode cX3_ask 42 = .ok (.bipush 12, 2) := by decide +kernel
theorem dX3_ask_44 : decode cX3_ask 44 = .ok (.iload_n 1, 1) := by decide +kernel
theorem dX3_ask_45 : decode cX3_ask 45 = .ok (.imul, 1) := by decide +kernel
theorem dX3_ask_46 : decode cX3_ask 46 = .ok (.iload_n 2, 1) := by decide +kernel
theorem dX3_ask_47 : decode cX3_ask 47 = .ok (.iadd, 1) := by decide +kernel
theorem dX3_ask_48 : decode cX3_ask 48 = .ok (.iaload, 1) := by decide +kernel
theorem dX3_ask_49 : decode cX3_ask 49 = .ok (.iconst (-1), 1) := by decide +kernel
theorem dX3_ask_50 : decode cX3_ask 50 = .ok (.if_icmp .ne 18, 3) := by decide +kernel
theorem dX3_ask_53 : decode cX3_ask 53 = .ok (.aload_n 0, 1) := by decide +kernel
theorem dX3_ask_54 : decode cX3_ask 54 = .ok (.iload_n 1, 1) := by decide +kernel
theorem dX3_ask_55 : decode cX3_ask 55 = .ok (.iload_n 2, 1) := by decide +kernel
theorem dX3_ask_56 : decode cX3_ask 56 = .ok (.aload_n 0, 1) := by decide +kernel
theorem dX3_ask_57 : decode cX3_ask 57 = .ok (.iload_n 1, 1) := by decide +kernel
theorem dX3_ask_58 : decode cX3_ask 58 = .ok (.iload_n 2, 1) := by decide +kernel
theorem dX3_ask_59 : decode cX3_ask 59 = .ok (.invokevirtual 82, 3) := by decide +kernel
theorem dX3_ask_62 : decode cX3_ask 62 = .ok (.bipush 8, 2) := by decide +kernel
theorem dX3_ask_64 : decode cX3_ask 64 = .ok (.iconst (-1), 1) := by decide +kernel
theorem dX3_ask_65 : decode cX3_ask 65 = .ok (.invokevirtual 86, 3) := by decide +kernel
theorem dX3_ask_68 : decode cX3_ask 68 = .ok (.aload_n 0, 1) := by decide +kernel
theorem dX3_ask_69 : decode cX3_ask 69 = .ok (.getfield 48, 3) := by decide +kernel
theorem dX3_ask_72 : decode cX3_ask 72 = .ok (.iload_n 3, 1) := by decide +kernel
theorem dX3_ask_73 : decode cX3_ask 73 = .ok (.isub, 1) := by decide +kernel
theorem dX3_ask_74 : decode cX3_ask 74 = .ok (.ireturn, 1) := by decide +kernel
theorem dX3_reboot_0 : decode cX3_reboot 0 = .ok (.iconst 0, 1) := by decide +kernel
theorem dX3_reboot_1 : decode cX3_reboot 1 = .ok (.istore_n 2, 1) := by decide +kernel
theorem dX3_reboot_2 : decode cX3_reboot 2 = .ok (.iconst 0, 1) := by decide +kernel
theorem dX3_reboot_3 : decode cX3_reboot 3 = .ok (.istore_n 3, 1) := by decide +kernel
theorem dX3_reboot_4 : decode cX3_reboot 4 = .ok (.iload_n 3, 1) := by decide +kernel
theorem dX3_reboot_5 : decode cX3_reboot 5 = .ok (.bipush 12, 2) := by decide +kernel
theorem dX3_reboot_7 : decode cX3_reboot 7 = .ok (.if_icmp .ge 40, 3) := by decide +kernel
theorem dX3_reboot_10 : decode cX3_reboot 10 = .ok (.iload_n 1, 1) := by decide +kernel
theorem dX3_reboot_11 : decode cX3_reboot 11 = .ok (.invokestatic 93, 3) := by decide +kernel
theorem dX3_reboot_14 : decode cX3_reboot 14 = .ok (.ifCond .eq 33, 3) := by decide +kernel
theorem dX3_reboot_17 : decode cX3_reboot 17 = .ok (.iload_n 2, 1) := by decide +kernel
theorem dX3_reboot_18 : decode cX3_reboot 18 = .ok (.ifCond .ne 17, 3) := by decide +kernel
theorem dX3_reboot_21 : decode cX3_reboot 21 = .ok (.aload_n 0, 1) := by decide +kernel
theorem dX3_reboot_22 : decode cX3_reboot 22 = .ok (.getfield 7, 3) := by decide +kernel
theorem dX3_reboot_25 : decode cX3_reboot 25 = .ok (.bipush 12, 2) := by decide +kernel
theorem dX3_reboot_27 : decode cX3_reboot 27 = .ok (.iload_n 1, 1) := by decide +kernel
theorem dX3_reboot_28 : decode cX3_reboot 28 = .ok (.imul, 1) := by decide +kernel
theorem dX3_reboot_29 : decode cX3_reboot 29 = .ok (.iload_n 3, 1) := by decide +kernel
theorem dX3_reboot_30 : decode cX3_reboot 30 = .ok (.iadd, 1) := by decide +kernel
theorem dX3_reboot_31 : decode cX3_reboot 31 = .ok (.iaload, 1) := by decide +kernel
theorem dX3_reboot_32 : decode cX3_reboot 32 = .ok (.ifCond .le 7, 3) := by decide +kernel
theorem dX3_reboot_35 : decode cX3_reboot 35 = .ok (.iconst 1, 1) := by decide +kernel
theorem dX3_reboot_36 : decode cX3_reboot 36 = .ok (.goto 4, 3) := by decide +kernel
theorem dX3_reboot_39 : decode cX3_reboot 39 = .ok (.iconst 0, 1) := by decide +kernel
theorem dX3_reboot_40 : decode cX3_reboot 40 = .ok (.istore_n 2, 1) := by decide +kernel
theorem dX3_reboot_41 : decode cX3_reboot 41 = .ok (.iinc 3 1, 3) := by decide +kernel
theorem dX3_reboot_44 : decode cX3_reboot 44 = .ok (.goto (-40), 3) := by decide +kernel
theorem dX3_reboot_47 : decode cX3_reboot 47 = .ok (.aload_n 0, 1) := by decide +kernel
theorem dX3_reboot_48 : decode cX3_reboot 48 = .ok (.iload_n 1, 1) := by decide +kernel
theorem dX3_reboot_49 : decode cX3_reboot 49 = .ok (.invokestatic 93, 3) := by decide +kernel
theorem dX3_reboot_52 : decode cX3_reboot 52 = .ok (.ifCond .ne 7, 3) := by decide +kernel
theorem dX3_reboot_55 : decode cX3_reboot 55 = .ok (.iconst 1, 1) := by decide +kernel
theorem dX3_reboot_56 : decode cX3_reboot 56 = .ok (.goto 12, 3) := by decide +kernel
theorem dX3_reboot_59 : decode cX3_reboot 59 = .ok (.iload_n 2, 1) := by decide +kernel
theorem dX3_reboot_60 : decode cX3_reboot 60 = .ok (.ifCond .eq 7, 3) := by decide +kernel
theorem dX3_reboot_63 : decode cX3_reboot 63 = .ok (.iconst 2, 1) := by decide +kernel
theorem dX3_reboot_64 : decode cX3_reboot 64 = .ok (.goto 4, 3) := by decide +kernel
theorem dX3_reboot_67 : decode cX3_reboot 67 = .ok (.iconst 0, 1) := by decide +kernel
theorem dX3_reboot_68 : decode cX3_reboot 68 = .ok (.invokevirtual 97, 3) := by decide +kernel
theorem dX3_reboot_71 : decode cX3_reboot 71 = .ok (.ifCond .eq 5, 3) := by decide +kernel
theorem dX3_reboot_74 : decode cX3_reboot 74 = .ok (.iconst 0, 1) := by decide +kernel
theorem dX3_reboot_75 : decode cX3_reboot 75 = .ok (.ireturn, 1) := by decide +kernel
theorem dX3_reboot_76 : decode cX3_reboot 76 = .ok (.iconst 0, 1) := by decide +kernel
theorem dX3_reboot_77 : decode cX3_reboot 77 = .ok (.istore_n 3, 1) := by decide +kernel
theorem dX3_reboot_78 : decode cX3_reboot 78 = .ok (.iload_n 3, 1) := by decide +kernel
theorem dX3_reboot_79 : decode cX3_reboot 79 = .ok (.bipush 12, 2) := by decide +kernel
theorem dX3_reboot_81 : decode cX3_reboot 81 = .ok (.if_icmp .ge 45, 3) := by decide +kernel
theorem dX3_reboot_84 : decode cX3_reboot 84 = .ok (.aload_n 0, 1) := by decide +kernel
theorem dX3_reboot_85 : decode cX3_reboot 85 = .ok (.getfield 16, 3) := by decide +kernel
theorem dX3_reboot_88 : decode cX3_reboot 88 = .ok (.bipush 12, 2) := by decide +kernel
theorem dX3_reboot_90 : decode cX3_reboot 90 = .ok (.iload_n 1, 1) := by decide +kernel
theorem dX3_reboot_91 : decode cX3_reboot 91 = .ok (.imul, 1) := by decide +kernel
theorem dX3_reboot_92 : decode cX3_reboot 92 = .ok (.iload_n 3, 1) := by decide +kernel
theorem dX3_reboot_93 : decode cX3_reboot 93 = .ok (.iadd, 1) := by decide +kernel
theorem dX3_reboot_94 : decode cX3_reboot 94 = .ok (.iconst (-1), 1) := by decide +kernel
theorem dX3_reboot_95 : decode cX3_reboot 95 = .ok (.iastore, 1) := by decide +kernel
theorem dX3_reboot_96 : decode cX3_reboot 96 = .ok (.aload_n 0, 1) := by decide +kernel
theorem dX3_reboot_97 : decode cX3_reboot 97 = .ok (.getfield 19, 3) := by decide +kernel
theorem dX3_reboot_100 : decode cX3_reboot 100 = .ok (.bipush 12, 2) := by decide +kernel
theorem dX3_reboot_102 : decode cX3_reboot 102 = .ok (.iload_n 1, 1) := by decide +kernel
theorem dX3_reboot_103 : decode cX3_reboot 103 = .ok (.imul, 1) := by decide +kernel
theorem dX3_reboot_104 : decode cX3_reboot 104 = .ok (.iload_n 3, 1) := by decide +kernel
theorem dX3_reboot_105 : decode cX3_reboot 105 = .ok (.iadd, 1) := by decide +kernel
theorem dX3_reboot_106 : decode cX3_reboot 106 = .ok (.iconst (-1), 1) := by decide +kernel
theorem dX3_reboot_107 : decode cX3_reboot 107 = .ok (.iastore, 1) := by decide +kernel
theorem dX3_reboot_108 : decode cX3_reboot 108 = .ok (.aload_n 0, 1) := by decide +kernel
theorem dX3_reboot_109 : decode cX3_reboot 109 = .ok (.getfield 31, 3) := by decide +kernel
theorem dX3_reboot_112 : decode cX3_reboot 112 = .ok (.bipush 12, 2) := by decide +kernel
theorem dX3_reboot_114 : decode cX3_reboot 114 = .ok (.iload_n 1, 1) := by decide +kernel
theorem dX3_reboot_115 : decode cX3_reboot 115 = .ok (.imul, 1) := by decide +kernel
theorem dX3_reboot_116 : decode cX3_reboot 116 = .ok (.iload_n 3, 1) := by decide +kernel
theorem dX3_reboot_117 : decode cX3_reboot 117 = .ok (.iadd, 1) := by decide +kernel
theorem dX3_reboot_118 : decode cX3_reboot 118 = .ok (.iconst (-1), 1) := by decide +kernel
theorem dX3_reboot_119 : decode cX3_reboot 119 = .ok (.iastore, 1) := by decide +kernel
theorem dX3_reboot_120 : decode cX3_reboot 120 = .ok (.iinc 3 1, 3) := by decide +kernel
theorem dX3_reboot_123 : decode cX3_reboot 123 = .ok (.goto (-45), 3) := by decide +kernel
theorem dX3_reboot_126 : decode cX3_reboot 126 = .ok (.iconst 0, 1) := by decide +kernel
theorem dX3_reboot_127 : decode cX3_reboot 127 = .ok (.istore_n 3, 1) := by decide +kernel
theorem dX3_reboot_128 : decode cX3_reboot 128 = .ok (.aload_n 0, 1) := by decide +kernel
theorem dX3_reboot_129 : decode cX3_reboot 129 = .ok (.getfield 51, 3) := by decide +kernel
theorem dX3_reboot_132 : decode cX3_reboot 132 = .ok (.iconst 1, 1) := by decide +kernel
theorem dX3_reboot_133 : decode cX3_reboot 133 = .ok (.isub, 1) := by decide +kernel
theorem dX3_reboot_134 : decode cX3_reboot 134 = .ok (.istore 4, 2) := by decide +kernel
theorem dX3_reboot_136 : decode cX3_reboot 136 = .ok (.iload 4, 2) := by decide +kernel
theorem dX3_reboot_138 : decode cX3_reboot 138 = .ok (.ifCond .lt 50, 3) := by decide +kernel
theorem dX3_reboot_141 : decode cX3_reboot 141 = .ok (.aload_n 0, 1) := by decide +kernel
theorem dX3_reboot_142 : decode cX3_reboot 142 = .ok (.getfield 40, 3) := by decide +kernel
theorem dX3_reboot_145 : decode cX3_reboot 145 = .ok (.bipush 6, 2) := by decide +kernel
theorem dX3_reboot_147 : decode cX3_reboot 147 = .ok (.iload 4, 2) := by decide +kernel
theorem dX3_reboot_149 : decode cX3_reboot 149 = .ok (.imul, 1) := by decide +kernel
theorem dX3_reboot_150 : decode cX3_reboot 150 = .ok (.iconst 1, 1) := by decide +kernel
theorem dX3_reboot_151 : decode cX3_reboot 151 = .ok (.iadd, 1) := by decide +kernel
theorem dX3_reboot_152 : decode cX3_reboot 152 = .ok (.iaload, 1) := by decide +kernel
theorem dX3_reboot_153 : decode cX3_reboot 153 = .ok (.iload_n 1, 1) := by decide +kernel
theorem dX3_reboot_154 : decode cX3_reboot 154 = .ok (.if_icmp .eq 19, 3) := by decide +kernel
theorem dX3_reboot_157 : decode cX3_reboot 157 = .ok (.aload_n 0, 1) := by decide +kernel
theorem dX3_reboot_158 : decode cX3_reboot 158 = .ok (.getfield 40, 3) := by decide +kernel
theorem dX3_reboot_161 : decode cX3_reboot 161 = .ok (.bipush 6, 2) := by decide +kernel
theorem dX3_reboot_163 : decode cX3_reboot 163 = .ok (.iload 4, 2) := by decide +kernel
theorem dX3_reboot_165 : decode cX3_reboot 165 = .ok (.imul, 1) := by decide +kernel
theorem dX3_reboot_166 : decode cX3_reboot 166 = .ok (.iconst 2, 1) := by decide +kernel
theorem dX3_reboot_167 : decode cX3_reboot 167 = .ok (.iadd, 1) := by decide +kernel
theorem dX3_reboot_168 : decode cX3_reboot 168 = .ok (.iaload, 1) := by decide +kernel
theorem dX3_reboot_169 : decode cX3_reboot 169 = .ok (.iload_n 1, 1) := by decide +kernel
theorem dX3_reboot_170 : decode cX3_reboot 170 = .ok (.if_icmp .ne 12, 3) := by decide +kernel
theorem dX3_reboot_173 : decode cX3_reboot 173 = .ok (.aload_n 0, 1) := by decide +kernel
theorem dX3_reboot_174 : decode cX3_reboot 174 = .ok (.iload 4, 2) := by decide +kernel
theorem dX3_reboot_176 : decode cX3_reboot 176 = .ok (.invokevirtual 110, 3) := by decide +kernel
theorem dX3_reboot_179 : decode cX3_reboot 179 = .ok (.iinc 3 1, 3) := by decide +kernel
theorem dX3_reboot_182 : decode cX3_reboot 182 = .ok (.iinc 4 (-1), 3) := by decide +kernel
theorem dX3_reboot_185 : decode cX3_reboot 185 = .ok (.goto (-49), 3) := by decide +kernel
theorem dX3_reboot_188 : decode cX3_reboot 188 = .ok (.aload_n 0, 1) := by decide +kernel
theorem dX3_reboot_189 : decode cX3_reboot 189 = .ok (.dup, 1) := by decide +kernel
theorem dX3_reboot_190 : decode cX3_reboot 190 = .ok (.getfield 113, 3) := by decide +kernel
theorem dX3_reboot_193 : decode cX3_reboot 193 = .ok (.iload_n 3, 1) := by decide +kernel
theorem dX3_reboot_194 : decode cX3_reboot 194 = .ok (.iadd, 1) := by decide +kernel
theorem dX3_reboot_195 : decode cX3_reboot 195 = .ok (.putfield 113, 3) := by decide +kernel
theorem dX3_reboot_198 : decode cX3_reboot 198 = .ok (.iload_n 3, 1) := by decide +kernel
theorem dX3_reboot_199 : decode cX3_reboot 199 = .ok (.ireturn, 1) := by decide +kernel
theorem dX3_deliver_0 : decode cX3_deliver 0 = .ok (.aload_n 0, 1) := by decide +kernel
theorem dX3_deliver_1 : decode cX3_deliver 1 = .ok (.iload_n 1, 1) := by decide +kernel
theorem dX3_deliver_2 : decode cX3_deliver 2 = .ok (.ifCond .lt 11, 3) := by decide +kernel
theorem dX3_deliver_5 : decode cX3_deliver 5 = .ok (.iload_n 1, 1) := by decide +kernel
theorem dX3_deliver_6 : decode cX3_deliver 6 = .ok (.aload_n 0, 1) := by decide +kernel
theorem dX3_deliver_7 : decode cX3_deliver 7 = .ok (.getfield 51, 3) := by decide +kernel
theorem dX3_deliver_10 : decode cX3_deliver 10 = .ok (.if_icmp .lt 7, 3) := by decide +kernel
theorem dX3_deliver_13 : decode cX3_deliver 13 = .ok (.iconst 1, 1) := by decide +kernel
theorem dX3_deliver_14 : decode cX3_deliver 14 = .ok (.goto 4, 3) := by decide +kernel
theorem dX3_deliver_17 : decode cX3_deliver 17 = .ok (.iconst 0, 1) := by decide +kernel
theorem dX3_deliver_18 : decode cX3_deliver 18 = .ok (.invokevirtual 97, 3) := by decide +kernel
theorem dX3_deliver_21 : decode cX3_deliver 21 = .ok (.ifCond .eq 5, 3) := by decide +kernel
theorem dX3_deliver_24 : decode cX3_deliver 24 = .ok (.iconst 0, 1) := by decide +kernel
theorem dX3_deliver_25 : decode cX3_deliver 25 = .ok (.ireturn, 1) := by decide +kernel
theorem dX3_deliver_26 : decode cX3_deliver 26 = .ok (.aload_n 0, 1) := by decide +kernel
theorem dX3_deliver_27 : decode cX3_deliver 27 = .ok (.iload_n 1, 1) := by decide +kernel
theorem dX3_deliver_28 : decode cX3_deliver 28 = .ok (.invokevirtual 116, 3) := by decide +kernel
theorem dX3_deliver_31 : decode cX3_deliver 31 = .ok (.ireturn, 1) := by decide +kernel
theorem dX3_hands_0 : decode cX3_hands 0 = .ok (.aload_n 0, 1) := by decide +kernel
theorem dX3_hands_1 : decode cX3_hands 1 = .ok (.iload_n 1, 1) := by decide +kernel
theorem dX3_hands_2 : decode cX3_hands 2 = .ok (.invokevirtual 110, 3) := by decide +kernel
theorem dX3_hands_5 : decode cX3_hands 5 = .ok (.aload_n 0, 1) := by decide +kernel
theorem dX3_hands_6 : decode cX3_hands 6 = .ok (.getfield 40, 3) := by decide +kernel
theorem dX3_hands_9 : decode cX3_hands 9 = .ok (.sipush 1801, 3) := by decide +kernel
theorem dX3_hands_12 : decode cX3_hands 12 = .ok (.iaload, 1) := by decide +kernel
theorem dX3_hands_13 : decode cX3_hands 13 = .ok (.istore_n 2, 1) := by decide +kernel
theorem dX3_hands_14 : decode cX3_hands 14 = .ok (.aload_n 0, 1) := by decide +kernel
theorem dX3_hands_15 : decode cX3_hands 15 = .ok (.getfield 40, 3) := by decide +kernel
theorem dX3_hands_18 : decode cX3_hands 18 = .ok (.sipush 1802, 3) := by decide +kernel
theorem dX3_hands_21 : decode cX3_hands 21 = .ok (.iaload, 1) := by decide +kernel
theorem dX3_hands_22 : decode cX3_hands 22 = .ok (.istore_n 3, 1) := by decide +kernel
theorem dX3_hands_23 : decode cX3_hands 23 = .ok (.aload_n 0, 1) := by decide +kernel
theorem dX3_hands_24 : decode cX3_hands 24 = .ok (.getfield 40, 3) := by decide +kernel
theorem dX3_hands_27 : decode cX3_hands 27 = .ok (.sipush 1803, 3) := by decide +kernel
theorem dX3_hands_30 : decode cX3_hands 30 = .ok (.iaload, 1) := by decide +kernel
theorem dX3_hands_31 : decode cX3_hands 31 = .ok (.istore 4, 2) := by decide +kernel
theorem dX3_hands_33 : decode cX3_hands 33 = .ok (.aload_n 0, 1) := by decide +kernel
theorem dX3_hands_34 : decode cX3_hands 34 = .ok (.getfield 40, 3) := by decide +kernel
theorem dX3_hands_37 : decode cX3_hands 37 = .ok (.sipush 1804, 3) := by decide +kernel
theorem dX3_hands_40 : decode cX3_hands 40 = .ok (.iaload, 1) := by decide +kernel
theorem dX3_hands_41 : decode cX3_hands 41 = .ok (.istore 5, 2) := by decide +kernel
theorem dX3_hands_43 : decode cX3_hands 43 = .ok (.aload_n 0, 1) := by decide +kernel
theorem dX3_hands_44 : decode cX3_hands 44 = .ok (.getfield 40, 3) := by decide +kernel
theorem dX3_hands_47 : decode cX3_hands 47 = .ok (.sipush 1805, 3) := by decide +kernel
theorem dX3_hands_50 : decode cX3_hands 50 = .ok (.iaload, 1) := by decide +kernel
theorem dX3_hands_51 : decode cX3_hands 51 = .ok (.istore 6, 2) := by decide +kernel
theorem dX3_hands_53 : decode cX3_hands 53 = .ok (.aload_n 0, 1) := by decide +kernel
theorem dX3_hands_54 : decode cX3_hands 54 = .ok (.getfield 48, 3) := by decide +kernel
theorem dX3_hands_57 : decode cX3_hands 57 = .ok (.istore 7, 2) := by decide +kernel
theorem dX3_hands_59 : decode cX3_hands 59 = .ok (.aload_n 0, 1) := by decide +kernel
theorem dX3_hands_60 : decode cX3_hands 60 = .ok (.getfield 7, 3) := by decide +kernel
theorem dX3_hands_63 : decode cX3_hands 63 = .ok (.bipush 12, 2) := by decide +kernel
theorem dX3_hands_65 : decode cX3_hands 65 = .ok (.iload_n 2, 1) := by decide +kernel
theorem dX3_hands_66 : decode cX3_hands 66 = .ok (.imul, 1) := by decide +kernel
theorem dX3_hands_67 : decode cX3_hands 67 = .ok (.iload_n 3, 1) := by decide +kernel
theorem dX3_hands_68 : decode cX3_hands 68 = .ok (.iadd, 1) := by decide +kernel
theorem dX3_hands_69 : decode cX3_hands 69 = .ok (.iaload, 1) := by decide +kernel
theorem dX3_hands_70 : decode cX3_hands 70 = .ok (.ifCond .ne 16, 3) := by decide +kernel
theorem dX3_hands_73 : decode cX3_hands 73 = .ok (.aload_n 0, 1) := by decide +kernel
theorem dX3_hands_74 : decode cX3_hands 74 = .ok (.dup, 1) := by decide +kernel
theorem dX3_hands_75 : decode cX3_hands 75 = .ok (.getfield 113, 3) := by decide +kernel
theorem dX3_hands_78 : decode cX3_hands 78 = .ok (.iconst 1, 1) := by decide +kernel
theorem dX3_hands_79 : decode cX3_hands 79 = .ok (.iadd, 1) := by decide +kernel
theorem dX3_hands_80 : decode cX3_hands 80 = .ok (.putfield 113, 3) := by decide +kernel
theorem dX3_hands_83 : decode cX3_hands 83 = .ok (.goto 120, 3) := by decide +kernel
theorem dX3_hands_86 : decode cX3_hands 86 = .ok (.aload_n 0, 1) := by decide +kernel
theorem dX3_hands_87 : decode cX3_hands 87 = .ok (.getfield 40, 3) := by decide +kernel
theorem dX3_hands_90 : decode cX3_hands 90 = .ok (.sipush 1800, 3) := by decide +kernel
theorem dX3_hands_93 : decode cX3_hands 93 = .ok (.iaload, 1) := by decide +kernel
theorem dX3_hands_94 : decode cX3_hands 94 = .ok (.iconst 2, 1) := by decide +kernel
theorem dX3_hands_95 : decode cX3_hands 95 = .ok (.if_icmp .ne 18, 3) := by decide +kernel
theorem dX3_hands_98 : decode cX3_hands 98 = .ok (.aload_n 0, 1) := by decide +kernel
theorem dX3_hands_99 : decode cX3_hands 99 = .ok (.iload_n 3, 1) := by decide +kernel
theorem dX3_hands_100 : decode cX3_hands 100 = .ok (.iload_n 2, 1) := by decide +kernel
theorem dX3_hands_101 : decode cX3_hands 101 = .ok (.iload 4, 2) := by decide +kernel
theorem dX3_hands_103 : decode cX3_hands 103 = .ok (.iload 5, 2) := by decide +kernel
theorem dX3_hands_105 : decode cX3_hands 105 = .ok (.iload 6, 2) := by decide +kernel
theorem dX3_hands_107 : decode cX3_hands 107 = .ok (.invokevirtual 120, 3) := by decide +kernel
theorem dX3_hands_110 : decode cX3_hands 110 = .ok (.goto 93, 3) := by decide +kernel
theorem dX3_hands_113 : decode cX3_hands 113 = .ok (.iload_n 3, 1) := by decide +kernel
theorem dX3_hands_114 : decode cX3_hands 114 = .ok (.iload 4, 2) := by decide +kernel
theorem dX3_hands_116 : decode cX3_hands 116 = .ok (.if_icmp .eq 87, 3) := by decide +kernel
theorem dX3_hands_119 : decode cX3_hands 119 = .ok (.aload_n 0, 1) := by decide +kernel
theorem dX3_hands_120 : decode cX3_hands 120 = .ok (.getfield 22, 3) := by decide +kernel
theorem dX3_hands_123 : decode cX3_hands 123 = .ok (.bipush 12, 2) := by decide +kernel
theorem dX3_hands_125 : decode cX3_hands 125 = .ok (.iload_n 3, 1) := by decide +kernel
theorem dX3_hands_126 : decode cX3_hands 126 = .ok (.imul, 1) := by decide +kernel
theorem dX3_hands_127 : decode cX3_hands 127 = .ok (.iload 4, 2) := by decide +kernel
theorem dX3_hands_129 : decode cX3_hands 129 = .ok (.iadd, 1) := by decide +kernel
theorem dX3_hands_130 : decode cX3_hands 130 = .ok (.iaload, 1) := by decide +kernel
theorem dX3_hands_131 : decode cX3_hands 131 = .ok (.iload_n 2, 1) := by decide +kernel
theorem dX3_hands_132 : decode cX3_hands 132 = .ok (.if_icmp .ne 24, 3) := by decide +kernel
theorem dX3_hands_135 : decode cX3_hands 135 = .ok (.iload 6, 2) := by decide +kernel
theorem dX3_hands_137 : decode cX3_hands 137 = .ok (.ldc 47, 2) := by decide +kernel
theorem dX3_hands_139 : decode cX3_hands 139 = .ok (.if_icmp .eq 17, 3) := by decide +kernel
theorem dX3_hands_142 : decode cX3_hands 142 = .ok (.aload_n 0, 1) := by decide +kernel
theorem dX3_hands_143 : decode cX3_hands 143 = .ok (.iload_n 3, 1) := by decide +kernel
theorem dX3_hands_144 : decode cX3_hands 144 = .ok (.iload 4, 2) := by decide +kernel
theorem dX3_hands_146 : decode cX3_hands 146 = .ok (.iload 5, 2) := by decide +kernel
theorem dX3_hands_148 : decode cX3_hands 148 = .ok (.iload 6, 2) := by decide +kernel
theorem dX3_hands_150 : decode cX3_hands 150 = .ok (.invokevirtual 69, 3) := by decide +kernel
theorem dX3_hands_153 : decode cX3_hands 153 = .ok (.ifCond .eq 43, 3) := by decide +kernel
theorem dX3_hands_156 : decode cX3_hands 156 = .ok (.aload_n 0, 1) := by decide +kernel
theorem dX3_hands_157 : decode cX3_hands 157 = .ok (.getfield 34, 3) := by decide +kernel
theorem dX3_hands_160 : decode cX3_hands 160 = .ok (.sipush 144, 3) := by decide +kernel
theorem dX3_hands_163 : decode cX3_hands 163 = .ok (.iload_n 3, 1) := by decide +kernel
theorem dX3_hands_164 : decode cX3_hands 164 = .ok (.imul, 1) := by decide +kernel
theorem dX3_hands_165 : decode cX3_hands 165 = .ok (.bipush 12, 2) := by decide +kernel
theorem dX3_hands_167 : decode cX3_hands 167 = .ok (.iload_n 2, 1) := by decide +kernel
theorem dX3_hands_168 : decode cX3_hands 168 = .ok (.imul, 1) := by decide +kernel
theorem dX3_hands_169 : decode cX3_hands 169 = .ok (.iadd, 1) := by decide +kernel
theorem dX3_hands_170 : decode cX3_hands 170 = .ok (.iload 4, 2) := by decide +kernel
theorem dX3_hands_172 : decode cX3_hands 172 = .ok (.iadd, 1) := by decide +kernel
theorem dX3_hands_173 : decode cX3_hands 173 = .ok (.iload 5, 2) := by decide +kernel
theorem dX3_hands_175 : decode cX3_hands 175 = .ok (.iastore, 1) := by decide +kernel
theorem dX3_hands_176 : decode cX3_hands 176 = .ok (.aload_n 0, 1) := by decide +kernel
theorem dX3_hands_177 : decode cX3_hands 177 = .ok (.getfield 37, 3) := by decide +kernel
theorem dX3_hands_180 : decode cX3_hands 180 = .ok (.sipush 144, 3) := by decide +kernel
theorem dX3_hands_183 : decode cX3_hands 183 = .ok (.iload_n 3, 1) := by decide +kernel
theorem dX3_hands_184 : decode cX3_hands 184 = .ok (.imul, 1) := by decide +kernel
theorem dX3_hands_185 : decode cX3_hands 185 = .ok (.bipush 12, 2) := by decide +kernel
theorem dX3_hands_187 : decode cX3_hands 187 = .ok (.iload_n 2, 1) := by decide +kernel
theorem dX3_hands_188 : decode cX3_hands 188 = .ok (.imul, 1) := by decide +kernel
theorem dX3_hands_189 : decode cX3_hands 189 = .ok (.iadd, 1) := by decide +kernel
theorem dX3_hands_190 : decode cX3_hands 190 = .ok (.iload 4, 2) := by decide +kernel
theorem dX3_hands_192 : decode cX3_hands 192 = .ok (.iadd, 1) := by decide +kernel
theorem dX3_hands_193 : decode cX3_hands 193 = .ok (.iload 6, 2) := by decide +kernel
theorem dX3_hands_195 : decode cX3_hands 195 = .ok (.iastore, 1) := by decide +kernel
theorem dX3_hands_196 : decode cX3_hands 196 = .ok (.aload_n 0, 1) := by decide +kernel
theorem dX3_hands_197 : decode cX3_hands 197 = .ok (.iload_n 3, 1) := by decide +kernel
theorem dX3_hands_198 : decode cX3_hands 198 = .ok (.iload 4, 2) := by decide +kernel
theorem dX3_hands_200 : decode cX3_hands 200 = .ok (.invokevirtual 90, 3) := by decide +kernel
theorem dX3_hands_203 : decode cX3_hands 203 = .ok (.aload_n 0, 1) := by decide +kernel
theorem dX3_hands_204 : decode cX3_hands 204 = .ok (.getfield 48, 3) := by decide +kernel
theorem dX3_hands_207 : decode cX3_hands 207 = .ok (.iload 7, 2) := by decide +kernel
theorem dX3_hands_209 : decode cX3_hands 209 = .ok (.isub, 1) := by decide +kernel
theorem dX3_hands_210 : decode cX3_hands 210 = .ok (.ireturn, 1) := by decide +kernel
theorem dX3_requested_0 : decode cX3_requested 0 = .ok (.bipush 12, 2) := by decide +kernel
theorem dX3_requested_2 : decode cX3_requested 2 = .ok (.iload_n 1, 1) := by decide +kernel
theorem dX3_requested_3 : decode cX3_requested 3 = .ok (.imul, 1) := by decide +kernel
theorem dX3_requested_4 : decode cX3_requested 4 = .ok (.iload_n 3, 1) := by decide +kernel
theorem dX3_requested_5 : decode cX3_requested 5 = .ok (.iadd, 1) := by decide +kernel
theorem dX3_requested_6 : decode cX3_requested 6 = .ok (.istore 6, 2) := by decide +kernel
theorem dX3_requested_8 : decode cX3_requested 8 = .ok (.iload_n 1, 1) := by decide +kernel
theorem dX3_requested_9 : decode cX3_requested 9 = .ok (.iload_n 3, 1) := by decide +kernel
theorem dX3_requested_10 : decode cX3_requested 10 = .ok (.if_icmp .ne 52, 3) := by decide +kernel
theorem dX3_requested_13 : decode cX3_requested 13 = .ok (.aload_n 0, 1) := by decide +kernel
theorem dX3_requested_14 : decode cX3_requested 14 = .ok (.getfield 13, 3) := by decide +kernel
theorem dX3_requested_17 : decode cX3_requested 17 = .ok (.iload_n 1, 1) := by decide +kernel
theorem dX3_requested_18 : decode cX3_requested 18 = .ok (.iload 4, 2) := by decide +kernel
theorem dX3_requested_20 : decode cX3_requested 20 = .ok (.aload_n 0, 1) := by decide +kernel
theorem dX3_requested_21 : decode cX3_requested 21 = .ok (.getfield 13, 3) := by decide +kernel
theorem dX3_requested_24 : decode cX3_requested 24 = .ok (.iload_n 1, 1) := by decide +kernel
theorem dX3_requested_25 : decode cX3_requested 25 = .ok (.iaload, 1) := by decide +kernel
theorem dX3_requested_26 : decode cX3_requested 26 = .ok (.invokestatic 61, 3) := by decide +kernel
theorem dX3_requested_29 : decode cX3_requested 29 = .ok (.ifCond .eq 17, 3) := by decide +kernel
theorem dX3_requested_32 : decode cX3_requested 32 = .ok (.aload_n 0, 1) := by decide +kernel
theorem dX3_requested_33 : decode cX3_requested 33 = .ok (.getfield 13, 3) := by decide +kernel
theorem dX3_requested_36 : decode cX3_requested 36 = .ok (.iload_n 1, 1) := by decide +kernel
theorem dX3_requested_37 : decode cX3_requested 37 = .ok (.iaload, 1) := by decide +kernel
theorem dX3_requested_38 : decode cX3_requested 38 = .ok (.iconst 1, 1) := by decide +kernel
theorem dX3_requested_39 : decode cX3_requested 39 = .ok (.iadd, 1) := by decide +kernel
theorem dX3_requested_40 : decode cX3_requested 40 = .ok (.ldc 47, 2) := by decide +kernel
theorem dX3_requested_42 : decode cX3_requested 42 = .ok (.iand, 1) := by decide +kernel
theorem dX3_requested_43 : decode cX3_requested 43 = .ok (.goto 9, 3) := by decide +kernel
theorem dX3_requested_46 : decode cX3_requested 46 = .ok (.aload_n 0, 1) := by decide +kernel
theorem dX3_requested_47 : decode cX3_requested 47 = .ok (.getfield 13, 3) := by decide +kernel
theorem dX3_requested_50 : decode cX3_requested 50 = .ok (.iload_n 1, 1) := by decide +kernel
theorem dX3_requested_51 : decode cX3_requested 51 = .ok (.iaload, 1) := by decide +kernel
theorem dX3_requested_52 : decode cX3_requested 52 = .ok (.iastore, 1) := by decide +kernel
theorem dX3_requested_53 : decode cX3_requested 53 = .ok (.aload_n 0, 1) := by decide +kernel
theorem dX3_requested_54 : decode cX3_requested 54 = .ok (.iload_n 1, 1) := by decide +kernel
theorem dX3_requested_55 : decode cX3_requested 55 = .ok (.iload_n 1, 1) := by decide +kernel
theorem dX3_requested_56 : decode cX3_requested 56 = .ok (.invokevirtual 78, 3) := by decide +kernel
theorem dX3_requested_59 : decode cX3_requested 59 = .ok (.goto 93, 3) := by decide +kernel
theorem dX3_requested_62 : decode cX3_requested 62 = .ok (.aload_n 0, 1) := by decide +kernel
theorem dX3_requested_63 : decode cX3_requested 63 = .ok (.getfield 22, 3) := by decide +kernel
theorem dX3_requested_66 : decode cX3_requested 66 = .ok (.iload 6, 2) := by decide +kernel
theorem dX3_requested_68 : decode cX3_requested 68 = .ok (.iaload, 1) := by decide +kernel
theorem dX3_requested_69 : decode cX3_requested 69 = .ok (.iconst (-1), 1) := by decide +kernel
theorem dX3_requested_70 : decode cX3_requested 70 = .ok (.if_icmp .eq 28, 3) := by decide +kernel
theorem dX3_requested_73 : decode cX3_requested 73 = .ok (.iload 4, 2) := by decide +kernel
theorem dX3_requested_75 : decode cX3_requested 75 = .ok (.aload_n 0, 1) := by decide +kernel
theorem dX3_requested_76 : decode cX3_requested 76 = .ok (.getfield 25, 3) := by decide +kernel
theorem dX3_requested_79 : decode cX3_requested 79 = .ok (.iload 6, 2) := by decide +kernel
theorem dX3_requested_81 : decode cX3_requested 81 = .ok (.iaload, 1) := by decide +kernel
theorem dX3_requested_82 : decode cX3_requested 82 = .ok (.invokestatic 61, 3) := by decide +kernel
theorem dX3_requested_85 : decode cX3_requested 85 = .ok (.ifCond .ne 13, 3) := by decide +kernel
theorem dX3_requested_88 : decode cX3_requested 88 = .ok (.aload_n 0, 1) := by decide +kernel
theorem dX3_requested_89 : decode cX3_requested 89 = .ok (.iload_n 1, 1) := by decide +kernel
theorem dX3_requested_90 : decode cX3_requested 90 = .ok (.iload_n 2, 1) := by decide +kernel
theorem dX3_requested_91 : decode cX3_requested 91 = .ok (.iload_n 3, 1) := by decide +kernel
theorem dX3_requested_92 : decode cX3_requested 92 = .ok (.invokevirtual 65, 3) := by decide +kernel
theorem dX3_requested_95 : decode cX3_requested 95 = .ok (.goto 57, 3) := by decide +kernel
theorem dX3_requested_98 : decode cX3_requested 98 = .ok (.iload 5, 2) := by decide +kernel
theorem dX3_requested_100 : decode cX3_requested 100 = .ok (.iconst 1, 1) := by decide +kernel
theorem dX3_requested_101 : decode cX3_requested 101 = .ok (.if_icmp .le 51, 3) := by decide +kernel
theorem dX3_requested_104 : decode cX3_requested 104 = .ok (.aload_n 0, 1) := by decide +kernel
theorem dX3_requested_105 : decode cX3_requested 105 = .ok (.getfield 31, 3) := by decide +kernel
theorem dX3_requested_108 : decode cX3_requested 108 = .ok (.iload 6, 2) := by decide +kernel
theorem dX3_requested_110 : decode cX3_requested 110 = .ok (.iaload, 1) := by decide +kernel
theorem dX3_requested_111 : decode cX3_requested 111 = .ok (.iconst (-1), 1) := by decide +kernel
theorem dX3_requested_112 : decode cX3_requested 112 = .ok (.if_icmp .eq 18, 3) := by decide +kernel
theorem dX3_requested_115 : decode cX3_requested 115 = .ok (.iload 4, 2) := by decide +kernel
theorem dX3_requested_117 : decode cX3_requested 117 = .ok (.aload_n 0, 1) := by decide +kernel
theorem dX3_requested_118 : decode cX3_requested 118 = .ok (.getfield 31, 3) := by decide +kernel
theorem dX3_requested_121 : decode cX3_requested 121 = .ok (.iload 6, 2) := by decide +kernel
theorem dX3_requested_123 : decode cX3_requested 123 = .ok (.iaload, 1) := by decide +kernel
theorem dX3_requested_124 : decode cX3_requested 124 = .ok (.invokestatic 61, 3) := by decide +kernel
theorem dX3_requested_127 : decode cX3_requested 127 = .ok (.ifCond .eq 25, 3) := by decide +kernel
theorem dX3_requested_130 : decode cX3_requested 130 = .ok (.aload_n 0, 1) := by decide +kernel
theorem dX3_requested_131 : decode cX3_requested 131 = .ok (.getfield 31, 3) := by decide +kernel
theorem dX3_requested_134 : decode cX3_requested 134 = .ok (.iload 6, 2) := by decide +kernel
theorem dX3_requested_136 : decode cX3_requested 136 = .ok (.iload 4, 2) := by decide +kernel
theorem dX3_requested_138 : decode cX3_requested 138 = .ok (.iastore, 1) := by decide +kernel
theorem dX3_requested_139 : decode cX3_requested 139 = .ok (.aload_n 0, 1) := by decide +kernel
theorem dX3_requested_140 : decode cX3_requested 140 = .ok (.iload_n 1, 1) := by decide +kernel
theorem dX3_requested_141 : decode cX3_requested 141 = .ok (.iload_n 3, 1) := by decide +kernel
theorem dX3_requested_142 : decode cX3_requested 142 = .ok (.iload 4, 2) := by decide +kernel
theorem dX3_requested_144 : decode cX3_requested 144 = .ok (.iload 5, 2) := by decide +kernel
theorem dX3_requested_146 : decode cX3_requested 146 = .ok (.iconst 1, 1) := by decide +kernel
theorem dX3_requested_147 : decode cX3_requested 147 = .ok (.isub, 1) := by decide +kernel
theorem dX3_requested_148 : decode cX3_requested 148 = .ok (.iload_n 2, 1) := by decide +kernel
theorem dX3_requested_149 : decode cX3_requested 149 = .ok (.invokevirtual 86, 3) := by decide +kernel
theorem dX3_requested_152 : decode cX3_requested 152 = .ok (.return_, 1) := by decide +kernel
theorem dX3_run_0 : decode cX3_run 0 = .ok (.aload_n 0, 1) := by decide +kernel
theorem dX3_run_1 : decode cX3_run 1 = .ok (.iload_n 1, 1) := by decide +kernel
theorem dX3_run_2 : decode cX3_run 2 = .ok (.ifCond .lt 10, 3) := by decide +kernel
theorem dX3_run_5 : decode cX3_run 5 = .ok (.iload_n 1, 1) := by decide +kernel
theorem dX3_run_6 : decode cX3_run 6 = .ok (.sipush 500, 3) := by decide +kernel
theorem dX3_run_9 : decode cX3_run 9 = .ok (.if_icmp .le 7, 3) := by decide +kernel
theorem dX3_run_12 : decode cX3_run 12 = .ok (.iconst 1, 1) := by decide +kernel
theorem dX3_run_13 : decode cX3_run 13 = .ok (.goto 4, 3) := by decide +kernel
theorem dX3_run_16 : decode cX3_run 16 = .ok (.iconst 0, 1) := by decide +kernel
theorem dX3_run_17 : decode cX3_run 17 = .ok (.invokevirtual 97, 3) := by decide +kernel
theorem dX3_run_20 : decode cX3_run 20 = .ok (.ifCond .eq 5, 3) := by decide +kernel
theorem dX3_run_23 : decode cX3_run 23 = .ok (.iconst 0, 1) := by decide +kernel
theorem dX3_run_24 : decode cX3_run 24 = .ok (.ireturn, 1) := by decide +kernel
theorem dX3_run_25 : decode cX3_run 25 = .ok (.iconst 0, 1) := by decide +kernel
theorem dX3_run_26 : decode cX3_run 26 = .ok (.istore_n 2, 1) := by decide +kernel
theorem dX3_run_27 : decode cX3_run 27 = .ok (.iload_n 2, 1) := by decide +kernel
theorem dX3_run_28 : decode cX3_run 28 = .ok (.iload_n 1, 1) := by decide +kernel
theorem dX3_run_29 : decode cX3_run 29 = .ok (.if_icmp .ge 22, 3) := by decide +kernel
theorem dX3_run_32 : decode cX3_run 32 = .ok (.aload_n 0, 1) := by decide +kernel
theorem dX3_run_33 : decode cX3_run 33 = .ok (.getfield 51, 3) := by decide +kernel
theorem dX3_run_36 : decode cX3_run 36 = .ok (.ifCond .le 15, 3) := by decide +kernel
theorem dX3_run_39 : decode cX3_run 39 = .ok (.aload_n 0, 1) := by decide +kernel
theorem dX3_run_40 : decode cX3_run 40 = .ok (.iconst 0, 1) := by decide +kernel
theorem dX3_run_41 : decode cX3_run 41 = .ok (.invokevirtual 116, 3) := by decide +kernel
theorem dX3_run_44 : decode cX3_run 44 = .ok (.pop, 1) := by decide +kernel
theorem dX3_run_45 : decode cX3_run 45 = .ok (.iinc 2 1, 3) := by decide +kernel
theorem dX3_run_48 : decode cX3_run 48 = .ok (.goto (-21), 3) := by decide +kernel
theorem dX3_run_51 : decode cX3_run 51 = .ok (.iload_n 2, 1) := by decide +kernel
theorem dX3_run_52 : decode cX3_run 52 = .ok (.ireturn, 1) := by decide +kernel
theorem dX3_drop_0 : decode cX3_drop 0 = .ok (.aload_n 0, 1) := by decide +kernel
theorem dX3_drop_1 : decode cX3_drop 1 = .ok (.iload_n 1, 1) := by decide +kernel
theorem dX3_drop_2 : decode cX3_drop 2 = .ok (.ifCond .lt 11, 3) := by decide +kernel
theorem dX3_drop_5 : decode cX3_drop 5 = .ok (.iload_n 1, 1) := by decide +kernel
theorem dX3_drop_6 : decode cX3_drop 6 = .ok (.aload_n 0, 1) := by decide +kernel
theorem dX3_drop_7 : decode cX3_drop 7 = .ok (.getfield 51, 3) := by decide +kernel
theorem dX3_drop_10 : decode cX3_drop 10 = .ok (.if_icmp .lt 7, 3) := by decide +kernel
theorem dX3_drop_13 : decode cX3_drop 13 = .ok (.iconst 1, 1) := by decide +kernel
theorem dX3_drop_14 : decode cX3_drop 14 = .ok (.goto 4, 3) := by decide +kernel
theorem dX3_drop_17 : decode cX3_drop 17 = .ok (.iconst 0, 1) := by decide +kernel
theorem dX3_drop_18 : decode cX3_drop 18 = .ok (.invokevirtual 97, 3) := by decide +kernel
theorem dX3_drop_21 : decode cX3_drop 21 = .ok (.ifCond .eq 5, 3) := by decide +kernel
theorem dX3_drop_24 : decode cX3_drop 24 = .ok (.iconst 0, 1) := by decide +kernel
theorem dX3_drop_25 : decode cX3_drop 25 = .ok (.ireturn, 1) := by decide +kernel
theorem dX3_drop_26 : decode cX3_drop 26 = .ok (.aload_n 0, 1) := by decide +kernel
theorem dX3_drop_27 : decode cX3_drop 27 = .ok (.iload_n 1, 1) := by decide +kernel
theorem dX3_drop_28 : decode cX3_drop 28 = .ok (.invokevirtual 110, 3) := by decide +kernel
theorem dX3_drop_31 : decode cX3_drop 31 = .ok (.aload_n 0, 1) := by decide +kernel
theorem dX3_drop_32 : decode cX3_drop 32 = .ok (.getfield 40, 3) := by decide +kernel
theorem dX3_drop_35 : decode cX3_drop 35 = .ok (.sipush 1800, 3) := by decide +kernel
theorem dX3_drop_38 : decode cX3_drop 38 = .ok (.iaload, 1) := by decide +kernel
theorem dX3_drop_39 : decode cX3_drop 39 = .ok (.ireturn, 1) := by decide +kernel
theorem dX3_copy_0 : decode cX3_copy 0 = .ok (.aload_n 0, 1) := by decide +kernel
theorem dX3_copy_1 : decode cX3_copy 1 = .ok (.iload_n 1, 1) := by decide +kernel
theorem dX3_copy_2 : decode cX3_copy 2 = .ok (.ifCond .lt 11, 3) := by decide +kernel
theorem dX3_copy_5 : decode cX3_copy 5 = .ok (.iload_n 1, 1) := by decide +kernel
theorem dX3_copy_6 : decode cX3_copy 6 = .ok (.aload_n 0, 1) := by decide +kernel
theorem dX3_copy_7 : decode cX3_copy 7 = .ok (.getfield 51, 3) := by decide +kernel
theorem dX3_copy_10 : decode cX3_copy 10 = .ok (.if_icmp .lt 7, 3) := by decide +kernel
theorem dX3_copy_13 : decode cX3_copy 13 = .ok (.iconst 1, 1) := by decide +kernel
theorem dX3_copy_14 : decode cX3_copy 14 = .ok (.goto 4, 3) := by decide +kernel
theorem dX3_copy_17 : decode cX3_copy 17 = .ok (.iconst 0, 1) := by decide +kernel
theorem dX3_copy_18 : decode cX3_copy 18 = .ok (.invokevirtual 97, 3) := by decide +kernel
theorem dX3_copy_21 : decode cX3_copy 21 = .ok (.ifCond .ne 13, 3) := by decide +kernel
theorem dX3_copy_24 : decode cX3_copy 24 = .ok (.aload_n 0, 1) := by decide +kernel
theorem dX3_copy_25 : decode cX3_copy 25 = .ok (.getfield 51, 3) := by decide +kernel
theorem dX3_copy_28 : decode cX3_copy 28 = .ok (.sipush 300, 3) := by decide +kernel
theorem dX3_copy_31 : decode cX3_copy 31 = .ok (.if_icmp .ne 5, 3) := by decide +kernel
theorem dX3_copy_34 : decode cX3_copy 34 = .ok (.iconst 0, 1) := by decide +kernel
theorem dX3_copy_35 : decode cX3_copy 35 = .ok (.ireturn, 1) := by decide +kernel
theorem dX3_copy_36 : decode cX3_copy 36 = .ok (.iconst 0, 1) := by decide +kernel
theorem dX3_copy_37 : decode cX3_copy 37 = .ok (.istore_n 2, 1) := by decide +kernel
theorem dX3_copy_38 : decode cX3_copy 38 = .ok (.iload_n 2, 1) := by decide +kernel
theorem dX3_copy_39 : decode cX3_copy 39 = .ok (.bipush 6, 2) := by decide +kernel
theorem dX3_copy_41 : decode cX3_copy 41 = .ok (.if_icmp .ge 34, 3) := by decide +kernel
theorem dX3_copy_44 : decode cX3_copy 44 = .ok (.aload_n 0, 1) := by decide +kernel
theorem dX3_copy_45 : decode cX3_copy 45 = .ok (.getfield 40, 3) := by decide +kernel
theorem dX3_copy_48 : decode cX3_copy 48 = .ok (.bipush 6, 2) := by decide +kernel
theorem dX3_copy_50 : decode cX3_copy 50 = .ok (.aload_n 0, 1) := by decide +kernel
theorem dX3_copy_51 : decode cX3_copy 51 = .ok (.getfield 51, 3) := by decide +kernel
theorem dX3_copy_54 : decode cX3_copy 54 = .ok (.imul, 1) := by decide +kernel
theorem dX3_copy_55 : decode cX3_copy 55 = .ok (.iload_n 2, 1) := by decide +kernel
theorem dX3_copy_56 : decode cX3_copy 56 = .ok (.iadd, 1) := by decide +kernel
theorem dX3_copy_57 : decode cX3_copy 57 = .ok (.aload_n 0, 1) := by decide +kernel
theorem dX3_copy_58 : decode cX3_copy 58 = .ok (.getfield 40, 3) := by decide +kernel
theorem dX3_copy_61 : decode cX3_copy 61 = .ok (.bipush 6, 2) := by decide +kernel
theorem dX3_copy_63 : decode cX3_copy 63 = .ok (.iload_n 1, 1) := by decide +kernel
theorem dX3_copy_64 : decode cX3_copy 64 = .ok (.imul, 1) := by decide +kernel
theorem dX3_copy_65 : decode cX3_copy 65 = .ok (.iload_n 2, 1) := by decide +kernel
theorem dX3_copy_66 : decode cX3_copy 66 = .ok (.iadd, 1) := by decide +kernel
theorem dX3_copy_67 : decode cX3_copy 67 = .ok (.iaload, 1) := by decide +kernel
theorem dX3_copy_68 : decode cX3_copy 68 = .ok (.iastore, 1) := by decide +kernel
theorem dX3_copy_69 : decode cX3_copy 69 = .ok (.iinc 2 1, 3) := by decide +kernel
theorem dX3_copy_72 : decode cX3_copy 72 = .ok (.goto (-34), 3) := by decide +kernel
theorem dX3_copy_75 : decode cX3_copy 75 = .ok (.aload_n 0, 1) := by decide +kernel
theorem dX3_copy_76 : decode cX3_copy 76 = .ok (.dup, 1) := by decide +kernel
theorem dX3_copy_77 : decode cX3_copy 77 = .ok (.getfield 51, 3) := by decide +kernel
theorem dX3_copy_80 : decode cX3_copy 80 = .ok (.iconst 1, 1) := by decide +kernel
theorem dX3_copy_81 : decode cX3_copy 81 = .ok (.iadd, 1) := by decide +kernel
theorem dX3_copy_82 : decode cX3_copy 82 = .ok (.putfield 51, 3) := by decide +kernel
theorem dX3_copy_85 : decode cX3_copy 85 = .ok (.iconst 1, 1) := by decide +kernel
theorem dX3_copy_86 : decode cX3_copy 86 = .ok (.ireturn, 1) := by decide +kernel
theorem dX3_letter_0 : decode cX3_letter 0 = .ok (.aload_n 0, 1) := by decide +kernel
theorem dX3_letter_1 : decode cX3_letter 1 = .ok (.iload_n 1, 1) := by decide +kernel
theorem dX3_letter_2 : decode cX3_letter 2 = .ok (.ifCond .lt 20, 3) := by decide +kernel
theorem dX3_letter_5 : decode cX3_letter 5 = .ok (.iload_n 1, 1) := by decide +kernel
theorem dX3_letter_6 : decode cX3_letter 6 = .ok (.aload_n 0, 1) := by decide +kernel
theorem dX3_letter_7 : decode cX3_letter 7 = .ok (.getfield 51, 3) := by decide +kernel
theorem dX3_letter_10 : decode cX3_letter 10 = .ok (.if_icmp .ge 12, 3) := by decide +kernel
theorem dX3_letter_13 : decode cX3_letter 13 = .ok (.iload_n 2, 1) := by decide +kernel
theorem dX3_letter_14 : decode cX3_letter 14 = .ok (.ifCond .lt 8, 3) := by decide +kernel
theorem dX3_letter_17 : decode cX3_letter 17 = .ok (.iload_n 2, 1) := by decide +kernel
theorem dX3_letter_18 : decode cX3_letter 18 = .ok (.iconst 5, 1) := by decide +kernel
theorem dX3_letter_19 : decode cX3_letter 19 = .ok (.if_icmp .le 7, 3) := by decide +kernel
theorem dX3_letter_22 : decode cX3_letter 22 = .ok (.iconst 1, 1) := by decide +kernel
theorem dX3_letter_23 : decode cX3_letter 23 = .ok (.goto 4, 3) := by decide +kernel
theorem dX3_letter_26 : decode cX3_letter 26 = .ok (.iconst 0, 1) := by decide +kernel
theorem dX3_letter_27 : decode cX3_letter 27 = .ok (.invokevirtual 97, 3) := by decide +kernel
theorem dX3_letter_30 : decode cX3_letter 30 = .ok (.ifCond .eq 7, 3) := by decide +kernel
theorem dX3_letter_33 : decode cX3_letter 33 = .ok (.iconst 0, 1) := by decide +kernel
theorem dX3_letter_34 : decode cX3_letter 34 = .ok (.goto 14, 3) := by decide +kernel
theorem dX3_letter_37 : decode cX3_letter 37 = .ok (.aload_n 0, 1) := by decide +kernel
theorem dX3_letter_38 : decode cX3_letter 38 = .ok (.getfield 40, 3) := by decide +kernel
theorem dX3_letter_41 : decode cX3_letter 41 = .ok (.bipush 6, 2) := by decide +kernel
theorem dX3_letter_43 : decode cX3_letter 43 = .ok (.iload_n 1, 1) := by decide +kernel
theorem dX3_letter_44 : decode cX3_letter 44 = .ok (.imul, 1) := by decide +kernel
theorem dX3_letter_45 : decode cX3_letter 45 = .ok (.iload_n 2, 1) := by decide +kernel
theorem dX3_letter_46 : decode cX3_letter 46 = .ok (.iadd, 1) := by decide +kernel
theorem dX3_letter_47 : decode cX3_letter 47 = .ok (.iaload, 1) := by decide +kernel
theorem dX3_letter_48 : decode cX3_letter 48 = .ok (.ireturn, 1) := by decide +kernel
theorem dX3_way_0 : decode cX3_way 0 = .ok (.aload_n 0, 1) := by decide +kernel
theorem dX3_way_1 : decode cX3_way 1 = .ok (.iload_n 1, 1) := by decide +kernel
theorem dX3_way_2 : decode cX3_way 2 = .ok (.invokestatic 93, 3) := by decide +kernel
theorem dX3_way_5 : decode cX3_way 5 = .ok (.ifCond .eq 19, 3) := by decide +kernel
theorem dX3_way_8 : decode cX3_way 8 = .ok (.iload_n 2, 1) := by decide +kernel
theorem dX3_way_9 : decode cX3_way 9 = .ok (.invokestatic 93, 3) := by decide +kernel
theorem dX3_way_12 : decode cX3_way 12 = .ok (.ifCond .eq 12, 3) := by decide +kernel
theorem dX3_way_15 : decode cX3_way 15 = .ok (.iload_n 3, 1) := by decide +kernel
theorem dX3_way_16 : decode cX3_way 16 = .ok (.ifCond .lt 8, 3) := by decide +kernel
theorem dX3_way_19 : decode cX3_way 19 = .ok (.iload_n 3, 1) := by decide +kernel
theorem dX3_way_20 : decode cX3_way 20 = .ok (.iconst 4, 1) := by decide +kernel
theorem dX3_way_21 : decode cX3_way 21 = .ok (.if_icmp .le 7, 3) := by decide +kernel
theorem dX3_way_24 : decode cX3_way 24 = .ok (.iconst 1, 1) := by decide +kernel
theorem dX3_way_25 : decode cX3_way 25 = .ok (.goto 4, 3) := by decide +kernel
theorem dX3_way_28 : decode cX3_way 28 = .ok (.iconst 0, 1) := by decide +kernel
theorem dX3_way_29 : decode cX3_way 29 = .ok (.invokevirtual 97, 3) := by decide +kernel
theorem dX3_way_32 : decode cX3_way 32 = .ok (.ifCond .eq 5, 3) := by decide +kernel
theorem dX3_way_35 : decode cX3_way 35 = .ok (.iconst 0, 1) := by decide +kernel
theorem dX3_way_36 : decode cX3_way 36 = .ok (.ireturn, 1) := by decide +kernel
theorem dX3_way_37 : decode cX3_way 37 = .ok (.bipush 12, 2) := by decide +kernel
theorem dX3_way_39 : decode cX3_way 39 = .ok (.iload_n 1, 1) := by decide +kernel
theorem dX3_way_40 : decode cX3_way 40 = .ok (.imul, 1) := by decide +kernel
theorem dX3_way_41 : decode cX3_way 41 = .ok (.iload_n 2, 1) := by decide +kernel
theorem dX3_way_42 : decode cX3_way 42 = .ok (.iadd, 1) := by decide +kernel
theorem dX3_way_43 : decode cX3_way 43 = .ok (.istore 4, 2) := by decide +kernel
theorem dX3_way_45 : decode cX3_way 45 = .ok (.iload_n 1, 1) := by decide +kernel
theorem dX3_way_46 : decode cX3_way 46 = .ok (.iload_n 2, 1) := by decide +kernel
theorem dX3_way_47 : decode cX3_way 47 = .ok (.if_icmp .ne 36, 3) := by decide +kernel
theorem dX3_way_50 : decode cX3_way 50 = .ok (.iload_n 3, 1) := by decide +kernel
theorem dX3_way_51 : decode cX3_way 51 = .ok (.ifCond .ne 7, 3) := by decide +kernel
theorem dX3_way_54 : decode cX3_way 54 = .ok (.iload_n 1, 1) := by decide +kernel
theorem dX3_way_55 : decode cX3_way 55 = .ok (.goto 27, 3) := by decide +kernel
theorem dX3_way_58 : decode cX3_way 58 = .ok (.iload_n 3, 1) := by decide +kernel
theorem dX3_way_59 : decode cX3_way 59 = .ok (.iconst 1, 1) := by decide +kernel
theorem dX3_way_60 : decode cX3_way 60 = .ok (.if_icmp .ne 12, 3) := by decide +kernel
theorem dX3_way_63 : decode cX3_way 63 = .ok (.aload_n 0, 1) := by decide +kernel
theorem dX3_way_64 : decode cX3_way 64 = .ok (.getfield 13, 3) := by decide +kernel
theorem dX3_way_67 : decode cX3_way 67 = .ok (.iload_n 1, 1) := by decide +kernel
theorem dX3_way_68 : decode cX3_way 68 = .ok (.iaload, 1) := by decide +kernel
theorem dX3_way_69 : decode cX3_way 69 = .ok (.goto 13, 3) := by decide +kernel
theorem dX3_way_72 : decode cX3_way 72 = .ok (.iload_n 3, 1) := by decide +kernel
theorem dX3_way_73 : decode cX3_way 73 = .ok (.iconst 2, 1) := by decide +kernel
theorem dX3_way_74 : decode cX3_way 74 = .ok (.if_icmp .ne 7, 3) := by decide +kernel
theorem dX3_way_77 : decode cX3_way 77 = .ok (.iconst 0, 1) := by decide +kernel
theorem dX3_way_78 : decode cX3_way 78 = .ok (.goto 4, 3) := by decide +kernel
theorem dX3_way_81 : decode cX3_way 81 = .ok (.iconst (-1), 1) := by decide +kernel
theorem dX3_way_82 : decode cX3_way 82 = .ok (.ireturn, 1) := by decide +kernel
theorem dX3_way_83 : decode cX3_way 83 = .ok (.iload_n 3, 1) := by decide +kernel
theorem dX3_way_84 : decode cX3_way 84 = .ok (.ifCond .ne 13, 3) := by decide +kernel
theorem dX3_way_87 : decode cX3_way 87 = .ok (.aload_n 0, 1) := by decide +kernel
theorem dX3_way_88 : decode cX3_way 88 = .ok (.getfield 22, 3) := by decide +kernel
theorem dX3_way_91 : decode cX3_way 91 = .ok (.iload 4, 2) := by decide +kernel
theorem dX3_way_93 : decode cX3_way 93 = .ok (.iaload, 1) := by decide +kernel
theorem dX3_way_94 : decode cX3_way 94 = .ok (.goto 55, 3) := by decide +kernel
theorem dX3_way_97 : decode cX3_way 97 = .ok (.iload_n 3, 1) := by decide +kernel
theorem dX3_way_98 : decode cX3_way 98 = .ok (.iconst 1, 1) := by decide +kernel
theorem dX3_way_99 : decode cX3_way 99 = .ok (.if_icmp .ne 13, 3) := by decide +kernel
theorem dX3_way_102 : decode cX3_way 102 = .ok (.aload_n 0, 1) := by decide +kernel
theorem dX3_way_103 : decode cX3_way 103 = .ok (.getfield 25, 3) := by decide +kernel
theorem dX3_way_106 : decode cX3_way 106 = .ok (.iload 4, 2) := by decide +kernel
theorem dX3_way_108 : decode cX3_way 108 = .ok (.iaload, 1) := by decide +kernel
theorem dX3_way_109 : decode cX3_way 109 = .ok (.goto 40, 3) := by decide +kernel
theorem dX3_way_112 : decode cX3_way 112 = .ok (.iload_n 3, 1) := by decide +kernel
theorem dX3_way_113 : decode cX3_way 113 = .ok (.iconst 2, 1) := by decide +kernel
theorem dX3_way_114 : decode cX3_way 114 = .ok (.if_icmp .ne 13, 3) := by decide +kernel
theorem dX3_way_117 : decode cX3_way 117 = .ok (.aload_n 0, 1) := by decide +kernel
theorem dX3_way_118 : decode cX3_way 118 = .ok (.getfield 28, 3) := by decide +kernel
theorem dX3_way_121 : decode cX3_way 121 = .ok (.iload 4, 2) := by decide +kernel
theorem dX3_way_123 : decode cX3_way 123 = .ok (.iaload, 1) := by decide +kernel
theorem dX3_way_124 : decode cX3_way 124 = .ok (.goto 25, 3) := by decide +kernel
theorem dX3_way_127 : decode cX3_way 127 = .ok (.iload_n 3, 1) := by decide +kernel
theorem dX3_way_128 : decode cX3_way 128 = .ok (.iconst 3, 1) := by decide +kernel
theorem dX3_way_129 : decode cX3_way 129 = .ok (.if_icmp .ne 13, 3) := by decide +kernel
theorem dX3_way_132 : decode cX3_way 132 = .ok (.aload_n 0, 1) := by decide +kernel
theorem dX3_way_133 : decode cX3_way 133 = .ok (.getfield 16, 3) := by decide +kernel
theorem dX3_way_136 : decode cX3_way 136 = .ok (.iload 4, 2) := by decide +kernel
theorem dX3_way_138 : decode cX3_way 138 = .ok (.iaload, 1) := by decide +kernel
theorem dX3_way_139 : decode cX3_way 139 = .ok (.goto 10, 3) := by decide +kernel
theorem dX3_way_142 : decode cX3_way 142 = .ok (.aload_n 0, 1) := by decide +kernel
theorem dX3_way_143 : decode cX3_way 143 = .ok (.getfield 19, 3) := by decide +kernel
theorem dX3_way_146 : decode cX3_way 146 = .ok (.iload 4, 2) := by decide +kernel
theorem dX3_way_148 : decode cX3_way 148 = .ok (.iaload, 1) := by decide +kernel
theorem dX3_way_149 : decode cX3_way 149 = .ok (.ireturn, 1) := by decide +kernel
theorem dX3_told_0 : decode cX3_told 0 = .ok (.iload_n 1, 1) := by decide +kernel
theorem dX3_told_1 : decode cX3_told 1 = .ok (.invokestatic 93, 3) := by decide +kernel
theorem dX3_told_4 : decode cX3_told 4 = .ok (.ifCond .eq 42, 3) := by decide +kernel
theorem dX3_told_7 : decode cX3_told 7 = .ok (.iload_n 2, 1) := by decide +kernel
theorem dX3_told_8 : decode cX3_told 8 = .ok (.invokestatic 93, 3) := by decide +kernel
theorem dX3_told_11 : decode cX3_told 11 = .ok (.ifCond .eq 35, 3) := by decide +kernel
theorem dX3_told_14 : decode cX3_told 14 = .ok (.iload_n 3, 1) := by decide +kernel
theorem dX3_told_15 : decode cX3_told 15 = .ok (.invokestatic 93, 3) := by decide +kernel
theorem dX3_told_18 : decode cX3_told 18 = .ok (.ifCond .eq 28, 3) := by decide +kernel
theorem dX3_told_21 : decode cX3_told 21 = .ok (.iload_n 1, 1) := by decide +kernel
theorem dX3_told_22 : decode cX3_told 22 = .ok (.iload_n 2, 1) := by decide +kernel
theorem dX3_told_23 : decode cX3_told 23 = .ok (.if_icmp .eq 23, 3) := by decide +kernel
theorem dX3_told_26 : decode cX3_told 26 = .ok (.iload_n 1, 1) := by decide +kernel
theorem dX3_told_27 : decode cX3_told 27 = .ok (.iload_n 3, 1) := by decide +kernel
theorem dX3_told_28 : decode cX3_told 28 = .ok (.if_icmp .eq 18, 3) := by decide +kernel
theorem dX3_told_31 : decode cX3_told 31 = .ok (.iload 4, 2) := by decide +kernel
theorem dX3_told_33 : decode cX3_told 33 = .ok (.ifCond .lt 13, 3) := by decide +kernel
theorem dX3_told_36 : decode cX3_told 36 = .ok (.iload 4, 2) := by decide +kernel
theorem dX3_told_38 : decode cX3_told 38 = .ok (.iconst 2, 1) := by decide +kernel
theorem dX3_told_39 : decode cX3_told 39 = .ok (.if_icmp .gt 7, 3) := by decide +kernel
theorem dX3_told_42 : decode cX3_told 42 = .ok (.iconst 1, 1) := by decide +kernel
theorem dX3_told_43 : decode cX3_told 43 = .ok (.goto 4, 3) := by decide +kernel
theorem dX3_told_46 : decode cX3_told 46 = .ok (.iconst 0, 1) := by decide +kernel
theorem dX3_told_47 : decode cX3_told 47 = .ok (.istore 5, 2) := by decide +kernel
theorem dX3_told_49 : decode cX3_told 49 = .ok (.aload_n 0, 1) := by decide +kernel
theorem dX3_told_50 : decode cX3_told 50 = .ok (.iload 5, 2) := by decide +kernel
theorem dX3_told_52 : decode cX3_told 52 = .ok (.ifCond .eq 7, 3) := by decide +kernel
theorem dX3_told_55 : decode cX3_told 55 = .ok (.iconst 0, 1) := by decide +kernel
theorem dX3_told_56 : decode cX3_told 56 = .ok (.goto 4, 3) := by decide +kernel
theorem dX3_told_59 : decode cX3_told 59 = .ok (.iconst 1, 1) := by decide +kernel
theorem dX3_told_60 : decode cX3_told 60 = .ok (.invokevirtual 97, 3) := by decide +kernel
theorem dX3_told_63 : decode cX3_told 63 = .ok (.ifCond .eq 5, 3) := by decide +kernel
theorem dX3_told_66 : decode cX3_told 66 = .ok (.iconst 0, 1) := by decide +kernel
theorem dX3_told_67 : decode cX3_told 67 = .ok (.ireturn, 1) := by decide +kernel
theorem dX3_told_68 : decode cX3_told 68 = .ok (.sipush 144, 3) := by decide +kernel
theorem dX3_told_71 : decode cX3_told 71 = .ok (.iload_n 1, 1) := by decide +kernel
theorem dX3_told_72 : decode cX3_told 72 = .ok (.imul, 1) := by decide +kernel
theorem dX3_told_73 : decode cX3_told 73 = .ok (.bipush 12, 2) := by decide +kernel
theorem dX3_told_75 : decode cX3_told 75 = .ok (.iload_n 2, 1) := by decide +kernel
theorem dX3_told_76 : decode cX3_told 76 = .ok (.imul, 1) := by decide +kernel
theorem dX3_told_77 : decode cX3_told 77 = .ok (.iadd, 1) := by decide +kernel
theorem dX3_told_78 : decode cX3_told 78 = .ok (.iload_n 3, 1) := by decide +kernel
theorem dX3_told_79 : decode cX3_told 79 = .ok (.iadd, 1) := by decide +kernel
theorem dX3_told_80 : decode cX3_told 80 = .ok (.istore 6, 2) := by decide +kernel
theorem dX3_told_82 : decode cX3_told 82 = .ok (.iload 4, 2) := by decide +kernel
theorem dX3_told_84 : decode cX3_told 84 = .ok (.ifCond .ne 13, 3) := by decide +kernel
theorem dX3_told_87 : decode cX3_told 87 = .ok (.aload_n 0, 1) := by decide +kernel
theorem dX3_told_88 : decode cX3_told 88 = .ok (.getfield 34, 3) := by decide +kernel
theorem dX3_told_91 : decode cX3_told 91 = .ok (.iload 6, 2) := by decide +kernel
theorem dX3_told_93 : decode cX3_told 93 = .ok (.iaload, 1) := by decide +kernel
theorem dX3_told_94 : decode cX3_told 94 = .ok (.goto 47, 3) := by decide +kernel
theorem dX3_told_97 : decode cX3_told 97 = .ok (.iload 4, 2) := by decide +kernel
theorem dX3_told_99 : decode cX3_told 99 = .ok (.iconst 1, 1) := by decide +kernel
theorem dX3_told_100 : decode cX3_told 100 = .ok (.if_icmp .ne 13, 3) := by decide +kernel
theorem dX3_told_103 : decode cX3_told 103 = .ok (.aload_n 0, 1) := by decide +kernel
theorem dX3_told_104 : decode cX3_told 104 = .ok (.getfield 37, 3) := by decide +kernel
theorem dX3_told_107 : decode cX3_told 107 = .ok (.iload 6, 2) := by decide +kernel
theorem dX3_told_109 : decode cX3_told 109 = .ok (.iaload, 1) := by decide +kernel
theorem dX3_told_110 : decode cX3_told 110 = .ok (.goto 31, 3) := by decide +kernel
theorem dX3_told_113 : decode cX3_told 113 = .ok (.aload_n 0, 1) := by decide +kernel
theorem dX3_told_114 : decode cX3_told 114 = .ok (.iload_n 1, 1) := by decide +kernel
theorem dX3_told_115 : decode cX3_told 115 = .ok (.iload_n 3, 1) := by decide +kernel
theorem dX3_told_116 : decode cX3_told 116 = .ok (.aload_n 0, 1) := by decide +kernel
theorem dX3_told_117 : decode cX3_told 117 = .ok (.getfield 34, 3) := by decide +kernel
theorem dX3_told_120 : decode cX3_told 120 = .ok (.iload 6, 2) := by decide +kernel
theorem dX3_told_122 : decode cX3_told 122 = .ok (.iaload, 1) := by decide +kernel
theorem dX3_told_123 : decode cX3_told 123 = .ok (.aload_n 0, 1) := by decide +kernel
theorem dX3_told_124 : decode cX3_told 124 = .ok (.getfield 37, 3) := by decide +kernel
theorem dX3_told_127 : decode cX3_told 127 = .ok (.iload 6, 2) := by decide +kernel
theorem dX3_told_129 : decode cX3_told 129 = .ok (.iaload, 1) := by decide +kernel
theorem dX3_told_130 : decode cX3_told 130 = .ok (.invokevirtual 69, 3) := by decide +kernel
theorem dX3_told_133 : decode cX3_told 133 = .ok (.ifCond .eq 7, 3) := by decide +kernel
theorem dX3_told_136 : decode cX3_told 136 = .ok (.iconst 1, 1) := by decide +kernel
theorem dX3_told_137 : decode cX3_told 137 = .ok (.goto 4, 3) := by decide +kernel
theorem dX3_told_140 : decode cX3_told 140 = .ok (.iconst 0, 1) := by decide +kernel
theorem dX3_told_141 : decode cX3_told 141 = .ok (.ireturn, 1) := by decide +kernel
theorem dX3_trace_0 : decode cX3_trace 0 = .ok (.aload_n 0, 1) := by decide +kernel
theorem dX3_trace_1 : decode cX3_trace 1 = .ok (.iload_n 1, 1) := by decide +kernel
theorem dX3_trace_2 : decode cX3_trace 2 = .ok (.invokestatic 93, 3) := by decide +kernel
theorem dX3_trace_5 : decode cX3_trace 5 = .ok (.ifCond .eq 10, 3) := by decide +kernel
theorem dX3_trace_8 : decode cX3_trace 8 = .ok (.iload_n 2, 1) := by decide +kernel
theorem dX3_trace_9 : decode cX3_trace 9 = .ok (.invokestatic 93, 3) := by decide +kernel
theorem dX3_trace_12 : decode cX3_trace 12 = .ok (.ifCond .ne 7, 3) := by decide +kernel
theorem dX3_trace_15 : decode cX3_trace 15 = .ok (.iconst 1, 1) := by decide +kernel
theorem dX3_trace_16 : decode cX3_trace 16 = .ok (.goto 4, 3) := by decide +kernel
theorem dX3_trace_19 : decode cX3_trace 19 = .ok (.iconst 0, 1) := by decide +kernel
theorem dX3_trace_20 : decode cX3_trace 20 = .ok (.invokevirtual 97, 3) := by decide +kernel
theorem dX3_trace_23 : decode cX3_trace 23 = .ok (.ifCond .eq 5, 3) := by decide +kernel
theorem dX3_trace_26 : decode cX3_trace 26 = .ok (.iconst 0, 1) := by decide +kernel
theorem dX3_trace_27 : decode cX3_trace 27 = .ok (.ireturn, 1) := by decide +kernel
theorem dX3_trace_28 : decode cX3_trace 28 = .ok (.iload_n 1, 1) := by decide +kernel
theorem dX3_trace_29 : decode cX3_trace 29 = .ok (.istore_n 3, 1) := by decide +kernel
theorem dX3_trace_30 : decode cX3_trace 30 = .ok (.iconst 0, 1) := by decide +kernel
theorem dX3_trace_31 : decode cX3_trace 31 = .ok (.istore 4, 2) := by decide +kernel
theorem dX3_trace_33 : decode cX3_trace 33 = .ok (.iload_n 3, 1) := by decide +kernel
theorem dX3_trace_34 : decode cX3_trace 34 = .ok (.iload_n 2, 1) := by decide +kernel
theorem dX3_trace_35 : decode cX3_trace 35 = .ok (.if_icmp .eq 33, 3) := by decide +kernel
theorem dX3_trace_38 : decode cX3_trace 38 = .ok (.iload_n 3, 1) := by decide +kernel
theorem dX3_trace_39 : decode cX3_trace 39 = .ok (.iconst (-1), 1) := by decide +kernel
theorem dX3_trace_40 : decode cX3_trace 40 = .ok (.if_icmp .eq 28, 3) := by decide +kernel
theorem dX3_trace_43 : decode cX3_trace 43 = .ok (.iload 4, 2) := by decide +kernel
theorem dX3_trace_45 : decode cX3_trace 45 = .ok (.bipush 20, 2) := by decide +kernel
theorem dX3_trace_47 : decode cX3_trace 47 = .ok (.if_icmp .ge 21, 3) := by decide +kernel
theorem dX3_trace_50 : decode cX3_trace 50 = .ok (.aload_n 0, 1) := by decide +kernel
theorem dX3_trace_51 : decode cX3_trace 51 = .ok (.getfield 22, 3) := by decide +kernel
theorem dX3_trace_54 : decode cX3_trace 54 = .ok (.bipush 12, 2) := by decide +kernel
theorem dX3_trace_56 : decode cX3_trace 56 = .ok (.iload_n 3, 1) := by decide +kernel
theorem dX3_trace_57 : decode cX3_trace 57 = .ok (.imul, 1) := by decide +kernel
theorem dX3_trace_58 : decode cX3_trace 58 = .ok (.iload_n 2, 1) := by decide +kernel
theorem dX3_trace_59 : decode cX3_trace 59 = .ok (.iadd, 1) := by decide +kernel
theorem dX3_trace_60 : decode cX3_trace 60 = .ok (.iaload, 1) := by decide +kernel
theorem dX3_trace_61 : decode cX3_trace 61 = .ok (.istore_n 3, 1) := by decide +kernel
theorem dX3_trace_62 : decode cX3_trace 62 = .ok (.iinc 4 1, 3) := by decide +kernel
theorem dX3_trace_65 : decode cX3_trace 65 = .ok (.goto (-32), 3) := by decide +kernel
theorem dX3_trace_68 : decode cX3_trace 68 = .ok (.iload_n 3, 1) := by decide +kernel
theorem dX3_trace_69 : decode cX3_trace 69 = .ok (.iload_n 2, 1) := by decide +kernel
theorem dX3_trace_70 : decode cX3_trace 70 = .ok (.if_icmp .ne 8, 3) := by decide +kernel
theorem dX3_trace_73 : decode cX3_trace 73 = .ok (.iload 4, 2) := by decide +kernel
theorem dX3_trace_75 : decode cX3_trace 75 = .ok (.goto 4, 3) := by decide +kernel
theorem dX3_trace_78 : decode cX3_trace 78 = .ok (.iconst (-1), 1) := by decide +kernel
theorem dX3_trace_79 : decode cX3_trace 79 = .ok (.ireturn, 1) := by decide +kernel
theorem dX3_cost_0 : decode cX3_cost 0 = .ok (.aload_n 0, 1) := by decide +kernel
theorem dX3_cost_1 : decode cX3_cost 1 = .ok (.iload_n 1, 1) := by decide +kernel
theorem dX3_cost_2 : decode cX3_cost 2 = .ok (.invokestatic 93, 3) := by decide +kernel
theorem dX3_cost_5 : decode cX3_cost 5 = .ok (.ifCond .eq 15, 3) := by decide +kernel
theorem dX3_cost_8 : decode cX3_cost 8 = .ok (.iload_n 2, 1) := by decide +kernel
theorem dX3_cost_9 : decode cX3_cost 9 = .ok (.invokestatic 93, 3) := by decide +kernel
theorem dX3_cost_12 : decode cX3_cost 12 = .ok (.ifCond .eq 8, 3) := by decide +kernel
theorem dX3_cost_15 : decode cX3_cost 15 = .ok (.iload_n 1, 1) := by decide +kernel
theorem dX3_cost_16 : decode cX3_cost 16 = .ok (.iload_n 2, 1) := by decide +kernel
theorem dX3_cost_17 : decode cX3_cost 17 = .ok (.if_icmp .ne 7, 3) := by decide +kernel
theorem dX3_cost_20 : decode cX3_cost 20 = .ok (.iconst 1, 1) := by decide +kernel
theorem dX3_cost_21 : decode cX3_cost 21 = .ok (.goto 4, 3) := by decide +kernel
theorem dX3_cost_24 : decode cX3_cost 24 = .ok (.iconst 0, 1) := by decide +kernel
theorem dX3_cost_25 : decode cX3_cost 25 = .ok (.invokevirtual 97, 3) := by decide +kernel
theorem dX3_cost_28 : decode cX3_cost 28 = .ok (.ifCond .eq 7, 3) := by decide +kernel
theorem dX3_cost_31 : decode cX3_cost 31 = .ok (.iconst 0, 1) := by decide +kernel
theorem dX3_cost_32 : decode cX3_cost 32 = .ok (.goto 14, 3) := by decide +kernel
theorem dX3_cost_35 : decode cX3_cost 35 = .ok (.aload_n 0, 1) := by decide +kernel
theorem dX3_cost_36 : decode cX3_cost 36 = .ok (.getfield 7, 3) := by decide +kernel
theorem dX3_cost_39 : decode cX3_cost 39 = .ok (.bipush 12, 2) := by decide +kernel
theorem dX3_cost_41 : decode cX3_cost 41 = .ok (.iload_n 1, 1) := by decide +kernel
theorem dX3_cost_42 : decode cX3_cost 42 = .ok (.imul, 1) := by decide +kernel
theorem dX3_cost_43 : decode cX3_cost 43 = .ok (.iload_n 2, 1) := by decide +kernel
theorem dX3_cost_44 : decode cX3_cost 44 = .ok (.iadd, 1) := by decide +kernel
theorem dX3_cost_45 : decode cX3_cost 45 = .ok (.iaload, 1) := by decide +kernel
theorem dX3_cost_46 : decode cX3_cost 46 = .ok (.ireturn, 1) := by decide +kernel
theorem dX3_total_0 : decode cX3_total 0 = .ok (.aload_n 0, 1) := by decide +kernel
theorem dX3_total_1 : decode cX3_total 1 = .ok (.iload_n 1, 1) := by decide +kernel
theorem dX3_total_2 : decode cX3_total 2 = .ok (.ifCond .lt 8, 3) := by decide +kernel
theorem dX3_total_5 : decode cX3_total 5 = .ok (.iload_n 1, 1) := by decide +kernel
theorem dX3_total_6 : decode cX3_total 6 = .ok (.iconst 4, 1) := by decide +kernel
theorem dX3_total_7 : decode cX3_total 7 = .ok (.if_icmp .le 7, 3) := by decide +kernel
theorem dX3_total_10 : decode cX3_total 10 = .ok (.iconst 1, 1) := by decide +kernel
theorem dX3_total_11 : decode cX3_total 11 = .ok (.goto 4, 3) := by decide +kernel
theorem dX3_total_14 : decode cX3_total 14 = .ok (.iconst 0, 1) := by decide +kernel
theorem dX3_total_15 : decode cX3_total 15 = .ok (.invokevirtual 97, 3) := by decide +kernel
theorem dX3_total_18 : decode cX3_total 18 = .ok (.ifCond .eq 5, 3) := by decide +kernel
theorem dX3_total_21 : decode cX3_total 21 = .ok (.iconst 0, 1) := by decide +kernel
theorem dX3_total_22 : decode cX3_total 22 = .ok (.ireturn, 1) := by decide +kernel
theorem dX3_total_23 : decode cX3_total 23 = .ok (.iload_n 1, 1) := by decide +kernel
theorem dX3_total_24 : decode cX3_total 24 = .ok (.ifCond .ne 10, 3) := by decide +kernel
theorem dX3_total_27 : decode cX3_total 27 = .ok (.aload_n 0, 1) := by decide +kernel
theorem dX3_total_28 : decode cX3_total 28 = .ok (.getfield 51, 3) := by decide +kernel
theorem dX3_total_31 : decode cX3_total 31 = .ok (.goto 43, 3) := by decide +kernel
theorem dX3_total_34 : decode cX3_total 34 = .ok (.iload_n 1, 1) := by decide +kernel
theorem dX3_total_35 : decode cX3_total 35 = .ok (.iconst 1, 1) := by decide +kernel
theorem dX3_total_36 : decode cX3_total 36 = .ok (.if_icmp .ne 10, 3) := by decide +kernel
theorem dX3_total_39 : decode cX3_total 39 = .ok (.aload_n 0, 1) := by decide +kernel
theorem dX3_total_40 : decode cX3_total 40 = .ok (.getfield 48, 3) := by decide +kernel
theorem dX3_total_43 : decode cX3_total 43 = .ok (.goto 31, 3) := by decide +kernel
theorem dX3_total_46 : decode cX3_total 46 = .ok (.iload_n 1, 1) := by decide +kernel
theorem dX3_total_47 : decode cX3_total 47 = .ok (.iconst 2, 1) := by decide +kernel
theorem dX3_total_48 : decode cX3_total 48 = .ok (.if_icmp .ne 10, 3) := by decide +kernel
theorem dX3_total_51 : decode cX3_total 51 = .ok (.aload_n 0, 1) := by decide +kernel
theorem dX3_total_52 : decode cX3_total 52 = .ok (.getfield 54, 3) := by decide +kernel
theorem dX3_total_55 : decode cX3_total 55 = .ok (.goto 19, 3) := by decide +kernel
theorem dX3_total_58 : decode cX3_total 58 = .ok (.iload_n 1, 1) := by decide +kernel
theorem dX3_total_59 : decode cX3_total 59 = .ok (.iconst 3, 1) := by decide +kernel
theorem dX3_total_60 : decode cX3_total 60 = .ok (.if_icmp .ne 10, 3) := by decide +kernel
theorem dX3_total_63 : decode cX3_total 63 = .ok (.aload_n 0, 1) := by decide +kernel
theorem dX3_total_64 : decode cX3_total 64 = .ok (.getfield 113, 3) := by decide +kernel
theorem dX3_total_67 : decode cX3_total 67 = .ok (.goto 7, 3) := by decide +kernel
theorem dX3_total_70 : decode cX3_total 70 = .ok (.aload_n 0, 1) := by decide +kernel
theorem dX3_total_71 : decode cX3_total 71 = .ok (.getfield 100, 3) := by decide +kernel
theorem dX3_total_74 : decode cX3_total 74 = .ok (.ireturn, 1) := by decide +kernel
