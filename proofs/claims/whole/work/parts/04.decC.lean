theorem dX3_init_0 : decode cX3_init 0 = .ok (.aload_n 0, 1) := by decide +kernel
theorem dX3_init_1 : decode cX3_init 1 = .ok (.invokespecial 1, 3) := by decide +kernel
theorem dX3_init_4 : decode cX3_init 4 = .ok (.aload_n 0, 1) := by decide +kernel
theorem dX3_init_5 : decode cX3_init 5 = .ok (.sipush 144, 3) := by decide +kernel
theorem dX3_init_8 : decode cX3_init 8 = .ok (.newarray .int, 2) := by decide +kernel
theorem dX3_init_10 : decode cX3_init 10 = .ok (.putfield 7, 3) := by decide +kernel
theorem dX3_init_13 : decode cX3_init 13 = .ok (.aload_n 0, 1) := by decide +kernel
theorem dX3_init_14 : decode cX3_init 14 = .ok (.bipush 12, 2) := by decide +kernel
theorem dX3_init_16 : decode cX3_init 16 = .ok (.newarray .int, 2) := by decide +kernel
theorem dX3_init_18 : decode cX3_init 18 = .ok (.putfield 13, 3) := by decide +kernel
theorem dX3_init_21 : decode cX3_init 21 = .ok (.aload_n 0, 1) := by decide +kernel
theorem dX3_init_22 : decode cX3_init 22 = .ok (.sipush 144, 3) := by decide +kernel
theorem dX3_init_25 : decode cX3_init 25 = .ok (.newarray .int, 2) := by decide +kernel
theorem dX3_init_27 : decode cX3_init 27 = .ok (.putfield 16, 3) := by decide +kernel
theorem dX3_init_30 : decode cX3_init 30 = .ok (.aload_n 0, 1) := by decide +kernel
theorem dX3_init_31 : decode cX3_init 31 = .ok (.sipush 144, 3) := by decide +kernel
theorem dX3_init_34 : decode cX3_init 34 = .ok (.newarray .int, 2) := by decide +kernel
theorem dX3_init_36 : decode cX3_init 36 = .ok (.putfield 19, 3) := by decide +kernel
theorem dX3_init_39 : decode cX3_init 39 = .ok (.aload_n 0, 1) := by decide +kernel
theorem dX3_init_40 : decode cX3_init 40 = .ok (.sipush 144, 3) := by decide +kernel
theorem dX3_init_43 : decode cX3_init 43 = .ok (.newarray .int, 2) := by decide +kernel
theorem dX3_init_45 : decode cX3_init 45 = .ok (.putfield 22, 3) := by decide +kernel
theorem dX3_init_48 : decode cX3_init 48 = .ok (.aload_n 0, 1) := by decide +kernel
theorem dX3_init_49 : decode cX3_init 49 = .ok (.sipush 144, 3) := by decide +kernel
theorem dX3_init_52 : decode cX3_init 52 = .ok (.newarray .int, 2) := by decide +kernel
theorem dX3_init_54 : decode cX3_init 54 = .ok (.putfield 25, 3) := by decide +kernel
theorem dX3_init_57 : decode cX3_init 57 = .ok (.aload_n 0, 1) := by decide +kernel
theorem dX3_init_58 : decode cX3_init 58 = .ok (.sipush 144, 3) := by decide +kernel
theorem dX3_init_61 : decode cX3_init 61 = .ok (.newarray .int, 2) := by decide +kernel
theorem dX3_init_63 : decode cX3_init 63 = .ok (.putfield 28, 3) := by decide +kernel
theorem dX3_init_66 : decode cX3_init 66 = .ok (.aload_n 0, 1) := by decide +kernel
theorem dX3_init_67 : decode cX3_init 67 = .ok (.sipush 144, 3) := by decide +kernel
theorem dX3_init_70 : decode cX3_init 70 = .ok (.newarray .int, 2) := by decide +kernel
theorem dX3_init_72 : decode cX3_init 72 = .ok (.putfield 31, 3) := by decide +kernel
theorem dX3_init_75 : decode cX3_init 75 = .ok (.aload_n 0, 1) := by decide +kernel
theorem dX3_init_76 : decode cX3_init 76 = .ok (.sipush 1728, 3) := by decide +kernel
theorem dX3_init_79 : decode cX3_init 79 = .ok (.newarray .int, 2) := by decide +kernel
theorem dX3_init_81 : decode cX3_init 81 = .ok (.putfield 34, 3) := by decide +kernel
theorem dX3_init_84 : decode cX3_init 84 = .ok (.aload_n 0, 1) := by decide +kernel
theorem dX3_init_85 : decode cX3_init 85 = .ok (.sipush 1728, 3) := by decide +kernel
theorem dX3_init_88 : decode cX3_init 88 = .ok (.newarray .int, 2) := by decide +kernel
theorem dX3_init_90 : decode cX3_init 90 = .ok (.putfield 37, 3) := by decide +kernel
theorem dX3_init_93 : decode cX3_init 93 = .ok (.aload_n 0, 1) := by decide +kernel
theorem dX3_init_94 : decode cX3_init 94 = .ok (.sipush 1806, 3) := by decide +kernel
theorem dX3_init_97 : decode cX3_init 97 = .ok (.newarray .int, 2) := by decide +kernel
theorem dX3_init_99 : decode cX3_init 99 = .ok (.putfield 40, 3) := by decide +kernel
theorem dX3_init_102 : decode cX3_init 102 = .ok (.iconst 0, 1) := by decide +kernel
theorem dX3_init_103 : decode cX3_init 103 = .ok (.istore_n 1, 1) := by decide +kernel
theorem dX3_init_104 : decode cX3_init 104 = .ok (.iload_n 1, 1) := by decide +kernel
theorem dX3_init_105 : decode cX3_init 105 = .ok (.sipush 144, 3) := by decide +kernel
theorem dX3_init_108 : decode cX3_init 108 = .ok (.if_icmp .ge 51, 3) := by decide +kernel
theorem dX3_init_111 : decode cX3_init 111 = .ok (.aload_n 0, 1) := by decide +kernel
theorem dX3_init_112 : decode cX3_init 112 = .ok (.getfield 16, 3) := by decide +kernel
theorem dX3_init_115 : decode cX3_init 115 = .ok (.iload_n 1, 1) := by decide +kernel
theorem dX3_init_116 : decode cX3_init 116 = .ok (.iconst (-1), 1) := by decide +kernel
theorem dX3_init_117 : decode cX3_init 117 = .ok (.iastore, 1) := by decide +kernel
theorem dX3_init_118 : decode cX3_init 118 = .ok (.aload_n 0, 1) := by decide +kernel
theorem dX3_init_119 : decode cX3_init 119 = .ok (.getfield 19, 3) := by decide +kernel
theorem dX3_init_122 : decode cX3_init 122 = .ok (.iload_n 1, 1) := by decide +kernel
theorem dX3_init_123 : decode cX3_init 123 = .ok (.iconst (-1), 1) := by decide +kernel
theorem dX3_init_124 : decode cX3_init 124 = .ok (.iastore, 1) := by decide +kernel
theorem dX3_init_125 : decode cX3_init 125 = .ok (.aload_n 0, 1) := by decide +kernel
theorem dX3_init_126 : decode cX3_init 126 = .ok (.getfield 22, 3) := by decide +kernel
theorem dX3_init_129 : decode cX3_init 129 = .ok (.iload_n 1, 1) := by decide +kernel
theorem dX3_init_130 : decode cX3_init 130 = .ok (.iconst (-1), 1) := by decide +kernel
theorem dX3_init_131 : decode cX3_init 131 = .ok (.iastore, 1) := by decide +kernel
theorem dX3_init_132 : decode cX3_init 132 = .ok (.aload_n 0, 1) := by decide +kernel
theorem dX3_init_133 : decode cX3_init 133 = .ok (.getfield 25, 3) := by decide +kernel
theorem dX3_init_136 : decode cX3_init 136 = .ok (.iload_n 1, 1) := by decide +kernel
theorem dX3_init_137 : decode cX3_init 137 = .ok (.iconst (-1), 1) := by decide +kernel
theorem dX3_init_138 : decode cX3_init 138 = .ok (.iastore, 1) := by decide +kernel
theorem dX3_init_139 : decode cX3_init 139 = .ok (.aload_n 0, 1) := by decide +kernel
theorem dX3_init_140 : decode cX3_init 140 = .ok (.getfield 28, 3) := by decide +kernel
theorem dX3_init_143 : decode cX3_init 143 = .ok (.iload_n 1, 1) := by decide +kernel
theorem dX3_init_144 : decode cX3_init 144 = .ok (.iconst (-1), 1) := by decide +kernel
theorem dX3_init_145 : decode cX3_init 145 = .ok (.iastore, 1) := by decide +kernel
theorem dX3_init_146 : decode cX3_init 146 = .ok (.aload_n 0, 1) := by decide +kernel
theorem dX3_init_147 : decode cX3_init 147 = .ok (.getfield 31, 3) := by decide +kernel
theorem dX3_init_150 : decode cX3_init 150 = .ok (.iload_n 1, 1) := by decide +kernel
theorem dX3_init_151 : decode cX3_init 151 = .ok (.iconst (-1), 1) := by decide +kernel
theorem dX3_init_152 : decode cX3_init 152 = .ok (.iastore, 1) := by decide +kernel
theorem dX3_init_153 : decode cX3_init 153 = .ok (.iinc 1 1, 3) := by decide +kernel
theorem dX3_init_156 : decode cX3_init 156 = .ok (.goto (-52), 3) := by decide +kernel
theorem dX3_init_159 : decode cX3_init 159 = .ok (.iconst 0, 1) := by decide +kernel
theorem dX3_init_160 : decode cX3_init 160 = .ok (.istore_n 1, 1) := by decide +kernel
theorem dX3_init_161 : decode cX3_init 161 = .ok (.iload_n 1, 1) := by decide +kernel
theorem dX3_init_162 : decode cX3_init 162 = .ok (.sipush 1728, 3) := by decide +kernel
theorem dX3_init_165 : decode cX3_init 165 = .ok (.if_icmp .ge 23, 3) := by decide +kernel
theorem dX3_init_168 : decode cX3_init 168 = .ok (.aload_n 0, 1) := by decide +kernel
theorem dX3_init_169 : decode cX3_init 169 = .ok (.getfield 34, 3) := by decide +kernel
theorem dX3_init_172 : decode cX3_init 172 = .ok (.iload_n 1, 1) := by decide +kernel
theorem dX3_init_173 : decode cX3_init 173 = .ok (.iconst (-1), 1) := by decide +kernel
theorem dX3_init_174 : decode cX3_init 174 = .ok (.iastore, 1) := by decide +kernel
theorem dX3_init_175 : decode cX3_init 175 = .ok (.aload_n 0, 1) := by decide +kernel
theorem dX3_init_176 : decode cX3_init 176 = .ok (.getfield 37, 3) := by decide +kernel
theorem dX3_init_179 : decode cX3_init 179 = .ok (.iload_n 1, 1) := by decide +kernel
theorem dX3_init_180 : decode cX3_init 180 = .ok (.iconst (-1), 1) := by decide +kernel
theorem dX3_init_181 : decode cX3_init 181 = .ok (.iastore, 1) := by decide +kernel
theorem dX3_init_182 : decode cX3_init 182 = .ok (.iinc 1 1, 3) := by decide +kernel
theorem dX3_init_185 : decode cX3_init 185 = .ok (.goto (-24), 3) := by decide +kernel
theorem dX3_init_188 : decode cX3_init 188 = .ok (.return_, 1) := by decide +kernel
theorem dX3_thrown_0 : decode cX3_thrown 0 = .ok (.aload_n 0, 1) := by decide +kernel
theorem dX3_thrown_1 : decode cX3_thrown 1 = .ok (.getfield 43, 3) := by decide +kernel
theorem dX3_thrown_4 : decode cX3_thrown 4 = .ok (.ireturn, 1) := by decide +kernel
theorem dX3_refuses_0 : decode cX3_refuses 0 = .ok (.aload_n 0, 1) := by decide +kernel
theorem dX3_refuses_1 : decode cX3_refuses 1 = .ok (.iload_n 1, 1) := by decide +kernel
theorem dX3_refuses_2 : decode cX3_refuses 2 = .ok (.putfield 43, 3) := by decide +kernel
theorem dX3_refuses_5 : decode cX3_refuses 5 = .ok (.iload_n 1, 1) := by decide +kernel
theorem dX3_refuses_6 : decode cX3_refuses 6 = .ok (.ifCond .le 7, 3) := by decide +kernel
theorem dX3_refuses_9 : decode cX3_refuses 9 = .ok (.iconst 1, 1) := by decide +kernel
theorem dX3_refuses_10 : decode cX3_refuses 10 = .ok (.goto 4, 3) := by decide +kernel
theorem dX3_refuses_13 : decode cX3_refuses 13 = .ok (.iconst 0, 1) := by decide +kernel
theorem dX3_refuses_14 : decode cX3_refuses 14 = .ok (.ireturn, 1) := by decide +kernel
theorem dX3_isNode_0 : decode cX3_isNode 0 = .ok (.iload_n 0, 1) := by decide +kernel
theorem dX3_isNode_1 : decode cX3_isNode 1 = .ok (.ifCond .lt 13, 3) := by decide +kernel
theorem dX3_isNode_4 : decode cX3_isNode 4 = .ok (.iload_n 0, 1) := by decide +kernel
theorem dX3_isNode_5 : decode cX3_isNode 5 = .ok (.bipush 12, 2) := by decide +kernel
theorem dX3_isNode_7 : decode cX3_isNode 7 = .ok (.if_icmp .ge 7, 3) := by decide +kernel
theorem dX3_isNode_10 : decode cX3_isNode 10 = .ok (.iconst 1, 1) := by decide +kernel
theorem dX3_isNode_11 : decode cX3_isNode 11 = .ok (.goto 4, 3) := by decide +kernel
theorem dX3_isNode_14 : decode cX3_isNode 14 = .ok (.iconst 0, 1) := by decide +kernel
theorem dX3_isNode_15 : decode cX3_isNode 15 = .ok (.ireturn, 1) := by decide +kernel
theorem dX3_newer_0 : decode cX3_newer 0 = .ok (.iload_n 0, 1) := by decide +kernel
theorem dX3_newer_1 : decode cX3_newer 1 = .ok (.iload_n 1, 1) := by decide +kernel
theorem dX3_newer_2 : decode cX3_newer 2 = .ok (.isub, 1) := by decide +kernel
theorem dX3_newer_3 : decode cX3_newer 3 = .ok (.ldc 47, 2) := by decide +kernel
theorem dX3_newer_5 : decode cX3_newer 5 = .ok (.iand, 1) := by decide +kernel
theorem dX3_newer_6 : decode cX3_newer 6 = .ok (.istore_n 2, 1) := by decide +kernel
theorem dX3_newer_7 : decode cX3_newer 7 = .ok (.iload_n 2, 1) := by decide +kernel
theorem dX3_newer_8 : decode cX3_newer 8 = .ok (.iconst 1, 1) := by decide +kernel
theorem dX3_newer_9 : decode cX3_newer 9 = .ok (.if_icmp .lt 14, 3) := by decide +kernel
theorem dX3_newer_12 : decode cX3_newer 12 = .ok (.iload_n 2, 1) := by decide +kernel
theorem dX3_newer_13 : decode cX3_newer 13 = .ok (.sipush 32767, 3) := by decide +kernel
theorem dX3_newer_16 : decode cX3_newer 16 = .ok (.if_icmp .gt 7, 3) := by decide +kernel
theorem dX3_newer_19 : decode cX3_newer 19 = .ok (.iconst 1, 1) := by decide +kernel
theorem dX3_newer_20 : decode cX3_newer 20 = .ok (.goto 4, 3) := by decide +kernel
theorem dX3_newer_23 : decode cX3_newer 23 = .ok (.iconst 0, 1) := by decide +kernel
theorem dX3_newer_24 : decode cX3_newer 24 = .ok (.ireturn, 1) := by decide +kernel
theorem dX3_send_0 : decode cX3_send 0 = .ok (.aload_n 0, 1) := by decide +kernel
theorem dX3_send_1 : decode cX3_send 1 = .ok (.dup, 1) := by decide +kernel
theorem dX3_send_2 : decode cX3_send 2 = .ok (.getfield 48, 3) := by decide +kernel
theorem dX3_send_5 : decode cX3_send 5 = .ok (.iconst 1, 1) := by decide +kernel
theorem dX3_send_6 : decode cX3_send 6 = .ok (.iadd, 1) := by decide +kernel
theorem dX3_send_7 : decode cX3_send 7 = .ok (.putfield 48, 3) := by decide +kernel
theorem dX3_send_10 : decode cX3_send 10 = .ok (.aload_n 0, 1) := by decide +kernel
theorem dX3_send_11 : decode cX3_send 11 = .ok (.getfield 51, 3) := by decide +kernel
theorem dX3_send_14 : decode cX3_send 14 = .ok (.sipush 300, 3) := by decide +kernel
theorem dX3_send_17 : decode cX3_send 17 = .ok (.if_icmp .ne 14, 3) := by decide +kernel
theorem dX3_send_20 : decode cX3_send 20 = .ok (.aload_n 0, 1) := by decide +kernel
theorem dX3_send_21 : decode cX3_send 21 = .ok (.dup, 1) := by decide +kernel
theorem dX3_send_22 : decode cX3_send 22 = .ok (.getfield 54, 3) := by decide +kernel
theorem dX3_send_25 : decode cX3_send 25 = .ok (.iconst 1, 1) := by decide +kernel
theorem dX3_send_26 : decode cX3_send 26 = .ok (.iadd, 1) := by decide +kernel
theorem dX3_send_27 : decode cX3_send 27 = .ok (.putfield 54, 3) := by decide +kernel
theorem dX3_send_30 : decode cX3_send 30 = .ok (.return_, 1) := by decide +kernel
theorem dX3_send_31 : decode cX3_send 31 = .ok (.bipush 6, 2) := by decide +kernel
theorem dX3_send_33 : decode cX3_send 33 = .ok (.aload_n 0, 1) := by decide +kernel
theorem dX3_send_34 : decode cX3_send 34 = .ok (.getfield 51, 3) := by decide +kernel
theorem dX3_send_37 : decode cX3_send 37 = .ok (.imul, 1) := by decide +kernel
theorem dX3_send_38 : decode cX3_send 38 = .ok (.istore 7, 2) := by decide +kernel
theorem dX3_send_40 : decode cX3_send 40 = .ok (.aload_n 0, 1) := by decide +kernel
theorem dX3_send_41 : decode cX3_send 41 = .ok (.getfield 40, 3) := by decide +kernel
theorem dX3_send_44 : decode cX3_send 44 = .ok (.iload 7, 2) := by decide +kernel
theorem dX3_send_46 : decode cX3_send 46 = .ok (.iload_n 1, 1) := by decide +kernel
theorem dX3_send_47 : decode cX3_send 47 = .ok (.iastore, 1) := by decide +kernel
theorem dX3_send_48 : decode cX3_send 48 = .ok (.aload_n 0, 1) := by decide +kernel
theorem dX3_send_49 : decode cX3_send 49 = .ok (.getfield 40, 3) := by decide +kernel
theorem dX3_send_52 : decode cX3_send 52 = .ok (.iload 7, 2) := by decide +kernel
theorem dX3_send_54 : decode cX3_send 54 = .ok (.iconst 1, 1) := by decide +kernel
theorem dX3_send_55 : decode cX3_send 55 = .ok (.iadd, 1) := by decide +kernel
theorem dX3_send_56 : decode cX3_send 56 = .ok (.iload_n 2, 1) := by decide +kernel
theorem dX3_send_57 : decode cX3_send 57 = .ok (.iastore, 1) := by decide +kernel
theorem dX3_send_58 : decode cX3_send 58 = .ok (.aload_n 0, 1) := by decide +kernel
theorem dX3_send_59 : decode cX3_send 59 = .ok (.getfield 40, 3) := by decide +kernel
theorem dX3_send_62 : decode cX3_send 62 = .ok (.iload 7, 2) := by decide +kernel
theorem dX3_send_64 : decode cX3_send 64 = .ok (.iconst 2, 1) := by decide +kernel
theorem dX3_send_65 : decode cX3_send 65 = .ok (.iadd, 1) := by decide +kernel
theorem dX3_send_66 : decode cX3_send 66 = .ok (.iload_n 3, 1) := by decide +kernel
theorem dX3_send_67 : decode cX3_send 67 = .ok (.iastore, 1) := by decide +kernel
theorem dX3_send_68 : decode cX3_send 68 = .ok (.aload_n 0, 1) := by decide +kernel
theorem dX3_send_69 : decode cX3_send 69 = .ok (.getfield 40, 3) := by decide +kernel
theorem dX3_send_72 : decode cX3_send 72 = .ok (.iload 7, 2) := by decide +kernel
theorem dX3_send_74 : decode cX3_send 74 = .ok (.iconst 3, 1) := by decide +kernel
theorem dX3_send_75 : decode cX3_send 75 = .ok (.iadd, 1) := by decide +kernel
theorem dX3_send_76 : decode cX3_send 76 = .ok (.iload 4, 2) := by decide +kernel
theorem dX3_send_78 : decode cX3_send 78 = .ok (.iastore, 1) := by decide +kernel
theorem dX3_send_79 : decode cX3_send 79 = .ok (.aload_n 0, 1) := by decide +kernel
theorem dX3_send_80 : decode cX3_send 80 = .ok (.getfield 40, 3) := by decide +kernel
theorem dX3_send_83 : decode cX3_send 83 = .ok (.iload 7, 2) := by decide +kernel
theorem dX3_send_85 : decode cX3_send 85 = .ok (.iconst 4, 1) := by decide +kernel
theorem dX3_send_86 : decode cX3_send 86 = .ok (.iadd, 1) := by decide +kernel
theorem dX3_send_87 : decode cX3_send 87 = .ok (.iload 5, 2) := by decide +kernel
theorem dX3_send_89 : decode cX3_send 89 = .ok (.iastore, 1) := by decide +kernel
theorem dX3_send_90 : decode cX3_send 90 = .ok (.aload_n 0, 1) := by decide +kernel
theorem dX3_send_91 : decode cX3_send 91 = .ok (.getfield 40, 3) := by decide +kernel
theorem dX3_send_94 : decode cX3_send 94 = .ok (.iload 7, 2) := by decide +kernel
theorem dX3_send_96 : decode cX3_send 96 = .ok (.iconst 5, 1) := by decide +kernel
theorem dX3_send_97 : decode cX3_send 97 = .ok (.iadd, 1) := by decide +kernel
theorem dX3_send_98 : decode cX3_send 98 = .ok (.iload 6, 2) := by decide +kernel
theorem dX3_send_100 : decode cX3_send 100 = .ok (.iastore, 1) := by decide +kernel
theorem dX3_send_101 : decode cX3_send 101 = .ok (.aload_n 0, 1) := by decide +kernel
theorem dX3_send_102 : decode cX3_send 102 = .ok (.dup, 1) := by decide +kernel
theorem dX3_send_103 : decode cX3_send 103 = .ok (.getfield 51, 3) := by decide +kernel
theorem dX3_send_106 : decode cX3_send 106 = .ok (.iconst 1, 1) := by decide +kernel
theorem dX3_send_107 : decode cX3_send 107 = .ok (.iadd, 1) := by decide +kernel
theorem dX3_send_108 : decode cX3_send 108 = .ok (.putfield 51, 3) := by decide +kernel
theorem dX3_send_111 : decode cX3_send 111 = .ok (.return_, 1) := by decide +kernel
theorem dX3_takes_0 : decode cX3_takes 0 = .ok (.iconst 0, 1) := by decide +kernel
theorem dX3_takes_1 : decode cX3_takes 1 = .ok (.istore_n 2, 1) := by decide +kernel
theorem dX3_takes_2 : decode cX3_takes 2 = .ok (.iload_n 2, 1) := by decide +kernel
theorem dX3_takes_3 : decode cX3_takes 3 = .ok (.bipush 6, 2) := by decide +kernel
theorem dX3_takes_5 : decode cX3_takes 5 = .ok (.if_icmp .ge 30, 3) := by decide +kernel
theorem dX3_takes_8 : decode cX3_takes 8 = .ok (.aload_n 0, 1) := by decide +kernel
theorem dX3_takes_9 : decode cX3_takes 9 = .ok (.getfield 40, 3) := by decide +kernel
theorem dX3_takes_12 : decode cX3_takes 12 = .ok (.sipush 1800, 3) := by decide +kernel
theorem dX3_takes_15 : decode cX3_takes 15 = .ok (.iload_n 2, 1) := by decide +kernel
theorem dX3_takes_16 : decode cX3_takes 16 = .ok (.iadd, 1) := by decide +kernel
theorem dX3_takes_17 : decode cX3_takes 17 = .ok (.aload_n 0, 1) := by decide +kernel
theorem dX3_takes_18 : decode cX3_takes 18 = .ok (.getfield 40, 3) := by decide +kernel
theorem dX3_takes_21 : decode cX3_takes 21 = .ok (.bipush 6, 2) := by decide +kernel
theorem dX3_takes_23 : decode cX3_takes 23 = .ok (.iload_n 1, 1) := by decide +kernel
theorem dX3_takes_24 : decode cX3_takes 24 = .ok (.imul, 1) := by decide +kernel
theorem dX3_takes_25 : decode cX3_takes 25 = .ok (.iload_n 2, 1) := by decide +kernel
theorem dX3_takes_26 : decode cX3_takes 26 = .ok (.iadd, 1) := by decide +kernel
theorem dX3_takes_27 : decode cX3_takes 27 = .ok (.iaload, 1) := by decide +kernel
theorem dX3_takes_28 : decode cX3_takes 28 = .ok (.iastore, 1) := by decide +kernel
theorem dX3_takes_29 : decode cX3_takes 29 = .ok (.iinc 2 1, 3) := by decide +kernel
theorem dX3_takes_32 : decode cX3_takes 32 = .ok (.goto (-30), 3) := by decide +kernel
theorem dX3_takes_35 : decode cX3_takes 35 = .ok (.bipush 6, 2) := by decide +kernel
theorem dX3_takes_37 : decode cX3_takes 37 = .ok (.iload_n 1, 1) := by decide +kernel
theorem dX3_takes_38 : decode cX3_takes 38 = .ok (.imul, 1) := by decide +kernel
theorem dX3_takes_39 : decode cX3_takes 39 = .ok (.istore_n 2, 1) := by decide +kernel
theorem dX3_takes_40 : decode cX3_takes 40 = .ok (.iload_n 2, 1) := by decide +kernel
theorem dX3_takes_41 : decode cX3_takes 41 = .ok (.bipush 6, 2) := by decide +kernel
theorem dX3_takes_43 : decode cX3_takes 43 = .ok (.iadd, 1) := by decide +kernel
theorem dX3_takes_44 : decode cX3_takes 44 = .ok (.bipush 6, 2) := by decide +kernel
theorem dX3_takes_46 : decode cX3_takes 46 = .ok (.aload_n 0, 1) := by decide +kernel
theorem dX3_takes_47 : decode cX3_takes 47 = .ok (.getfield 51, 3) := by decide +kernel
theorem dX3_takes_50 : decode cX3_takes 50 = .ok (.imul, 1) := by decide +kernel
theorem dX3_takes_51 : decode cX3_takes 51 = .ok (.if_icmp .ge 24, 3) := by decide +kernel
theorem dX3_takes_54 : decode cX3_takes 54 = .ok (.aload_n 0, 1) := by decide +kernel
theorem dX3_takes_55 : decode cX3_takes 55 = .ok (.getfield 40, 3) := by decide +kernel
theorem dX3_takes_58 : decode cX3_takes 58 = .ok (.iload_n 2, 1) := by decide +kernel
theorem dX3_takes_59 : decode cX3_takes 59 = .ok (.aload_n 0, 1) := by decide +kernel
theorem dX3_takes_60 : decode cX3_takes 60 = .ok (.getfield 40, 3) := by decide +kernel
theorem dX3_takes_63 : decode cX3_takes 63 = .ok (.iload_n 2, 1) := by decide +kernel
theorem dX3_takes_64 : decode cX3_takes 64 = .ok (.bipush 6, 2) := by decide +kernel
theorem dX3_takes_66 : decode cX3_takes 66 = .ok (.iadd, 1) := by decide +kernel
theorem dX3_takes_67 : decode cX3_takes 67 = .ok (.iaload, 1) := by decide +kernel
theorem dX3_takes_68 : decode cX3_takes 68 = .ok (.iastore, 1) := by decide +kernel
theorem dX3_takes_69 : decode cX3_takes 69 = .ok (.iinc 2 1, 3) := by decide +kernel
theorem dX3_takes_72 : decode cX3_takes 72 = .ok (.goto (-32), 3) := by decide +kernel
theorem dX3_takes_75 : decode cX3_takes 75 = .ok (.aload_n 0, 1) := by decide +kernel
theorem dX3_takes_76 : decode cX3_takes 76 = .ok (.dup, 1) := by decide +kernel
theorem dX3_takes_77 : decode cX3_takes 77 = .ok (.getfield 51, 3) := by decide +kernel
theorem dX3_takes_80 : decode cX3_takes 80 = .ok (.iconst 1, 1) := by decide +kernel
theorem dX3_takes_81 : decode cX3_takes 81 = .ok (.isub, 1) := by decide +kernel
theorem dX3_takes_82 : decode cX3_takes 82 = .ok (.putfield 51, 3) := by decide +kernel
theorem dX3_takes_85 : decode cX3_takes 85 = .ok (.return_, 1) := by decide +kernel
theorem dX3_tells_0 : decode cX3_tells 0 = .ok (.bipush 12, 2) := by decide +kernel
theorem dX3_tells_2 : decode cX3_tells 2 = .ok (.iload_n 1, 1) := by decide +kernel
theorem dX3_tells_3 : decode cX3_tells 3 = .ok (.imul, 1) := by decide +kernel
theorem dX3_tells_4 : decode cX3_tells 4 = .ok (.iload_n 3, 1) := by decide +kernel
theorem dX3_tells_5 : decode cX3_tells 5 = .ok (.iadd, 1) := by decide +kernel
theorem dX3_tells_6 : decode cX3_tells 6 = .ok (.istore 4, 2) := by decide +kernel
theorem dX3_tells_8 : decode cX3_tells 8 = .ok (.iload_n 1, 1) := by decide +kernel
theorem dX3_tells_9 : decode cX3_tells 9 = .ok (.iload_n 3, 1) := by decide +kernel
theorem dX3_tells_10 : decode cX3_tells 10 = .ok (.if_icmp .ne 19, 3) := by decide +kernel
theorem dX3_tells_13 : decode cX3_tells 13 = .ok (.aload_n 0, 1) := by decide +kernel
theorem dX3_tells_14 : decode cX3_tells 14 = .ok (.iconst 1, 1) := by decide +kernel
theorem dX3_tells_15 : decode cX3_tells 15 = .ok (.iload_n 1, 1) := by decide +kernel
theorem dX3_tells_16 : decode cX3_tells 16 = .ok (.iload_n 2, 1) := by decide +kernel
theorem dX3_tells_17 : decode cX3_tells 17 = .ok (.iload_n 3, 1) := by decide +kernel
theorem dX3_tells_18 : decode cX3_tells 18 = .ok (.aload_n 0, 1) := by decide +kernel
theorem dX3_tells_19 : decode cX3_tells 19 = .ok (.getfield 13, 3) := by decide +kernel
theorem dX3_tells_22 : decode cX3_tells 22 = .ok (.iload_n 1, 1) := by decide +kernel
theorem dX3_tells_23 : decode cX3_tells 23 = .ok (.iaload, 1) := by decide +kernel
theorem dX3_tells_24 : decode cX3_tells 24 = .ok (.iconst 0, 1) := by decide +kernel
theorem dX3_tells_25 : decode cX3_tells 25 = .ok (.invokevirtual 57, 3) := by decide +kernel
theorem dX3_tells_28 : decode cX3_tells 28 = .ok (.return_, 1) := by decide +kernel
theorem dX3_tells_29 : decode cX3_tells 29 = .ok (.aload_n 0, 1) := by decide +kernel
theorem dX3_tells_30 : decode cX3_tells 30 = .ok (.getfield 22, 3) := by decide +kernel
theorem dX3_tells_33 : decode cX3_tells 33 = .ok (.iload 4, 2) := by decide +kernel
theorem dX3_tells_35 : decode cX3_tells 35 = .ok (.iaload, 1) := by decide +kernel
theorem dX3_tells_36 : decode cX3_tells 36 = .ok (.iconst (-1), 1) := by decide +kernel
theorem dX3_tells_37 : decode cX3_tells 37 = .ok (.if_icmp .ne 36, 3) := by decide +kernel
theorem dX3_tells_40 : decode cX3_tells 40 = .ok (.aload_n 0, 1) := by decide +kernel
theorem dX3_tells_41 : decode cX3_tells 41 = .ok (.iconst 1, 1) := by decide +kernel
theorem dX3_tells_42 : decode cX3_tells 42 = .ok (.iload_n 1, 1) := by decide +kernel
theorem dX3_tells_43 : decode cX3_tells 43 = .ok (.iload_n 2, 1) := by decide +kernel
theorem dX3_tells_44 : decode cX3_tells 44 = .ok (.iload_n 3, 1) := by decide +kernel
theorem dX3_tells_45 : decode cX3_tells 45 = .ok (.aload_n 0, 1) := by decide +kernel
theorem dX3_tells_46 : decode cX3_tells 46 = .ok (.getfield 19, 3) := by decide +kernel
theorem dX3_tells_49 : decode cX3_tells 49 = .ok (.iload 4, 2) := by decide +kernel
theorem dX3_tells_51 : decode cX3_tells 51 = .ok (.iaload, 1) := by decide +kernel
theorem dX3_tells_52 : decode cX3_tells 52 = .ok (.iconst (-1), 1) := by decide +kernel
theorem dX3_tells_53 : decode cX3_tells 53 = .ok (.if_icmp .ne 7, 3) := by decide +kernel
theorem dX3_tells_56 : decode cX3_tells 56 = .ok (.iconst 0, 1) := by decide +kernel
theorem dX3_tells_57 : decode cX3_tells 57 = .ok (.goto 10, 3) := by decide +kernel
theorem dX3_tells_60 : decode cX3_tells 60 = .ok (.aload_n 0, 1) := by decide +kernel
theorem dX3_tells_61 : decode cX3_tells 61 = .ok (.getfield 16, 3) := by decide +kernel
theorem dX3_tells_64 : decode cX3_tells 64 = .ok (.iload 4, 2) := by decide +kernel
theorem dX3_tells_66 : decode cX3_tells 66 = .ok (.iaload, 1) := by decide +kernel
theorem dX3_tells_67 : decode cX3_tells 67 = .ok (.ldc 47, 2) := by decide +kernel
theorem dX3_tells_69 : decode cX3_tells 69 = .ok (.invokevirtual 57, 3) := by decide +kernel
theorem dX3_tells_72 : decode cX3_tells 72 = .ok (.return_, 1) := by decide +kernel
theorem dX3_tells_73 : decode cX3_tells 73 = .ok (.aload_n 0, 1) := by decide +kernel
theorem dX3_tells_74 : decode cX3_tells 74 = .ok (.getfield 25, 3) := by decide +kernel
theorem dX3_tells_77 : decode cX3_tells 77 = .ok (.iload 4, 2) := by decide +kernel
theorem dX3_tells_79 : decode cX3_tells 79 = .ok (.iaload, 1) := by decide +kernel
theorem dX3_tells_80 : decode cX3_tells 80 = .ok (.istore 5, 2) := by decide +kernel
theorem dX3_tells_82 : decode cX3_tells 82 = .ok (.aload_n 0, 1) := by decide +kernel
theorem dX3_tells_83 : decode cX3_tells 83 = .ok (.getfield 28, 3) := by decide +kernel
theorem dX3_tells_86 : decode cX3_tells 86 = .ok (.iload 4, 2) := by decide +kernel
theorem dX3_tells_88 : decode cX3_tells 88 = .ok (.iaload, 1) := by decide +kernel
theorem dX3_tells_89 : decode cX3_tells 89 = .ok (.istore 6, 2) := by decide +kernel
theorem dX3_tells_91 : decode cX3_tells 91 = .ok (.aload_n 0, 1) := by decide +kernel
theorem dX3_tells_92 : decode cX3_tells 92 = .ok (.getfield 19, 3) := by decide +kernel
theorem dX3_tells_95 : decode cX3_tells 95 = .ok (.iload 4, 2) := by decide +kernel
theorem dX3_tells_97 : decode cX3_tells 97 = .ok (.iaload, 1) := by decide +kernel
theorem dX3_tells_98 : decode cX3_tells 98 = .ok (.iconst (-1), 1) := by decide +kernel
theorem dX3_tells_99 : decode cX3_tells 99 = .ok (.if_icmp .eq 42, 3) := by decide +kernel
theorem dX3_tells_102 : decode cX3_tells 102 = .ok (.iload 5, 2) := by decide +kernel
theorem dX3_tells_104 : decode cX3_tells 104 = .ok (.aload_n 0, 1) := by decide +kernel
theorem dX3_tells_105 : decode cX3_tells 105 = .ok (.getfield 16, 3) := by decide +kernel
theorem dX3_tells_108 : decode cX3_tells 108 = .ok (.iload 4, 2) := by decide +kernel
theorem dX3_tells_110 : decode cX3_tells 110 = .ok (.iaload, 1) := by decide +kernel
theorem dX3_tells_111 : decode cX3_tells 111 = .ok (.invokestatic 61, 3) := by decide +kernel
theorem dX3_tells_114 : decode cX3_tells 114 = .ok (.ifCond .ne 27, 3) := by decide +kernel
theorem dX3_tells_117 : decode cX3_tells 117 = .ok (.iload 5, 2) := by decide +kernel
theorem dX3_tells_119 : decode cX3_tells 119 = .ok (.aload_n 0, 1) := by decide +kernel
theorem dX3_tells_120 : decode cX3_tells 120 = .ok (.getfield 16, 3) := by decide +kernel
theorem dX3_tells_123 : decode cX3_tells 123 = .ok (.iload 4, 2) := by decide +kernel
theorem dX3_tells_125 : decode cX3_tells 125 = .ok (.iaload, 1) := by decide +kernel
theorem dX3_tells_126 : decode cX3_tells 126 = .ok (.if_icmp .ne 33, 3) := by decide +kernel
theorem dX3_tells_129 : decode cX3_tells 129 = .ok (.iload 6, 2) := by decide +kernel
theorem dX3_tells_131 : decode cX3_tells 131 = .ok (.aload_n 0, 1) := by decide +kernel
theorem dX3_tells_132 : decode cX3_tells 132 = .ok (.getfield 19, 3) := by decide +kernel
theorem dX3_tells_135 : decode cX3_tells 135 = .ok (.iload 4, 2) := by decide +kernel
theorem dX3_tells_137 : decode cX3_tells 137 = .ok (.iaload, 1) := by decide +kernel
theorem dX3_tells_138 : decode cX3_tells 138 = .ok (.if_icmp .ge 21, 3) := by decide +kernel
theorem dX3_tells_141 : decode cX3_tells 141 = .ok (.aload_n 0, 1) := by decide +kernel
theorem dX3_tells_142 : decode cX3_tells 142 = .ok (.getfield 16, 3) := by decide +kernel
theorem dX3_tells_145 : decode cX3_tells 145 = .ok (.iload 4, 2) := by decide +kernel
theorem dX3_tells_147 : decode cX3_tells 147 = .ok (.iload 5, 2) := by decide +kernel
theorem dX3_tells_149 : decode cX3_tells 149 = .ok (.iastore, 1) := by decide +kernel
theorem dX3_tells_150 : decode cX3_tells 150 = .ok (.aload_n 0, 1) := by decide +kernel
theorem dX3_tells_151 : decode cX3_tells 151 = .ok (.getfield 19, 3) := by decide +kernel
theorem dX3_tells_154 : decode cX3_tells 154 = .ok (.iload 4, 2) := by decide +kernel
theorem dX3_tells_156 : decode cX3_tells 156 = .ok (.iload 6, 2) := by decide +kernel
theorem dX3_tells_158 : decode cX3_tells 158 = .ok (.iastore, 1) := by decide +kernel
theorem dX3_tells_159 : decode cX3_tells 159 = .ok (.aload_n 0, 1) := by decide +kernel
theorem dX3_tells_160 : decode cX3_tells 160 = .ok (.iconst 1, 1) := by decide +kernel
theorem dX3_tells_161 : decode cX3_tells 161 = .ok (.iload_n 1, 1) := by decide +kernel
theorem dX3_tells_162 : decode cX3_tells 162 = .ok (.iload_n 2, 1) := by decide +kernel
theorem dX3_tells_163 : decode cX3_tells 163 = .ok (.iload_n 3, 1) := by decide +kernel
theorem dX3_tells_164 : decode cX3_tells 164 = .ok (.iload 5, 2) := by decide +kernel
theorem dX3_tells_166 : decode cX3_tells 166 = .ok (.iload 6, 2) := by decide +kernel
theorem dX3_tells_168 : decode cX3_tells 168 = .ok (.invokevirtual 57, 3) := by decide +kernel
theorem dX3_tells_171 : decode cX3_tells 171 = .ok (.return_, 1) := by decide +kernel
theorem dX3_tellsAll_0 : decode cX3_tellsAll 0 = .ok (.iconst 0, 1) := by decide +kernel
theorem dX3_tellsAll_1 : decode cX3_tellsAll 1 = .ok (.istore_n 3, 1) := by decide +kernel
theorem dX3_tellsAll_2 : decode cX3_tellsAll 2 = .ok (.iload_n 3, 1) := by decide +kernel
theorem dX3_tellsAll_3 : decode cX3_tellsAll 3 = .ok (.bipush 12, 2) := by decide +kernel
theorem dX3_tellsAll_5 : decode cX3_tellsAll 5 = .ok (.if_icmp .ge 30, 3) := by decide +kernel
theorem dX3_tellsAll_8 : decode cX3_tellsAll 8 = .ok (.aload_n 0, 1) := by decide +kernel
theorem dX3_tellsAll_9 : decode cX3_tellsAll 9 = .ok (.getfield 7, 3) := by decide +kernel
theorem dX3_tellsAll_12 : decode cX3_tellsAll 12 = .ok (.bipush 12, 2) := by decide +kernel
theorem dX3_tellsAll_14 : decode cX3_tellsAll 14 = .ok (.iload_n 1, 1) := by decide +kernel
theorem dX3_tellsAll_15 : decode cX3_tellsAll 15 = .ok (.imul, 1) := by decide +kernel
theorem dX3_tellsAll_16 : decode cX3_tellsAll 16 = .ok (.iload_n 3, 1) := by decide +kernel
theorem dX3_tellsAll_17 : decode cX3_tellsAll 17 = .ok (.iadd, 1) := by decide +kernel
theorem dX3_tellsAll_18 : decode cX3_tellsAll 18 = .ok (.iaload, 1) := by decide +kernel
theorem dX3_tellsAll_19 : decode cX3_tellsAll 19 = .ok (.ifCond .le 10, 3) := by decide +kernel
theorem dX3_tellsAll_22 : decode cX3_tellsAll 22 = .ok (.aload_n 0, 1) := by decide +kernel
theorem dX3_tellsAll_23 : decode cX3_tellsAll 23 = .ok (.iload_n 1, 1) := by decide +kernel
theorem dX3_tellsAll_24 : decode cX3_tellsAll 24 = .ok (.iload_n 3, 1) := by decide +kernel
theorem dX3_tellsAll_25 : decode cX3_tellsAll 25 = .ok (.iload_n 2, 1) := by decide +kernel
theorem dX3_tellsAll_26 : decode cX3_tellsAll 26 = .ok (.invokevirtual 65, 3) := by decide +kernel
theorem dX3_tellsAll_29 : decode cX3_tellsAll 29 = .ok (.iinc 3 1, 3) := by decide +kernel
theorem dX3_tellsAll_32 : decode cX3_tellsAll 32 = .ok (.goto (-30), 3) := by decide +kernel
theorem dX3_tellsAll_35 : decode cX3_tellsAll 35 = .ok (.return_, 1) := by decide +kernel
theorem dX3_asks_0 : decode cX3_asks 0 = .ok (.iconst 0, 1) := by decide +kernel
theorem dX3_asks_1 : decode cX3_asks 1 = .ok (.istore 6, 2) := by decide +kernel
theorem dX3_asks_3 : decode cX3_asks 3 = .ok (.iload 6, 2) := by decide +kernel
theorem dX3_asks_5 : decode cX3_asks 5 = .ok (.bipush 12, 2) := by decide +kernel
theorem dX3_asks_7 : decode cX3_asks 7 = .ok (.if_icmp .ge 43, 3) := by decide +kernel
theorem dX3_asks_10 : decode cX3_asks 10 = .ok (.aload_n 0, 1) := by decide +kernel
theorem dX3_asks_11 : decode cX3_asks 11 = .ok (.getfield 7, 3) := by decide +kernel
theorem dX3_asks_14 : decode cX3_asks 14 = .ok (.bipush 12, 2) := by decide +kernel
theorem dX3_asks_16 : decode cX3_asks 16 = .ok (.iload_n 1, 1) := by decide +kernel
theorem dX3_asks_17 : decode cX3_asks 17 = .ok (.imul, 1) := by decide +kernel
theorem dX3_asks_18 : decode cX3_asks 18 = .ok (.iload 6, 2) := by decide +kernel
theorem dX3_asks_20 : decode cX3_asks 20 = .ok (.iadd, 1) := by decide +kernel
theorem dX3_asks_21 : decode cX3_asks 21 = .ok (.iaload, 1) := by decide +kernel
theorem dX3_asks_22 : decode cX3_asks 22 = .ok (.ifCond .le 22, 3) := by decide +kernel
theorem dX3_asks_25 : decode cX3_asks 25 = .ok (.iload 6, 2) := by decide +kernel
theorem dX3_asks_27 : decode cX3_asks 27 = .ok (.iload 5, 2) := by decide +kernel
theorem dX3_asks_29 : decode cX3_asks 29 = .ok (.if_icmp .eq 15, 3) := by decide +kernel
theorem dX3_asks_32 : decode cX3_asks 32 = .ok (.aload_n 0, 1) := by decide +kernel
theorem dX3_asks_33 : decode cX3_asks 33 = .ok (.iconst 2, 1) := by decide +kernel
theorem dX3_asks_34 : decode cX3_asks 34 = .ok (.iload_n 1, 1) := by decide +kernel
theorem dX3_asks_35 : decode cX3_asks 35 = .ok (.iload 6, 2) := by decide +kernel
theorem dX3_asks_37 : decode cX3_asks 37 = .ok (.iload_n 2, 1) := by decide +kernel
theorem dX3_asks_38 : decode cX3_asks 38 = .ok (.iload_n 3, 1) := by decide +kernel
theorem dX3_asks_39 : decode cX3_asks 39 = .ok (.iload 4, 2) := by decide +kernel
theorem dX3_asks_41 : decode cX3_asks 41 = .ok (.invokevirtual 57, 3) := by decide +kernel
theorem dX3_asks_44 : decode cX3_asks 44 = .ok (.iinc 6 1, 3) := by decide +kernel
theorem dX3_asks_47 : decode cX3_asks 47 = .ok (.goto (-44), 3) := by decide +kernel
theorem dX3_asks_50 : decode cX3_asks 50 = .ok (.return_, 1) := by decide +kernel
theorem dX3_wanted_0 : decode cX3_wanted 0 = .ok (.bipush 12, 2) := by decide +kernel
theorem dX3_wanted_2 : decode cX3_wanted 2 = .ok (.iload_n 1, 1) := by decide +kernel
theorem dX3_wanted_3 : decode cX3_wanted 3 = .ok (.imul, 1) := by decide +kernel
theorem dX3_wanted_4 : decode cX3_wanted 4 = .ok (.iload_n 2, 1) := by decide +kernel
theorem dX3_wanted_5 : decode cX3_wanted 5 = .ok (.iadd, 1) := by decide +kernel
theorem dX3_wanted_6 : decode cX3_wanted 6 = .ok (.istore_n 3, 1) := by decide +kernel
theorem dX3_wanted_7 : decode cX3_wanted 7 = .ok (.aload_n 0, 1) := by decide +kernel
theorem dX3_wanted_8 : decode cX3_wanted 8 = .ok (.getfield 19, 3) := by decide +kernel
theorem dX3_wanted_11 : decode cX3_wanted 11 = .ok (.iload_n 3, 1) := by decide +kernel
theorem dX3_wanted_12 : decode cX3_wanted 12 = .ok (.iaload, 1) := by decide +kernel
theorem dX3_wanted_13 : decode cX3_wanted 13 = .ok (.iconst (-1), 1) := by decide +kernel
theorem dX3_wanted_14 : decode cX3_wanted 14 = .ok (.if_icmp .ne 7, 3) := by decide +kernel
theorem dX3_wanted_17 : decode cX3_wanted 17 = .ok (.iconst 0, 1) := by decide +kernel
theorem dX3_wanted_18 : decode cX3_wanted 18 = .ok (.goto 14, 3) := by decide +kernel
theorem dX3_wanted_21 : decode cX3_wanted 21 = .ok (.aload_n 0, 1) := by decide +kernel
theorem dX3_wanted_22 : decode cX3_wanted 22 = .ok (.getfield 16, 3) := by decide +kernel
theorem dX3_wanted_25 : decode cX3_wanted 25 = .ok (.iload_n 3, 1) := by decide +kernel
theorem dX3_wanted_26 : decode cX3_wanted 26 = .ok (.iaload, 1) := by decide +kernel
theorem dX3_wanted_27 : decode cX3_wanted 27 = .ok (.iconst 1, 1) := by decide +kernel
theorem dX3_wanted_28 : decode cX3_wanted 28 = .ok (.iadd, 1) := by decide +kernel
theorem dX3_wanted_29 : decode cX3_wanted 29 = .ok (.ldc 47, 2) := by decide +kernel
theorem dX3_wanted_31 : decode cX3_wanted 31 = .ok (.iand, 1) := by decide +kernel
theorem dX3_wanted_32 : decode cX3_wanted 32 = .ok (.ireturn, 1) := by decide +kernel
theorem dX3_isGood_0 : decode cX3_isGood 0 = .ok (.bipush 12, 2) := by decide +kernel
theorem dX3_isGood_2 : decode cX3_isGood 2 = .ok (.iload_n 1, 1) := by decide +kernel
theorem dX3_isGood_3 : decode cX3_isGood 3 = .ok (.imul, 1) := by decide +kernel
theorem dX3_isGood_4 : decode cX3_isGood 4 = .ok (.iload_n 2, 1) := by decide +kernel
theorem dX3_isGood_5 : decode cX3_isGood 5 = .ok (.iadd, 1) := by decide +kernel
theorem dX3_isGood_6 : decode cX3_isGood 6 = .ok (.istore 5, 2) := by decide +kernel
theorem dX3_isGood_8 : decode cX3_isGood 8 = .ok (.iload 4, 2) := by decide +kernel
theorem dX3_isGood_10 : decode cX3_isGood 10 = .ok (.ifCond .lt 62, 3) := by decide +kernel
theorem dX3_isGood_13 : decode cX3_isGood 13 = .ok (.iload 4, 2) := by decide +kernel
theorem dX3_isGood_15 : decode cX3_isGood 15 = .ok (.ldc 47, 2) := by decide +kernel
theorem dX3_isGood_17 : decode cX3_isGood 17 = .ok (.if_icmp .eq 55, 3) := by decide +kernel
theorem dX3_isGood_20 : decode cX3_isGood 20 = .ok (.aload_n 0, 1) := by decide +kernel
theorem dX3_isGood_21 : decode cX3_isGood 21 = .ok (.getfield 19, 3) := by decide +kernel
theorem dX3_isGood_24 : decode cX3_isGood 24 = .ok (.iload 5, 2) := by decide +kernel
theorem dX3_isGood_26 : decode cX3_isGood 26 = .ok (.iaload, 1) := by decide +kernel
theorem dX3_isGood_27 : decode cX3_isGood 27 = .ok (.iconst (-1), 1) := by decide +kernel
theorem dX3_isGood_28 : decode cX3_isGood 28 = .ok (.if_icmp .eq 40, 3) := by decide +kernel
theorem dX3_isGood_31 : decode cX3_isGood 31 = .ok (.iload_n 3, 1) := by decide +kernel
theorem dX3_isGood_32 : decode cX3_isGood 32 = .ok (.aload_n 0, 1) := by decide +kernel
theorem dX3_isGood_33 : decode cX3_isGood 33 = .ok (.getfield 16, 3) := by decide +kernel
theorem dX3_isGood_36 : decode cX3_isGood 36 = .ok (.iload 5, 2) := by decide +kernel
theorem dX3_isGood_38 : decode cX3_isGood 38 = .ok (.iaload, 1) := by decide +kernel
theorem dX3_isGood_39 : decode cX3_isGood 39 = .ok (.invokestatic 61, 3) := by decide +kernel
theorem dX3_isGood_42 : decode cX3_isGood 42 = .ok (.ifCond .ne 26, 3) := by decide +kernel
theorem dX3_isGood_45 : decode cX3_isGood 45 = .ok (.iload_n 3, 1) := by decide +kernel
theorem dX3_isGood_46 : decode cX3_isGood 46 = .ok (.aload_n 0, 1) := by decide +kernel
theorem dX3_isGood_47 : decode cX3_isGood 47 = .ok (.getfield 16, 3) := by decide +kernel
theorem dX3_isGood_50 : decode cX3_isGood 50 = .ok (.iload 5, 2) := by decide +kernel
theorem dX3_isGood_52 : decode cX3_isGood 52 = .ok (.iaload, 1) := by decide +kernel
theorem dX3_isGood_53 : decode cX3_isGood 53 = .ok (.if_icmp .ne 19, 3) := by decide +kernel
theorem dX3_isGood_56 : decode cX3_isGood 56 = .ok (.iload 4, 2) := by decide +kernel
theorem dX3_isGood_58 : decode cX3_isGood 58 = .ok (.aload_n 0, 1) := by decide +kernel
theorem dX3_isGood_59 : decode cX3_isGood 59 = .ok (.getfield 19, 3) := by decide +kernel
theorem dX3_isGood_62 : decode cX3_isGood 62 = .ok (.iload 5, 2) := by decide +kernel
theorem dX3_isGood_64 : decode cX3_isGood 64 = .ok (.iaload, 1) := by decide +kernel
theorem dX3_isGood_65 : decode cX3_isGood 65 = .ok (.if_icmp .ge 7, 3) := by decide +kernel
theorem dX3_isGood_68 : decode cX3_isGood 68 = .ok (.iconst 1, 1) := by decide +kernel
theorem dX3_isGood_69 : decode cX3_isGood 69 = .ok (.goto 4, 3) := by decide +kernel
theorem dX3_isGood_72 : decode cX3_isGood 72 = .ok (.iconst 0, 1) := by decide +kernel
theorem dX3_isGood_73 : decode cX3_isGood 73 = .ok (.ireturn, 1) := by decide +kernel
theorem dX3_by_0 : decode cX3_by 0 = .ok (.sipush 144, 3) := by decide +kernel
theorem dX3_by_3 : decode cX3_by 3 = .ok (.iload_n 1, 1) := by decide +kernel
theorem dX3_by_4 : decode cX3_by 4 = .ok (.imul, 1) := by decide +kernel
theorem dX3_by_5 : decode cX3_by 5 = .ok (.bipush 12, 2) := by decide +kernel
theorem dX3_by_7 : decode cX3_by 7 = .ok (.iload_n 2, 1) := by decide +kernel
theorem dX3_by_8 : decode cX3_by 8 = .ok (.imul, 1) := by decide +kernel
theorem dX3_by_9 : decode cX3_by 9 = .ok (.iadd, 1) := by decide +kernel
theorem dX3_by_10 : decode cX3_by 10 = .ok (.iload_n 3, 1) := by decide +kernel
theorem dX3_by_11 : decode cX3_by 11 = .ok (.iadd, 1) := by decide +kernel
theorem dX3_by_12 : decode cX3_by 12 = .ok (.istore 4, 2) := by decide +kernel
theorem dX3_by_14 : decode cX3_by 14 = .ok (.aload_n 0, 1) := by decide +kernel
theorem dX3_by_15 : decode cX3_by 15 = .ok (.getfield 7, 3) := by decide +kernel
theorem dX3_by_18 : decode cX3_by 18 = .ok (.bipush 12, 2) := by decide +kernel
theorem dX3_by_20 : decode cX3_by 20 = .ok (.iload_n 1, 1) := by decide +kernel
theorem dX3_by_21 : decode cX3_by 21 = .ok (.imul, 1) := by decide +kernel
theorem dX3_by_22 : decode cX3_by 22 = .ok (.iload_n 2, 1) := by decide +kernel
theorem dX3_by_23 : decode cX3_by 23 = .ok (.iadd, 1) := by decide +kernel
theorem dX3_by_24 : decode cX3_by 24 = .ok (.iaload, 1) := by decide +kernel
theorem dX3_by_25 : decode cX3_by 25 = .ok (.istore 5, 2) := by decide +kernel
theorem dX3_by_27 : decode cX3_by 27 = .ok (.iload 5, 2) := by decide +kernel
theorem dX3_by_29 : decode cX3_by 29 = .ok (.ifCond .eq 26, 3) := by decide +kernel
theorem dX3_by_32 : decode cX3_by 32 = .ok (.aload_n 0, 1) := by decide +kernel
theorem dX3_by_33 : decode cX3_by 33 = .ok (.iload_n 1, 1) := by decide +kernel
theorem dX3_by_34 : decode cX3_by 34 = .ok (.iload_n 3, 1) := by decide +kernel
theorem dX3_by_35 : decode cX3_by 35 = .ok (.aload_n 0, 1) := by decide +kernel
theorem dX3_by_36 : decode cX3_by 36 = .ok (.getfield 34, 3) := by decide +kernel
theorem dX3_by_39 : decode cX3_by 39 = .ok (.iload 4, 2) := by decide +kernel
theorem dX3_by_41 : decode cX3_by 41 = .ok (.iaload, 1) := by decide +kernel
theorem dX3_by_42 : decode cX3_by 42 = .ok (.aload_n 0, 1) := by decide +kernel
theorem dX3_by_43 : decode cX3_by 43 = .ok (.getfield 37, 3) := by decide +kernel
theorem dX3_by_46 : decode cX3_by 46 = .ok (.iload 4, 2) := by decide +kernel
theorem dX3_by_48 : decode cX3_by 48 = .ok (.iaload, 1) := by decide +kernel
theorem dX3_by_49 : decode cX3_by 49 = .ok (.invokevirtual 69, 3) := by decide +kernel
theorem dX3_by_52 : decode cX3_by 52 = .ok (.ifCond .ne 6, 3) := by decide +kernel
theorem dX3_by_55 : decode cX3_by 55 = .ok (.ldc 47, 2) := by decide +kernel
theorem dX3_by_57 : decode cX3_by 57 = .ok (.ireturn, 1) := by decide +kernel
theorem dX3_by_58 : decode cX3_by 58 = .ok (.aload_n 0, 1) := by decide +kernel
theorem dX3_by_59 : decode cX3_by 59 = .ok (.getfield 37, 3) := by decide +kernel
theorem dX3_by_62 : decode cX3_by 62 = .ok (.iload 4, 2) := by decide +kernel
theorem dX3_by_64 : decode cX3_by 64 = .ok (.iaload, 1) := by decide +kernel
theorem dX3_by_65 : decode cX3_by 65 = .ok (.iload 5, 2) := by decide +kernel
theorem dX3_by_67 : decode cX3_by 67 = .ok (.iadd, 1) := by decide +kernel
theorem dX3_by_68 : decode cX3_by 68 = .ok (.ldc 73, 2) := by decide +kernel
theorem dX3_by_70 : decode cX3_by 70 = .ok (.if_icmp .le 8, 3) := by decide +kernel
theorem dX3_by_73 : decode cX3_by 73 = .ok (.ldc 47, 2) := by decide +kernel
theorem dX3_by_75 : decode cX3_by 75 = .ok (.goto 13, 3) := by decide +kernel
theorem dX3_by_78 : decode cX3_by 78 = .ok (.aload_n 0, 1) := by decide +kernel
theorem dX3_by_79 : decode cX3_by 79 = .ok (.getfield 37, 3) := by decide +kernel
theorem dX3_by_82 : decode cX3_by 82 = .ok (.iload 4, 2) := by decide +kernel
theorem dX3_by_84 : decode cX3_by 84 = .ok (.iaload, 1) := by decide +kernel
theorem dX3_by_85 : decode cX3_by 85 = .ok (.iload 5, 2) := by decide +kernel
theorem dX3_by_87 : decode cX3_by 87 = .ok (.iadd, 1) := by decide +kernel
theorem dX3_by_88 : decode cX3_by 88 = .ok (.ireturn, 1) := by decide +kernel
theorem dX3_chooses_0 : decode cX3_chooses 0 = .ok (.bipush 12, 2) := by decide +kernel
theorem dX3_chooses_2 : decode cX3_chooses 2 = .ok (.iload_n 1, 1) := by decide +kernel
theorem dX3_chooses_3 : decode cX3_chooses 3 = .ok (.imul, 1) := by decide +kernel
theorem dX3_chooses_4 : decode cX3_chooses 4 = .ok (.iload_n 2, 1) := by decide +kernel
theorem dX3_chooses_5 : decode cX3_chooses 5 = .ok (.iadd, 1) := by decide +kernel
theorem dX3_chooses_6 : decode cX3_chooses 6 = .ok (.istore_n 3, 1) := by decide +kernel
theorem dX3_chooses_7 : decode cX3_chooses 7 = .ok (.ldc 47, 2) := by decide +kernel
theorem dX3_chooses_9 : decode cX3_chooses 9 = .ok (.istore 4, 2) := by decide +kernel
theorem dX3_chooses_11 : decode cX3_chooses 11 = .ok (.iconst 0, 1) := by decide +kernel
theorem dX3_chooses_12 : decode cX3_chooses 12 = .ok (.istore 5, 2) := by decide +kernel
theorem dX3_chooses_14 : decode cX3_chooses 14 = .ok (.iload 5, 2) := by decide +kernel
theorem dX3_chooses_16 : decode cX3_chooses 16 = .ok (.bipush 12, 2) := by decide +kernel
theorem dX3_chooses_18 : decode cX3_chooses 18 = .ok (.if_icmp .ge 37, 3) := by decide +kernel
theorem dX3_chooses_21 : decode cX3_chooses 21 = .ok (.aload_n 0, 1) := by decide +kernel
theorem dX3_chooses_22 : decode cX3_chooses 22 = .ok (.iload_n 1, 1) := by decide +kernel
theorem dX3_chooses_23 : decode cX3_chooses 23 = .ok (.iload 5, 2) := by decide +kernel
theorem dX3_chooses_25 : decode cX3_chooses 25 = .ok (.iload_n 2, 1) := by decide +kernel
theorem dX3_chooses_26 : decode cX3_chooses 26 = .ok (.invokevirtual 74, 3) := by decide +kernel
theorem dX3_chooses_29 : decode cX3_chooses 29 = .ok (.iload 4, 2) := by decide +kernel
theorem dX3_chooses_31 : decode cX3_chooses 31 = .ok (.if_icmp .ge 14, 3) := by decide +kernel
theorem dX3_chooses_34 : decode cX3_chooses 34 = .ok (.aload_n 0, 1) := by decide +kernel
theorem dX3_chooses_35 : decode cX3_chooses 35 = .ok (.iload_n 1, 1) := by decide +kernel
theorem dX3_chooses_36 : decode cX3_chooses 36 = .ok (.iload 5, 2) := by decide +kernel
theorem dX3_chooses_38 : decode cX3_chooses 38 = .ok (.iload_n 2, 1) := by decide +kernel
theorem dX3_chooses_39 : decode cX3_chooses 39 = .ok (.invokevirtual 74, 3) := by decide +kernel
theorem dX3_chooses_42 : decode cX3_chooses 42 = .ok (.goto 5, 3) := by decide +kernel
theorem dX3_chooses_45 : decode cX3_chooses 45 = .ok (.iload 4, 2) := by decide +kernel
theorem dX3_chooses_47 : decode cX3_chooses 47 = .ok (.istore 4, 2) := by decide +kernel
theorem dX3_chooses_49 : decode cX3_chooses 49 = .ok (.iinc 5 1, 3) := by decide +kernel
theorem dX3_chooses_52 : decode cX3_chooses 52 = .ok (.goto (-38), 3) := by decide +kernel
theorem dX3_chooses_55 : decode cX3_chooses 55 = .ok (.iconst (-1), 1) := by decide +kernel
theorem dX3_chooses_56 : decode cX3_chooses 56 = .ok (.istore 5, 2) := by decide +kernel
theorem dX3_chooses_58 : decode cX3_chooses 58 = .ok (.bipush 11, 2) := by decide +kernel
theorem dX3_chooses_60 : decode cX3_chooses 60 = .ok (.istore 6, 2) := by decide +kernel
theorem dX3_chooses_62 : decode cX3_chooses 62 = .ok (.iload 6, 2) := by decide +kernel
theorem dX3_chooses_64 : decode cX3_chooses 64 = .ok (.ifCond .lt 38, 3) := by decide +kernel
theorem dX3_chooses_67 : decode cX3_chooses 67 = .ok (.iload 4, 2) := by decide +kernel
theorem dX3_chooses_69 : decode cX3_chooses 69 = .ok (.ldc 47, 2) := by decide +kernel
theorem dX3_chooses_71 : decode cX3_chooses 71 = .ok (.if_icmp .ge 31, 3) := by decide +kernel
theorem dX3_chooses_74 : decode cX3_chooses 74 = .ok (.aload_n 0, 1) := by decide +kernel
theorem dX3_chooses_75 : decode cX3_chooses 75 = .ok (.iload_n 1, 1) := by decide +kernel
theorem dX3_chooses_76 : decode cX3_chooses 76 = .ok (.iload 6, 2) := by decide +kernel
theorem dX3_chooses_78 : decode cX3_chooses 78 = .ok (.iload_n 2, 1) := by decide +kernel
theorem dX3_chooses_79 : decode cX3_chooses 79 = .ok (.invokevirtual 74, 3) := by decide +kernel
theorem dX3_chooses_82 : decode cX3_chooses 82 = .ok (.iload 4, 2) := by decide +kernel
theorem dX3_chooses_84 : decode cX3_chooses 84 = .ok (.if_icmp .ne 8, 3) := by decide +kernel
theorem dX3_chooses_87 : decode cX3_chooses 87 = .ok (.iload 6, 2) := by decide +kernel
theorem dX3_chooses_89 : decode cX3_chooses 89 = .ok (.goto 5, 3) := by decide +kernel
theorem dX3_chooses_92 : decode cX3_chooses 92 = .ok (.iload 5, 2) := by decide +kernel
theorem dX3_chooses_94 : decode cX3_chooses 94 = .ok (.istore 5, 2) := by decide +kernel
theorem dX3_chooses_96 : decode cX3_chooses 96 = .ok (.iinc 6 (-1), 3) := by decide +kernel
theorem dX3_chooses_99 : decode cX3_chooses 99 = .ok (.goto (-37), 3) := by decide +kernel
theorem dX3_chooses_102 : decode cX3_chooses 102 = .ok (.iload 4, 2) := by decide +kernel
theorem dX3_chooses_104 : decode cX3_chooses 104 = .ok (.ldc 47, 2) := by decide +kernel
theorem dX3_chooses_106 : decode cX3_chooses 106 = .ok (.if_icmp .ge 39, 3) := by decide +kernel
theorem dX3_chooses_109 : decode cX3_chooses 109 = .ok (.aload_n 0, 1) := by decide +kernel
theorem dX3_chooses_110 : decode cX3_chooses 110 = .ok (.getfield 22, 3) := by decide +kernel
theorem dX3_chooses_113 : decode cX3_chooses 113 = .ok (.iload_n 3, 1) := by decide +kernel
theorem dX3_chooses_114 : decode cX3_chooses 114 = .ok (.iaload, 1) := by decide +kernel
theorem dX3_chooses_115 : decode cX3_chooses 115 = .ok (.iconst (-1), 1) := by decide +kernel
theorem dX3_chooses_116 : decode cX3_chooses 116 = .ok (.if_icmp .eq 29, 3) := by decide +kernel
theorem dX3_chooses_119 : decode cX3_chooses 119 = .ok (.aload_n 0, 1) := by decide +kernel
theorem dX3_chooses_120 : decode cX3_chooses 120 = .ok (.iload_n 1, 1) := by decide +kernel
theorem dX3_chooses_121 : decode cX3_chooses 121 = .ok (.aload_n 0, 1) := by decide +kernel
theorem dX3_chooses_122 : decode cX3_chooses 122 = .ok (.getfield 22, 3) := by decide +kernel
theorem dX3_chooses_125 : decode cX3_chooses 125 = .ok (.iload_n 3, 1) := by decide +kernel
theorem dX3_chooses_126 : decode cX3_chooses 126 = .ok (.iaload, 1) := by decide +kernel
theorem dX3_chooses_127 : decode cX3_chooses 127 = .ok (.iload_n 2, 1) := by decide +kernel
theorem dX3_chooses_128 : decode cX3_chooses 128 = .ok (.invokevirtual 74, 3) := by decide +kernel
theorem dX3_chooses_131 : decode cX3_chooses 131 = .ok (.iload 4, 2) := by decide +kernel
theorem dX3_chooses_133 : decode cX3_chooses 133 = .ok (.if_icmp .ne 12, 3) := by decide +kernel
theorem dX3_chooses_136 : decode cX3_chooses 136 = .ok (.aload_n 0, 1) := by decide +kernel
theorem dX3_chooses_137 : decode cX3_chooses 137 = .ok (.getfield 22, 3) := by decide +kernel
theorem dX3_chooses_140 : decode cX3_chooses 140 = .ok (.iload_n 3, 1) := by decide +kernel
theorem dX3_chooses_141 : decode cX3_chooses 141 = .ok (.iaload, 1) := by decide +kernel
theorem dX3_chooses_142 : decode cX3_chooses 142 = .ok (.goto 5, 3) := by decide +kernel
theorem dX3_chooses_145 : decode cX3_chooses 145 = .ok (.iload 5, 2) := by decide +kernel
theorem dX3_chooses_147 : decode cX3_chooses 147 = .ok (.istore 5, 2) := by decide +kernel
theorem dX3_chooses_149 : decode cX3_chooses 149 = .ok (.iload 5, 2) := by decide +kernel
theorem dX3_chooses_151 : decode cX3_chooses 151 = .ok (.iconst (-1), 1) := by decide +kernel
theorem dX3_chooses_152 : decode cX3_chooses 152 = .ok (.if_icmp .ne 7, 3) := by decide +kernel
theorem dX3_chooses_155 : decode cX3_chooses 155 = .ok (.iconst (-1), 1) := by decide +kernel
theorem dX3_chooses_156 : decode cX3_chooses 156 = .ok (.goto 21, 3) := by decide +kernel
theorem dX3_chooses_159 : decode cX3_chooses 159 = .ok (.aload_n 0, 1) := by decide +kernel
theorem dX3_chooses_160 : decode cX3_chooses 160 = .ok (.getfield 34, 3) := by decide +kernel
theorem dX3_chooses_163 : decode cX3_chooses 163 = .ok (.sipush 144, 3) := by decide +kernel
theorem dX3_chooses_166 : decode cX3_chooses 166 = .ok (.iload_n 1, 1) := by decide +kernel
theorem dX3_chooses_167 : decode cX3_chooses 167 = .ok (.imul, 1) := by decide +kernel
theorem dX3_chooses_168 : decode cX3_chooses 168 = .ok (.bipush 12, 2) := by decide +kernel
theorem dX3_chooses_170 : decode cX3_chooses 170 = .ok (.iload 5, 2) := by decide +kernel
theorem dX3_chooses_172 : decode cX3_chooses 172 = .ok (.imul, 1) := by decide +kernel
theorem dX3_chooses_173 : decode cX3_chooses 173 = .ok (.iadd, 1) := by decide +kernel
theorem dX3_chooses_174 : decode cX3_chooses 174 = .ok (.iload_n 2, 1) := by decide +kernel
theorem dX3_chooses_175 : decode cX3_chooses 175 = .ok (.iadd, 1) := by decide +kernel
theorem dX3_chooses_176 : decode cX3_chooses 176 = .ok (.iaload, 1) := by decide +kernel
theorem dX3_chooses_177 : decode cX3_chooses 177 = .ok (.istore 6, 2) := by decide +kernel
theorem dX3_chooses_179 : decode cX3_chooses 179 = .ok (.iload 5, 2) := by decide +kernel
theorem dX3_chooses_181 : decode cX3_chooses 181 = .ok (.iconst (-1), 1) := by decide +kernel
theorem dX3_chooses_182 : decode cX3_chooses 182 = .ok (.if_icmp .ne 7, 3) := by decide +kernel
theorem dX3_chooses_185 : decode cX3_chooses 185 = .ok (.iconst (-1), 1) := by decide +kernel
theorem dX3_chooses_186 : decode cX3_chooses 186 = .ok (.goto 5, 3) := by decide +kernel
theorem dX3_chooses_189 : decode cX3_chooses 189 = .ok (.iload 4, 2) := by decide +kernel
theorem dX3_chooses_191 : decode cX3_chooses 191 = .ok (.istore 7, 2) := by decide +kernel
theorem dX3_chooses_193 : decode cX3_chooses 193 = .ok (.iload 5, 2) := by decide +kernel
theorem dX3_chooses_195 : decode cX3_chooses 195 = .ok (.aload_n 0, 1) := by decide +kernel
theorem dX3_chooses_196 : decode cX3_chooses 196 = .ok (.getfield 22, 3) := by decide +kernel
theorem dX3_chooses_199 : decode cX3_chooses 199 = .ok (.iload_n 3, 1) := by decide +kernel
theorem dX3_chooses_200 : decode cX3_chooses 200 = .ok (.iaload, 1) := by decide +kernel
theorem dX3_chooses_201 : decode cX3_chooses 201 = .ok (.if_icmp .ne 26, 3) := by decide +kernel
theorem dX3_chooses_204 : decode cX3_chooses 204 = .ok (.iload 6, 2) := by decide +kernel
theorem dX3_chooses_206 : decode cX3_chooses 206 = .ok (.aload_n 0, 1) := by decide +kernel
theorem dX3_chooses_207 : decode cX3_chooses 207 = .ok (.getfield 25, 3) := by decide +kernel
theorem dX3_chooses_210 : decode cX3_chooses 210 = .ok (.iload_n 3, 1) := by decide +kernel
theorem dX3_chooses_211 : decode cX3_chooses 211 = .ok (.iaload, 1) := by decide +kernel
theorem dX3_chooses_212 : decode cX3_chooses 212 = .ok (.if_icmp .ne 15, 3) := by decide +kernel
theorem dX3_chooses_215 : decode cX3_chooses 215 = .ok (.iload 7, 2) := by decide +kernel
theorem dX3_chooses_217 : decode cX3_chooses 217 = .ok (.aload_n 0, 1) := by decide +kernel
theorem dX3_chooses_218 : decode cX3_chooses 218 = .ok (.getfield 28, 3) := by decide +kernel
theorem dX3_chooses_221 : decode cX3_chooses 221 = .ok (.iload_n 3, 1) := by decide +kernel
theorem dX3_chooses_222 : decode cX3_chooses 222 = .ok (.iaload, 1) := by decide +kernel
theorem dX3_chooses_223 : decode cX3_chooses 223 = .ok (.if_icmp .ne 4, 3) := by decide +kernel
theorem dX3_chooses_226 : decode cX3_chooses 226 = .ok (.return_, 1) := by decide +kernel
theorem dX3_chooses_227 : decode cX3_chooses 227 = .ok (.aload_n 0, 1) := by decide +kernel
theorem dX3_chooses_228 : decode cX3_chooses 228 = .ok (.getfield 22, 3) := by decide +kernel
theorem dX3_chooses_231 : decode cX3_chooses 231 = .ok (.iload_n 3, 1) := by decide +kernel
theorem dX3_chooses_232 : decode cX3_chooses 232 = .ok (.iload 5, 2) := by decide +kernel
theorem dX3_chooses_234 : decode cX3_chooses 234 = .ok (.iastore, 1) := by decide +kernel
theorem dX3_chooses_235 : decode cX3_chooses 235 = .ok (.aload_n 0, 1) := by decide +kernel
theorem dX3_chooses_236 : decode cX3_chooses 236 = .ok (.getfield 25, 3) := by decide +kernel
theorem dX3_chooses_239 : decode cX3_chooses 239 = .ok (.iload_n 3, 1) := by decide +kernel
theorem dX3_chooses_240 : decode cX3_chooses 240 = .ok (.iload 6, 2) := by decide +kernel
theorem dX3_chooses_242 : decode cX3_chooses 242 = .ok (.iastore, 1) := by decide +kernel
theorem dX3_chooses_243 : decode cX3_chooses 243 = .ok (.aload_n 0, 1) := by decide +kernel
theorem dX3_chooses_244 : decode cX3_chooses 244 = .ok (.getfield 28, 3) := by decide +kernel
theorem dX3_chooses_247 : decode cX3_chooses 247 = .ok (.iload_n 3, 1) := by decide +kernel
theorem dX3_chooses_248 : decode cX3_chooses 248 = .ok (.iload 7, 2) := by decide +kernel
theorem dX3_chooses_250 : decode cX3_chooses 250 = .ok (.iastore, 1) := by decide +kernel
theorem dX3_chooses_251 : decode cX3_chooses 251 = .ok (.aload_n 0, 1) := by decide +kernel
theorem dX3_chooses_252 : decode cX3_chooses 252 = .ok (.iload_n 1, 1) := by decide +kernel
theorem dX3_chooses_253 : decode cX3_chooses 253 = .ok (.iload_n 2, 1) := by decide +kernel
theorem dX3_chooses_254 : decode cX3_chooses 254 = .ok (.invokevirtual 78, 3) := by decide +kernel
theorem dX3_chooses_257 : decode cX3_chooses 257 = .ok (.iload 5, 2) := by decide +kernel
theorem dX3_chooses_259 : decode cX3_chooses 259 = .ok (.iconst (-1), 1) := by decide +kernel
theorem dX3_chooses_260 : decode cX3_chooses 260 = .ok (.if_icmp .ne 18, 3) := by decide +kernel
theorem dX3_chooses_263 : decode cX3_chooses 263 = .ok (.aload_n 0, 1) := by decide +kernel
theorem dX3_chooses_264 : decode cX3_chooses 264 = .ok (.iload_n 1, 1) := by decide +kernel
theorem dX3_chooses_265 : decode cX3_chooses 265 = .ok (.iload_n 2, 1) := by decide +kernel
theorem dX3_chooses_266 : decode cX3_chooses 266 = .ok (.aload_n 0, 1) := by decide +kernel
theorem dX3_chooses_267 : decode cX3_chooses 267 = .ok (.iload_n 1, 1) := by decide +kernel
theorem dX3_chooses_268 : decode cX3_chooses 268 = .ok (.iload_n 2, 1) := by decide +kernel
theorem dX3_chooses_269 : decode cX3_chooses 269 = .ok (.invokevirtual 82, 3) := by decide +kernel
theorem dX3_chooses_272 : decode cX3_chooses 272 = .ok (.bipush 8, 2) := by decide +kernel
theorem dX3_chooses_274 : decode cX3_chooses 274 = .ok (.iconst (-1), 1) := by decide +kernel
theorem dX3_chooses_275 : decode cX3_chooses 275 = .ok (.invokevirtual 86, 3) := by decide +kernel
theorem dX3_chooses_278 : decode cX3_chooses 278 = .ok (.return_, 1) := by decide +kernel
theorem dX3_choosesAll_0 : decode cX3_choosesAll 0 = .ok (.iconst 0, 1) := by decide +kernel
theorem dX3_choosesAll_1 : decode cX3_choosesAll 1 = .ok (.istore_n 2, 1) := by decide +kernel
theorem dX3_choosesAll_2 : decode cX3_choosesAll 2 = .ok (.iload_n 2, 1) := by decide +kernel
theorem dX3_choosesAll_3 : decode cX3_choosesAll 3 = .ok (.bipush 12, 2) := by decide +kernel
theorem dX3_choosesAll_5 : decode cX3_choosesAll 5 = .ok (.if_icmp .ge 20, 3) := by decide +kernel
theorem dX3_choosesAll_8 : decode cX3_choosesAll 8 = .ok (.iload_n 2, 1) := by decide +kernel
theorem dX3_choosesAll_9 : decode cX3_choosesAll 9 = .ok (.iload_n 1, 1) := by decide +kernel
theorem dX3_choosesAll_10 : decode cX3_choosesAll 10 = .ok (.if_icmp .eq 9, 3) := by decide +kernel
theorem dX3_choosesAll_13 : decode cX3_choosesAll 13 = .ok (.aload_n 0, 1) := by decide +kernel
theorem dX3_choosesAll_14 : decode cX3_choosesAll 14 = .ok (.iload_n 1, 1) := by decide +kernel
theorem dX3_choosesAll_15 : decode cX3_choosesAll 15 = .ok (.iload_n 2, 1) := by decide +kernel
theorem dX3_choosesAll_16 : decode cX3_choosesAll 16 = .ok (.invokevirtual 90, 3) := by decide +kernel
theorem dX3_choosesAll_19 : decode cX3_choosesAll 19 = .ok (.iinc 2 1, 3) := by decide +kernel
theorem dX3_choosesAll_22 : decode cX3_choosesAll 22 = .ok (.goto (-20), 3) := by decide +kernel
theorem dX3_choosesAll_25 : decode cX3_choosesAll 25 = .ok (.return_, 1) := by decide +kernel
theorem dX3_link_0 : decode cX3_link 0 = .ok (.aload_n 0, 1) := by decide +kernel
theorem dX3_link_1 : decode cX3_link 1 = .ok (.iload_n 1, 1) := by decide +kernel
theorem dX3_link_2 : decode cX3_link 2 = .ok (.invokestatic 93, 3) := by decide +kernel
theorem dX3_link_5 : decode cX3_link 5 = .ok (.ifCond .eq 26, 3) := by decide +kernel
theorem dX3_link_8 : decode cX3_link 8 = .ok (.iload_n 2, 1) := by decide +kernel
theorem dX3_link_9 : decode cX3_link 9 = .ok (.invokestatic 93, 3) := by decide +kernel
theorem dX3_link_12 : decode cX3_link 12 = .ok (.ifCond .eq 19, 3) := by decide +kernel
theorem dX3_link_15 : decode cX3_link 15 = .ok (.iload_n 1, 1) := by decide +kernel
theorem dX3_link_16 : decode cX3_link 16 = .ok (.iload_n 2, 1) := by decide +kernel
theorem dX3_link_17 : decode cX3_link 17 = .ok (.if_icmp .eq 14, 3) := by decide +kernel
theorem dX3_link_20 : decode cX3_link 20 = .ok (.iload_n 3, 1) := by decide +kernel
theorem dX3_link_21 : decode cX3_link 21 = .ok (.ifCond .lt 10, 3) := by decide +kernel
theorem dX3_link_24 : decode cX3_link 24 = .ok (.iload_n 3, 1) := by decide +kernel
theorem dX3_link_25 : decode cX3_link 25 = .ok (.sipush 1000, 3) := by decide +kernel
theorem dX3_link_28 : decode cX3_link 28 = .ok (.if_icmp .le 7, 3) := by decide +kernel
theorem dX3_link_31 : decode cX3_link 31 = .ok (.iconst 1, 1) := by decide +kernel
theorem dX3_link_32 : decode cX3_link 32 = .ok (.goto 4, 3) := by decide +kernel
theorem dX3_link_35 : decode cX3_link 35 = .ok (.iconst 0, 1) := by decide +kernel
theorem dX3_link_36 : decode cX3_link 36 = .ok (.invokevirtual 97, 3) := by decide +kernel
theorem dX3_link_39 : decode cX3_link 39 = .ok (.ifCond .eq 5, 3) := by decide +kernel
theorem dX3_link_42 : decode cX3_link 42 = .ok (.iconst 0, 1) := by decide +kernel
theorem dX3_link_43 : decode cX3_link 43 = .ok (.ireturn, 1) := by decide +kernel
theorem dX3_link_44 : decode cX3_link 44 = .ok (.aload_n 0, 1) := by decide +kernel
theorem dX3_link_45 : decode cX3_link 45 = .ok (.getfield 7, 3) := by decide +kernel
theorem dX3_link_48 : decode cX3_link 48 = .ok (.bipush 12, 2) := by decide +kernel
theorem dX3_link_50 : decode cX3_link 50 = .ok (.iload_n 1, 1) := by decide +kernel
theorem dX3_link_51 : decode cX3_link 51 = .ok (.imul, 1) := by decide +kernel
theorem dX3_link_52 : decode cX3_link 52 = .ok (.iload_n 2, 1) := by decide +kernel
theorem dX3_link_53 : decode cX3_link 53 = .ok (.iadd, 1) := by decide +kernel
theorem dX3_link_54 : decode cX3_link 54 = .ok (.iaload, 1) := by decide +kernel
theorem dX3_link_55 : decode cX3_link 55 = .ok (.istore 4, 2) := by decide +kernel
theorem dX3_link_57 : decode cX3_link 57 = .ok (.iload_n 1, 1) := by decide +kernel
theorem dX3_link_58 : decode cX3_link 58 = .ok (.iload_n 2, 1) := by decide +kernel
theorem dX3_link_59 : decode cX3_link 59 = .ok (.if_icmp .ge 7, 3) := by decide +kernel
theorem dX3_link_62 : decode cX3_link 62 = .ok (.iload_n 1, 1) := by decide +kernel
theorem dX3_link_63 : decode cX3_link 63 = .ok (.goto 4, 3) := by decide +kernel
theorem dX3_link_66 : decode cX3_link 66 = .ok (.iload_n 2, 1) := by decide +kernel
theorem dX3_link_67 : decode cX3_link 67 = .ok (.istore 5, 2) := by decide +kernel
theorem dX3_link_69 : decode cX3_link 69 = .ok (.iload_n 1, 1) := by decide +kernel
theorem dX3_link_70 : decode cX3_link 70 = .ok (.iload_n 2, 1) := by decide +kernel
theorem dX3_link_71 : decode cX3_link 71 = .ok (.if_icmp .ge 7, 3) := by decide +kernel
theorem dX3_link_74 : decode cX3_link 74 = .ok (.iload_n 2, 1) := by decide +kernel
theorem dX3_link_75 : decode cX3_link 75 = .ok (.goto 4, 3) := by decide +kernel
theorem dX3_link_78 : decode cX3_link 78 = .ok (.iload_n 1, 1) := by decide +kernel
theorem dX3_link_79 : decode cX3_link 79 = .ok (.istore 6, 2) := by decide +kernel
theorem dX3_link_81 : decode cX3_link 81 = .ok (.aload_n 0, 1) := by decide +kernel
theorem dX3_link_82 : decode cX3_link 82 = .ok (.getfield 7, 3) := by decide +kernel
theorem dX3_link_85 : decode cX3_link 85 = .ok (.bipush 12, 2) := by decide +kernel
theorem dX3_link_87 : decode cX3_link 87 = .ok (.iload_n 1, 1) := by decide +kernel
theorem dX3_link_88 : decode cX3_link 88 = .ok (.imul, 1) := by decide +kernel
theorem dX3_link_89 : decode cX3_link 89 = .ok (.iload_n 2, 1) := by decide +kernel
theorem dX3_link_90 : decode cX3_link 90 = .ok (.iadd, 1) := by decide +kernel
theorem dX3_link_91 : decode cX3_link 91 = .ok (.iload_n 3, 1) := by decide +kernel
theorem dX3_link_92 : decode cX3_link 92 = .ok (.iastore, 1) := by decide +kernel
theorem dX3_link_93 : decode cX3_link 93 = .ok (.aload_n 0, 1) := by decide +kernel
theorem dX3_link_94 : decode cX3_link 94 = .ok (.getfield 7, 3) := by decide +kernel
theorem dX3_link_97 : decode cX3_link 97 = .ok (.bipush 12, 2) := by decide +kernel
theorem dX3_link_99 : decode cX3_link 99 = .ok (.iload_n 2, 1) := by decide +kernel
theorem dX3_link_100 : decode cX3_link 100 = .ok (.imul, 1) := by decide +kernel
theorem dX3_link_101 : decode cX3_link 101 = .ok (.iload_n 1, 1) := by decide +kernel
theorem dX3_link_102 : decode cX3_link 102 = .ok (.iadd, 1) := by decide +kernel
theorem dX3_link_103 : decode cX3_link 103 = .ok (.iload_n 3, 1) := by decide +kernel
theorem dX3_link_104 : decode cX3_link 104 = .ok (.iastore, 1) := by decide +kernel
theorem dX3_link_105 : decode cX3_link 105 = .ok (.iload 4, 2) := by decide +kernel
theorem dX3_link_107 : decode cX3_link 107 = .ok (.ifCond .ne 36, 3) := by decide +kernel
theorem dX3_link_110 : decode cX3_link 110 = .ok (.iload_n 3, 1) := by decide +kernel
theorem dX3_link_111 : decode cX3_link 111 = .ok (.ifCond .le 32, 3) := by decide +kernel
theorem dX3_link_114 : decode cX3_link 114 = .ok (.aload_n 0, 1) := by decide +kernel
theorem dX3_link_115 : decode cX3_link 115 = .ok (.dup, 1) := by decide +kernel
theorem dX3_link_116 : decode cX3_link 116 = .ok (.getfield 100, 3) := by decide +kernel
theorem dX3_link_119 : decode cX3_link 119 = .ok (.iconst 1, 1) := by decide +kernel
theorem dX3_link_120 : decode cX3_link 120 = .ok (.iadd, 1) := by decide +kernel
theorem dX3_link_121 : decode cX3_link 121 = .ok (.putfield 100, 3) := by decide +kernel
theorem dX3_link_124 : decode cX3_link 124 = .ok (.aload_n 0, 1) := by decide +kernel
theorem dX3_link_125 : decode cX3_link 125 = .ok (.iload 5, 2) := by decide +kernel
theorem dX3_link_127 : decode cX3_link 127 = .ok (.iload 6, 2) := by decide +kernel
theorem dX3_link_129 : decode cX3_link 129 = .ok (.invokevirtual 103, 3) := by decide +kernel
theorem dX3_link_132 : decode cX3_link 132 = .ok (.aload_n 0, 1) := by decide +kernel
theorem dX3_link_133 : decode cX3_link 133 = .ok (.iload 6, 2) := by decide +kernel
theorem dX3_link_135 : decode cX3_link 135 = .ok (.iload 5, 2) := by decide +kernel
theorem dX3_link_137 : decode cX3_link 137 = .ok (.invokevirtual 103, 3) := by decide +kernel
theorem dX3_link_140 : decode cX3_link 140 = .ok (.goto 143, 3) := by decide +kernel
theorem dX3_link_143 : decode cX3_link 143 = .ok (.iload 4, 2) := by decide +kernel
theorem dX3_link_145 : decode cX3_link 145 = .ok (.iload_n 3, 1) := by decide +kernel
theorem dX3_link_146 : decode cX3_link 146 = .ok (.if_icmp .eq 137, 3) := by decide +kernel
theorem dX3_link_149 : decode cX3_link 149 = .ok (.aload_n 0, 1) := by decide +kernel
theorem dX3_link_150 : decode cX3_link 150 = .ok (.dup, 1) := by decide +kernel
theorem dX3_link_151 : decode cX3_link 151 = .ok (.getfield 100, 3) := by decide +kernel
theorem dX3_link_154 : decode cX3_link 154 = .ok (.iload_n 3, 1) := by decide +kernel
theorem dX3_link_155 : decode cX3_link 155 = .ok (.ifCond .ne 7, 3) := by decide +kernel
theorem dX3_link_158 : decode cX3_link 158 = .ok (.iconst 1, 1) := by decide +kernel
theorem dX3_link_159 : decode cX3_link 159 = .ok (.goto 4, 3) := by decide +kernel
theorem dX3_link_162 : decode cX3_link 162 = .ok (.iconst 0, 1) := by decide +kernel
theorem dX3_link_163 : decode cX3_link 163 = .ok (.isub, 1) := by decide +kernel
theorem dX3_link_164 : decode cX3_link 164 = .ok (.putfield 100, 3) := by decide +kernel
theorem dX3_link_167 : decode cX3_link 167 = .ok (.iconst 0, 1) := by decide +kernel
theorem dX3_link_168 : decode cX3_link 168 = .ok (.istore 7, 2) := by decide +kernel
theorem dX3_link_170 : decode cX3_link 170 = .ok (.iload 7, 2) := by decide +kernel
theorem dX3_link_172 : decode cX3_link 172 = .ok (.bipush 12, 2) := by decide +kernel
theorem dX3_link_174 : decode cX3_link 174 = .ok (.if_icmp .ge 97, 3) := by decide +kernel
theorem dX3_link_177 : decode cX3_link 177 = .ok (.iload_n 3, 1) := by decide +kernel
theorem dX3_link_178 : decode cX3_link 178 = .ok (.ifCond .ne 93, 3) := by decide +kernel
theorem dX3_link_181 : decode cX3_link 181 = .ok (.aload_n 0, 1) := by decide +kernel
theorem dX3_link_182 : decode cX3_link 182 = .ok (.getfield 34, 3) := by decide +kernel
theorem dX3_link_185 : decode cX3_link 185 = .ok (.sipush 144, 3) := by decide +kernel
theorem dX3_link_188 : decode cX3_link 188 = .ok (.iload 5, 2) := by decide +kernel
theorem dX3_link_190 : decode cX3_link 190 = .ok (.imul, 1) := by decide +kernel
theorem dX3_link_191 : decode cX3_link 191 = .ok (.bipush 12, 2) := by decide +kernel
theorem dX3_link_193 : decode cX3_link 193 = .ok (.iload 6, 2) := by decide +kernel
theorem dX3_link_195 : decode cX3_link 195 = .ok (.imul, 1) := by decide +kernel
theorem dX3_link_196 : decode cX3_link 196 = .ok (.iadd, 1) := by decide +kernel
theorem dX3_link_197 : decode cX3_link 197 = .ok (.iload 7, 2) := by decide +kernel
theorem dX3_link_199 : decode cX3_link 199 = .ok (.iadd, 1) := by decide +kernel
theorem dX3_link_200 : decode cX3_link 200 = .ok (.iconst (-1), 1) := by decide +kernel
theorem dX3_link_201 : decode cX3_link 201 = .ok (.iastore, 1) := by decide +kernel
theorem dX3_link_202 : decode cX3_link 202 = .ok (.aload_n 0, 1) := by decide +kernel
theorem dX3_link_203 : decode cX3_link 203 = .ok (.getfield 37, 3) := by decide +kernel
theorem dX3_link_206 : decode cX3_link 206 = .ok (.sipush 144, 3) := by decide +kernel
theorem dX3_link_209 : decode cX3_link 209 = .ok (.iload 5, 2) := by decide +kernel
theorem dX3_link_211 : decode cX3_link 211 = .ok (.imul, 1) := by decide +kernel
theorem dX3_link_212 : decode cX3_link 212 = .ok (.bipush 12, 2) := by decide +kernel
theorem dX3_link_214 : decode cX3_link 214 = .ok (.iload 6, 2) := by decide +kernel
theorem dX3_link_216 : decode cX3_link 216 = .ok (.imul, 1) := by decide +kernel
theorem dX3_link_217 : decode cX3_link 217 = .ok (.iadd, 1) := by decide +kernel
theorem dX3_link_218 : decode cX3_link 218 = .ok (.iload 7, 2) := by decide +kernel
theorem dX3_link_220 : decode cX3_link 220 = .ok (.iadd, 1) := by decide +kernel
theorem dX3_link_221 : decode cX3_link 221 = .ok (.iconst (-1), 1) := by decide +kernel
theorem dX3_link_222 : decode cX3_link 222 = .ok (.iastore, 1) := by decide +kernel
theorem dX3_link_223 : decode cX3_link 223 = .ok (.aload_n 0, 1) := by decide +kernel
theorem dX3_link_224 : decode cX3_link 224 = .ok (.getfield 34, 3) := by decide +kernel
theorem dX3_link_227 : decode cX3_link 227 = .ok (.sipush 144, 3) := by decide +kernel
theorem dX3_link_230 : decode cX3_link 230 = .ok (.iload 6, 2) := by decide +kernel
theorem dX3_link_232 : decode cX3_link 232 = .ok (.imul, 1) := by decide +kernel
theorem dX3_link_233 : decode cX3_link 233 = .ok (.bipush 12, 2) := by decide +kernel
theorem dX3_link_235 : decode cX3_link 235 = .ok (.iload 5, 2) := by decide +kernel
theorem dX3_link_237 : decode cX3_link 237 = .ok (.imul, 1) := by decide +kernel
theorem dX3_link_238 : decode cX3_link 238 = .ok (.iadd, 1) := by decide +kernel
theorem dX3_link_239 : decode cX3_link 239 = .ok (.iload 7, 2) := by decide +kernel
theorem dX3_link_241 : decode cX3_link 241 = .ok (.iadd, 1) := by decide +kernel
theorem dX3_link_242 : decode cX3_link 242 = .ok (.iconst (-1), 1) := by decide +kernel
theorem dX3_link_243 : decode cX3_link 243 = .ok (.iastore, 1) := by decide +kernel
theorem dX3_link_244 : decode cX3_link 244 = .ok (.aload_n 0, 1) := by decide +kernel
theorem dX3_link_245 : decode cX3_link 245 = .ok (.getfield 37, 3) := by decide +kernel
theorem dX3_link_248 : decode cX3_link 248 = .ok (.sipush 144, 3) := by decide +kernel
theorem dX3_link_251 : decode cX3_link 251 = .ok (.iload 6, 2) := by decide +kernel
theorem dX3_link_253 : decode cX3_link 253 = .ok (.imul, 1) := by decide +kernel
theorem dX3_link_254 : decode cX3_link 254 = .ok (.bipush 12, 2) := by decide +kernel
theorem dX3_link_256 : decode cX3_link 256 = .ok (.iload 5, 2) := by decide +kernel
theorem dX3_link_258 : decode cX3_link 258 = .ok (.imul, 1) := by decide +kernel
theorem dX3_link_259 : decode cX3_link 259 = .ok (.iadd, 1) := by decide +kernel
theorem dX3_link_260 : decode cX3_link 260 = .ok (.iload 7, 2) := by decide +kernel
theorem dX3_link_262 : decode cX3_link 262 = .ok (.iadd, 1) := by decide +kernel
theorem dX3_link_263 : decode cX3_link 263 = .ok (.iconst (-1), 1) := by decide +kernel
theorem dX3_link_264 : decode cX3_link 264 = .ok (.iastore, 1) := by decide +kernel
theorem dX3_link_265 : decode cX3_link 265 = .ok (.iinc 7 1, 3) := by decide +kernel
theorem dX3_link_268 : decode cX3_link 268 = .ok (.goto (-98), 3) := by decide +kernel
theorem dX3_link_271 : decode cX3_link 271 = .ok (.aload_n 0, 1) := by decide +kernel
theorem dX3_link_272 : decode cX3_link 272 = .ok (.iload 5, 2) := by decide +kernel
theorem dX3_link_274 : decode cX3_link 274 = .ok (.invokevirtual 106, 3) := by decide +kernel
theorem dX3_link_277 : decode cX3_link 277 = .ok (.aload_n 0, 1) := by decide +kernel
theorem dX3_link_278 : decode cX3_link 278 = .ok (.iload 6, 2) := by decide +kernel
theorem dX3_link_280 : decode cX3_link 280 = .ok (.invokevirtual 106, 3) := by decide +kernel
theorem dX3_link_283 : decode cX3_link 283 = .ok (.iload 4, 2) := by decide +kernel
theorem dX3_link_285 : decode cX3_link 285 = .ok (.ireturn, 1) := by decide +kernel
theorem dX3_introduces_0 : decode cX3_introduces 0 = .ok (.iconst 0, 1) := by decide +kernel
theorem dX3_introduces_1 : decode cX3_introduces 1 = .ok (.istore_n 3, 1) := by decide +kernel
theorem dX3_introduces_2 : decode cX3_introduces 2 = .ok (.iload_n 3, 1) := by decide +kernel
theorem dX3_introduces_3 : decode cX3_introduces 3 = .ok (.bipush 12, 2) := by decide +kernel
theorem dX3_introduces_5 : decode cX3_introduces 5 = .ok (.if_icmp .ge 36, 3) := by decide +kernel
theorem dX3_introduces_8 : decode cX3_introduces 8 = .ok (.iload_n 3, 1) := by decide +kernel
theorem dX3_introduces_9 : decode cX3_introduces 9 = .ok (.iload_n 1, 1) := by decide +kernel
theorem dX3_introduces_10 : decode cX3_introduces 10 = .ok (.if_icmp .eq 18, 3) := by decide +kernel
theorem dX3_introduces_13 : decode cX3_introduces 13 = .ok (.aload_n 0, 1) := by decide +kernel
theorem dX3_introduces_14 : decode cX3_introduces 14 = .ok (.getfield 22, 3) := by decide +kernel
theorem dX3_introduces_17 : decode cX3_introduces 17 = .ok (.bipush 12, 2) := by decide +kernel
theorem dX3_introduces_19 : decode cX3_introduces 19 = .ok (.iload_n 1, 1) := by decide +kernel
theorem dX3_introduces_20 : decode cX3_introduces 20 = .ok (.imul, 1) := by decide +kernel
theorem dX3_introduces_21 : decode cX3_introduces 21 = .ok (.iload_n 3, 1) := by decide +kernel
theorem dX3_introduces_22 : decode cX3_introduces 22 = .ok (.iadd, 1) := by decide +kernel
theorem dX3_introduces_23 : decode cX3_introduces 23 = .ok (.iaload, 1) := by decide +kernel
theorem dX3_introduces_24 : decode cX3_introduces 24 = .ok (.iconst (-1), 1) := by decide +kernel
theorem dX3_introduces_25 : decode cX3_introduces 25 = .ok (.if_icmp .eq 10, 3) := by decide +kernel
theorem dX3_introduces_28 : decode cX3_introduces 28 = .ok (.aload_n 0, 1) := by decide +kernel
theorem dX3_introduces_29 : decode cX3_introduces 29 = .ok (.iload_n 1, 1) := by decide +kernel
theorem dX3_introduces_30 : decode cX3_introduces 30 = .ok (.iload_n 2, 1) := by decide +kernel
theorem dX3_introduces_31 : decode cX3_introduces 31 = .ok (.iload_n 3, 1) := by decide +kernel
theorem dX3_introduces_32 : decode cX3_introduces 32 = .ok (.invokevirtual 65, 3) := by decide +kernel
theorem dX3_introduces_35 : decode cX3_introduces 35 = .ok (.iinc 3 1, 3) := by decide +kernel
theorem dX3_introduces_38 : decode cX3_introduces 38 = .ok (.goto (-36), 3) := by decide +kernel
theorem dX3_introduces_41 : decode cX3_introduces 41 = .ok (.return_, 1) := by decide +kernel
theorem dX3_announce_0 : decode cX3_announce 0 = .ok (.aload_n 0, 1) := by decide +kernel
theorem dX3_announce_1 : decode cX3_announce 1 = .ok (.iload_n 1, 1) := by decide +kernel
theorem dX3_announce_2 : decode cX3_announce 2 = .ok (.invokestatic 93, 3) := by decide +kernel
theorem dX3_announce_5 : decode cX3_announce 5 = .ok (.ifCond .eq 7, 3) := by decide +kernel
theorem dX3_announce_8 : decode cX3_announce 8 = .ok (.iconst 0, 1) := by decide +kernel
theorem dX3_announce_9 : decode cX3_announce 9 = .ok (.goto 4, 3) := by decide +kernel
theorem dX3_announce_12 : decode cX3_announce 12 = .ok (.iconst 1, 1) := by decide +kernel
theorem dX3_announce_13 : decode cX3_announce 13 = .ok (.invokevirtual 97, 3) := by decide +kernel
theorem dX3_announce_16 : decode cX3_announce 16 = .ok (.ifCond .eq 5, 3) := by decide +kernel
theorem dX3_announce_19 : decode cX3_announce 19 = .ok (.iconst 0, 1) := by decide +kernel
theorem dX3_announce_20 : decode cX3_announce 20 = .ok (.ireturn, 1) := by decide +kernel
theorem dX3_announce_21 : decode cX3_announce 21 = .ok (.aload_n 0, 1) := by decide +kernel
theorem dX3_announce_22 : decode cX3_announce 22 = .ok (.getfield 48, 3) := by decide +kernel
theorem dX3_announce_25 : decode cX3_announce 25 = .ok (.istore_n 2, 1) := by decide +kernel
