theorem dX12_init_0 : decode cX12_init 0 = .ok (.aload_n 0, 1) := by decide +kernel
theorem dX12_init_1 : decode cX12_init 1 = .ok (.invokespecial 1, 3) := by decide +kernel
theorem dX12_init_4 : decode cX12_init 4 = .ok (.aload_n 0, 1) := by decide +kernel
theorem dX12_init_5 : decode cX12_init 5 = .ok (.iconst 4, 1) := by decide +kernel
theorem dX12_init_6 : decode cX12_init 6 = .ok (.newarray .int, 2) := by decide +kernel
theorem dX12_init_8 : decode cX12_init 8 = .ok (.dup, 1) := by decide +kernel
theorem dX12_init_9 : decode cX12_init 9 = .ok (.iconst 0, 1) := by decide +kernel
theorem dX12_init_10 : decode cX12_init 10 = .ok (.bipush (-9), 2) := by decide +kernel
theorem dX12_init_12 : decode cX12_init 12 = .ok (.iastore, 1) := by decide +kernel
theorem dX12_init_13 : decode cX12_init 13 = .ok (.dup, 1) := by decide +kernel
theorem dX12_init_14 : decode cX12_init 14 = .ok (.iconst 1, 1) := by decide +kernel
theorem dX12_init_15 : decode cX12_init 15 = .ok (.bipush (-9), 2) := by decide +kernel
theorem dX12_init_17 : decode cX12_init 17 = .ok (.iastore, 1) := by decide +kernel
theorem dX12_init_18 : decode cX12_init 18 = .ok (.dup, 1) := by decide +kernel
theorem dX12_init_19 : decode cX12_init 19 = .ok (.iconst 2, 1) := by decide +kernel
theorem dX12_init_20 : decode cX12_init 20 = .ok (.bipush (-9), 2) := by decide +kernel
theorem dX12_init_22 : decode cX12_init 22 = .ok (.iastore, 1) := by decide +kernel
theorem dX12_init_23 : decode cX12_init 23 = .ok (.dup, 1) := by decide +kernel
theorem dX12_init_24 : decode cX12_init 24 = .ok (.iconst 3, 1) := by decide +kernel
theorem dX12_init_25 : decode cX12_init 25 = .ok (.bipush (-9), 2) := by decide +kernel
theorem dX12_init_27 : decode cX12_init 27 = .ok (.iastore, 1) := by decide +kernel
theorem dX12_init_28 : decode cX12_init 28 = .ok (.putfield 9, 3) := by decide +kernel
theorem dX12_init_31 : decode cX12_init 31 = .ok (.aload_n 0, 1) := by decide +kernel
theorem dX12_init_32 : decode cX12_init 32 = .ok (.iconst 4, 1) := by decide +kernel
theorem dX12_init_33 : decode cX12_init 33 = .ok (.newarray .int, 2) := by decide +kernel
theorem dX12_init_35 : decode cX12_init 35 = .ok (.putfield 13, 3) := by decide +kernel
theorem dX12_init_38 : decode cX12_init 38 = .ok (.aload_n 0, 1) := by decide +kernel
theorem dX12_init_39 : decode cX12_init 39 = .ok (.sipush 240, 3) := by decide +kernel
theorem dX12_init_42 : decode cX12_init 42 = .ok (.newarray .int, 2) := by decide +kernel
theorem dX12_init_44 : decode cX12_init 44 = .ok (.putfield 16, 3) := by decide +kernel
theorem dX12_init_47 : decode cX12_init 47 = .ok (.aload_n 0, 1) := by decide +kernel
theorem dX12_init_48 : decode cX12_init 48 = .ok (.iconst 4, 1) := by decide +kernel
theorem dX12_init_49 : decode cX12_init 49 = .ok (.newarray .int, 2) := by decide +kernel
theorem dX12_init_51 : decode cX12_init 51 = .ok (.putfield 19, 3) := by decide +kernel
theorem dX12_init_54 : decode cX12_init 54 = .ok (.aload_n 0, 1) := by decide +kernel
theorem dX12_init_55 : decode cX12_init 55 = .ok (.iconst 4, 1) := by decide +kernel
theorem dX12_init_56 : decode cX12_init 56 = .ok (.newarray .int, 2) := by decide +kernel
theorem dX12_init_58 : decode cX12_init 58 = .ok (.putfield 22, 3) := by decide +kernel
theorem dX12_init_61 : decode cX12_init 61 = .ok (.aload_n 0, 1) := by decide +kernel
theorem dX12_init_62 : decode cX12_init 62 = .ok (.iconst 5, 1) := by decide +kernel
theorem dX12_init_63 : decode cX12_init 63 = .ok (.newarray .int, 2) := by decide +kernel
theorem dX12_init_65 : decode cX12_init 65 = .ok (.putfield 25, 3) := by decide +kernel
theorem dX12_init_68 : decode cX12_init 68 = .ok (.aload_n 0, 1) := by decide +kernel
theorem dX12_init_69 : decode cX12_init 69 = .ok (.iconst 5, 1) := by decide +kernel
theorem dX12_init_70 : decode cX12_init 70 = .ok (.newarray .int, 2) := by decide +kernel
theorem dX12_init_72 : decode cX12_init 72 = .ok (.putfield 28, 3) := by decide +kernel
theorem dX12_init_75 : decode cX12_init 75 = .ok (.aload_n 0, 1) := by decide +kernel
theorem dX12_init_76 : decode cX12_init 76 = .ok (.iconst 4, 1) := by decide +kernel
theorem dX12_init_77 : decode cX12_init 77 = .ok (.newarray .int, 2) := by decide +kernel
theorem dX12_init_79 : decode cX12_init 79 = .ok (.putfield 31, 3) := by decide +kernel
theorem dX12_init_82 : decode cX12_init 82 = .ok (.aload_n 0, 1) := by decide +kernel
theorem dX12_init_83 : decode cX12_init 83 = .ok (.bipush 32, 2) := by decide +kernel
theorem dX12_init_85 : decode cX12_init 85 = .ok (.newarray .int, 2) := by decide +kernel
theorem dX12_init_87 : decode cX12_init 87 = .ok (.putfield 34, 3) := by decide +kernel
theorem dX12_init_90 : decode cX12_init 90 = .ok (.aload_n 0, 1) := by decide +kernel
theorem dX12_init_91 : decode cX12_init 91 = .ok (.bipush 32, 2) := by decide +kernel
theorem dX12_init_93 : decode cX12_init 93 = .ok (.newarray .int, 2) := by decide +kernel
theorem dX12_init_95 : decode cX12_init 95 = .ok (.putfield 37, 3) := by decide +kernel
theorem dX12_init_98 : decode cX12_init 98 = .ok (.aload_n 0, 1) := by decide +kernel
theorem dX12_init_99 : decode cX12_init 99 = .ok (.bipush 8, 2) := by decide +kernel
theorem dX12_init_101 : decode cX12_init 101 = .ok (.newarray .int, 2) := by decide +kernel
theorem dX12_init_103 : decode cX12_init 103 = .ok (.putfield 40, 3) := by decide +kernel
theorem dX12_init_106 : decode cX12_init 106 = .ok (.aload_n 0, 1) := by decide +kernel
theorem dX12_init_107 : decode cX12_init 107 = .ok (.bipush 10, 2) := by decide +kernel
theorem dX12_init_109 : decode cX12_init 109 = .ok (.newarray .int, 2) := by decide +kernel
theorem dX12_init_111 : decode cX12_init 111 = .ok (.putfield 43, 3) := by decide +kernel
theorem dX12_init_114 : decode cX12_init 114 = .ok (.aload_n 0, 1) := by decide +kernel
theorem dX12_init_115 : decode cX12_init 115 = .ok (.iconst 4, 1) := by decide +kernel
theorem dX12_init_116 : decode cX12_init 116 = .ok (.newarray .int, 2) := by decide +kernel
theorem dX12_init_118 : decode cX12_init 118 = .ok (.putfield 46, 3) := by decide +kernel
theorem dX12_init_121 : decode cX12_init 121 = .ok (.aload_n 0, 1) := by decide +kernel
theorem dX12_init_122 : decode cX12_init 122 = .ok (.bipush 32, 2) := by decide +kernel
theorem dX12_init_124 : decode cX12_init 124 = .ok (.newarray .int, 2) := by decide +kernel
theorem dX12_init_126 : decode cX12_init 126 = .ok (.putfield 49, 3) := by decide +kernel
theorem dX12_init_129 : decode cX12_init 129 = .ok (.aload_n 0, 1) := by decide +kernel
theorem dX12_init_130 : decode cX12_init 130 = .ok (.bipush 32, 2) := by decide +kernel
theorem dX12_init_132 : decode cX12_init 132 = .ok (.newarray .int, 2) := by decide +kernel
theorem dX12_init_134 : decode cX12_init 134 = .ok (.putfield 52, 3) := by decide +kernel
theorem dX12_init_137 : decode cX12_init 137 = .ok (.aload_n 0, 1) := by decide +kernel
theorem dX12_init_138 : decode cX12_init 138 = .ok (.iconst 5, 1) := by decide +kernel
theorem dX12_init_139 : decode cX12_init 139 = .ok (.newarray .int, 2) := by decide +kernel
theorem dX12_init_141 : decode cX12_init 141 = .ok (.putfield 55, 3) := by decide +kernel
theorem dX12_init_144 : decode cX12_init 144 = .ok (.aload_n 0, 1) := by decide +kernel
theorem dX12_init_145 : decode cX12_init 145 = .ok (.iconst 5, 1) := by decide +kernel
theorem dX12_init_146 : decode cX12_init 146 = .ok (.newarray .int, 2) := by decide +kernel
theorem dX12_init_148 : decode cX12_init 148 = .ok (.putfield 58, 3) := by decide +kernel
theorem dX12_init_151 : decode cX12_init 151 = .ok (.aload_n 0, 1) := by decide +kernel
theorem dX12_init_152 : decode cX12_init 152 = .ok (.iconst 5, 1) := by decide +kernel
theorem dX12_init_153 : decode cX12_init 153 = .ok (.newarray .int, 2) := by decide +kernel
theorem dX12_init_155 : decode cX12_init 155 = .ok (.putfield 61, 3) := by decide +kernel
theorem dX12_init_158 : decode cX12_init 158 = .ok (.aload_n 0, 1) := by decide +kernel
theorem dX12_init_159 : decode cX12_init 159 = .ok (.iconst 4, 1) := by decide +kernel
theorem dX12_init_160 : decode cX12_init 160 = .ok (.newarray .int, 2) := by decide +kernel
theorem dX12_init_162 : decode cX12_init 162 = .ok (.putfield 64, 3) := by decide +kernel
theorem dX12_init_165 : decode cX12_init 165 = .ok (.aload_n 0, 1) := by decide +kernel
theorem dX12_init_166 : decode cX12_init 166 = .ok (.iconst 5, 1) := by decide +kernel
theorem dX12_init_167 : decode cX12_init 167 = .ok (.newarray .int, 2) := by decide +kernel
theorem dX12_init_169 : decode cX12_init 169 = .ok (.putfield 67, 3) := by decide +kernel
theorem dX12_init_172 : decode cX12_init 172 = .ok (.aload_n 0, 1) := by decide +kernel
theorem dX12_init_173 : decode cX12_init 173 = .ok (.bipush 8, 2) := by decide +kernel
theorem dX12_init_175 : decode cX12_init 175 = .ok (.newarray .int, 2) := by decide +kernel
theorem dX12_init_177 : decode cX12_init 177 = .ok (.putfield 70, 3) := by decide +kernel
theorem dX12_init_180 : decode cX12_init 180 = .ok (.aload_n 0, 1) := by decide +kernel
theorem dX12_init_181 : decode cX12_init 181 = .ok (.bipush 8, 2) := by decide +kernel
theorem dX12_init_183 : decode cX12_init 183 = .ok (.newarray .int, 2) := by decide +kernel
theorem dX12_init_185 : decode cX12_init 185 = .ok (.putfield 73, 3) := by decide +kernel
theorem dX12_init_188 : decode cX12_init 188 = .ok (.aload_n 0, 1) := by decide +kernel
theorem dX12_init_189 : decode cX12_init 189 = .ok (.bipush 8, 2) := by decide +kernel
theorem dX12_init_191 : decode cX12_init 191 = .ok (.newarray .int, 2) := by decide +kernel
theorem dX12_init_193 : decode cX12_init 193 = .ok (.putfield 76, 3) := by decide +kernel
theorem dX12_init_196 : decode cX12_init 196 = .ok (.return_, 1) := by decide +kernel
theorem dX12_fails_0 : decode cX12_fails 0 = .ok (.aload_n 0, 1) := by decide +kernel
theorem dX12_fails_1 : decode cX12_fails 1 = .ok (.iload_n 1, 1) := by decide +kernel
theorem dX12_fails_2 : decode cX12_fails 2 = .ok (.putfield 79, 3) := by decide +kernel
theorem dX12_fails_5 : decode cX12_fails 5 = .ok (.bipush (-10), 2) := by decide +kernel
theorem dX12_fails_7 : decode cX12_fails 7 = .ok (.iload_n 1, 1) := by decide +kernel
theorem dX12_fails_8 : decode cX12_fails 8 = .ok (.isub, 1) := by decide +kernel
theorem dX12_fails_9 : decode cX12_fails 9 = .ok (.ireturn, 1) := by decide +kernel
theorem dX12_lost_0 : decode cX12_lost 0 = .ok (.aload_n 0, 1) := by decide +kernel
theorem dX12_lost_1 : decode cX12_lost 1 = .ok (.iload_n 1, 1) := by decide +kernel
theorem dX12_lost_2 : decode cX12_lost 2 = .ok (.putfield 79, 3) := by decide +kernel
theorem dX12_lost_5 : decode cX12_lost 5 = .ok (.ldc2_w 83, 3) := by decide +kernel
theorem dX12_lost_8 : decode cX12_lost 8 = .ok (.lreturn, 1) := by decide +kernel
theorem dX12_within_0 : decode cX12_within 0 = .ok (.iload_n 0, 1) := by decide +kernel
theorem dX12_within_1 : decode cX12_within 1 = .ok (.iload_n 1, 1) := by decide +kernel
theorem dX12_within_2 : decode cX12_within 2 = .ok (.if_icmp .lt 12, 3) := by decide +kernel
theorem dX12_within_5 : decode cX12_within 5 = .ok (.iload_n 0, 1) := by decide +kernel
theorem dX12_within_6 : decode cX12_within 6 = .ok (.iload_n 2, 1) := by decide +kernel
theorem dX12_within_7 : decode cX12_within 7 = .ok (.if_icmp .gt 7, 3) := by decide +kernel
theorem dX12_within_10 : decode cX12_within 10 = .ok (.iconst 1, 1) := by decide +kernel
theorem dX12_within_11 : decode cX12_within 11 = .ok (.goto 4, 3) := by decide +kernel
theorem dX12_within_14 : decode cX12_within 14 = .ok (.iconst 0, 1) := by decide +kernel
theorem dX12_within_15 : decode cX12_within 15 = .ok (.ireturn, 1) := by decide +kernel
theorem dX12_isSheet_0 : decode cX12_isSheet 0 = .ok (.iload_n 0, 1) := by decide +kernel
theorem dX12_isSheet_1 : decode cX12_isSheet 1 = .ok (.iconst 0, 1) := by decide +kernel
theorem dX12_isSheet_2 : decode cX12_isSheet 2 = .ok (.iconst 3, 1) := by decide +kernel
theorem dX12_isSheet_3 : decode cX12_isSheet 3 = .ok (.invokestatic 85, 3) := by decide +kernel
theorem dX12_isSheet_6 : decode cX12_isSheet 6 = .ok (.ireturn, 1) := by decide +kernel
theorem dX12_isSort_0 : decode cX12_isSort 0 = .ok (.iload_n 0, 1) := by decide +kernel
theorem dX12_isSort_1 : decode cX12_isSort 1 = .ok (.iconst 0, 1) := by decide +kernel
theorem dX12_isSort_2 : decode cX12_isSort 2 = .ok (.iconst 2, 1) := by decide +kernel
theorem dX12_isSort_3 : decode cX12_isSort 3 = .ok (.invokestatic 85, 3) := by decide +kernel
theorem dX12_isSort_6 : decode cX12_isSort 6 = .ok (.ireturn, 1) := by decide +kernel
theorem dX12_against_0 : decode cX12_against 0 = .ok (.aload_n 0, 1) := by decide +kernel
theorem dX12_against_1 : decode cX12_against 1 = .ok (.getfield 9, 3) := by decide +kernel
theorem dX12_against_4 : decode cX12_against 4 = .ok (.iload_n 1, 1) := by decide +kernel
theorem dX12_against_5 : decode cX12_against 5 = .ok (.iaload, 1) := by decide +kernel
theorem dX12_against_6 : decode cX12_against 6 = .ok (.bipush (-9), 2) := by decide +kernel
theorem dX12_against_8 : decode cX12_against 8 = .ok (.if_icmp .eq 15, 3) := by decide +kernel
theorem dX12_against_11 : decode cX12_against 11 = .ok (.aload_n 0, 1) := by decide +kernel
theorem dX12_against_12 : decode cX12_against 12 = .ok (.getfield 9, 3) := by decide +kernel
theorem dX12_against_15 : decode cX12_against 15 = .ok (.iload_n 1, 1) := by decide +kernel
theorem dX12_against_16 : decode cX12_against 16 = .ok (.iaload, 1) := by decide +kernel
theorem dX12_against_17 : decode cX12_against 17 = .ok (.iload_n 2, 1) := by decide +kernel
theorem dX12_against_18 : decode cX12_against 18 = .ok (.if_icmp .eq 5, 3) := by decide +kernel
theorem dX12_against_21 : decode cX12_against 21 = .ok (.iconst 2, 1) := by decide +kernel
theorem dX12_against_22 : decode cX12_against 22 = .ok (.ireturn, 1) := by decide +kernel
theorem dX12_against_23 : decode cX12_against 23 = .ok (.aload_n 0, 1) := by decide +kernel
theorem dX12_against_24 : decode cX12_against 24 = .ok (.getfield 9, 3) := by decide +kernel
theorem dX12_against_27 : decode cX12_against 27 = .ok (.iload_n 1, 1) := by decide +kernel
theorem dX12_against_28 : decode cX12_against 28 = .ok (.iaload, 1) := by decide +kernel
theorem dX12_against_29 : decode cX12_against 29 = .ok (.bipush (-9), 2) := by decide +kernel
theorem dX12_against_31 : decode cX12_against 31 = .ok (.if_icmp .ne 5, 3) := by decide +kernel
theorem dX12_against_34 : decode cX12_against 34 = .ok (.iconst 1, 1) := by decide +kernel
theorem dX12_against_35 : decode cX12_against 35 = .ok (.ireturn, 1) := by decide +kernel
theorem dX12_against_36 : decode cX12_against 36 = .ok (.iload 4, 2) := by decide +kernel
theorem dX12_against_38 : decode cX12_against 38 = .ok (.ifCond .ge 5, 3) := by decide +kernel
theorem dX12_against_41 : decode cX12_against 41 = .ok (.iconst 4, 1) := by decide +kernel
theorem dX12_against_42 : decode cX12_against 42 = .ok (.ireturn, 1) := by decide +kernel
theorem dX12_against_43 : decode cX12_against 43 = .ok (.iload_n 3, 1) := by decide +kernel
theorem dX12_against_44 : decode cX12_against 44 = .ok (.ifCond .lt 26, 3) := by decide +kernel
theorem dX12_against_47 : decode cX12_against 47 = .ok (.iload_n 3, 1) := by decide +kernel
theorem dX12_against_48 : decode cX12_against 48 = .ok (.aload_n 0, 1) := by decide +kernel
theorem dX12_against_49 : decode cX12_against 49 = .ok (.getfield 13, 3) := by decide +kernel
theorem dX12_against_52 : decode cX12_against 52 = .ok (.iload_n 1, 1) := by decide +kernel
theorem dX12_against_53 : decode cX12_against 53 = .ok (.iaload, 1) := by decide +kernel
theorem dX12_against_54 : decode cX12_against 54 = .ok (.if_icmp .gt 16, 3) := by decide +kernel
theorem dX12_against_57 : decode cX12_against 57 = .ok (.iload 4, 2) := by decide +kernel
theorem dX12_against_59 : decode cX12_against 59 = .ok (.aload_n 0, 1) := by decide +kernel
theorem dX12_against_60 : decode cX12_against 60 = .ok (.getfield 13, 3) := by decide +kernel
theorem dX12_against_63 : decode cX12_against 63 = .ok (.iload_n 1, 1) := by decide +kernel
theorem dX12_against_64 : decode cX12_against 64 = .ok (.iaload, 1) := by decide +kernel
theorem dX12_against_65 : decode cX12_against 65 = .ok (.iload_n 3, 1) := by decide +kernel
theorem dX12_against_66 : decode cX12_against 66 = .ok (.isub, 1) := by decide +kernel
theorem dX12_against_67 : decode cX12_against 67 = .ok (.if_icmp .le 7, 3) := by decide +kernel
theorem dX12_against_70 : decode cX12_against 70 = .ok (.iconst 3, 1) := by decide +kernel
theorem dX12_against_71 : decode cX12_against 71 = .ok (.goto 4, 3) := by decide +kernel
theorem dX12_against_74 : decode cX12_against 74 = .ok (.iconst 0, 1) := by decide +kernel
theorem dX12_against_75 : decode cX12_against 75 = .ok (.ireturn, 1) := by decide +kernel
theorem dX12_isGirl_0 : decode cX12_isGirl 0 = .ok (.iload_n 1, 1) := by decide +kernel
theorem dX12_isGirl_1 : decode cX12_isGirl 1 = .ok (.ifCond .lt 15, 3) := by decide +kernel
theorem dX12_isGirl_4 : decode cX12_isGirl 4 = .ok (.iload_n 1, 1) := by decide +kernel
theorem dX12_isGirl_5 : decode cX12_isGirl 5 = .ok (.aload_n 0, 1) := by decide +kernel
theorem dX12_isGirl_6 : decode cX12_isGirl 6 = .ok (.getfield 89, 3) := by decide +kernel
theorem dX12_isGirl_9 : decode cX12_isGirl 9 = .ok (.if_icmp .ge 7, 3) := by decide +kernel
theorem dX12_isGirl_12 : decode cX12_isGirl 12 = .ok (.iconst 1, 1) := by decide +kernel
theorem dX12_isGirl_13 : decode cX12_isGirl 13 = .ok (.goto 4, 3) := by decide +kernel
theorem dX12_isGirl_16 : decode cX12_isGirl 16 = .ok (.iconst 0, 1) := by decide +kernel
theorem dX12_isGirl_17 : decode cX12_isGirl 17 = .ok (.ireturn, 1) := by decide +kernel
theorem dX12_isThrower_0 : decode cX12_isThrower 0 = .ok (.iload_n 1, 1) := by decide +kernel
theorem dX12_isThrower_1 : decode cX12_isThrower 1 = .ok (.ifCond .lt 15, 3) := by decide +kernel
theorem dX12_isThrower_4 : decode cX12_isThrower 4 = .ok (.iload_n 1, 1) := by decide +kernel
theorem dX12_isThrower_5 : decode cX12_isThrower 5 = .ok (.aload_n 0, 1) := by decide +kernel
theorem dX12_isThrower_6 : decode cX12_isThrower 6 = .ok (.getfield 92, 3) := by decide +kernel
theorem dX12_isThrower_9 : decode cX12_isThrower 9 = .ok (.if_icmp .ge 7, 3) := by decide +kernel
theorem dX12_isThrower_12 : decode cX12_isThrower 12 = .ok (.iconst 1, 1) := by decide +kernel
theorem dX12_isThrower_13 : decode cX12_isThrower 13 = .ok (.goto 4, 3) := by decide +kernel
theorem dX12_isThrower_16 : decode cX12_isThrower 16 = .ok (.iconst 0, 1) := by decide +kernel
theorem dX12_isThrower_17 : decode cX12_isThrower 17 = .ok (.ireturn, 1) := by decide +kernel
theorem dX12_digit_0 : decode cX12_digit 0 = .ok (.aload_n 0, 1) := by decide +kernel
theorem dX12_digit_1 : decode cX12_digit 1 = .ok (.getfield 95, 3) := by decide +kernel
theorem dX12_digit_4 : decode cX12_digit 4 = .ok (.iload_n 1, 1) := by decide +kernel
theorem dX12_digit_5 : decode cX12_digit 5 = .ok (.if_icmp .ge 26, 3) := by decide +kernel
theorem dX12_digit_8 : decode cX12_digit 8 = .ok (.aload_n 0, 1) := by decide +kernel
theorem dX12_digit_9 : decode cX12_digit 9 = .ok (.getfield 16, 3) := by decide +kernel
theorem dX12_digit_12 : decode cX12_digit 12 = .ok (.aload_n 0, 1) := by decide +kernel
theorem dX12_digit_13 : decode cX12_digit 13 = .ok (.getfield 95, 3) := by decide +kernel
theorem dX12_digit_16 : decode cX12_digit 16 = .ok (.iaload, 1) := by decide +kernel
theorem dX12_digit_17 : decode cX12_digit 17 = .ok (.bipush 48, 2) := by decide +kernel
theorem dX12_digit_19 : decode cX12_digit 19 = .ok (.iload_n 2, 1) := by decide +kernel
theorem dX12_digit_20 : decode cX12_digit 20 = .ok (.iadd, 1) := by decide +kernel
theorem dX12_digit_21 : decode cX12_digit 21 = .ok (.bipush 48, 2) := by decide +kernel
theorem dX12_digit_23 : decode cX12_digit 23 = .ok (.iload_n 3, 1) := by decide +kernel
theorem dX12_digit_24 : decode cX12_digit 24 = .ok (.iadd, 1) := by decide +kernel
theorem dX12_digit_25 : decode cX12_digit 25 = .ok (.invokestatic 85, 3) := by decide +kernel
theorem dX12_digit_28 : decode cX12_digit 28 = .ok (.ifCond .ne 6, 3) := by decide +kernel
theorem dX12_digit_31 : decode cX12_digit 31 = .ok (.bipush (-9), 2) := by decide +kernel
theorem dX12_digit_33 : decode cX12_digit 33 = .ok (.ireturn, 1) := by decide +kernel
theorem dX12_digit_34 : decode cX12_digit 34 = .ok (.aload_n 0, 1) := by decide +kernel
theorem dX12_digit_35 : decode cX12_digit 35 = .ok (.dup, 1) := by decide +kernel
theorem dX12_digit_36 : decode cX12_digit 36 = .ok (.getfield 95, 3) := by decide +kernel
theorem dX12_digit_39 : decode cX12_digit 39 = .ok (.iconst 1, 1) := by decide +kernel
theorem dX12_digit_40 : decode cX12_digit 40 = .ok (.iadd, 1) := by decide +kernel
theorem dX12_digit_41 : decode cX12_digit 41 = .ok (.putfield 95, 3) := by decide +kernel
theorem dX12_digit_44 : decode cX12_digit 44 = .ok (.aload_n 0, 1) := by decide +kernel
theorem dX12_digit_45 : decode cX12_digit 45 = .ok (.getfield 16, 3) := by decide +kernel
theorem dX12_digit_48 : decode cX12_digit 48 = .ok (.aload_n 0, 1) := by decide +kernel
theorem dX12_digit_49 : decode cX12_digit 49 = .ok (.getfield 95, 3) := by decide +kernel
theorem dX12_digit_52 : decode cX12_digit 52 = .ok (.iconst 1, 1) := by decide +kernel
theorem dX12_digit_53 : decode cX12_digit 53 = .ok (.isub, 1) := by decide +kernel
theorem dX12_digit_54 : decode cX12_digit 54 = .ok (.iaload, 1) := by decide +kernel
theorem dX12_digit_55 : decode cX12_digit 55 = .ok (.bipush 48, 2) := by decide +kernel
theorem dX12_digit_57 : decode cX12_digit 57 = .ok (.isub, 1) := by decide +kernel
theorem dX12_digit_58 : decode cX12_digit 58 = .ok (.ireturn, 1) := by decide +kernel
theorem dX12_isNext_0 : decode cX12_isNext 0 = .ok (.aload_n 0, 1) := by decide +kernel
theorem dX12_isNext_1 : decode cX12_isNext 1 = .ok (.getfield 95, 3) := by decide +kernel
theorem dX12_isNext_4 : decode cX12_isNext 4 = .ok (.iload_n 1, 1) := by decide +kernel
theorem dX12_isNext_5 : decode cX12_isNext 5 = .ok (.if_icmp .ge 20, 3) := by decide +kernel
theorem dX12_isNext_8 : decode cX12_isNext 8 = .ok (.aload_n 0, 1) := by decide +kernel
theorem dX12_isNext_9 : decode cX12_isNext 9 = .ok (.getfield 16, 3) := by decide +kernel
theorem dX12_isNext_12 : decode cX12_isNext 12 = .ok (.aload_n 0, 1) := by decide +kernel
theorem dX12_isNext_13 : decode cX12_isNext 13 = .ok (.getfield 95, 3) := by decide +kernel
theorem dX12_isNext_16 : decode cX12_isNext 16 = .ok (.iaload, 1) := by decide +kernel
theorem dX12_isNext_17 : decode cX12_isNext 17 = .ok (.iload_n 2, 1) := by decide +kernel
theorem dX12_isNext_18 : decode cX12_isNext 18 = .ok (.if_icmp .ne 7, 3) := by decide +kernel
theorem dX12_isNext_21 : decode cX12_isNext 21 = .ok (.iconst 1, 1) := by decide +kernel
theorem dX12_isNext_22 : decode cX12_isNext 22 = .ok (.goto 4, 3) := by decide +kernel
theorem dX12_isNext_25 : decode cX12_isNext 25 = .ok (.iconst 0, 1) := by decide +kernel
theorem dX12_isNext_26 : decode cX12_isNext 26 = .ok (.ireturn, 1) := by decide +kernel
theorem dX12_isSign_0 : decode cX12_isSign 0 = .ok (.aload_n 0, 1) := by decide +kernel
theorem dX12_isSign_1 : decode cX12_isSign 1 = .ok (.iload_n 1, 1) := by decide +kernel
theorem dX12_isSign_2 : decode cX12_isSign 2 = .ok (.iload_n 2, 1) := by decide +kernel
theorem dX12_isSign_3 : decode cX12_isSign 3 = .ok (.invokevirtual 98, 3) := by decide +kernel
theorem dX12_isSign_6 : decode cX12_isSign 6 = .ok (.ifCond .ne 5, 3) := by decide +kernel
theorem dX12_isSign_9 : decode cX12_isSign 9 = .ok (.iconst 0, 1) := by decide +kernel
theorem dX12_isSign_10 : decode cX12_isSign 10 = .ok (.ireturn, 1) := by decide +kernel
theorem dX12_isSign_11 : decode cX12_isSign 11 = .ok (.aload_n 0, 1) := by decide +kernel
theorem dX12_isSign_12 : decode cX12_isSign 12 = .ok (.dup, 1) := by decide +kernel
theorem dX12_isSign_13 : decode cX12_isSign 13 = .ok (.getfield 95, 3) := by decide +kernel
theorem dX12_isSign_16 : decode cX12_isSign 16 = .ok (.iconst 1, 1) := by decide +kernel
theorem dX12_isSign_17 : decode cX12_isSign 17 = .ok (.iadd, 1) := by decide +kernel
theorem dX12_isSign_18 : decode cX12_isSign 18 = .ok (.putfield 95, 3) := by decide +kernel
theorem dX12_isSign_21 : decode cX12_isSign 21 = .ok (.iconst 1, 1) := by decide +kernel
theorem dX12_isSign_22 : decode cX12_isSign 22 = .ok (.ireturn, 1) := by decide +kernel
theorem dX12_dale_0 : decode cX12_dale 0 = .ok (.aload_n 0, 1) := by decide +kernel
theorem dX12_dale_1 : decode cX12_dale 1 = .ok (.iconst 0, 1) := by decide +kernel
theorem dX12_dale_2 : decode cX12_dale 2 = .ok (.putfield 79, 3) := by decide +kernel
theorem dX12_dale_5 : decode cX12_dale 5 = .ok (.iload_n 1, 1) := by decide +kernel
theorem dX12_dale_6 : decode cX12_dale 6 = .ok (.invokestatic 102, 3) := by decide +kernel
theorem dX12_dale_9 : decode cX12_dale 9 = .ok (.ifCond .ne 5, 3) := by decide +kernel
theorem dX12_dale_12 : decode cX12_dale 12 = .ok (.iconst (-1), 1) := by decide +kernel
theorem dX12_dale_13 : decode cX12_dale 13 = .ok (.ireturn, 1) := by decide +kernel
theorem dX12_dale_14 : decode cX12_dale 14 = .ok (.iload_n 2, 1) := by decide +kernel
theorem dX12_dale_15 : decode cX12_dale 15 = .ok (.invokestatic 106, 3) := by decide +kernel
theorem dX12_dale_18 : decode cX12_dale 18 = .ok (.ifCond .ne 6, 3) := by decide +kernel
theorem dX12_dale_21 : decode cX12_dale 21 = .ok (.bipush (-2), 2) := by decide +kernel
theorem dX12_dale_23 : decode cX12_dale 23 = .ok (.ireturn, 1) := by decide +kernel
theorem dX12_dale_24 : decode cX12_dale 24 = .ok (.aload_n 0, 1) := by decide +kernel
theorem dX12_dale_25 : decode cX12_dale 25 = .ok (.iload_n 1, 1) := by decide +kernel
theorem dX12_dale_26 : decode cX12_dale 26 = .ok (.iload_n 2, 1) := by decide +kernel
theorem dX12_dale_27 : decode cX12_dale 27 = .ok (.iload_n 3, 1) := by decide +kernel
theorem dX12_dale_28 : decode cX12_dale 28 = .ok (.iload 4, 2) := by decide +kernel
theorem dX12_dale_30 : decode cX12_dale 30 = .ok (.invokevirtual 109, 3) := by decide +kernel
theorem dX12_dale_33 : decode cX12_dale 33 = .ok (.istore 5, 2) := by decide +kernel
theorem dX12_dale_35 : decode cX12_dale 35 = .ok (.iload 5, 2) := by decide +kernel
theorem dX12_dale_37 : decode cX12_dale 37 = .ok (.ifCond .eq 10, 3) := by decide +kernel
theorem dX12_dale_40 : decode cX12_dale 40 = .ok (.aload_n 0, 1) := by decide +kernel
theorem dX12_dale_41 : decode cX12_dale 41 = .ok (.iload 5, 2) := by decide +kernel
theorem dX12_dale_43 : decode cX12_dale 43 = .ok (.invokevirtual 113, 3) := by decide +kernel
theorem dX12_dale_46 : decode cX12_dale 46 = .ok (.ireturn, 1) := by decide +kernel
theorem dX12_dale_47 : decode cX12_dale 47 = .ok (.bipush 60, 2) := by decide +kernel
theorem dX12_dale_49 : decode cX12_dale 49 = .ok (.iload_n 1, 1) := by decide +kernel
theorem dX12_dale_50 : decode cX12_dale 50 = .ok (.imul, 1) := by decide +kernel
theorem dX12_dale_51 : decode cX12_dale 51 = .ok (.iload_n 3, 1) := by decide +kernel
theorem dX12_dale_52 : decode cX12_dale 52 = .ok (.iadd, 1) := by decide +kernel
theorem dX12_dale_53 : decode cX12_dale 53 = .ok (.istore 6, 2) := by decide +kernel
theorem dX12_dale_55 : decode cX12_dale 55 = .ok (.aload_n 0, 1) := by decide +kernel
theorem dX12_dale_56 : decode cX12_dale 56 = .ok (.iload 6, 2) := by decide +kernel
theorem dX12_dale_58 : decode cX12_dale 58 = .ok (.putfield 95, 3) := by decide +kernel
theorem dX12_dale_61 : decode cX12_dale 61 = .ok (.aload_n 0, 1) := by decide +kernel
theorem dX12_dale_62 : decode cX12_dale 62 = .ok (.iload 6, 2) := by decide +kernel
theorem dX12_dale_64 : decode cX12_dale 64 = .ok (.iload 4, 2) := by decide +kernel
theorem dX12_dale_66 : decode cX12_dale 66 = .ok (.iadd, 1) := by decide +kernel
theorem dX12_dale_67 : decode cX12_dale 67 = .ok (.invokevirtual 117, 3) := by decide +kernel
theorem dX12_dale_70 : decode cX12_dale 70 = .ok (.ifCond .ne 14, 3) := by decide +kernel
theorem dX12_dale_73 : decode cX12_dale 73 = .ok (.bipush (-100), 2) := by decide +kernel
theorem dX12_dale_75 : decode cX12_dale 75 = .ok (.aload_n 0, 1) := by decide +kernel
theorem dX12_dale_76 : decode cX12_dale 76 = .ok (.getfield 95, 3) := by decide +kernel
theorem dX12_dale_79 : decode cX12_dale 79 = .ok (.iload 6, 2) := by decide +kernel
theorem dX12_dale_81 : decode cX12_dale 81 = .ok (.isub, 1) := by decide +kernel
theorem dX12_dale_82 : decode cX12_dale 82 = .ok (.isub, 1) := by decide +kernel
theorem dX12_dale_83 : decode cX12_dale 83 = .ok (.ireturn, 1) := by decide +kernel
theorem dX12_dale_84 : decode cX12_dale 84 = .ok (.aload_n 0, 1) := by decide +kernel
theorem dX12_dale_85 : decode cX12_dale 85 = .ok (.invokevirtual 120, 3) := by decide +kernel
theorem dX12_dale_88 : decode cX12_dale 88 = .ok (.aload_n 0, 1) := by decide +kernel
theorem dX12_dale_89 : decode cX12_dale 89 = .ok (.getfield 92, 3) := by decide +kernel
theorem dX12_dale_92 : decode cX12_dale 92 = .ok (.ireturn, 1) := by decide +kernel
theorem dX12_takeDale_0 : decode cX12_takeDale 0 = .ok (.aload_n 0, 1) := by decide +kernel
theorem dX12_takeDale_1 : decode cX12_takeDale 1 = .ok (.aload_n 0, 1) := by decide +kernel
theorem dX12_takeDale_2 : decode cX12_takeDale 2 = .ok (.getfield 123, 3) := by decide +kernel
theorem dX12_takeDale_5 : decode cX12_takeDale 5 = .ok (.putfield 126, 3) := by decide +kernel
theorem dX12_takeDale_8 : decode cX12_takeDale 8 = .ok (.aload_n 0, 1) := by decide +kernel
theorem dX12_takeDale_9 : decode cX12_takeDale 9 = .ok (.aload_n 0, 1) := by decide +kernel
theorem dX12_takeDale_10 : decode cX12_takeDale 10 = .ok (.getfield 129, 3) := by decide +kernel
theorem dX12_takeDale_13 : decode cX12_takeDale 13 = .ok (.putfield 89, 3) := by decide +kernel
theorem dX12_takeDale_16 : decode cX12_takeDale 16 = .ok (.iconst 0, 1) := by decide +kernel
theorem dX12_takeDale_17 : decode cX12_takeDale 17 = .ok (.istore_n 1, 1) := by decide +kernel
theorem dX12_takeDale_18 : decode cX12_takeDale 18 = .ok (.iload_n 1, 1) := by decide +kernel
theorem dX12_takeDale_19 : decode cX12_takeDale 19 = .ok (.aload_n 0, 1) := by decide +kernel
theorem dX12_takeDale_20 : decode cX12_takeDale 20 = .ok (.getfield 89, 3) := by decide +kernel
theorem dX12_takeDale_23 : decode cX12_takeDale 23 = .ok (.if_icmp .ge 46, 3) := by decide +kernel
theorem dX12_takeDale_26 : decode cX12_takeDale 26 = .ok (.aload_n 0, 1) := by decide +kernel
theorem dX12_takeDale_27 : decode cX12_takeDale 27 = .ok (.getfield 19, 3) := by decide +kernel
theorem dX12_takeDale_30 : decode cX12_takeDale 30 = .ok (.iload_n 1, 1) := by decide +kernel
theorem dX12_takeDale_31 : decode cX12_takeDale 31 = .ok (.aload_n 0, 1) := by decide +kernel
theorem dX12_takeDale_32 : decode cX12_takeDale 32 = .ok (.getfield 40, 3) := by decide +kernel
theorem dX12_takeDale_35 : decode cX12_takeDale 35 = .ok (.iconst 2, 1) := by decide +kernel
theorem dX12_takeDale_36 : decode cX12_takeDale 36 = .ok (.iload_n 1, 1) := by decide +kernel
theorem dX12_takeDale_37 : decode cX12_takeDale 37 = .ok (.imul, 1) := by decide +kernel
theorem dX12_takeDale_38 : decode cX12_takeDale 38 = .ok (.iaload, 1) := by decide +kernel
theorem dX12_takeDale_39 : decode cX12_takeDale 39 = .ok (.iastore, 1) := by decide +kernel
theorem dX12_takeDale_40 : decode cX12_takeDale 40 = .ok (.aload_n 0, 1) := by decide +kernel
theorem dX12_takeDale_41 : decode cX12_takeDale 41 = .ok (.getfield 22, 3) := by decide +kernel
theorem dX12_takeDale_44 : decode cX12_takeDale 44 = .ok (.iload_n 1, 1) := by decide +kernel
theorem dX12_takeDale_45 : decode cX12_takeDale 45 = .ok (.aload_n 0, 1) := by decide +kernel
theorem dX12_takeDale_46 : decode cX12_takeDale 46 = .ok (.getfield 40, 3) := by decide +kernel
theorem dX12_takeDale_49 : decode cX12_takeDale 49 = .ok (.iconst 2, 1) := by decide +kernel
theorem dX12_takeDale_50 : decode cX12_takeDale 50 = .ok (.iload_n 1, 1) := by decide +kernel
theorem dX12_takeDale_51 : decode cX12_takeDale 51 = .ok (.imul, 1) := by decide +kernel
theorem dX12_takeDale_52 : decode cX12_takeDale 52 = .ok (.iconst 1, 1) := by decide +kernel
theorem dX12_takeDale_53 : decode cX12_takeDale 53 = .ok (.iadd, 1) := by decide +kernel
theorem dX12_takeDale_54 : decode cX12_takeDale 54 = .ok (.iaload, 1) := by decide +kernel
theorem dX12_takeDale_55 : decode cX12_takeDale 55 = .ok (.iastore, 1) := by decide +kernel
theorem dX12_takeDale_56 : decode cX12_takeDale 56 = .ok (.aload_n 0, 1) := by decide +kernel
theorem dX12_takeDale_57 : decode cX12_takeDale 57 = .ok (.getfield 31, 3) := by decide +kernel
theorem dX12_takeDale_60 : decode cX12_takeDale 60 = .ok (.iload_n 1, 1) := by decide +kernel
theorem dX12_takeDale_61 : decode cX12_takeDale 61 = .ok (.iconst 0, 1) := by decide +kernel
theorem dX12_takeDale_62 : decode cX12_takeDale 62 = .ok (.iastore, 1) := by decide +kernel
theorem dX12_takeDale_63 : decode cX12_takeDale 63 = .ok (.iinc 1 1, 3) := by decide +kernel
theorem dX12_takeDale_66 : decode cX12_takeDale 66 = .ok (.goto (-48), 3) := by decide +kernel
theorem dX12_takeDale_69 : decode cX12_takeDale 69 = .ok (.aload_n 0, 1) := by decide +kernel
theorem dX12_takeDale_70 : decode cX12_takeDale 70 = .ok (.aload_n 0, 1) := by decide +kernel
theorem dX12_takeDale_71 : decode cX12_takeDale 71 = .ok (.getfield 132, 3) := by decide +kernel
theorem dX12_takeDale_74 : decode cX12_takeDale 74 = .ok (.putfield 92, 3) := by decide +kernel
theorem dX12_takeDale_77 : decode cX12_takeDale 77 = .ok (.iconst 0, 1) := by decide +kernel
theorem dX12_takeDale_78 : decode cX12_takeDale 78 = .ok (.istore_n 1, 1) := by decide +kernel
theorem dX12_takeDale_79 : decode cX12_takeDale 79 = .ok (.iload_n 1, 1) := by decide +kernel
theorem dX12_takeDale_80 : decode cX12_takeDale 80 = .ok (.aload_n 0, 1) := by decide +kernel
theorem dX12_takeDale_81 : decode cX12_takeDale 81 = .ok (.getfield 92, 3) := by decide +kernel
theorem dX12_takeDale_84 : decode cX12_takeDale 84 = .ok (.if_icmp .ge 39, 3) := by decide +kernel
theorem dX12_takeDale_87 : decode cX12_takeDale 87 = .ok (.aload_n 0, 1) := by decide +kernel
theorem dX12_takeDale_88 : decode cX12_takeDale 88 = .ok (.getfield 25, 3) := by decide +kernel
theorem dX12_takeDale_91 : decode cX12_takeDale 91 = .ok (.iload_n 1, 1) := by decide +kernel
theorem dX12_takeDale_92 : decode cX12_takeDale 92 = .ok (.aload_n 0, 1) := by decide +kernel
theorem dX12_takeDale_93 : decode cX12_takeDale 93 = .ok (.getfield 43, 3) := by decide +kernel
theorem dX12_takeDale_96 : decode cX12_takeDale 96 = .ok (.iconst 2, 1) := by decide +kernel
theorem dX12_takeDale_97 : decode cX12_takeDale 97 = .ok (.iload_n 1, 1) := by decide +kernel
theorem dX12_takeDale_98 : decode cX12_takeDale 98 = .ok (.imul, 1) := by decide +kernel
theorem dX12_takeDale_99 : decode cX12_takeDale 99 = .ok (.iaload, 1) := by decide +kernel
theorem dX12_takeDale_100 : decode cX12_takeDale 100 = .ok (.iastore, 1) := by decide +kernel
theorem dX12_takeDale_101 : decode cX12_takeDale 101 = .ok (.aload_n 0, 1) := by decide +kernel
theorem dX12_takeDale_102 : decode cX12_takeDale 102 = .ok (.getfield 28, 3) := by decide +kernel
theorem dX12_takeDale_105 : decode cX12_takeDale 105 = .ok (.iload_n 1, 1) := by decide +kernel
theorem dX12_takeDale_106 : decode cX12_takeDale 106 = .ok (.aload_n 0, 1) := by decide +kernel
theorem dX12_takeDale_107 : decode cX12_takeDale 107 = .ok (.getfield 43, 3) := by decide +kernel
theorem dX12_takeDale_110 : decode cX12_takeDale 110 = .ok (.iconst 2, 1) := by decide +kernel
theorem dX12_takeDale_111 : decode cX12_takeDale 111 = .ok (.iload_n 1, 1) := by decide +kernel
theorem dX12_takeDale_112 : decode cX12_takeDale 112 = .ok (.imul, 1) := by decide +kernel
theorem dX12_takeDale_113 : decode cX12_takeDale 113 = .ok (.iconst 1, 1) := by decide +kernel
theorem dX12_takeDale_114 : decode cX12_takeDale 114 = .ok (.iadd, 1) := by decide +kernel
theorem dX12_takeDale_115 : decode cX12_takeDale 115 = .ok (.iaload, 1) := by decide +kernel
theorem dX12_takeDale_116 : decode cX12_takeDale 116 = .ok (.iastore, 1) := by decide +kernel
theorem dX12_takeDale_117 : decode cX12_takeDale 117 = .ok (.iinc 1 1, 3) := by decide +kernel
theorem dX12_takeDale_120 : decode cX12_takeDale 120 = .ok (.goto (-41), 3) := by decide +kernel
theorem dX12_takeDale_123 : decode cX12_takeDale 123 = .ok (.aload_n 0, 1) := by decide +kernel
theorem dX12_takeDale_124 : decode cX12_takeDale 124 = .ok (.iconst 0, 1) := by decide +kernel
theorem dX12_takeDale_125 : decode cX12_takeDale 125 = .ok (.putfield 135, 3) := by decide +kernel
theorem dX12_takeDale_128 : decode cX12_takeDale 128 = .ok (.return_, 1) := by decide +kernel
theorem dX12_readDale_0 : decode cX12_readDale 0 = .ok (.aload_n 0, 1) := by decide +kernel
theorem dX12_readDale_1 : decode cX12_readDale 1 = .ok (.iconst 0, 1) := by decide +kernel
theorem dX12_readDale_2 : decode cX12_readDale 2 = .ok (.putfield 129, 3) := by decide +kernel
theorem dX12_readDale_5 : decode cX12_readDale 5 = .ok (.aload_n 0, 1) := by decide +kernel
theorem dX12_readDale_6 : decode cX12_readDale 6 = .ok (.iconst 0, 1) := by decide +kernel
theorem dX12_readDale_7 : decode cX12_readDale 7 = .ok (.putfield 132, 3) := by decide +kernel
theorem dX12_readDale_10 : decode cX12_readDale 10 = .ok (.aload_n 0, 1) := by decide +kernel
theorem dX12_readDale_11 : decode cX12_readDale 11 = .ok (.iload_n 1, 1) := by decide +kernel
theorem dX12_readDale_12 : decode cX12_readDale 12 = .ok (.bipush 113, 2) := by decide +kernel
theorem dX12_readDale_14 : decode cX12_readDale 14 = .ok (.invokevirtual 138, 3) := by decide +kernel
theorem dX12_readDale_17 : decode cX12_readDale 17 = .ok (.ifCond .ne 5, 3) := by decide +kernel
theorem dX12_readDale_20 : decode cX12_readDale 20 = .ok (.iconst 0, 1) := by decide +kernel
theorem dX12_readDale_21 : decode cX12_readDale 21 = .ok (.ireturn, 1) := by decide +kernel
theorem dX12_readDale_22 : decode cX12_readDale 22 = .ok (.aload_n 0, 1) := by decide +kernel
theorem dX12_readDale_23 : decode cX12_readDale 23 = .ok (.aload_n 0, 1) := by decide +kernel
theorem dX12_readDale_24 : decode cX12_readDale 24 = .ok (.iload_n 1, 1) := by decide +kernel
theorem dX12_readDale_25 : decode cX12_readDale 25 = .ok (.iconst 0, 1) := by decide +kernel
theorem dX12_readDale_26 : decode cX12_readDale 26 = .ok (.iconst 3, 1) := by decide +kernel
theorem dX12_readDale_27 : decode cX12_readDale 27 = .ok (.invokevirtual 141, 3) := by decide +kernel
theorem dX12_readDale_30 : decode cX12_readDale 30 = .ok (.putfield 123, 3) := by decide +kernel
theorem dX12_readDale_33 : decode cX12_readDale 33 = .ok (.aload_n 0, 1) := by decide +kernel
theorem dX12_readDale_34 : decode cX12_readDale 34 = .ok (.getfield 123, 3) := by decide +kernel
theorem dX12_readDale_37 : decode cX12_readDale 37 = .ok (.bipush (-9), 2) := by decide +kernel
theorem dX12_readDale_39 : decode cX12_readDale 39 = .ok (.if_icmp .ne 5, 3) := by decide +kernel
theorem dX12_readDale_42 : decode cX12_readDale 42 = .ok (.iconst 0, 1) := by decide +kernel
theorem dX12_readDale_43 : decode cX12_readDale 43 = .ok (.ireturn, 1) := by decide +kernel
theorem dX12_readDale_44 : decode cX12_readDale 44 = .ok (.aload_n 0, 1) := by decide +kernel
theorem dX12_readDale_45 : decode cX12_readDale 45 = .ok (.getfield 129, 3) := by decide +kernel
theorem dX12_readDale_48 : decode cX12_readDale 48 = .ok (.ifCond .eq 21, 3) := by decide +kernel
theorem dX12_readDale_51 : decode cX12_readDale 51 = .ok (.aload_n 0, 1) := by decide +kernel
theorem dX12_readDale_52 : decode cX12_readDale 52 = .ok (.getfield 129, 3) := by decide +kernel
theorem dX12_readDale_55 : decode cX12_readDale 55 = .ok (.iconst 4, 1) := by decide +kernel
theorem dX12_readDale_56 : decode cX12_readDale 56 = .ok (.if_icmp .ge 33, 3) := by decide +kernel
theorem dX12_readDale_59 : decode cX12_readDale 59 = .ok (.aload_n 0, 1) := by decide +kernel
theorem dX12_readDale_60 : decode cX12_readDale 60 = .ok (.iload_n 1, 1) := by decide +kernel
theorem dX12_readDale_61 : decode cX12_readDale 61 = .ok (.bipush 44, 2) := by decide +kernel
theorem dX12_readDale_63 : decode cX12_readDale 63 = .ok (.invokevirtual 98, 3) := by decide +kernel
theorem dX12_readDale_66 : decode cX12_readDale 66 = .ok (.ifCond .eq 23, 3) := by decide +kernel
theorem dX12_readDale_69 : decode cX12_readDale 69 = .ok (.aload_n 0, 1) := by decide +kernel
theorem dX12_readDale_70 : decode cX12_readDale 70 = .ok (.iload_n 1, 1) := by decide +kernel
theorem dX12_readDale_71 : decode cX12_readDale 71 = .ok (.bipush 44, 2) := by decide +kernel
theorem dX12_readDale_73 : decode cX12_readDale 73 = .ok (.invokevirtual 138, 3) := by decide +kernel
theorem dX12_readDale_76 : decode cX12_readDale 76 = .ok (.ifCond .eq 11, 3) := by decide +kernel
theorem dX12_readDale_79 : decode cX12_readDale 79 = .ok (.aload_n 0, 1) := by decide +kernel
theorem dX12_readDale_80 : decode cX12_readDale 80 = .ok (.iload_n 1, 1) := by decide +kernel
theorem dX12_readDale_81 : decode cX12_readDale 81 = .ok (.invokevirtual 145, 3) := by decide +kernel
theorem dX12_readDale_84 : decode cX12_readDale 84 = .ok (.ifCond .ne (-40), 3) := by decide +kernel
theorem dX12_readDale_87 : decode cX12_readDale 87 = .ok (.iconst 0, 1) := by decide +kernel
theorem dX12_readDale_88 : decode cX12_readDale 88 = .ok (.ireturn, 1) := by decide +kernel
theorem dX12_readDale_89 : decode cX12_readDale 89 = .ok (.aload_n 0, 1) := by decide +kernel
theorem dX12_readDale_90 : decode cX12_readDale 90 = .ok (.getfield 132, 3) := by decide +kernel
theorem dX12_readDale_93 : decode cX12_readDale 93 = .ok (.ifCond .eq 19, 3) := by decide +kernel
theorem dX12_readDale_96 : decode cX12_readDale 96 = .ok (.aload_n 0, 1) := by decide +kernel
theorem dX12_readDale_97 : decode cX12_readDale 97 = .ok (.getfield 132, 3) := by decide +kernel
theorem dX12_readDale_100 : decode cX12_readDale 100 = .ok (.iconst 5, 1) := by decide +kernel
theorem dX12_readDale_101 : decode cX12_readDale 101 = .ok (.if_icmp .ge 31, 3) := by decide +kernel
theorem dX12_readDale_104 : decode cX12_readDale 104 = .ok (.aload_n 0, 1) := by decide +kernel
theorem dX12_readDale_105 : decode cX12_readDale 105 = .ok (.getfield 95, 3) := by decide +kernel
theorem dX12_readDale_108 : decode cX12_readDale 108 = .ok (.iload_n 1, 1) := by decide +kernel
theorem dX12_readDale_109 : decode cX12_readDale 109 = .ok (.if_icmp .ge 23, 3) := by decide +kernel
theorem dX12_readDale_112 : decode cX12_readDale 112 = .ok (.aload_n 0, 1) := by decide +kernel
theorem dX12_readDale_113 : decode cX12_readDale 113 = .ok (.iload_n 1, 1) := by decide +kernel
theorem dX12_readDale_114 : decode cX12_readDale 114 = .ok (.bipush 59, 2) := by decide +kernel
theorem dX12_readDale_116 : decode cX12_readDale 116 = .ok (.invokevirtual 138, 3) := by decide +kernel
theorem dX12_readDale_119 : decode cX12_readDale 119 = .ok (.ifCond .eq 11, 3) := by decide +kernel
theorem dX12_readDale_122 : decode cX12_readDale 122 = .ok (.aload_n 0, 1) := by decide +kernel
theorem dX12_readDale_123 : decode cX12_readDale 123 = .ok (.iload_n 1, 1) := by decide +kernel
theorem dX12_readDale_124 : decode cX12_readDale 124 = .ok (.invokevirtual 148, 3) := by decide +kernel
theorem dX12_readDale_127 : decode cX12_readDale 127 = .ok (.ifCond .ne (-38), 3) := by decide +kernel
theorem dX12_readDale_130 : decode cX12_readDale 130 = .ok (.iconst 0, 1) := by decide +kernel
theorem dX12_readDale_131 : decode cX12_readDale 131 = .ok (.ireturn, 1) := by decide +kernel
theorem dX12_readDale_132 : decode cX12_readDale 132 = .ok (.aload_n 0, 1) := by decide +kernel
theorem dX12_readDale_133 : decode cX12_readDale 133 = .ok (.getfield 95, 3) := by decide +kernel
theorem dX12_readDale_136 : decode cX12_readDale 136 = .ok (.iload_n 1, 1) := by decide +kernel
theorem dX12_readDale_137 : decode cX12_readDale 137 = .ok (.if_icmp .ne 7, 3) := by decide +kernel
theorem dX12_readDale_140 : decode cX12_readDale 140 = .ok (.iconst 1, 1) := by decide +kernel
theorem dX12_readDale_141 : decode cX12_readDale 141 = .ok (.goto 4, 3) := by decide +kernel
theorem dX12_readDale_144 : decode cX12_readDale 144 = .ok (.iconst 0, 1) := by decide +kernel
theorem dX12_readDale_145 : decode cX12_readDale 145 = .ok (.ireturn, 1) := by decide +kernel
theorem dX12_readTheGirl_0 : decode cX12_readTheGirl 0 = .ok (.iconst 2, 1) := by decide +kernel
theorem dX12_readTheGirl_1 : decode cX12_readTheGirl 1 = .ok (.aload_n 0, 1) := by decide +kernel
theorem dX12_readTheGirl_2 : decode cX12_readTheGirl 2 = .ok (.getfield 129, 3) := by decide +kernel
theorem dX12_readTheGirl_5 : decode cX12_readTheGirl 5 = .ok (.imul, 1) := by decide +kernel
theorem dX12_readTheGirl_6 : decode cX12_readTheGirl 6 = .ok (.istore_n 2, 1) := by decide +kernel
theorem dX12_readTheGirl_7 : decode cX12_readTheGirl 7 = .ok (.aload_n 0, 1) := by decide +kernel
theorem dX12_readTheGirl_8 : decode cX12_readTheGirl 8 = .ok (.getfield 40, 3) := by decide +kernel
theorem dX12_readTheGirl_11 : decode cX12_readTheGirl 11 = .ok (.iload_n 2, 1) := by decide +kernel
theorem dX12_readTheGirl_12 : decode cX12_readTheGirl 12 = .ok (.aload_n 0, 1) := by decide +kernel
theorem dX12_readTheGirl_13 : decode cX12_readTheGirl 13 = .ok (.iload_n 1, 1) := by decide +kernel
theorem dX12_readTheGirl_14 : decode cX12_readTheGirl 14 = .ok (.iconst 1, 1) := by decide +kernel
theorem dX12_readTheGirl_15 : decode cX12_readTheGirl 15 = .ok (.bipush 9, 2) := by decide +kernel
theorem dX12_readTheGirl_17 : decode cX12_readTheGirl 17 = .ok (.invokevirtual 141, 3) := by decide +kernel
theorem dX12_readTheGirl_20 : decode cX12_readTheGirl 20 = .ok (.iastore, 1) := by decide +kernel
theorem dX12_readTheGirl_21 : decode cX12_readTheGirl 21 = .ok (.aload_n 0, 1) := by decide +kernel
theorem dX12_readTheGirl_22 : decode cX12_readTheGirl 22 = .ok (.getfield 40, 3) := by decide +kernel
theorem dX12_readTheGirl_25 : decode cX12_readTheGirl 25 = .ok (.iload_n 2, 1) := by decide +kernel
theorem dX12_readTheGirl_26 : decode cX12_readTheGirl 26 = .ok (.iaload, 1) := by decide +kernel
theorem dX12_readTheGirl_27 : decode cX12_readTheGirl 27 = .ok (.bipush (-9), 2) := by decide +kernel
theorem dX12_readTheGirl_29 : decode cX12_readTheGirl 29 = .ok (.if_icmp .ne 5, 3) := by decide +kernel
theorem dX12_readTheGirl_32 : decode cX12_readTheGirl 32 = .ok (.iconst 0, 1) := by decide +kernel
theorem dX12_readTheGirl_33 : decode cX12_readTheGirl 33 = .ok (.ireturn, 1) := by decide +kernel
theorem dX12_readTheGirl_34 : decode cX12_readTheGirl 34 = .ok (.aload_n 0, 1) := by decide +kernel
theorem dX12_readTheGirl_35 : decode cX12_readTheGirl 35 = .ok (.getfield 40, 3) := by decide +kernel
theorem dX12_readTheGirl_38 : decode cX12_readTheGirl 38 = .ok (.iload_n 2, 1) := by decide +kernel
theorem dX12_readTheGirl_39 : decode cX12_readTheGirl 39 = .ok (.iconst 1, 1) := by decide +kernel
theorem dX12_readTheGirl_40 : decode cX12_readTheGirl 40 = .ok (.iadd, 1) := by decide +kernel
theorem dX12_readTheGirl_41 : decode cX12_readTheGirl 41 = .ok (.aload_n 0, 1) := by decide +kernel
theorem dX12_readTheGirl_42 : decode cX12_readTheGirl 42 = .ok (.iload_n 1, 1) := by decide +kernel
theorem dX12_readTheGirl_43 : decode cX12_readTheGirl 43 = .ok (.iconst 0, 1) := by decide +kernel
theorem dX12_readTheGirl_44 : decode cX12_readTheGirl 44 = .ok (.bipush 9, 2) := by decide +kernel
theorem dX12_readTheGirl_46 : decode cX12_readTheGirl 46 = .ok (.invokevirtual 141, 3) := by decide +kernel
theorem dX12_readTheGirl_49 : decode cX12_readTheGirl 49 = .ok (.iastore, 1) := by decide +kernel
theorem dX12_readTheGirl_50 : decode cX12_readTheGirl 50 = .ok (.aload_n 0, 1) := by decide +kernel
theorem dX12_readTheGirl_51 : decode cX12_readTheGirl 51 = .ok (.dup, 1) := by decide +kernel
theorem dX12_readTheGirl_52 : decode cX12_readTheGirl 52 = .ok (.getfield 129, 3) := by decide +kernel
theorem dX12_readTheGirl_55 : decode cX12_readTheGirl 55 = .ok (.iconst 1, 1) := by decide +kernel
theorem dX12_readTheGirl_56 : decode cX12_readTheGirl 56 = .ok (.iadd, 1) := by decide +kernel
theorem dX12_readTheGirl_57 : decode cX12_readTheGirl 57 = .ok (.putfield 129, 3) := by decide +kernel
theorem dX12_readTheGirl_60 : decode cX12_readTheGirl 60 = .ok (.aload_n 0, 1) := by decide +kernel
theorem dX12_readTheGirl_61 : decode cX12_readTheGirl 61 = .ok (.getfield 40, 3) := by decide +kernel
theorem dX12_readTheGirl_64 : decode cX12_readTheGirl 64 = .ok (.iload_n 2, 1) := by decide +kernel
theorem dX12_readTheGirl_65 : decode cX12_readTheGirl 65 = .ok (.iconst 1, 1) := by decide +kernel
theorem dX12_readTheGirl_66 : decode cX12_readTheGirl 66 = .ok (.iadd, 1) := by decide +kernel
theorem dX12_readTheGirl_67 : decode cX12_readTheGirl 67 = .ok (.iaload, 1) := by decide +kernel
theorem dX12_readTheGirl_68 : decode cX12_readTheGirl 68 = .ok (.bipush (-9), 2) := by decide +kernel
theorem dX12_readTheGirl_70 : decode cX12_readTheGirl 70 = .ok (.if_icmp .eq 7, 3) := by decide +kernel
theorem dX12_readTheGirl_73 : decode cX12_readTheGirl 73 = .ok (.iconst 1, 1) := by decide +kernel
theorem dX12_readTheGirl_74 : decode cX12_readTheGirl 74 = .ok (.goto 4, 3) := by decide +kernel
theorem dX12_readTheGirl_77 : decode cX12_readTheGirl 77 = .ok (.iconst 0, 1) := by decide +kernel
theorem dX12_readTheGirl_78 : decode cX12_readTheGirl 78 = .ok (.ireturn, 1) := by decide +kernel
theorem dX12_readTheThrower_0 : decode cX12_readTheThrower 0 = .ok (.aload_n 0, 1) := by decide +kernel
theorem dX12_readTheThrower_1 : decode cX12_readTheThrower 1 = .ok (.getfield 95, 3) := by decide +kernel
theorem dX12_readTheThrower_4 : decode cX12_readTheThrower 4 = .ok (.iload_n 1, 1) := by decide +kernel
theorem dX12_readTheThrower_5 : decode cX12_readTheThrower 5 = .ok (.if_icmp .ge 15, 3) := by decide +kernel
theorem dX12_readTheThrower_8 : decode cX12_readTheThrower 8 = .ok (.aload_n 0, 1) := by decide +kernel
theorem dX12_readTheThrower_9 : decode cX12_readTheThrower 9 = .ok (.getfield 16, 3) := by decide +kernel
theorem dX12_readTheThrower_12 : decode cX12_readTheThrower 12 = .ok (.aload_n 0, 1) := by decide +kernel
theorem dX12_readTheThrower_13 : decode cX12_readTheThrower 13 = .ok (.getfield 95, 3) := by decide +kernel
theorem dX12_readTheThrower_16 : decode cX12_readTheThrower 16 = .ok (.iaload, 1) := by decide +kernel
theorem dX12_readTheThrower_17 : decode cX12_readTheThrower 17 = .ok (.goto 4, 3) := by decide +kernel
theorem dX12_readTheThrower_20 : decode cX12_readTheThrower 20 = .ok (.iconst 0, 1) := by decide +kernel
theorem dX12_readTheThrower_21 : decode cX12_readTheThrower 21 = .ok (.istore_n 2, 1) := by decide +kernel
theorem dX12_readTheThrower_22 : decode cX12_readTheThrower 22 = .ok (.iconst 2, 1) := by decide +kernel
theorem dX12_readTheThrower_23 : decode cX12_readTheThrower 23 = .ok (.aload_n 0, 1) := by decide +kernel
theorem dX12_readTheThrower_24 : decode cX12_readTheThrower 24 = .ok (.getfield 132, 3) := by decide +kernel
theorem dX12_readTheThrower_27 : decode cX12_readTheThrower 27 = .ok (.imul, 1) := by decide +kernel
theorem dX12_readTheThrower_28 : decode cX12_readTheThrower 28 = .ok (.istore_n 3, 1) := by decide +kernel
theorem dX12_readTheThrower_29 : decode cX12_readTheThrower 29 = .ok (.aload_n 0, 1) := by decide +kernel
theorem dX12_readTheThrower_30 : decode cX12_readTheThrower 30 = .ok (.getfield 43, 3) := by decide +kernel
theorem dX12_readTheThrower_33 : decode cX12_readTheThrower 33 = .ok (.iload_n 3, 1) := by decide +kernel
theorem dX12_readTheThrower_34 : decode cX12_readTheThrower 34 = .ok (.iload_n 2, 1) := by decide +kernel
theorem dX12_readTheThrower_35 : decode cX12_readTheThrower 35 = .ok (.bipush 114, 2) := by decide +kernel
theorem dX12_readTheThrower_37 : decode cX12_readTheThrower 37 = .ok (.if_icmp .ne 7, 3) := by decide +kernel
theorem dX12_readTheThrower_40 : decode cX12_readTheThrower 40 = .ok (.iconst 0, 1) := by decide +kernel
theorem dX12_readTheThrower_41 : decode cX12_readTheThrower 41 = .ok (.goto 25, 3) := by decide +kernel
theorem dX12_readTheThrower_44 : decode cX12_readTheThrower 44 = .ok (.iload_n 2, 1) := by decide +kernel
theorem dX12_readTheThrower_45 : decode cX12_readTheThrower 45 = .ok (.bipush 108, 2) := by decide +kernel
theorem dX12_readTheThrower_47 : decode cX12_readTheThrower 47 = .ok (.if_icmp .ne 7, 3) := by decide +kernel
theorem dX12_readTheThrower_50 : decode cX12_readTheThrower 50 = .ok (.iconst 1, 1) := by decide +kernel
theorem dX12_readTheThrower_51 : decode cX12_readTheThrower 51 = .ok (.goto 15, 3) := by decide +kernel
theorem dX12_readTheThrower_54 : decode cX12_readTheThrower 54 = .ok (.iload_n 2, 1) := by decide +kernel
theorem dX12_readTheThrower_55 : decode cX12_readTheThrower 55 = .ok (.bipush 115, 2) := by decide +kernel
theorem dX12_readTheThrower_57 : decode cX12_readTheThrower 57 = .ok (.if_icmp .ne 7, 3) := by decide +kernel
theorem dX12_readTheThrower_60 : decode cX12_readTheThrower 60 = .ok (.iconst 2, 1) := by decide +kernel
theorem dX12_readTheThrower_61 : decode cX12_readTheThrower 61 = .ok (.goto 5, 3) := by decide +kernel
theorem dX12_readTheThrower_64 : decode cX12_readTheThrower 64 = .ok (.bipush (-9), 2) := by decide +kernel
theorem dX12_readTheThrower_66 : decode cX12_readTheThrower 66 = .ok (.iastore, 1) := by decide +kernel
theorem dX12_readTheThrower_67 : decode cX12_readTheThrower 67 = .ok (.aload_n 0, 1) := by decide +kernel
theorem dX12_readTheThrower_68 : decode cX12_readTheThrower 68 = .ok (.getfield 43, 3) := by decide +kernel
theorem dX12_readTheThrower_71 : decode cX12_readTheThrower 71 = .ok (.iload_n 3, 1) := by decide +kernel
theorem dX12_readTheThrower_72 : decode cX12_readTheThrower 72 = .ok (.iaload, 1) := by decide +kernel
theorem dX12_readTheThrower_73 : decode cX12_readTheThrower 73 = .ok (.bipush (-9), 2) := by decide +kernel
theorem dX12_readTheThrower_75 : decode cX12_readTheThrower 75 = .ok (.if_icmp .ne 5, 3) := by decide +kernel
theorem dX12_readTheThrower_78 : decode cX12_readTheThrower 78 = .ok (.iconst 0, 1) := by decide +kernel
theorem dX12_readTheThrower_79 : decode cX12_readTheThrower 79 = .ok (.ireturn, 1) := by decide +kernel
theorem dX12_readTheThrower_80 : decode cX12_readTheThrower 80 = .ok (.aload_n 0, 1) := by decide +kernel
theorem dX12_readTheThrower_81 : decode cX12_readTheThrower 81 = .ok (.dup, 1) := by decide +kernel
theorem dX12_readTheThrower_82 : decode cX12_readTheThrower 82 = .ok (.getfield 95, 3) := by decide +kernel
theorem dX12_readTheThrower_85 : decode cX12_readTheThrower 85 = .ok (.iconst 1, 1) := by decide +kernel
theorem dX12_readTheThrower_86 : decode cX12_readTheThrower 86 = .ok (.iadd, 1) := by decide +kernel
theorem dX12_readTheThrower_87 : decode cX12_readTheThrower 87 = .ok (.putfield 95, 3) := by decide +kernel
theorem dX12_readTheThrower_90 : decode cX12_readTheThrower 90 = .ok (.aload_n 0, 1) := by decide +kernel
theorem dX12_readTheThrower_91 : decode cX12_readTheThrower 91 = .ok (.getfield 43, 3) := by decide +kernel
theorem dX12_readTheThrower_94 : decode cX12_readTheThrower 94 = .ok (.iload_n 3, 1) := by decide +kernel
theorem dX12_readTheThrower_95 : decode cX12_readTheThrower 95 = .ok (.iconst 1, 1) := by decide +kernel
theorem dX12_readTheThrower_96 : decode cX12_readTheThrower 96 = .ok (.iadd, 1) := by decide +kernel
theorem dX12_readTheThrower_97 : decode cX12_readTheThrower 97 = .ok (.aload_n 0, 1) := by decide +kernel
theorem dX12_readTheThrower_98 : decode cX12_readTheThrower 98 = .ok (.iload_n 1, 1) := by decide +kernel
theorem dX12_readTheThrower_99 : decode cX12_readTheThrower 99 = .ok (.iconst 1, 1) := by decide +kernel
theorem dX12_readTheThrower_100 : decode cX12_readTheThrower 100 = .ok (.bipush 9, 2) := by decide +kernel
theorem dX12_readTheThrower_102 : decode cX12_readTheThrower 102 = .ok (.invokevirtual 141, 3) := by decide +kernel
theorem dX12_readTheThrower_105 : decode cX12_readTheThrower 105 = .ok (.iastore, 1) := by decide +kernel
theorem dX12_readTheThrower_106 : decode cX12_readTheThrower 106 = .ok (.aload_n 0, 1) := by decide +kernel
theorem dX12_readTheThrower_107 : decode cX12_readTheThrower 107 = .ok (.dup, 1) := by decide +kernel
theorem dX12_readTheThrower_108 : decode cX12_readTheThrower 108 = .ok (.getfield 132, 3) := by decide +kernel
theorem dX12_readTheThrower_111 : decode cX12_readTheThrower 111 = .ok (.iconst 1, 1) := by decide +kernel
theorem dX12_readTheThrower_112 : decode cX12_readTheThrower 112 = .ok (.iadd, 1) := by decide +kernel
theorem dX12_readTheThrower_113 : decode cX12_readTheThrower 113 = .ok (.putfield 132, 3) := by decide +kernel
theorem dX12_readTheThrower_116 : decode cX12_readTheThrower 116 = .ok (.aload_n 0, 1) := by decide +kernel
theorem dX12_readTheThrower_117 : decode cX12_readTheThrower 117 = .ok (.getfield 43, 3) := by decide +kernel
theorem dX12_readTheThrower_120 : decode cX12_readTheThrower 120 = .ok (.iload_n 3, 1) := by decide +kernel
theorem dX12_readTheThrower_121 : decode cX12_readTheThrower 121 = .ok (.iconst 1, 1) := by decide +kernel
theorem dX12_readTheThrower_122 : decode cX12_readTheThrower 122 = .ok (.iadd, 1) := by decide +kernel
theorem dX12_readTheThrower_123 : decode cX12_readTheThrower 123 = .ok (.iaload, 1) := by decide +kernel
theorem dX12_readTheThrower_124 : decode cX12_readTheThrower 124 = .ok (.bipush (-9), 2) := by decide +kernel
theorem dX12_readTheThrower_126 : decode cX12_readTheThrower 126 = .ok (.if_icmp .eq 7, 3) := by decide +kernel
theorem dX12_readTheThrower_129 : decode cX12_readTheThrower 129 = .ok (.iconst 1, 1) := by decide +kernel
theorem dX12_readTheThrower_130 : decode cX12_readTheThrower 130 = .ok (.goto 4, 3) := by decide +kernel
theorem dX12_readTheThrower_133 : decode cX12_readTheThrower 133 = .ok (.iconst 0, 1) := by decide +kernel
theorem dX12_readTheThrower_134 : decode cX12_readTheThrower 134 = .ok (.ireturn, 1) := by decide +kernel
theorem dX12_reachOf_0 : decode cX12_reachOf 0 = .ok (.aload_n 0, 1) := by decide +kernel
theorem dX12_reachOf_1 : decode cX12_reachOf 1 = .ok (.getfield 25, 3) := by decide +kernel
theorem dX12_reachOf_4 : decode cX12_reachOf 4 = .ok (.iload_n 1, 1) := by decide +kernel
theorem dX12_reachOf_5 : decode cX12_reachOf 5 = .ok (.iaload, 1) := by decide +kernel
theorem dX12_reachOf_6 : decode cX12_reachOf 6 = .ok (.ifCond .ne 12, 3) := by decide +kernel
theorem dX12_reachOf_9 : decode cX12_reachOf 9 = .ok (.aload_n 0, 1) := by decide +kernel
theorem dX12_reachOf_10 : decode cX12_reachOf 10 = .ok (.getfield 28, 3) := by decide +kernel
theorem dX12_reachOf_13 : decode cX12_reachOf 13 = .ok (.iload_n 1, 1) := by decide +kernel
theorem dX12_reachOf_14 : decode cX12_reachOf 14 = .ok (.iaload, 1) := by decide +kernel
theorem dX12_reachOf_15 : decode cX12_reachOf 15 = .ok (.goto 32, 3) := by decide +kernel
theorem dX12_reachOf_18 : decode cX12_reachOf 18 = .ok (.aload_n 0, 1) := by decide +kernel
theorem dX12_reachOf_19 : decode cX12_reachOf 19 = .ok (.getfield 25, 3) := by decide +kernel
theorem dX12_reachOf_22 : decode cX12_reachOf 22 = .ok (.iload_n 1, 1) := by decide +kernel
theorem dX12_reachOf_23 : decode cX12_reachOf 23 = .ok (.iaload, 1) := by decide +kernel
theorem dX12_reachOf_24 : decode cX12_reachOf 24 = .ok (.iconst 1, 1) := by decide +kernel
theorem dX12_reachOf_25 : decode cX12_reachOf 25 = .ok (.if_icmp .ne 14, 3) := by decide +kernel
theorem dX12_reachOf_28 : decode cX12_reachOf 28 = .ok (.aload_n 0, 1) := by decide +kernel
theorem dX12_reachOf_29 : decode cX12_reachOf 29 = .ok (.getfield 28, 3) := by decide +kernel
theorem dX12_reachOf_32 : decode cX12_reachOf 32 = .ok (.iload_n 1, 1) := by decide +kernel
theorem dX12_reachOf_33 : decode cX12_reachOf 33 = .ok (.iaload, 1) := by decide +kernel
theorem dX12_reachOf_34 : decode cX12_reachOf 34 = .ok (.iconst 1, 1) := by decide +kernel
theorem dX12_reachOf_35 : decode cX12_reachOf 35 = .ok (.iadd, 1) := by decide +kernel
theorem dX12_reachOf_36 : decode cX12_reachOf 36 = .ok (.goto 11, 3) := by decide +kernel
theorem dX12_reachOf_39 : decode cX12_reachOf 39 = .ok (.iconst 2, 1) := by decide +kernel
theorem dX12_reachOf_40 : decode cX12_reachOf 40 = .ok (.aload_n 0, 1) := by decide +kernel
theorem dX12_reachOf_41 : decode cX12_reachOf 41 = .ok (.getfield 28, 3) := by decide +kernel
theorem dX12_reachOf_44 : decode cX12_reachOf 44 = .ok (.iload_n 1, 1) := by decide +kernel
theorem dX12_reachOf_45 : decode cX12_reachOf 45 = .ok (.iaload, 1) := by decide +kernel
theorem dX12_reachOf_46 : decode cX12_reachOf 46 = .ok (.imul, 1) := by decide +kernel
theorem dX12_reachOf_47 : decode cX12_reachOf 47 = .ok (.ireturn, 1) := by decide +kernel
theorem dX12_measureBy_0 : decode cX12_measureBy 0 = .ok (.iload_n 1, 1) := by decide +kernel
theorem dX12_measureBy_1 : decode cX12_measureBy 1 = .ok (.aload_n 0, 1) := by decide +kernel
theorem dX12_measureBy_2 : decode cX12_measureBy 2 = .ok (.getfield 19, 3) := by decide +kernel
theorem dX12_measureBy_5 : decode cX12_measureBy 5 = .ok (.iload_n 2, 1) := by decide +kernel
theorem dX12_measureBy_6 : decode cX12_measureBy 6 = .ok (.iaload, 1) := by decide +kernel
theorem dX12_measureBy_7 : decode cX12_measureBy 7 = .ok (.if_icmp .ge 14, 3) := by decide +kernel
theorem dX12_measureBy_10 : decode cX12_measureBy 10 = .ok (.aload_n 0, 1) := by decide +kernel
theorem dX12_measureBy_11 : decode cX12_measureBy 11 = .ok (.getfield 19, 3) := by decide +kernel
theorem dX12_measureBy_14 : decode cX12_measureBy 14 = .ok (.iload_n 2, 1) := by decide +kernel
theorem dX12_measureBy_15 : decode cX12_measureBy 15 = .ok (.iaload, 1) := by decide +kernel
theorem dX12_measureBy_16 : decode cX12_measureBy 16 = .ok (.iload_n 1, 1) := by decide +kernel
theorem dX12_measureBy_17 : decode cX12_measureBy 17 = .ok (.isub, 1) := by decide +kernel
theorem dX12_measureBy_18 : decode cX12_measureBy 18 = .ok (.goto 11, 3) := by decide +kernel
theorem dX12_measureBy_21 : decode cX12_measureBy 21 = .ok (.iload_n 1, 1) := by decide +kernel
theorem dX12_measureBy_22 : decode cX12_measureBy 22 = .ok (.aload_n 0, 1) := by decide +kernel
theorem dX12_measureBy_23 : decode cX12_measureBy 23 = .ok (.getfield 19, 3) := by decide +kernel
theorem dX12_measureBy_26 : decode cX12_measureBy 26 = .ok (.iload_n 2, 1) := by decide +kernel
theorem dX12_measureBy_27 : decode cX12_measureBy 27 = .ok (.iaload, 1) := by decide +kernel
theorem dX12_measureBy_28 : decode cX12_measureBy 28 = .ok (.isub, 1) := by decide +kernel
theorem dX12_measureBy_29 : decode cX12_measureBy 29 = .ok (.istore_n 3, 1) := by decide +kernel
theorem dX12_measureBy_30 : decode cX12_measureBy 30 = .ok (.iload_n 3, 1) := by decide +kernel
theorem dX12_measureBy_31 : decode cX12_measureBy 31 = .ok (.aload_n 0, 1) := by decide +kernel
theorem dX12_measureBy_32 : decode cX12_measureBy 32 = .ok (.getfield 22, 3) := by decide +kernel
theorem dX12_measureBy_35 : decode cX12_measureBy 35 = .ok (.iload_n 2, 1) := by decide +kernel
theorem dX12_measureBy_36 : decode cX12_measureBy 36 = .ok (.iaload, 1) := by decide +kernel
theorem dX12_measureBy_37 : decode cX12_measureBy 37 = .ok (.if_icmp .gt 7, 3) := by decide +kernel
theorem dX12_measureBy_40 : decode cX12_measureBy 40 = .ok (.iconst 0, 1) := by decide +kernel
theorem dX12_measureBy_41 : decode cX12_measureBy 41 = .ok (.goto 9, 3) := by decide +kernel
theorem dX12_measureBy_44 : decode cX12_measureBy 44 = .ok (.iload_n 3, 1) := by decide +kernel
theorem dX12_measureBy_45 : decode cX12_measureBy 45 = .ok (.aload_n 0, 1) := by decide +kernel
theorem dX12_measureBy_46 : decode cX12_measureBy 46 = .ok (.getfield 126, 3) := by decide +kernel
theorem dX12_measureBy_49 : decode cX12_measureBy 49 = .ok (.iadd, 1) := by decide +kernel
theorem dX12_measureBy_50 : decode cX12_measureBy 50 = .ok (.ireturn, 1) := by decide +kernel
theorem dX12_measureOf_0 : decode cX12_measureOf 0 = .ok (.aload_n 0, 1) := by decide +kernel
theorem dX12_measureOf_1 : decode cX12_measureOf 1 = .ok (.aload_n 0, 1) := by decide +kernel
theorem dX12_measureOf_2 : decode cX12_measureOf 2 = .ok (.iload_n 1, 1) := by decide +kernel
theorem dX12_measureOf_3 : decode cX12_measureOf 3 = .ok (.invokevirtual 151, 3) := by decide +kernel
theorem dX12_measureOf_6 : decode cX12_measureOf 6 = .ok (.iload_n 2, 1) := by decide +kernel
theorem dX12_measureOf_7 : decode cX12_measureOf 7 = .ok (.invokevirtual 154, 3) := by decide +kernel
theorem dX12_measureOf_10 : decode cX12_measureOf 10 = .ok (.ireturn, 1) := by decide +kernel
theorem dX12_bestRing_0 : decode cX12_bestRing 0 = .ok (.bipush (-9), 2) := by decide +kernel
theorem dX12_bestRing_2 : decode cX12_bestRing 2 = .ok (.istore_n 2, 1) := by decide +kernel
theorem dX12_bestRing_3 : decode cX12_bestRing 3 = .ok (.bipush 8, 2) := by decide +kernel
theorem dX12_bestRing_5 : decode cX12_bestRing 5 = .ok (.iload_n 1, 1) := by decide +kernel
theorem dX12_bestRing_6 : decode cX12_bestRing 6 = .ok (.imul, 1) := by decide +kernel
theorem dX12_bestRing_7 : decode cX12_bestRing 7 = .ok (.istore_n 3, 1) := by decide +kernel
theorem dX12_bestRing_8 : decode cX12_bestRing 8 = .ok (.iload_n 3, 1) := by decide +kernel
theorem dX12_bestRing_9 : decode cX12_bestRing 9 = .ok (.bipush 8, 2) := by decide +kernel
theorem dX12_bestRing_11 : decode cX12_bestRing 11 = .ok (.iload_n 1, 1) := by decide +kernel
theorem dX12_bestRing_12 : decode cX12_bestRing 12 = .ok (.imul, 1) := by decide +kernel
theorem dX12_bestRing_13 : decode cX12_bestRing 13 = .ok (.aload_n 0, 1) := by decide +kernel
theorem dX12_bestRing_14 : decode cX12_bestRing 14 = .ok (.getfield 31, 3) := by decide +kernel
theorem dX12_bestRing_17 : decode cX12_bestRing 17 = .ok (.iload_n 1, 1) := by decide +kernel
theorem dX12_bestRing_18 : decode cX12_bestRing 18 = .ok (.iaload, 1) := by decide +kernel
theorem dX12_bestRing_19 : decode cX12_bestRing 19 = .ok (.iadd, 1) := by decide +kernel
theorem dX12_bestRing_20 : decode cX12_bestRing 20 = .ok (.if_icmp .ge 57, 3) := by decide +kernel
theorem dX12_bestRing_23 : decode cX12_bestRing 23 = .ok (.iload_n 2, 1) := by decide +kernel
theorem dX12_bestRing_24 : decode cX12_bestRing 24 = .ok (.bipush (-9), 2) := by decide +kernel
theorem dX12_bestRing_26 : decode cX12_bestRing 26 = .ok (.if_icmp .eq 27, 3) := by decide +kernel
theorem dX12_bestRing_29 : decode cX12_bestRing 29 = .ok (.aload_n 0, 1) := by decide +kernel
theorem dX12_bestRing_30 : decode cX12_bestRing 30 = .ok (.getfield 37, 3) := by decide +kernel
theorem dX12_bestRing_33 : decode cX12_bestRing 33 = .ok (.iload_n 3, 1) := by decide +kernel
theorem dX12_bestRing_34 : decode cX12_bestRing 34 = .ok (.iaload, 1) := by decide +kernel
theorem dX12_bestRing_35 : decode cX12_bestRing 35 = .ok (.aload_n 0, 1) := by decide +kernel
theorem dX12_bestRing_36 : decode cX12_bestRing 36 = .ok (.getfield 37, 3) := by decide +kernel
theorem dX12_bestRing_39 : decode cX12_bestRing 39 = .ok (.iload_n 2, 1) := by decide +kernel
theorem dX12_bestRing_40 : decode cX12_bestRing 40 = .ok (.iaload, 1) := by decide +kernel
theorem dX12_bestRing_41 : decode cX12_bestRing 41 = .ok (.if_icmp .lt 12, 3) := by decide +kernel
theorem dX12_bestRing_44 : decode cX12_bestRing 44 = .ok (.aload_n 0, 1) := by decide +kernel
theorem dX12_bestRing_45 : decode cX12_bestRing 45 = .ok (.getfield 37, 3) := by decide +kernel
theorem dX12_bestRing_48 : decode cX12_bestRing 48 = .ok (.iload_n 3, 1) := by decide +kernel
theorem dX12_bestRing_49 : decode cX12_bestRing 49 = .ok (.iaload, 1) := by decide +kernel
theorem dX12_bestRing_50 : decode cX12_bestRing 50 = .ok (.ifCond .ne 7, 3) := by decide +kernel
theorem dX12_bestRing_53 : decode cX12_bestRing 53 = .ok (.iconst 1, 1) := by decide +kernel
theorem dX12_bestRing_54 : decode cX12_bestRing 54 = .ok (.goto 4, 3) := by decide +kernel
theorem dX12_bestRing_57 : decode cX12_bestRing 57 = .ok (.iconst 0, 1) := by decide +kernel
theorem dX12_bestRing_58 : decode cX12_bestRing 58 = .ok (.istore 4, 2) := by decide +kernel
theorem dX12_bestRing_60 : decode cX12_bestRing 60 = .ok (.iload 4, 2) := by decide +kernel
theorem dX12_bestRing_62 : decode cX12_bestRing 62 = .ok (.ifCond .eq 7, 3) := by decide +kernel
theorem dX12_bestRing_65 : decode cX12_bestRing 65 = .ok (.iload_n 3, 1) := by decide +kernel
theorem dX12_bestRing_66 : decode cX12_bestRing 66 = .ok (.goto 4, 3) := by decide +kernel
theorem dX12_bestRing_69 : decode cX12_bestRing 69 = .ok (.iload_n 2, 1) := by decide +kernel
theorem dX12_bestRing_70 : decode cX12_bestRing 70 = .ok (.istore_n 2, 1) := by decide +kernel
theorem dX12_bestRing_71 : decode cX12_bestRing 71 = .ok (.iinc 3 1, 3) := by decide +kernel
theorem dX12_bestRing_74 : decode cX12_bestRing 74 = .ok (.goto (-66), 3) := by decide +kernel
theorem dX12_bestRing_77 : decode cX12_bestRing 77 = .ok (.iload_n 2, 1) := by decide +kernel
theorem dX12_bestRing_78 : decode cX12_bestRing 78 = .ok (.ireturn, 1) := by decide +kernel
theorem dX12_hasHer_0 : decode cX12_hasHer 0 = .ok (.aload_n 0, 1) := by decide +kernel
theorem dX12_hasHer_1 : decode cX12_hasHer 1 = .ok (.iload_n 1, 1) := by decide +kernel
theorem dX12_hasHer_2 : decode cX12_hasHer 2 = .ok (.invokevirtual 158, 3) := by decide +kernel
theorem dX12_hasHer_5 : decode cX12_hasHer 5 = .ok (.istore_n 2, 1) := by decide +kernel
theorem dX12_hasHer_6 : decode cX12_hasHer 6 = .ok (.iload_n 2, 1) := by decide +kernel
theorem dX12_hasHer_7 : decode cX12_hasHer 7 = .ok (.bipush (-9), 2) := by decide +kernel
theorem dX12_hasHer_9 : decode cX12_hasHer 9 = .ok (.if_icmp .ne 8, 3) := by decide +kernel
theorem dX12_hasHer_12 : decode cX12_hasHer 12 = .ok (.bipush (-9), 2) := by decide +kernel
theorem dX12_hasHer_14 : decode cX12_hasHer 14 = .ok (.goto 9, 3) := by decide +kernel
theorem dX12_hasHer_17 : decode cX12_hasHer 17 = .ok (.aload_n 0, 1) := by decide +kernel
theorem dX12_hasHer_18 : decode cX12_hasHer 18 = .ok (.getfield 34, 3) := by decide +kernel
theorem dX12_hasHer_21 : decode cX12_hasHer 21 = .ok (.iload_n 2, 1) := by decide +kernel
theorem dX12_hasHer_22 : decode cX12_hasHer 22 = .ok (.iaload, 1) := by decide +kernel
theorem dX12_hasHer_23 : decode cX12_hasHer 23 = .ok (.ireturn, 1) := by decide +kernel
theorem dX12_ringers_0 : decode cX12_ringers 0 = .ok (.iconst 0, 1) := by decide +kernel
theorem dX12_ringers_1 : decode cX12_ringers 1 = .ok (.istore_n 2, 1) := by decide +kernel
theorem dX12_ringers_2 : decode cX12_ringers 2 = .ok (.bipush 8, 2) := by decide +kernel
theorem dX12_ringers_4 : decode cX12_ringers 4 = .ok (.iload_n 1, 1) := by decide +kernel
theorem dX12_ringers_5 : decode cX12_ringers 5 = .ok (.imul, 1) := by decide +kernel
theorem dX12_ringers_6 : decode cX12_ringers 6 = .ok (.istore_n 3, 1) := by decide +kernel
theorem dX12_ringers_7 : decode cX12_ringers 7 = .ok (.iload_n 3, 1) := by decide +kernel
theorem dX12_ringers_8 : decode cX12_ringers 8 = .ok (.bipush 8, 2) := by decide +kernel
theorem dX12_ringers_10 : decode cX12_ringers 10 = .ok (.iload_n 1, 1) := by decide +kernel
theorem dX12_ringers_11 : decode cX12_ringers 11 = .ok (.imul, 1) := by decide +kernel
theorem dX12_ringers_12 : decode cX12_ringers 12 = .ok (.aload_n 0, 1) := by decide +kernel
theorem dX12_ringers_13 : decode cX12_ringers 13 = .ok (.getfield 31, 3) := by decide +kernel
theorem dX12_ringers_16 : decode cX12_ringers 16 = .ok (.iload_n 1, 1) := by decide +kernel
theorem dX12_ringers_17 : decode cX12_ringers 17 = .ok (.iaload, 1) := by decide +kernel
theorem dX12_ringers_18 : decode cX12_ringers 18 = .ok (.iadd, 1) := by decide +kernel
theorem dX12_ringers_19 : decode cX12_ringers 19 = .ok (.if_icmp .ge 26, 3) := by decide +kernel
theorem dX12_ringers_22 : decode cX12_ringers 22 = .ok (.iload_n 2, 1) := by decide +kernel
theorem dX12_ringers_23 : decode cX12_ringers 23 = .ok (.aload_n 0, 1) := by decide +kernel
theorem dX12_ringers_24 : decode cX12_ringers 24 = .ok (.getfield 37, 3) := by decide +kernel
theorem dX12_ringers_27 : decode cX12_ringers 27 = .ok (.iload_n 3, 1) := by decide +kernel
theorem dX12_ringers_28 : decode cX12_ringers 28 = .ok (.iaload, 1) := by decide +kernel
theorem dX12_ringers_29 : decode cX12_ringers 29 = .ok (.ifCond .ne 7, 3) := by decide +kernel
theorem dX12_ringers_32 : decode cX12_ringers 32 = .ok (.iconst 1, 1) := by decide +kernel
theorem dX12_ringers_33 : decode cX12_ringers 33 = .ok (.goto 4, 3) := by decide +kernel
theorem dX12_ringers_36 : decode cX12_ringers 36 = .ok (.iconst 0, 1) := by decide +kernel
theorem dX12_ringers_37 : decode cX12_ringers 37 = .ok (.iadd, 1) := by decide +kernel
theorem dX12_ringers_38 : decode cX12_ringers 38 = .ok (.istore_n 2, 1) := by decide +kernel
theorem dX12_ringers_39 : decode cX12_ringers 39 = .ok (.iinc 3 1, 3) := by decide +kernel
theorem dX12_ringers_42 : decode cX12_ringers 42 = .ok (.goto (-35), 3) := by decide +kernel
theorem dX12_ringers_45 : decode cX12_ringers 45 = .ok (.iload_n 2, 1) := by decide +kernel
theorem dX12_ringers_46 : decode cX12_ringers 46 = .ok (.ireturn, 1) := by decide +kernel
theorem dX12_ofGirl_0 : decode cX12_ofGirl 0 = .ok (.aload_n 0, 1) := by decide +kernel
theorem dX12_ofGirl_1 : decode cX12_ofGirl 1 = .ok (.iload_n 1, 1) := by decide +kernel
theorem dX12_ofGirl_2 : decode cX12_ofGirl 2 = .ok (.invokevirtual 161, 3) := by decide +kernel
theorem dX12_ofGirl_5 : decode cX12_ofGirl 5 = .ok (.ifCond .ne 5, 3) := by decide +kernel
theorem dX12_ofGirl_8 : decode cX12_ofGirl 8 = .ok (.iconst (-1), 1) := by decide +kernel
theorem dX12_ofGirl_9 : decode cX12_ofGirl 9 = .ok (.ireturn, 1) := by decide +kernel
theorem dX12_ofGirl_10 : decode cX12_ofGirl 10 = .ok (.iload_n 2, 1) := by decide +kernel
theorem dX12_ofGirl_11 : decode cX12_ofGirl 11 = .ok (.tableswitch 96 0 5 #[37, 44, 51, 58, 64, 90], 37) := by decide +kernel
theorem dX12_ofGirl_48 : decode cX12_ofGirl 48 = .ok (.aload_n 0, 1) := by decide +kernel
theorem dX12_ofGirl_49 : decode cX12_ofGirl 49 = .ok (.getfield 19, 3) := by decide +kernel
theorem dX12_ofGirl_52 : decode cX12_ofGirl 52 = .ok (.iload_n 1, 1) := by decide +kernel
theorem dX12_ofGirl_53 : decode cX12_ofGirl 53 = .ok (.iaload, 1) := by decide +kernel
theorem dX12_ofGirl_54 : decode cX12_ofGirl 54 = .ok (.ireturn, 1) := by decide +kernel
theorem dX12_ofGirl_55 : decode cX12_ofGirl 55 = .ok (.aload_n 0, 1) := by decide +kernel
theorem dX12_ofGirl_56 : decode cX12_ofGirl 56 = .ok (.getfield 22, 3) := by decide +kernel
theorem dX12_ofGirl_59 : decode cX12_ofGirl 59 = .ok (.iload_n 1, 1) := by decide +kernel
theorem dX12_ofGirl_60 : decode cX12_ofGirl 60 = .ok (.iaload, 1) := by decide +kernel
theorem dX12_ofGirl_61 : decode cX12_ofGirl 61 = .ok (.ireturn, 1) := by decide +kernel
theorem dX12_ofGirl_62 : decode cX12_ofGirl 62 = .ok (.aload_n 0, 1) := by decide +kernel
theorem dX12_ofGirl_63 : decode cX12_ofGirl 63 = .ok (.getfield 31, 3) := by decide +kernel
theorem dX12_ofGirl_66 : decode cX12_ofGirl 66 = .ok (.iload_n 1, 1) := by decide +kernel
theorem dX12_ofGirl_67 : decode cX12_ofGirl 67 = .ok (.iaload, 1) := by decide +kernel
theorem dX12_ofGirl_68 : decode cX12_ofGirl 68 = .ok (.ireturn, 1) := by decide +kernel
theorem dX12_ofGirl_69 : decode cX12_ofGirl 69 = .ok (.aload_n 0, 1) := by decide +kernel
theorem dX12_ofGirl_70 : decode cX12_ofGirl 70 = .ok (.iload_n 1, 1) := by decide +kernel
theorem dX12_ofGirl_71 : decode cX12_ofGirl 71 = .ok (.invokevirtual 164, 3) := by decide +kernel
theorem dX12_ofGirl_74 : decode cX12_ofGirl 74 = .ok (.ireturn, 1) := by decide +kernel
theorem dX12_ofGirl_75 : decode cX12_ofGirl 75 = .ok (.aload_n 0, 1) := by decide +kernel
theorem dX12_ofGirl_76 : decode cX12_ofGirl 76 = .ok (.iload_n 1, 1) := by decide +kernel
theorem dX12_ofGirl_77 : decode cX12_ofGirl 77 = .ok (.invokevirtual 158, 3) := by decide +kernel
theorem dX12_ofGirl_80 : decode cX12_ofGirl 80 = .ok (.bipush (-9), 2) := by decide +kernel
theorem dX12_ofGirl_82 : decode cX12_ofGirl 82 = .ok (.if_icmp .ne 8, 3) := by decide +kernel
theorem dX12_ofGirl_85 : decode cX12_ofGirl 85 = .ok (.bipush (-9), 2) := by decide +kernel
theorem dX12_ofGirl_87 : decode cX12_ofGirl 87 = .ok (.goto 13, 3) := by decide +kernel
theorem dX12_ofGirl_90 : decode cX12_ofGirl 90 = .ok (.aload_n 0, 1) := by decide +kernel
theorem dX12_ofGirl_91 : decode cX12_ofGirl 91 = .ok (.getfield 37, 3) := by decide +kernel
theorem dX12_ofGirl_94 : decode cX12_ofGirl 94 = .ok (.aload_n 0, 1) := by decide +kernel
theorem dX12_ofGirl_95 : decode cX12_ofGirl 95 = .ok (.iload_n 1, 1) := by decide +kernel
theorem dX12_ofGirl_96 : decode cX12_ofGirl 96 = .ok (.invokevirtual 158, 3) := by decide +kernel
theorem dX12_ofGirl_99 : decode cX12_ofGirl 99 = .ok (.iaload, 1) := by decide +kernel
theorem dX12_ofGirl_100 : decode cX12_ofGirl 100 = .ok (.ireturn, 1) := by decide +kernel
theorem dX12_ofGirl_101 : decode cX12_ofGirl 101 = .ok (.aload_n 0, 1) := by decide +kernel
theorem dX12_ofGirl_102 : decode cX12_ofGirl 102 = .ok (.iload_n 1, 1) := by decide +kernel
theorem dX12_ofGirl_103 : decode cX12_ofGirl 103 = .ok (.invokevirtual 167, 3) := by decide +kernel
theorem dX12_ofGirl_106 : decode cX12_ofGirl 106 = .ok (.ireturn, 1) := by decide +kernel
theorem dX12_ofGirl_107 : decode cX12_ofGirl 107 = .ok (.bipush (-2), 2) := by decide +kernel
theorem dX12_ofGirl_109 : decode cX12_ofGirl 109 = .ok (.ireturn, 1) := by decide +kernel
theorem dX12_hasSet_0 : decode cX12_hasSet 0 = .ok (.iconst 0, 1) := by decide +kernel
theorem dX12_hasSet_1 : decode cX12_hasSet 1 = .ok (.istore_n 2, 1) := by decide +kernel
theorem dX12_hasSet_2 : decode cX12_hasSet 2 = .ok (.iconst 0, 1) := by decide +kernel
theorem dX12_hasSet_3 : decode cX12_hasSet 3 = .ok (.istore_n 3, 1) := by decide +kernel
theorem dX12_hasSet_4 : decode cX12_hasSet 4 = .ok (.iload_n 3, 1) := by decide +kernel
theorem dX12_hasSet_5 : decode cX12_hasSet 5 = .ok (.aload_n 0, 1) := by decide +kernel
theorem dX12_hasSet_6 : decode cX12_hasSet 6 = .ok (.getfield 89, 3) := by decide +kernel
theorem dX12_hasSet_9 : decode cX12_hasSet 9 = .ok (.if_icmp .ge 28, 3) := by decide +kernel
theorem dX12_hasSet_12 : decode cX12_hasSet 12 = .ok (.iload_n 2, 1) := by decide +kernel
theorem dX12_hasSet_13 : decode cX12_hasSet 13 = .ok (.aload_n 0, 1) := by decide +kernel
theorem dX12_hasSet_14 : decode cX12_hasSet 14 = .ok (.iload_n 3, 1) := by decide +kernel
theorem dX12_hasSet_15 : decode cX12_hasSet 15 = .ok (.invokevirtual 164, 3) := by decide +kernel
theorem dX12_hasSet_18 : decode cX12_hasSet 18 = .ok (.iload_n 1, 1) := by decide +kernel
theorem dX12_hasSet_19 : decode cX12_hasSet 19 = .ok (.if_icmp .ne 9, 3) := by decide +kernel
theorem dX12_hasSet_22 : decode cX12_hasSet 22 = .ok (.iconst 1, 1) := by decide +kernel
theorem dX12_hasSet_23 : decode cX12_hasSet 23 = .ok (.iload_n 3, 1) := by decide +kernel
theorem dX12_hasSet_24 : decode cX12_hasSet 24 = .ok (.ishl, 1) := by decide +kernel
theorem dX12_hasSet_25 : decode cX12_hasSet 25 = .ok (.goto 4, 3) := by decide +kernel
theorem dX12_hasSet_28 : decode cX12_hasSet 28 = .ok (.iconst 0, 1) := by decide +kernel
theorem dX12_hasSet_29 : decode cX12_hasSet 29 = .ok (.ior, 1) := by decide +kernel
theorem dX12_hasSet_30 : decode cX12_hasSet 30 = .ok (.istore_n 2, 1) := by decide +kernel
theorem dX12_hasSet_31 : decode cX12_hasSet 31 = .ok (.iinc 3 1, 3) := by decide +kernel
theorem dX12_hasSet_34 : decode cX12_hasSet 34 = .ok (.goto (-30), 3) := by decide +kernel
theorem dX12_hasSet_37 : decode cX12_hasSet 37 = .ok (.iload_n 2, 1) := by decide +kernel
theorem dX12_hasSet_38 : decode cX12_hasSet 38 = .ok (.ireturn, 1) := by decide +kernel
theorem dX12_ringsOf_0 : decode cX12_ringsOf 0 = .ok (.iconst 0, 1) := by decide +kernel
theorem dX12_ringsOf_1 : decode cX12_ringsOf 1 = .ok (.istore_n 2, 1) := by decide +kernel
theorem dX12_ringsOf_2 : decode cX12_ringsOf 2 = .ok (.iconst 0, 1) := by decide +kernel
theorem dX12_ringsOf_3 : decode cX12_ringsOf 3 = .ok (.istore_n 3, 1) := by decide +kernel
theorem dX12_ringsOf_4 : decode cX12_ringsOf 4 = .ok (.iload_n 3, 1) := by decide +kernel
theorem dX12_ringsOf_5 : decode cX12_ringsOf 5 = .ok (.aload_n 0, 1) := by decide +kernel
theorem dX12_ringsOf_6 : decode cX12_ringsOf 6 = .ok (.getfield 89, 3) := by decide +kernel
theorem dX12_ringsOf_9 : decode cX12_ringsOf 9 = .ok (.if_icmp .ge 53, 3) := by decide +kernel
theorem dX12_ringsOf_12 : decode cX12_ringsOf 12 = .ok (.iconst 0, 1) := by decide +kernel
theorem dX12_ringsOf_13 : decode cX12_ringsOf 13 = .ok (.istore 4, 2) := by decide +kernel
theorem dX12_ringsOf_15 : decode cX12_ringsOf 15 = .ok (.iload 4, 2) := by decide +kernel
theorem dX12_ringsOf_17 : decode cX12_ringsOf 17 = .ok (.aload_n 0, 1) := by decide +kernel
theorem dX12_ringsOf_18 : decode cX12_ringsOf 18 = .ok (.getfield 31, 3) := by decide +kernel
theorem dX12_ringsOf_21 : decode cX12_ringsOf 21 = .ok (.iload_n 3, 1) := by decide +kernel
theorem dX12_ringsOf_22 : decode cX12_ringsOf 22 = .ok (.iaload, 1) := by decide +kernel
theorem dX12_ringsOf_23 : decode cX12_ringsOf 23 = .ok (.if_icmp .ge 33, 3) := by decide +kernel
theorem dX12_ringsOf_26 : decode cX12_ringsOf 26 = .ok (.iload_n 2, 1) := by decide +kernel
theorem dX12_ringsOf_27 : decode cX12_ringsOf 27 = .ok (.aload_n 0, 1) := by decide +kernel
theorem dX12_ringsOf_28 : decode cX12_ringsOf 28 = .ok (.getfield 34, 3) := by decide +kernel
theorem dX12_ringsOf_31 : decode cX12_ringsOf 31 = .ok (.bipush 8, 2) := by decide +kernel
theorem dX12_ringsOf_33 : decode cX12_ringsOf 33 = .ok (.iload_n 3, 1) := by decide +kernel
theorem dX12_ringsOf_34 : decode cX12_ringsOf 34 = .ok (.imul, 1) := by decide +kernel
theorem dX12_ringsOf_35 : decode cX12_ringsOf 35 = .ok (.iload 4, 2) := by decide +kernel
theorem dX12_ringsOf_37 : decode cX12_ringsOf 37 = .ok (.iadd, 1) := by decide +kernel
theorem dX12_ringsOf_38 : decode cX12_ringsOf 38 = .ok (.iaload, 1) := by decide +kernel
theorem dX12_ringsOf_39 : decode cX12_ringsOf 39 = .ok (.iload_n 1, 1) := by decide +kernel
theorem dX12_ringsOf_40 : decode cX12_ringsOf 40 = .ok (.if_icmp .ne 7, 3) := by decide +kernel
theorem dX12_ringsOf_43 : decode cX12_ringsOf 43 = .ok (.iconst 1, 1) := by decide +kernel
theorem dX12_ringsOf_44 : decode cX12_ringsOf 44 = .ok (.goto 4, 3) := by decide +kernel
theorem dX12_ringsOf_47 : decode cX12_ringsOf 47 = .ok (.iconst 0, 1) := by decide +kernel
theorem dX12_ringsOf_48 : decode cX12_ringsOf 48 = .ok (.iadd, 1) := by decide +kernel
theorem dX12_ringsOf_49 : decode cX12_ringsOf 49 = .ok (.istore_n 2, 1) := by decide +kernel
theorem dX12_ringsOf_50 : decode cX12_ringsOf 50 = .ok (.iinc 4 1, 3) := by decide +kernel
theorem dX12_ringsOf_53 : decode cX12_ringsOf 53 = .ok (.goto (-38), 3) := by decide +kernel
theorem dX12_ringsOf_56 : decode cX12_ringsOf 56 = .ok (.iinc 3 1, 3) := by decide +kernel
theorem dX12_ringsOf_59 : decode cX12_ringsOf 59 = .ok (.goto (-55), 3) := by decide +kernel
theorem dX12_ringsOf_62 : decode cX12_ringsOf 62 = .ok (.iload_n 2, 1) := by decide +kernel
theorem dX12_ringsOf_63 : decode cX12_ringsOf 63 = .ok (.ireturn, 1) := by decide +kernel
theorem dX12_ofThrower_0 : decode cX12_ofThrower 0 = .ok (.aload_n 0, 1) := by decide +kernel
theorem dX12_ofThrower_1 : decode cX12_ofThrower 1 = .ok (.iload_n 1, 1) := by decide +kernel
theorem dX12_ofThrower_2 : decode cX12_ofThrower 2 = .ok (.invokevirtual 170, 3) := by decide +kernel
theorem dX12_ofThrower_5 : decode cX12_ofThrower 5 = .ok (.ifCond .ne 5, 3) := by decide +kernel
theorem dX12_ofThrower_8 : decode cX12_ofThrower 8 = .ok (.iconst (-1), 1) := by decide +kernel
theorem dX12_ofThrower_9 : decode cX12_ofThrower 9 = .ok (.ireturn, 1) := by decide +kernel
theorem dX12_ofThrower_10 : decode cX12_ofThrower 10 = .ok (.iload_n 2, 1) := by decide +kernel
theorem dX12_ofThrower_11 : decode cX12_ofThrower 11 = .ok (.tableswitch 65 0 4 #[33, 40, 47, 53, 59], 33) := by decide +kernel
theorem dX12_ofThrower_44 : decode cX12_ofThrower 44 = .ok (.aload_n 0, 1) := by decide +kernel
theorem dX12_ofThrower_45 : decode cX12_ofThrower 45 = .ok (.getfield 25, 3) := by decide +kernel
theorem dX12_ofThrower_48 : decode cX12_ofThrower 48 = .ok (.iload_n 1, 1) := by decide +kernel
theorem dX12_ofThrower_49 : decode cX12_ofThrower 49 = .ok (.iaload, 1) := by decide +kernel
theorem dX12_ofThrower_50 : decode cX12_ofThrower 50 = .ok (.ireturn, 1) := by decide +kernel
theorem dX12_ofThrower_51 : decode cX12_ofThrower 51 = .ok (.aload_n 0, 1) := by decide +kernel
theorem dX12_ofThrower_52 : decode cX12_ofThrower 52 = .ok (.getfield 28, 3) := by decide +kernel
theorem dX12_ofThrower_55 : decode cX12_ofThrower 55 = .ok (.iload_n 1, 1) := by decide +kernel
theorem dX12_ofThrower_56 : decode cX12_ofThrower 56 = .ok (.iaload, 1) := by decide +kernel
theorem dX12_ofThrower_57 : decode cX12_ofThrower 57 = .ok (.ireturn, 1) := by decide +kernel
theorem dX12_ofThrower_58 : decode cX12_ofThrower 58 = .ok (.aload_n 0, 1) := by decide +kernel
theorem dX12_ofThrower_59 : decode cX12_ofThrower 59 = .ok (.iload_n 1, 1) := by decide +kernel
theorem dX12_ofThrower_60 : decode cX12_ofThrower 60 = .ok (.invokevirtual 151, 3) := by decide +kernel
theorem dX12_ofThrower_63 : decode cX12_ofThrower 63 = .ok (.ireturn, 1) := by decide +kernel
theorem dX12_ofThrower_64 : decode cX12_ofThrower 64 = .ok (.aload_n 0, 1) := by decide +kernel
theorem dX12_ofThrower_65 : decode cX12_ofThrower 65 = .ok (.iload_n 1, 1) := by decide +kernel
theorem dX12_ofThrower_66 : decode cX12_ofThrower 66 = .ok (.invokevirtual 173, 3) := by decide +kernel
theorem dX12_ofThrower_69 : decode cX12_ofThrower 69 = .ok (.ireturn, 1) := by decide +kernel
theorem dX12_ofThrower_70 : decode cX12_ofThrower 70 = .ok (.aload_n 0, 1) := by decide +kernel
theorem dX12_ofThrower_71 : decode cX12_ofThrower 71 = .ok (.iload_n 1, 1) := by decide +kernel
theorem dX12_ofThrower_72 : decode cX12_ofThrower 72 = .ok (.invokevirtual 176, 3) := by decide +kernel
theorem dX12_ofThrower_75 : decode cX12_ofThrower 75 = .ok (.ireturn, 1) := by decide +kernel
theorem dX12_ofThrower_76 : decode cX12_ofThrower 76 = .ok (.bipush (-2), 2) := by decide +kernel
theorem dX12_ofThrower_78 : decode cX12_ofThrower 78 = .ok (.ireturn, 1) := by decide +kernel
theorem dX12_freeze_0 : decode cX12_freeze 0 = .ok (.iload_n 1, 1) := by decide +kernel
theorem dX12_freeze_1 : decode cX12_freeze 1 = .ok (.iconst 0, 1) := by decide +kernel
theorem dX12_freeze_2 : decode cX12_freeze 2 = .ok (.iconst 3, 1) := by decide +kernel
theorem dX12_freeze_3 : decode cX12_freeze 3 = .ok (.invokestatic 85, 3) := by decide +kernel
theorem dX12_freeze_6 : decode cX12_freeze 6 = .ok (.ifCond .ne 6, 3) := by decide +kernel
theorem dX12_freeze_9 : decode cX12_freeze 9 = .ok (.bipush (-2), 2) := by decide +kernel
theorem dX12_freeze_11 : decode cX12_freeze 11 = .ok (.ireturn, 1) := by decide +kernel
theorem dX12_freeze_12 : decode cX12_freeze 12 = .ok (.aload_n 0, 1) := by decide +kernel
theorem dX12_freeze_13 : decode cX12_freeze 13 = .ok (.getfield 89, 3) := by decide +kernel
theorem dX12_freeze_16 : decode cX12_freeze 16 = .ok (.ifCond .ne 6, 3) := by decide +kernel
theorem dX12_freeze_19 : decode cX12_freeze 19 = .ok (.bipush (-3), 2) := by decide +kernel
theorem dX12_freeze_21 : decode cX12_freeze 21 = .ok (.ireturn, 1) := by decide +kernel
theorem dX12_freeze_22 : decode cX12_freeze 22 = .ok (.aload_n 0, 1) := by decide +kernel
theorem dX12_freeze_23 : decode cX12_freeze 23 = .ok (.getfield 126, 3) := by decide +kernel
theorem dX12_freeze_26 : decode cX12_freeze 26 = .ok (.istore_n 2, 1) := by decide +kernel
theorem dX12_freeze_27 : decode cX12_freeze 27 = .ok (.aload_n 0, 1) := by decide +kernel
theorem dX12_freeze_28 : decode cX12_freeze 28 = .ok (.iload_n 1, 1) := by decide +kernel
theorem dX12_freeze_29 : decode cX12_freeze 29 = .ok (.putfield 126, 3) := by decide +kernel
theorem dX12_freeze_32 : decode cX12_freeze 32 = .ok (.iload_n 2, 1) := by decide +kernel
theorem dX12_freeze_33 : decode cX12_freeze 33 = .ok (.ireturn, 1) := by decide +kernel
theorem dX12_lean_0 : decode cX12_lean 0 = .ok (.aload_n 0, 1) := by decide +kernel
theorem dX12_lean_1 : decode cX12_lean 1 = .ok (.iload_n 1, 1) := by decide +kernel
theorem dX12_lean_2 : decode cX12_lean 2 = .ok (.invokevirtual 161, 3) := by decide +kernel
theorem dX12_lean_5 : decode cX12_lean 5 = .ok (.ifCond .ne 5, 3) := by decide +kernel
theorem dX12_lean_8 : decode cX12_lean 8 = .ok (.iconst (-1), 1) := by decide +kernel
theorem dX12_lean_9 : decode cX12_lean 9 = .ok (.ireturn, 1) := by decide +kernel
theorem dX12_lean_10 : decode cX12_lean 10 = .ok (.iload_n 2, 1) := by decide +kernel
theorem dX12_lean_11 : decode cX12_lean 11 = .ok (.iconst 0, 1) := by decide +kernel
theorem dX12_lean_12 : decode cX12_lean 12 = .ok (.bipush 9, 2) := by decide +kernel
theorem dX12_lean_14 : decode cX12_lean 14 = .ok (.invokestatic 85, 3) := by decide +kernel
theorem dX12_lean_17 : decode cX12_lean 17 = .ok (.ifCond .ne 6, 3) := by decide +kernel
theorem dX12_lean_20 : decode cX12_lean 20 = .ok (.bipush (-2), 2) := by decide +kernel
theorem dX12_lean_22 : decode cX12_lean 22 = .ok (.ireturn, 1) := by decide +kernel
theorem dX12_lean_23 : decode cX12_lean 23 = .ok (.aload_n 0, 1) := by decide +kernel
theorem dX12_lean_24 : decode cX12_lean 24 = .ok (.getfield 22, 3) := by decide +kernel
theorem dX12_lean_27 : decode cX12_lean 27 = .ok (.iload_n 1, 1) := by decide +kernel
theorem dX12_lean_28 : decode cX12_lean 28 = .ok (.iaload, 1) := by decide +kernel
theorem dX12_lean_29 : decode cX12_lean 29 = .ok (.istore_n 3, 1) := by decide +kernel
theorem dX12_lean_30 : decode cX12_lean 30 = .ok (.aload_n 0, 1) := by decide +kernel
theorem dX12_lean_31 : decode cX12_lean 31 = .ok (.getfield 22, 3) := by decide +kernel
theorem dX12_lean_34 : decode cX12_lean 34 = .ok (.iload_n 1, 1) := by decide +kernel
theorem dX12_lean_35 : decode cX12_lean 35 = .ok (.iload_n 2, 1) := by decide +kernel
theorem dX12_lean_36 : decode cX12_lean 36 = .ok (.iastore, 1) := by decide +kernel
theorem dX12_lean_37 : decode cX12_lean 37 = .ok (.iload_n 3, 1) := by decide +kernel
theorem dX12_lean_38 : decode cX12_lean 38 = .ok (.ireturn, 1) := by decide +kernel
theorem dX12_place_0 : decode cX12_place 0 = .ok (.aload_n 0, 1) := by decide +kernel
theorem dX12_place_1 : decode cX12_place 1 = .ok (.iload_n 1, 1) := by decide +kernel
theorem dX12_place_2 : decode cX12_place 2 = .ok (.invokevirtual 161, 3) := by decide +kernel
theorem dX12_place_5 : decode cX12_place 5 = .ok (.ifCond .ne 5, 3) := by decide +kernel
theorem dX12_place_8 : decode cX12_place 8 = .ok (.iconst (-1), 1) := by decide +kernel
theorem dX12_place_9 : decode cX12_place 9 = .ok (.ireturn, 1) := by decide +kernel
theorem dX12_place_10 : decode cX12_place 10 = .ok (.iload_n 2, 1) := by decide +kernel
theorem dX12_place_11 : decode cX12_place 11 = .ok (.iconst 1, 1) := by decide +kernel
theorem dX12_place_12 : decode cX12_place 12 = .ok (.bipush 9, 2) := by decide +kernel
theorem dX12_place_14 : decode cX12_place 14 = .ok (.invokestatic 85, 3) := by decide +kernel
theorem dX12_place_17 : decode cX12_place 17 = .ok (.ifCond .ne 6, 3) := by decide +kernel
theorem dX12_place_20 : decode cX12_place 20 = .ok (.bipush (-2), 2) := by decide +kernel
theorem dX12_place_22 : decode cX12_place 22 = .ok (.ireturn, 1) := by decide +kernel
theorem dX12_place_23 : decode cX12_place 23 = .ok (.aload_n 0, 1) := by decide +kernel
theorem dX12_place_24 : decode cX12_place 24 = .ok (.getfield 19, 3) := by decide +kernel
theorem dX12_place_27 : decode cX12_place 27 = .ok (.iload_n 1, 1) := by decide +kernel
theorem dX12_place_28 : decode cX12_place 28 = .ok (.iaload, 1) := by decide +kernel
theorem dX12_place_29 : decode cX12_place 29 = .ok (.istore_n 3, 1) := by decide +kernel
theorem dX12_place_30 : decode cX12_place 30 = .ok (.aload_n 0, 1) := by decide +kernel
theorem dX12_place_31 : decode cX12_place 31 = .ok (.getfield 19, 3) := by decide +kernel
theorem dX12_place_34 : decode cX12_place 34 = .ok (.iload_n 1, 1) := by decide +kernel
theorem dX12_place_35 : decode cX12_place 35 = .ok (.iload_n 2, 1) := by decide +kernel
theorem dX12_place_36 : decode cX12_place 36 = .ok (.iastore, 1) := by decide +kernel
theorem dX12_place_37 : decode cX12_place 37 = .ok (.iload_n 3, 1) := by decide +kernel
theorem dX12_place_38 : decode cX12_place 38 = .ok (.ireturn, 1) := by decide +kernel
theorem dX12_train_0 : decode cX12_train 0 = .ok (.aload_n 0, 1) := by decide +kernel
theorem dX12_train_1 : decode cX12_train 1 = .ok (.iload_n 1, 1) := by decide +kernel
theorem dX12_train_2 : decode cX12_train 2 = .ok (.invokevirtual 170, 3) := by decide +kernel
theorem dX12_train_5 : decode cX12_train 5 = .ok (.ifCond .ne 5, 3) := by decide +kernel
theorem dX12_train_8 : decode cX12_train 8 = .ok (.iconst (-1), 1) := by decide +kernel
theorem dX12_train_9 : decode cX12_train 9 = .ok (.ireturn, 1) := by decide +kernel
theorem dX12_train_10 : decode cX12_train 10 = .ok (.iload_n 2, 1) := by decide +kernel
theorem dX12_train_11 : decode cX12_train 11 = .ok (.iconst 1, 1) := by decide +kernel
theorem dX12_train_12 : decode cX12_train 12 = .ok (.bipush 9, 2) := by decide +kernel
theorem dX12_train_14 : decode cX12_train 14 = .ok (.invokestatic 85, 3) := by decide +kernel
theorem dX12_train_17 : decode cX12_train 17 = .ok (.ifCond .ne 6, 3) := by decide +kernel
theorem dX12_train_20 : decode cX12_train 20 = .ok (.bipush (-2), 2) := by decide +kernel
theorem dX12_train_22 : decode cX12_train 22 = .ok (.ireturn, 1) := by decide +kernel
theorem dX12_train_23 : decode cX12_train 23 = .ok (.aload_n 0, 1) := by decide +kernel
theorem dX12_train_24 : decode cX12_train 24 = .ok (.getfield 28, 3) := by decide +kernel
theorem dX12_train_27 : decode cX12_train 27 = .ok (.iload_n 1, 1) := by decide +kernel
theorem dX12_train_28 : decode cX12_train 28 = .ok (.iaload, 1) := by decide +kernel
theorem dX12_train_29 : decode cX12_train 29 = .ok (.istore_n 3, 1) := by decide +kernel
theorem dX12_train_30 : decode cX12_train 30 = .ok (.aload_n 0, 1) := by decide +kernel
theorem dX12_train_31 : decode cX12_train 31 = .ok (.getfield 28, 3) := by decide +kernel
theorem dX12_train_34 : decode cX12_train 34 = .ok (.iload_n 1, 1) := by decide +kernel
theorem dX12_train_35 : decode cX12_train 35 = .ok (.iload_n 2, 1) := by decide +kernel
theorem dX12_train_36 : decode cX12_train 36 = .ok (.iastore, 1) := by decide +kernel
theorem dX12_train_37 : decode cX12_train 37 = .ok (.iload_n 3, 1) := by decide +kernel
theorem dX12_train_38 : decode cX12_train 38 = .ok (.ireturn, 1) := by decide +kernel
theorem dX12_measure_0 : decode cX12_measure 0 = .ok (.aload_n 0, 1) := by decide +kernel
theorem dX12_measure_1 : decode cX12_measure 1 = .ok (.iload_n 1, 1) := by decide +kernel
theorem dX12_measure_2 : decode cX12_measure 2 = .ok (.invokevirtual 170, 3) := by decide +kernel
theorem dX12_measure_5 : decode cX12_measure 5 = .ok (.ifCond .eq 20, 3) := by decide +kernel
theorem dX12_measure_8 : decode cX12_measure 8 = .ok (.aload_n 0, 1) := by decide +kernel
theorem dX12_measure_9 : decode cX12_measure 9 = .ok (.iload_n 2, 1) := by decide +kernel
theorem dX12_measure_10 : decode cX12_measure 10 = .ok (.invokevirtual 161, 3) := by decide +kernel
theorem dX12_measure_13 : decode cX12_measure 13 = .ok (.ifCond .eq 12, 3) := by decide +kernel
theorem dX12_measure_16 : decode cX12_measure 16 = .ok (.aload_n 0, 1) := by decide +kernel
theorem dX12_measure_17 : decode cX12_measure 17 = .ok (.iload_n 1, 1) := by decide +kernel
theorem dX12_measure_18 : decode cX12_measure 18 = .ok (.iload_n 2, 1) := by decide +kernel
theorem dX12_measure_19 : decode cX12_measure 19 = .ok (.invokevirtual 179, 3) := by decide +kernel
theorem dX12_measure_22 : decode cX12_measure 22 = .ok (.goto 4, 3) := by decide +kernel
theorem dX12_measure_25 : decode cX12_measure 25 = .ok (.iconst (-1), 1) := by decide +kernel
theorem dX12_measure_26 : decode cX12_measure 26 = .ok (.ireturn, 1) := by decide +kernel
theorem dX12_layOn_0 : decode cX12_layOn 0 = .ok (.aload_n 0, 1) := by decide +kernel
theorem dX12_layOn_1 : decode cX12_layOn 1 = .ok (.getfield 34, 3) := by decide +kernel
theorem dX12_layOn_4 : decode cX12_layOn 4 = .ok (.bipush 8, 2) := by decide +kernel
theorem dX12_layOn_6 : decode cX12_layOn 6 = .ok (.iload_n 2, 1) := by decide +kernel
theorem dX12_layOn_7 : decode cX12_layOn 7 = .ok (.imul, 1) := by decide +kernel
theorem dX12_layOn_8 : decode cX12_layOn 8 = .ok (.aload_n 0, 1) := by decide +kernel
theorem dX12_layOn_9 : decode cX12_layOn 9 = .ok (.getfield 31, 3) := by decide +kernel
theorem dX12_layOn_12 : decode cX12_layOn 12 = .ok (.iload_n 2, 1) := by decide +kernel
theorem dX12_layOn_13 : decode cX12_layOn 13 = .ok (.iaload, 1) := by decide +kernel
theorem dX12_layOn_14 : decode cX12_layOn 14 = .ok (.iadd, 1) := by decide +kernel
theorem dX12_layOn_15 : decode cX12_layOn 15 = .ok (.iload_n 1, 1) := by decide +kernel
theorem dX12_layOn_16 : decode cX12_layOn 16 = .ok (.iastore, 1) := by decide +kernel
theorem dX12_layOn_17 : decode cX12_layOn 17 = .ok (.aload_n 0, 1) := by decide +kernel
theorem dX12_layOn_18 : decode cX12_layOn 18 = .ok (.getfield 37, 3) := by decide +kernel
theorem dX12_layOn_21 : decode cX12_layOn 21 = .ok (.bipush 8, 2) := by decide +kernel
theorem dX12_layOn_23 : decode cX12_layOn 23 = .ok (.iload_n 2, 1) := by decide +kernel
theorem dX12_layOn_24 : decode cX12_layOn 24 = .ok (.imul, 1) := by decide +kernel
theorem dX12_layOn_25 : decode cX12_layOn 25 = .ok (.aload_n 0, 1) := by decide +kernel
theorem dX12_layOn_26 : decode cX12_layOn 26 = .ok (.getfield 31, 3) := by decide +kernel
theorem dX12_layOn_29 : decode cX12_layOn 29 = .ok (.iload_n 2, 1) := by decide +kernel
theorem dX12_layOn_30 : decode cX12_layOn 30 = .ok (.iaload, 1) := by decide +kernel
theorem dX12_layOn_31 : decode cX12_layOn 31 = .ok (.iadd, 1) := by decide +kernel
theorem dX12_layOn_32 : decode cX12_layOn 32 = .ok (.iload_n 3, 1) := by decide +kernel
theorem dX12_layOn_33 : decode cX12_layOn 33 = .ok (.iastore, 1) := by decide +kernel
theorem dX12_layOn_34 : decode cX12_layOn 34 = .ok (.aload_n 0, 1) := by decide +kernel
theorem dX12_layOn_35 : decode cX12_layOn 35 = .ok (.getfield 31, 3) := by decide +kernel
theorem dX12_layOn_38 : decode cX12_layOn 38 = .ok (.iload_n 2, 1) := by decide +kernel
theorem dX12_layOn_39 : decode cX12_layOn 39 = .ok (.dup2, 1) := by decide +kernel
theorem dX12_layOn_40 : decode cX12_layOn 40 = .ok (.iaload, 1) := by decide +kernel
theorem dX12_layOn_41 : decode cX12_layOn 41 = .ok (.iconst 1, 1) := by decide +kernel
theorem dX12_layOn_42 : decode cX12_layOn 42 = .ok (.iadd, 1) := by decide +kernel
theorem dX12_layOn_43 : decode cX12_layOn 43 = .ok (.iastore, 1) := by decide +kernel
theorem dX12_layOn_44 : decode cX12_layOn 44 = .ok (.return_, 1) := by decide +kernel
theorem dX12_hurl_0 : decode cX12_hurl 0 = .ok (.aload_n 0, 1) := by decide +kernel
theorem dX12_hurl_1 : decode cX12_hurl 1 = .ok (.iload_n 1, 1) := by decide +kernel
theorem dX12_hurl_2 : decode cX12_hurl 2 = .ok (.invokevirtual 170, 3) := by decide +kernel
theorem dX12_hurl_5 : decode cX12_hurl 5 = .ok (.ifCond .eq 11, 3) := by decide +kernel
theorem dX12_hurl_8 : decode cX12_hurl 8 = .ok (.aload_n 0, 1) := by decide +kernel
theorem dX12_hurl_9 : decode cX12_hurl 9 = .ok (.iload_n 2, 1) := by decide +kernel
theorem dX12_hurl_10 : decode cX12_hurl 10 = .ok (.invokevirtual 161, 3) := by decide +kernel
theorem dX12_hurl_13 : decode cX12_hurl 13 = .ok (.ifCond .ne 5, 3) := by decide +kernel
theorem dX12_hurl_16 : decode cX12_hurl 16 = .ok (.iconst (-1), 1) := by decide +kernel
theorem dX12_hurl_17 : decode cX12_hurl 17 = .ok (.ireturn, 1) := by decide +kernel
theorem dX12_hurl_18 : decode cX12_hurl 18 = .ok (.aload_n 0, 1) := by decide +kernel
theorem dX12_hurl_19 : decode cX12_hurl 19 = .ok (.getfield 31, 3) := by decide +kernel
theorem dX12_hurl_22 : decode cX12_hurl 22 = .ok (.iload_n 2, 1) := by decide +kernel
theorem dX12_hurl_23 : decode cX12_hurl 23 = .ok (.iaload, 1) := by decide +kernel
theorem dX12_hurl_24 : decode cX12_hurl 24 = .ok (.bipush 8, 2) := by decide +kernel
theorem dX12_hurl_26 : decode cX12_hurl 26 = .ok (.if_icmp .ne 6, 3) := by decide +kernel
theorem dX12_hurl_29 : decode cX12_hurl 29 = .ok (.bipush (-4), 2) := by decide +kernel
theorem dX12_hurl_31 : decode cX12_hurl 31 = .ok (.ireturn, 1) := by decide +kernel
theorem dX12_hurl_32 : decode cX12_hurl 32 = .ok (.aload_n 0, 1) := by decide +kernel
theorem dX12_hurl_33 : decode cX12_hurl 33 = .ok (.iload_n 1, 1) := by decide +kernel
theorem dX12_hurl_34 : decode cX12_hurl 34 = .ok (.iload_n 2, 1) := by decide +kernel
theorem dX12_hurl_35 : decode cX12_hurl 35 = .ok (.invokevirtual 179, 3) := by decide +kernel
theorem dX12_hurl_38 : decode cX12_hurl 38 = .ok (.istore_n 3, 1) := by decide +kernel
theorem dX12_hurl_39 : decode cX12_hurl 39 = .ok (.aload_n 0, 1) := by decide +kernel
theorem dX12_hurl_40 : decode cX12_hurl 40 = .ok (.iload_n 1, 1) := by decide +kernel
theorem dX12_hurl_41 : decode cX12_hurl 41 = .ok (.iload_n 2, 1) := by decide +kernel
theorem dX12_hurl_42 : decode cX12_hurl 42 = .ok (.iload_n 3, 1) := by decide +kernel
theorem dX12_hurl_43 : decode cX12_hurl 43 = .ok (.invokevirtual 182, 3) := by decide +kernel
theorem dX12_hurl_46 : decode cX12_hurl 46 = .ok (.iload_n 3, 1) := by decide +kernel
theorem dX12_hurl_47 : decode cX12_hurl 47 = .ok (.ireturn, 1) := by decide +kernel
theorem dX12_lift_0 : decode cX12_lift 0 = .ok (.aload_n 0, 1) := by decide +kernel
theorem dX12_lift_1 : decode cX12_lift 1 = .ok (.iload_n 1, 1) := by decide +kernel
theorem dX12_lift_2 : decode cX12_lift 2 = .ok (.invokevirtual 161, 3) := by decide +kernel
theorem dX12_lift_5 : decode cX12_lift 5 = .ok (.ifCond .ne 5, 3) := by decide +kernel
theorem dX12_lift_8 : decode cX12_lift 8 = .ok (.iconst (-1), 1) := by decide +kernel
theorem dX12_lift_9 : decode cX12_lift 9 = .ok (.ireturn, 1) := by decide +kernel
theorem dX12_lift_10 : decode cX12_lift 10 = .ok (.aload_n 0, 1) := by decide +kernel
theorem dX12_lift_11 : decode cX12_lift 11 = .ok (.getfield 31, 3) := by decide +kernel
theorem dX12_lift_14 : decode cX12_lift 14 = .ok (.iload_n 1, 1) := by decide +kernel
theorem dX12_lift_15 : decode cX12_lift 15 = .ok (.iaload, 1) := by decide +kernel
theorem dX12_lift_16 : decode cX12_lift 16 = .ok (.ifCond .ne 6, 3) := by decide +kernel
theorem dX12_lift_19 : decode cX12_lift 19 = .ok (.bipush (-3), 2) := by decide +kernel
theorem dX12_lift_21 : decode cX12_lift 21 = .ok (.ireturn, 1) := by decide +kernel
theorem dX12_lift_22 : decode cX12_lift 22 = .ok (.aload_n 0, 1) := by decide +kernel
theorem dX12_lift_23 : decode cX12_lift 23 = .ok (.getfield 31, 3) := by decide +kernel
theorem dX12_lift_26 : decode cX12_lift 26 = .ok (.iload_n 1, 1) := by decide +kernel
theorem dX12_lift_27 : decode cX12_lift 27 = .ok (.dup2, 1) := by decide +kernel
theorem dX12_lift_28 : decode cX12_lift 28 = .ok (.iaload, 1) := by decide +kernel
theorem dX12_lift_29 : decode cX12_lift 29 = .ok (.iconst 1, 1) := by decide +kernel
theorem dX12_lift_30 : decode cX12_lift 30 = .ok (.isub, 1) := by decide +kernel
theorem dX12_lift_31 : decode cX12_lift 31 = .ok (.iastore, 1) := by decide +kernel
theorem dX12_lift_32 : decode cX12_lift 32 = .ok (.aload_n 0, 1) := by decide +kernel
theorem dX12_lift_33 : decode cX12_lift 33 = .ok (.getfield 34, 3) := by decide +kernel
theorem dX12_lift_36 : decode cX12_lift 36 = .ok (.bipush 8, 2) := by decide +kernel
theorem dX12_lift_38 : decode cX12_lift 38 = .ok (.iload_n 1, 1) := by decide +kernel
theorem dX12_lift_39 : decode cX12_lift 39 = .ok (.imul, 1) := by decide +kernel
theorem dX12_lift_40 : decode cX12_lift 40 = .ok (.aload_n 0, 1) := by decide +kernel
theorem dX12_lift_41 : decode cX12_lift 41 = .ok (.getfield 31, 3) := by decide +kernel
theorem dX12_lift_44 : decode cX12_lift 44 = .ok (.iload_n 1, 1) := by decide +kernel
theorem dX12_lift_45 : decode cX12_lift 45 = .ok (.iaload, 1) := by decide +kernel
theorem dX12_lift_46 : decode cX12_lift 46 = .ok (.iadd, 1) := by decide +kernel
theorem dX12_lift_47 : decode cX12_lift 47 = .ok (.iaload, 1) := by decide +kernel
theorem dX12_lift_48 : decode cX12_lift 48 = .ok (.ireturn, 1) := by decide +kernel
theorem dX12_clear_0 : decode cX12_clear 0 = .ok (.aload_n 0, 1) := by decide +kernel
theorem dX12_clear_1 : decode cX12_clear 1 = .ok (.iload_n 1, 1) := by decide +kernel
theorem dX12_clear_2 : decode cX12_clear 2 = .ok (.invokevirtual 161, 3) := by decide +kernel
theorem dX12_clear_5 : decode cX12_clear 5 = .ok (.ifCond .ne 5, 3) := by decide +kernel
theorem dX12_clear_8 : decode cX12_clear 8 = .ok (.iconst (-1), 1) := by decide +kernel
theorem dX12_clear_9 : decode cX12_clear 9 = .ok (.ireturn, 1) := by decide +kernel
theorem dX12_clear_10 : decode cX12_clear 10 = .ok (.aload_n 0, 1) := by decide +kernel
theorem dX12_clear_11 : decode cX12_clear 11 = .ok (.getfield 31, 3) := by decide +kernel
theorem dX12_clear_14 : decode cX12_clear 14 = .ok (.iload_n 1, 1) := by decide +kernel
theorem dX12_clear_15 : decode cX12_clear 15 = .ok (.iaload, 1) := by decide +kernel
theorem dX12_clear_16 : decode cX12_clear 16 = .ok (.istore_n 2, 1) := by decide +kernel
theorem dX12_clear_17 : decode cX12_clear 17 = .ok (.aload_n 0, 1) := by decide +kernel
theorem dX12_clear_18 : decode cX12_clear 18 = .ok (.getfield 31, 3) := by decide +kernel
theorem dX12_clear_21 : decode cX12_clear 21 = .ok (.iload_n 1, 1) := by decide +kernel
theorem dX12_clear_22 : decode cX12_clear 22 = .ok (.iconst 0, 1) := by decide +kernel
theorem dX12_clear_23 : decode cX12_clear 23 = .ok (.iastore, 1) := by decide +kernel
theorem dX12_clear_24 : decode cX12_clear 24 = .ok (.iload_n 2, 1) := by decide +kernel
theorem dX12_clear_25 : decode cX12_clear 25 = .ok (.ireturn, 1) := by decide +kernel
theorem dX12_keep_0 : decode cX12_keep 0 = .ok (.aload_n 0, 1) := by decide +kernel
theorem dX12_keep_1 : decode cX12_keep 1 = .ok (.aload_n 0, 1) := by decide +kernel
theorem dX12_keep_2 : decode cX12_keep 2 = .ok (.getfield 126, 3) := by decide +kernel
theorem dX12_keep_5 : decode cX12_keep 5 = .ok (.putfield 186, 3) := by decide +kernel
theorem dX12_keep_8 : decode cX12_keep 8 = .ok (.iconst 0, 1) := by decide +kernel
theorem dX12_keep_9 : decode cX12_keep 9 = .ok (.istore_n 1, 1) := by decide +kernel
theorem dX12_keep_10 : decode cX12_keep 10 = .ok (.iload_n 1, 1) := by decide +kernel
theorem dX12_keep_11 : decode cX12_keep 11 = .ok (.aload_n 0, 1) := by decide +kernel
theorem dX12_keep_12 : decode cX12_keep 12 = .ok (.getfield 89, 3) := by decide +kernel
theorem dX12_keep_15 : decode cX12_keep 15 = .ok (.if_icmp .ge 21, 3) := by decide +kernel
theorem dX12_keep_18 : decode cX12_keep 18 = .ok (.aload_n 0, 1) := by decide +kernel
theorem dX12_keep_19 : decode cX12_keep 19 = .ok (.getfield 46, 3) := by decide +kernel
theorem dX12_keep_22 : decode cX12_keep 22 = .ok (.iload_n 1, 1) := by decide +kernel
theorem dX12_keep_23 : decode cX12_keep 23 = .ok (.aload_n 0, 1) := by decide +kernel
theorem dX12_keep_24 : decode cX12_keep 24 = .ok (.getfield 31, 3) := by decide +kernel
theorem dX12_keep_27 : decode cX12_keep 27 = .ok (.iload_n 1, 1) := by decide +kernel
theorem dX12_keep_28 : decode cX12_keep 28 = .ok (.iaload, 1) := by decide +kernel
theorem dX12_keep_29 : decode cX12_keep 29 = .ok (.iastore, 1) := by decide +kernel
theorem dX12_keep_30 : decode cX12_keep 30 = .ok (.iinc 1 1, 3) := by decide +kernel
theorem dX12_keep_33 : decode cX12_keep 33 = .ok (.goto (-23), 3) := by decide +kernel
theorem dX12_keep_36 : decode cX12_keep 36 = .ok (.iconst 0, 1) := by decide +kernel
theorem dX12_keep_37 : decode cX12_keep 37 = .ok (.istore_n 1, 1) := by decide +kernel
theorem dX12_keep_38 : decode cX12_keep 38 = .ok (.iload_n 1, 1) := by decide +kernel
theorem dX12_keep_39 : decode cX12_keep 39 = .ok (.bipush 32, 2) := by decide +kernel
theorem dX12_keep_41 : decode cX12_keep 41 = .ok (.if_icmp .ge 33, 3) := by decide +kernel
theorem dX12_keep_44 : decode cX12_keep 44 = .ok (.aload_n 0, 1) := by decide +kernel
theorem dX12_keep_45 : decode cX12_keep 45 = .ok (.getfield 49, 3) := by decide +kernel
theorem dX12_keep_48 : decode cX12_keep 48 = .ok (.iload_n 1, 1) := by decide +kernel
theorem dX12_keep_49 : decode cX12_keep 49 = .ok (.aload_n 0, 1) := by decide +kernel
theorem dX12_keep_50 : decode cX12_keep 50 = .ok (.getfield 34, 3) := by decide +kernel
theorem dX12_keep_53 : decode cX12_keep 53 = .ok (.iload_n 1, 1) := by decide +kernel
theorem dX12_keep_54 : decode cX12_keep 54 = .ok (.iaload, 1) := by decide +kernel
theorem dX12_keep_55 : decode cX12_keep 55 = .ok (.iastore, 1) := by decide +kernel
theorem dX12_keep_56 : decode cX12_keep 56 = .ok (.aload_n 0, 1) := by decide +kernel
theorem dX12_keep_57 : decode cX12_keep 57 = .ok (.getfield 52, 3) := by decide +kernel
theorem dX12_keep_60 : decode cX12_keep 60 = .ok (.iload_n 1, 1) := by decide +kernel
theorem dX12_keep_61 : decode cX12_keep 61 = .ok (.aload_n 0, 1) := by decide +kernel
theorem dX12_keep_62 : decode cX12_keep 62 = .ok (.getfield 37, 3) := by decide +kernel
theorem dX12_keep_65 : decode cX12_keep 65 = .ok (.iload_n 1, 1) := by decide +kernel
theorem dX12_keep_66 : decode cX12_keep 66 = .ok (.iaload, 1) := by decide +kernel
theorem dX12_keep_67 : decode cX12_keep 67 = .ok (.iastore, 1) := by decide +kernel
theorem dX12_keep_68 : decode cX12_keep 68 = .ok (.iinc 1 1, 3) := by decide +kernel
theorem dX12_keep_71 : decode cX12_keep 71 = .ok (.goto (-33), 3) := by decide +kernel
theorem dX12_keep_74 : decode cX12_keep 74 = .ok (.return_, 1) := by decide +kernel
theorem dX12_putBack_0 : decode cX12_putBack 0 = .ok (.aload_n 0, 1) := by decide +kernel
theorem dX12_putBack_1 : decode cX12_putBack 1 = .ok (.aload_n 0, 1) := by decide +kernel
theorem dX12_putBack_2 : decode cX12_putBack 2 = .ok (.getfield 186, 3) := by decide +kernel
theorem dX12_putBack_5 : decode cX12_putBack 5 = .ok (.putfield 126, 3) := by decide +kernel
theorem dX12_putBack_8 : decode cX12_putBack 8 = .ok (.iconst 0, 1) := by decide +kernel
theorem dX12_putBack_9 : decode cX12_putBack 9 = .ok (.istore_n 1, 1) := by decide +kernel
theorem dX12_putBack_10 : decode cX12_putBack 10 = .ok (.iload_n 1, 1) := by decide +kernel
theorem dX12_putBack_11 : decode cX12_putBack 11 = .ok (.aload_n 0, 1) := by decide +kernel
theorem dX12_putBack_12 : decode cX12_putBack 12 = .ok (.getfield 89, 3) := by decide +kernel
theorem dX12_putBack_15 : decode cX12_putBack 15 = .ok (.if_icmp .ge 21, 3) := by decide +kernel
theorem dX12_putBack_18 : decode cX12_putBack 18 = .ok (.aload_n 0, 1) := by decide +kernel
theorem dX12_putBack_19 : decode cX12_putBack 19 = .ok (.getfield 31, 3) := by decide +kernel
theorem dX12_putBack_22 : decode cX12_putBack 22 = .ok (.iload_n 1, 1) := by decide +kernel
theorem dX12_putBack_23 : decode cX12_putBack 23 = .ok (.aload_n 0, 1) := by decide +kernel
theorem dX12_putBack_24 : decode cX12_putBack 24 = .ok (.getfield 46, 3) := by decide +kernel
theorem dX12_putBack_27 : decode cX12_putBack 27 = .ok (.iload_n 1, 1) := by decide +kernel
theorem dX12_putBack_28 : decode cX12_putBack 28 = .ok (.iaload, 1) := by decide +kernel
theorem dX12_putBack_29 : decode cX12_putBack 29 = .ok (.iastore, 1) := by decide +kernel
theorem dX12_putBack_30 : decode cX12_putBack 30 = .ok (.iinc 1 1, 3) := by decide +kernel
theorem dX12_putBack_33 : decode cX12_putBack 33 = .ok (.goto (-23), 3) := by decide +kernel
theorem dX12_putBack_36 : decode cX12_putBack 36 = .ok (.iconst 0, 1) := by decide +kernel
theorem dX12_putBack_37 : decode cX12_putBack 37 = .ok (.istore_n 1, 1) := by decide +kernel
theorem dX12_putBack_38 : decode cX12_putBack 38 = .ok (.iload_n 1, 1) := by decide +kernel
theorem dX12_putBack_39 : decode cX12_putBack 39 = .ok (.bipush 32, 2) := by decide +kernel
theorem dX12_putBack_41 : decode cX12_putBack 41 = .ok (.if_icmp .ge 33, 3) := by decide +kernel
theorem dX12_putBack_44 : decode cX12_putBack 44 = .ok (.aload_n 0, 1) := by decide +kernel
theorem dX12_putBack_45 : decode cX12_putBack 45 = .ok (.getfield 34, 3) := by decide +kernel
theorem dX12_putBack_48 : decode cX12_putBack 48 = .ok (.iload_n 1, 1) := by decide +kernel
theorem dX12_putBack_49 : decode cX12_putBack 49 = .ok (.aload_n 0, 1) := by decide +kernel
theorem dX12_putBack_50 : decode cX12_putBack 50 = .ok (.getfield 49, 3) := by decide +kernel
theorem dX12_putBack_53 : decode cX12_putBack 53 = .ok (.iload_n 1, 1) := by decide +kernel
theorem dX12_putBack_54 : decode cX12_putBack 54 = .ok (.iaload, 1) := by decide +kernel
theorem dX12_putBack_55 : decode cX12_putBack 55 = .ok (.iastore, 1) := by decide +kernel
theorem dX12_putBack_56 : decode cX12_putBack 56 = .ok (.aload_n 0, 1) := by decide +kernel
theorem dX12_putBack_57 : decode cX12_putBack 57 = .ok (.getfield 37, 3) := by decide +kernel
theorem dX12_putBack_60 : decode cX12_putBack 60 = .ok (.iload_n 1, 1) := by decide +kernel
theorem dX12_putBack_61 : decode cX12_putBack 61 = .ok (.aload_n 0, 1) := by decide +kernel
theorem dX12_putBack_62 : decode cX12_putBack 62 = .ok (.getfield 52, 3) := by decide +kernel
theorem dX12_putBack_65 : decode cX12_putBack 65 = .ok (.iload_n 1, 1) := by decide +kernel
theorem dX12_putBack_66 : decode cX12_putBack 66 = .ok (.iaload, 1) := by decide +kernel
theorem dX12_putBack_67 : decode cX12_putBack 67 = .ok (.iastore, 1) := by decide +kernel
theorem dX12_putBack_68 : decode cX12_putBack 68 = .ok (.iinc 1 1, 3) := by decide +kernel
theorem dX12_putBack_71 : decode cX12_putBack 71 = .ok (.goto (-33), 3) := by decide +kernel
theorem dX12_putBack_74 : decode cX12_putBack 74 = .ok (.return_, 1) := by decide +kernel
theorem dX12_does_0 : decode cX12_does 0 = .ok (.iload_n 2, 1) := by decide +kernel
theorem dX12_does_1 : decode cX12_does 1 = .ok (.bipush 10, 2) := by decide +kernel
theorem dX12_does_3 : decode cX12_does 3 = .ok (.if_icmp .ne 10, 3) := by decide +kernel
theorem dX12_does_6 : decode cX12_does 6 = .ok (.aload_n 0, 1) := by decide +kernel
theorem dX12_does_7 : decode cX12_does 7 = .ok (.iload_n 1, 1) := by decide +kernel
theorem dX12_does_8 : decode cX12_does 8 = .ok (.putfield 126, 3) := by decide +kernel
theorem dX12_does_11 : decode cX12_does 11 = .ok (.iconst 1, 1) := by decide +kernel
theorem dX12_does_12 : decode cX12_does 12 = .ok (.ireturn, 1) := by decide +kernel
theorem dX12_does_13 : decode cX12_does 13 = .ok (.iload_n 2, 1) := by decide +kernel
theorem dX12_does_14 : decode cX12_does 14 = .ok (.bipush 11, 2) := by decide +kernel
theorem dX12_does_16 : decode cX12_does 16 = .ok (.if_icmp .ne 7, 3) := by decide +kernel
theorem dX12_does_19 : decode cX12_does 19 = .ok (.iload_n 1, 1) := by decide +kernel
theorem dX12_does_20 : decode cX12_does 20 = .ok (.goto 4, 3) := by decide +kernel
theorem dX12_does_23 : decode cX12_does 23 = .ok (.iload_n 2, 1) := by decide +kernel
theorem dX12_does_24 : decode cX12_does 24 = .ok (.istore_n 3, 1) := by decide +kernel
theorem dX12_does_25 : decode cX12_does 25 = .ok (.aload_n 0, 1) := by decide +kernel
theorem dX12_does_26 : decode cX12_does 26 = .ok (.iload_n 3, 1) := by decide +kernel
theorem dX12_does_27 : decode cX12_does 27 = .ok (.invokevirtual 161, 3) := by decide +kernel
theorem dX12_does_30 : decode cX12_does 30 = .ok (.ifCond .eq 20, 3) := by decide +kernel
theorem dX12_does_33 : decode cX12_does 33 = .ok (.iload_n 2, 1) := by decide +kernel
theorem dX12_does_34 : decode cX12_does 34 = .ok (.bipush 11, 2) := by decide +kernel
theorem dX12_does_36 : decode cX12_does 36 = .ok (.if_icmp .eq 16, 3) := by decide +kernel
theorem dX12_does_39 : decode cX12_does 39 = .ok (.aload_n 0, 1) := by decide +kernel
theorem dX12_does_40 : decode cX12_does 40 = .ok (.getfield 31, 3) := by decide +kernel
theorem dX12_does_43 : decode cX12_does 43 = .ok (.iload_n 3, 1) := by decide +kernel
theorem dX12_does_44 : decode cX12_does 44 = .ok (.iaload, 1) := by decide +kernel
theorem dX12_does_45 : decode cX12_does 45 = .ok (.bipush 8, 2) := by decide +kernel
theorem dX12_does_47 : decode cX12_does 47 = .ok (.if_icmp .ne 5, 3) := by decide +kernel
theorem dX12_does_50 : decode cX12_does 50 = .ok (.iconst 0, 1) := by decide +kernel
theorem dX12_does_51 : decode cX12_does 51 = .ok (.ireturn, 1) := by decide +kernel
theorem dX12_does_52 : decode cX12_does 52 = .ok (.iload_n 2, 1) := by decide +kernel
theorem dX12_does_53 : decode cX12_does 53 = .ok (.bipush 11, 2) := by decide +kernel
theorem dX12_does_55 : decode cX12_does 55 = .ok (.if_icmp .ne 12, 3) := by decide +kernel
theorem dX12_does_58 : decode cX12_does 58 = .ok (.aload_n 0, 1) := by decide +kernel
theorem dX12_does_59 : decode cX12_does 59 = .ok (.getfield 31, 3) := by decide +kernel
theorem dX12_does_62 : decode cX12_does 62 = .ok (.iload_n 3, 1) := by decide +kernel
theorem dX12_does_63 : decode cX12_does 63 = .ok (.iconst 0, 1) := by decide +kernel
theorem dX12_does_64 : decode cX12_does 64 = .ok (.iastore, 1) := by decide +kernel
theorem dX12_does_65 : decode cX12_does 65 = .ok (.iconst 1, 1) := by decide +kernel
theorem dX12_does_66 : decode cX12_does 66 = .ok (.ireturn, 1) := by decide +kernel
theorem dX12_does_67 : decode cX12_does 67 = .ok (.aload_n 0, 1) := by decide +kernel
theorem dX12_does_68 : decode cX12_does 68 = .ok (.iload_n 1, 1) := by decide +kernel
theorem dX12_does_69 : decode cX12_does 69 = .ok (.iload_n 3, 1) := by decide +kernel
theorem dX12_does_70 : decode cX12_does 70 = .ok (.invokevirtual 179, 3) := by decide +kernel
theorem dX12_does_73 : decode cX12_does 73 = .ok (.istore 4, 2) := by decide +kernel
theorem dX12_does_75 : decode cX12_does 75 = .ok (.aload_n 0, 1) := by decide +kernel
theorem dX12_does_76 : decode cX12_does 76 = .ok (.dup, 1) := by decide +kernel
theorem dX12_does_77 : decode cX12_does 77 = .ok (.getfield 189, 3) := by decide +kernel
theorem dX12_does_80 : decode cX12_does 80 = .ok (.iload 4, 2) := by decide +kernel
theorem dX12_does_82 : decode cX12_does 82 = .ok (.ifCond .ne 7, 3) := by decide +kernel
theorem dX12_does_85 : decode cX12_does 85 = .ok (.iconst 1, 1) := by decide +kernel
theorem dX12_does_86 : decode cX12_does 86 = .ok (.goto 4, 3) := by decide +kernel
theorem dX12_does_89 : decode cX12_does 89 = .ok (.iconst 0, 1) := by decide +kernel
theorem dX12_does_90 : decode cX12_does 90 = .ok (.iadd, 1) := by decide +kernel
theorem dX12_does_91 : decode cX12_does 91 = .ok (.putfield 189, 3) := by decide +kernel
theorem dX12_does_94 : decode cX12_does 94 = .ok (.aload_n 0, 1) := by decide +kernel
theorem dX12_does_95 : decode cX12_does 95 = .ok (.dup, 1) := by decide +kernel
theorem dX12_does_96 : decode cX12_does 96 = .ok (.getfield 192, 3) := by decide +kernel
theorem dX12_does_99 : decode cX12_does 99 = .ok (.iload 4, 2) := by decide +kernel
theorem dX12_does_101 : decode cX12_does 101 = .ok (.ifCond .ne 15, 3) := by decide +kernel
theorem dX12_does_104 : decode cX12_does 104 = .ok (.aload_n 0, 1) := by decide +kernel
theorem dX12_does_105 : decode cX12_does 105 = .ok (.iload_n 3, 1) := by decide +kernel
theorem dX12_does_106 : decode cX12_does 106 = .ok (.invokevirtual 167, 3) := by decide +kernel
theorem dX12_does_109 : decode cX12_does 109 = .ok (.ifCond .le 7, 3) := by decide +kernel
theorem dX12_does_112 : decode cX12_does 112 = .ok (.iconst 1, 1) := by decide +kernel
theorem dX12_does_113 : decode cX12_does 113 = .ok (.goto 4, 3) := by decide +kernel
theorem dX12_does_116 : decode cX12_does 116 = .ok (.iconst 0, 1) := by decide +kernel
theorem dX12_does_117 : decode cX12_does 117 = .ok (.iadd, 1) := by decide +kernel
theorem dX12_does_118 : decode cX12_does 118 = .ok (.putfield 192, 3) := by decide +kernel
theorem dX12_does_121 : decode cX12_does 121 = .ok (.aload_n 0, 1) := by decide +kernel
theorem dX12_does_122 : decode cX12_does 122 = .ok (.iload_n 1, 1) := by decide +kernel
theorem dX12_does_123 : decode cX12_does 123 = .ok (.iload_n 3, 1) := by decide +kernel
theorem dX12_does_124 : decode cX12_does 124 = .ok (.iload 4, 2) := by decide +kernel
theorem dX12_does_126 : decode cX12_does 126 = .ok (.invokevirtual 182, 3) := by decide +kernel
theorem dX12_does_129 : decode cX12_does 129 = .ok (.iconst 1, 1) := by decide +kernel
theorem dX12_does_130 : decode cX12_does 130 = .ok (.ireturn, 1) := by decide +kernel
theorem dX12_goFeast_0 : decode cX12_goFeast 0 = .ok (.aload_n 0, 1) := by decide +kernel
theorem dX12_goFeast_1 : decode cX12_goFeast 1 = .ok (.iconst 0, 1) := by decide +kernel
theorem dX12_goFeast_2 : decode cX12_goFeast 2 = .ok (.putfield 189, 3) := by decide +kernel
theorem dX12_goFeast_5 : decode cX12_goFeast 5 = .ok (.aload_n 0, 1) := by decide +kernel
theorem dX12_goFeast_6 : decode cX12_goFeast 6 = .ok (.iconst 0, 1) := by decide +kernel
theorem dX12_goFeast_7 : decode cX12_goFeast 7 = .ok (.putfield 192, 3) := by decide +kernel
theorem dX12_goFeast_10 : decode cX12_goFeast 10 = .ok (.iconst 0, 1) := by decide +kernel
theorem dX12_goFeast_11 : decode cX12_goFeast 11 = .ok (.istore_n 3, 1) := by decide +kernel
theorem dX12_goFeast_12 : decode cX12_goFeast 12 = .ok (.iload_n 3, 1) := by decide +kernel
theorem dX12_goFeast_13 : decode cX12_goFeast 13 = .ok (.iload_n 2, 1) := by decide +kernel
theorem dX12_goFeast_14 : decode cX12_goFeast 14 = .ok (.if_icmp .ge 40, 3) := by decide +kernel
theorem dX12_goFeast_17 : decode cX12_goFeast 17 = .ok (.aload_n 0, 1) := by decide +kernel
theorem dX12_goFeast_18 : decode cX12_goFeast 18 = .ok (.aload_n 0, 1) := by decide +kernel
theorem dX12_goFeast_19 : decode cX12_goFeast 19 = .ok (.getfield 16, 3) := by decide +kernel
theorem dX12_goFeast_22 : decode cX12_goFeast 22 = .ok (.iload_n 1, 1) := by decide +kernel
theorem dX12_goFeast_23 : decode cX12_goFeast 23 = .ok (.iconst 2, 1) := by decide +kernel
theorem dX12_goFeast_24 : decode cX12_goFeast 24 = .ok (.iload_n 3, 1) := by decide +kernel
theorem dX12_goFeast_25 : decode cX12_goFeast 25 = .ok (.imul, 1) := by decide +kernel
theorem dX12_goFeast_26 : decode cX12_goFeast 26 = .ok (.iadd, 1) := by decide +kernel
theorem dX12_goFeast_27 : decode cX12_goFeast 27 = .ok (.iaload, 1) := by decide +kernel
theorem dX12_goFeast_28 : decode cX12_goFeast 28 = .ok (.aload_n 0, 1) := by decide +kernel
theorem dX12_goFeast_29 : decode cX12_goFeast 29 = .ok (.getfield 16, 3) := by decide +kernel
theorem dX12_goFeast_32 : decode cX12_goFeast 32 = .ok (.iload_n 1, 1) := by decide +kernel
theorem dX12_goFeast_33 : decode cX12_goFeast 33 = .ok (.iconst 2, 1) := by decide +kernel
theorem dX12_goFeast_34 : decode cX12_goFeast 34 = .ok (.iload_n 3, 1) := by decide +kernel
theorem dX12_goFeast_35 : decode cX12_goFeast 35 = .ok (.imul, 1) := by decide +kernel
theorem dX12_goFeast_36 : decode cX12_goFeast 36 = .ok (.iadd, 1) := by decide +kernel
theorem dX12_goFeast_37 : decode cX12_goFeast 37 = .ok (.iconst 1, 1) := by decide +kernel
theorem dX12_goFeast_38 : decode cX12_goFeast 38 = .ok (.iadd, 1) := by decide +kernel
theorem dX12_goFeast_39 : decode cX12_goFeast 39 = .ok (.iaload, 1) := by decide +kernel
theorem dX12_goFeast_40 : decode cX12_goFeast 40 = .ok (.invokevirtual 195, 3) := by decide +kernel
theorem dX12_goFeast_43 : decode cX12_goFeast 43 = .ok (.ifCond .ne 5, 3) := by decide +kernel
theorem dX12_goFeast_46 : decode cX12_goFeast 46 = .ok (.iload_n 3, 1) := by decide +kernel
theorem dX12_goFeast_47 : decode cX12_goFeast 47 = .ok (.ireturn, 1) := by decide +kernel
theorem dX12_goFeast_48 : decode cX12_goFeast 48 = .ok (.iinc 3 1, 3) := by decide +kernel
theorem dX12_goFeast_51 : decode cX12_goFeast 51 = .ok (.goto (-39), 3) := by decide +kernel
theorem dX12_goFeast_54 : decode cX12_goFeast 54 = .ok (.bipush (-9), 2) := by decide +kernel
theorem dX12_goFeast_56 : decode cX12_goFeast 56 = .ok (.ireturn, 1) := by decide +kernel
theorem dX12_refusesPair_0 : decode cX12_refusesPair 0 = .ok (.iload_n 2, 1) := by decide +kernel
theorem dX12_refusesPair_1 : decode cX12_refusesPair 1 = .ok (.bipush 10, 2) := by decide +kernel
theorem dX12_refusesPair_3 : decode cX12_refusesPair 3 = .ok (.bipush 11, 2) := by decide +kernel
theorem dX12_refusesPair_5 : decode cX12_refusesPair 5 = .ok (.invokestatic 85, 3) := by decide +kernel
theorem dX12_refusesPair_8 : decode cX12_refusesPair 8 = .ok (.istore_n 3, 1) := by decide +kernel
theorem dX12_refusesPair_9 : decode cX12_refusesPair 9 = .ok (.iload_n 2, 1) := by decide +kernel
theorem dX12_refusesPair_10 : decode cX12_refusesPair 10 = .ok (.iconst 0, 1) := by decide +kernel
theorem dX12_refusesPair_11 : decode cX12_refusesPair 11 = .ok (.iconst 3, 1) := by decide +kernel
theorem dX12_refusesPair_12 : decode cX12_refusesPair 12 = .ok (.invokestatic 85, 3) := by decide +kernel
theorem dX12_refusesPair_15 : decode cX12_refusesPair 15 = .ok (.ifCond .ne 7, 3) := by decide +kernel
theorem dX12_refusesPair_18 : decode cX12_refusesPair 18 = .ok (.iload_n 3, 1) := by decide +kernel
theorem dX12_refusesPair_19 : decode cX12_refusesPair 19 = .ok (.ifCond .eq 16, 3) := by decide +kernel
theorem dX12_refusesPair_22 : decode cX12_refusesPair 22 = .ok (.iload_n 3, 1) := by decide +kernel
theorem dX12_refusesPair_23 : decode cX12_refusesPair 23 = .ok (.ifCond .eq 15, 3) := by decide +kernel
theorem dX12_refusesPair_26 : decode cX12_refusesPair 26 = .ok (.iload_n 1, 1) := by decide +kernel
theorem dX12_refusesPair_27 : decode cX12_refusesPair 27 = .ok (.iconst 0, 1) := by decide +kernel
theorem dX12_refusesPair_28 : decode cX12_refusesPair 28 = .ok (.iconst 3, 1) := by decide +kernel
theorem dX12_refusesPair_29 : decode cX12_refusesPair 29 = .ok (.invokestatic 85, 3) := by decide +kernel
theorem dX12_refusesPair_32 : decode cX12_refusesPair 32 = .ok (.ifCond .ne 6, 3) := by decide +kernel
theorem dX12_refusesPair_35 : decode cX12_refusesPair 35 = .ok (.bipush (-2), 2) := by decide +kernel
theorem dX12_refusesPair_37 : decode cX12_refusesPair 37 = .ok (.ireturn, 1) := by decide +kernel
theorem dX12_refusesPair_38 : decode cX12_refusesPair 38 = .ok (.iload_n 3, 1) := by decide +kernel
theorem dX12_refusesPair_39 : decode cX12_refusesPair 39 = .ok (.ifCond .ne 15, 3) := by decide +kernel
theorem dX12_refusesPair_42 : decode cX12_refusesPair 42 = .ok (.aload_n 0, 1) := by decide +kernel
theorem dX12_refusesPair_43 : decode cX12_refusesPair 43 = .ok (.iload_n 1, 1) := by decide +kernel
theorem dX12_refusesPair_44 : decode cX12_refusesPair 44 = .ok (.invokevirtual 170, 3) := by decide +kernel
theorem dX12_refusesPair_47 : decode cX12_refusesPair 47 = .ok (.ifCond .ne 7, 3) := by decide +kernel
theorem dX12_refusesPair_50 : decode cX12_refusesPair 50 = .ok (.iconst (-1), 1) := by decide +kernel
theorem dX12_refusesPair_51 : decode cX12_refusesPair 51 = .ok (.goto 4, 3) := by decide +kernel
theorem dX12_refusesPair_54 : decode cX12_refusesPair 54 = .ok (.iconst 0, 1) := by decide +kernel
theorem dX12_refusesPair_55 : decode cX12_refusesPair 55 = .ok (.ireturn, 1) := by decide +kernel
theorem dX12_feast_0 : decode cX12_feast 0 = .ok (.aload_n 0, 1) := by decide +kernel
theorem dX12_feast_1 : decode cX12_feast 1 = .ok (.iconst 0, 1) := by decide +kernel
theorem dX12_feast_2 : decode cX12_feast 2 = .ok (.putfield 79, 3) := by decide +kernel
theorem dX12_feast_5 : decode cX12_feast 5 = .ok (.iload_n 1, 1) := by decide +kernel
theorem dX12_feast_6 : decode cX12_feast 6 = .ok (.invokestatic 102, 3) := by decide +kernel
theorem dX12_feast_9 : decode cX12_feast 9 = .ok (.ifCond .ne 5, 3) := by decide +kernel
theorem dX12_feast_12 : decode cX12_feast 12 = .ok (.iconst (-1), 1) := by decide +kernel
theorem dX12_feast_13 : decode cX12_feast 13 = .ok (.ireturn, 1) := by decide +kernel
theorem dX12_feast_14 : decode cX12_feast 14 = .ok (.iload_n 2, 1) := by decide +kernel
theorem dX12_feast_15 : decode cX12_feast 15 = .ok (.invokestatic 106, 3) := by decide +kernel
theorem dX12_feast_18 : decode cX12_feast 18 = .ok (.ifCond .eq 36, 3) := by decide +kernel
theorem dX12_feast_21 : decode cX12_feast 21 = .ok (.iload 4, 2) := by decide +kernel
theorem dX12_feast_23 : decode cX12_feast 23 = .ok (.iconst 0, 1) := by decide +kernel
theorem dX12_feast_24 : decode cX12_feast 24 = .ok (.bipush 20, 2) := by decide +kernel
theorem dX12_feast_26 : decode cX12_feast 26 = .ok (.invokestatic 85, 3) := by decide +kernel
theorem dX12_feast_29 : decode cX12_feast 29 = .ok (.ifCond .eq 25, 3) := by decide +kernel
theorem dX12_feast_32 : decode cX12_feast 32 = .ok (.iload 5, 2) := by decide +kernel
theorem dX12_feast_34 : decode cX12_feast 34 = .ok (.iconst 0, 1) := by decide +kernel
theorem dX12_feast_35 : decode cX12_feast 35 = .ok (.iconst 4, 1) := by decide +kernel
theorem dX12_feast_36 : decode cX12_feast 36 = .ok (.invokestatic 85, 3) := by decide +kernel
theorem dX12_feast_39 : decode cX12_feast 39 = .ok (.ifCond .ne 18, 3) := by decide +kernel
theorem dX12_feast_42 : decode cX12_feast 42 = .ok (.iload 5, 2) := by decide +kernel
theorem dX12_feast_44 : decode cX12_feast 44 = .ok (.bipush 10, 2) := by decide +kernel
theorem dX12_feast_46 : decode cX12_feast 46 = .ok (.bipush 13, 2) := by decide +kernel
theorem dX12_feast_48 : decode cX12_feast 48 = .ok (.invokestatic 85, 3) := by decide +kernel
theorem dX12_feast_51 : decode cX12_feast 51 = .ok (.ifCond .ne 6, 3) := by decide +kernel
theorem dX12_feast_54 : decode cX12_feast 54 = .ok (.bipush (-2), 2) := by decide +kernel
theorem dX12_feast_56 : decode cX12_feast 56 = .ok (.ireturn, 1) := by decide +kernel
theorem dX12_feast_57 : decode cX12_feast 57 = .ok (.aload_n 0, 1) := by decide +kernel
theorem dX12_feast_58 : decode cX12_feast 58 = .ok (.iload_n 1, 1) := by decide +kernel
theorem dX12_feast_59 : decode cX12_feast 59 = .ok (.iload_n 2, 1) := by decide +kernel
theorem dX12_feast_60 : decode cX12_feast 60 = .ok (.iload_n 3, 1) := by decide +kernel
theorem dX12_feast_61 : decode cX12_feast 61 = .ok (.iconst 2, 1) := by decide +kernel
theorem dX12_feast_62 : decode cX12_feast 62 = .ok (.iload 4, 2) := by decide +kernel
theorem dX12_feast_64 : decode cX12_feast 64 = .ok (.imul, 1) := by decide +kernel
theorem dX12_feast_65 : decode cX12_feast 65 = .ok (.invokevirtual 109, 3) := by decide +kernel
theorem dX12_feast_68 : decode cX12_feast 68 = .ok (.istore 6, 2) := by decide +kernel
theorem dX12_feast_70 : decode cX12_feast 70 = .ok (.iload 6, 2) := by decide +kernel
theorem dX12_feast_72 : decode cX12_feast 72 = .ok (.ifCond .eq 10, 3) := by decide +kernel
theorem dX12_feast_75 : decode cX12_feast 75 = .ok (.aload_n 0, 1) := by decide +kernel
theorem dX12_feast_76 : decode cX12_feast 76 = .ok (.iload 6, 2) := by decide +kernel
theorem dX12_feast_78 : decode cX12_feast 78 = .ok (.invokevirtual 113, 3) := by decide +kernel
theorem dX12_feast_81 : decode cX12_feast 81 = .ok (.ireturn, 1) := by decide +kernel
theorem dX12_feast_82 : decode cX12_feast 82 = .ok (.aload_n 0, 1) := by decide +kernel
theorem dX12_feast_83 : decode cX12_feast 83 = .ok (.getfield 89, 3) := by decide +kernel
theorem dX12_feast_86 : decode cX12_feast 86 = .ok (.ifCond .ne 6, 3) := by decide +kernel
theorem dX12_feast_89 : decode cX12_feast 89 = .ok (.bipush (-3), 2) := by decide +kernel
theorem dX12_feast_91 : decode cX12_feast 91 = .ok (.ireturn, 1) := by decide +kernel
theorem dX12_feast_92 : decode cX12_feast 92 = .ok (.bipush 60, 2) := by decide +kernel
theorem dX12_feast_94 : decode cX12_feast 94 = .ok (.iload_n 1, 1) := by decide +kernel
theorem dX12_feast_95 : decode cX12_feast 95 = .ok (.imul, 1) := by decide +kernel
theorem dX12_feast_96 : decode cX12_feast 96 = .ok (.iload_n 3, 1) := by decide +kernel
theorem dX12_feast_97 : decode cX12_feast 97 = .ok (.iadd, 1) := by decide +kernel
theorem dX12_feast_98 : decode cX12_feast 98 = .ok (.istore 7, 2) := by decide +kernel
theorem dX12_feast_100 : decode cX12_feast 100 = .ok (.iconst 0, 1) := by decide +kernel
theorem dX12_feast_101 : decode cX12_feast 101 = .ok (.istore 8, 2) := by decide +kernel
theorem dX12_feast_103 : decode cX12_feast 103 = .ok (.iload 8, 2) := by decide +kernel
theorem dX12_feast_105 : decode cX12_feast 105 = .ok (.iload 4, 2) := by decide +kernel
theorem dX12_feast_107 : decode cX12_feast 107 = .ok (.if_icmp .ge 49, 3) := by decide +kernel
theorem dX12_feast_110 : decode cX12_feast 110 = .ok (.aload_n 0, 1) := by decide +kernel
theorem dX12_feast_111 : decode cX12_feast 111 = .ok (.aload_n 0, 1) := by decide +kernel
theorem dX12_feast_112 : decode cX12_feast 112 = .ok (.getfield 16, 3) := by decide +kernel
theorem dX12_feast_115 : decode cX12_feast 115 = .ok (.iload 7, 2) := by decide +kernel
theorem dX12_feast_117 : decode cX12_feast 117 = .ok (.iconst 2, 1) := by decide +kernel
theorem dX12_feast_118 : decode cX12_feast 118 = .ok (.iload 8, 2) := by decide +kernel
theorem dX12_feast_120 : decode cX12_feast 120 = .ok (.imul, 1) := by decide +kernel
theorem dX12_feast_121 : decode cX12_feast 121 = .ok (.iadd, 1) := by decide +kernel
theorem dX12_feast_122 : decode cX12_feast 122 = .ok (.iaload, 1) := by decide +kernel
theorem dX12_feast_123 : decode cX12_feast 123 = .ok (.aload_n 0, 1) := by decide +kernel
theorem dX12_feast_124 : decode cX12_feast 124 = .ok (.getfield 16, 3) := by decide +kernel
theorem dX12_feast_127 : decode cX12_feast 127 = .ok (.iload 7, 2) := by decide +kernel
theorem dX12_feast_129 : decode cX12_feast 129 = .ok (.iconst 2, 1) := by decide +kernel
theorem dX12_feast_130 : decode cX12_feast 130 = .ok (.iload 8, 2) := by decide +kernel
theorem dX12_feast_132 : decode cX12_feast 132 = .ok (.imul, 1) := by decide +kernel
theorem dX12_feast_133 : decode cX12_feast 133 = .ok (.iadd, 1) := by decide +kernel
theorem dX12_feast_134 : decode cX12_feast 134 = .ok (.iconst 1, 1) := by decide +kernel
theorem dX12_feast_135 : decode cX12_feast 135 = .ok (.iadd, 1) := by decide +kernel
theorem dX12_feast_136 : decode cX12_feast 136 = .ok (.iaload, 1) := by decide +kernel
theorem dX12_feast_137 : decode cX12_feast 137 = .ok (.invokevirtual 198, 3) := by decide +kernel
theorem dX12_feast_140 : decode cX12_feast 140 = .ok (.istore 9, 2) := by decide +kernel
theorem dX12_feast_142 : decode cX12_feast 142 = .ok (.iload 9, 2) := by decide +kernel
theorem dX12_feast_144 : decode cX12_feast 144 = .ok (.ifCond .eq 6, 3) := by decide +kernel
theorem dX12_feast_147 : decode cX12_feast 147 = .ok (.iload 9, 2) := by decide +kernel
theorem dX12_feast_149 : decode cX12_feast 149 = .ok (.ireturn, 1) := by decide +kernel
theorem dX12_feast_150 : decode cX12_feast 150 = .ok (.iinc 8 1, 3) := by decide +kernel
theorem dX12_feast_153 : decode cX12_feast 153 = .ok (.goto (-50), 3) := by decide +kernel
theorem dX12_feast_156 : decode cX12_feast 156 = .ok (.aload_n 0, 1) := by decide +kernel
theorem dX12_feast_157 : decode cX12_feast 157 = .ok (.invokevirtual 201, 3) := by decide +kernel
theorem dX12_feast_160 : decode cX12_feast 160 = .ok (.aload_n 0, 1) := by decide +kernel
theorem dX12_feast_161 : decode cX12_feast 161 = .ok (.iload 7, 2) := by decide +kernel
theorem dX12_feast_163 : decode cX12_feast 163 = .ok (.iload 4, 2) := by decide +kernel
theorem dX12_feast_165 : decode cX12_feast 165 = .ok (.invokevirtual 204, 3) := by decide +kernel
theorem dX12_feast_168 : decode cX12_feast 168 = .ok (.istore 8, 2) := by decide +kernel
theorem dX12_feast_170 : decode cX12_feast 170 = .ok (.aload_n 0, 1) := by decide +kernel
theorem dX12_feast_171 : decode cX12_feast 171 = .ok (.iload 5, 2) := by decide +kernel
theorem dX12_feast_173 : decode cX12_feast 173 = .ok (.invokevirtual 207, 3) := by decide +kernel
theorem dX12_feast_176 : decode cX12_feast 176 = .ok (.istore 9, 2) := by decide +kernel
theorem dX12_feast_178 : decode cX12_feast 178 = .ok (.aload_n 0, 1) := by decide +kernel
theorem dX12_feast_179 : decode cX12_feast 179 = .ok (.invokevirtual 210, 3) := by decide +kernel
theorem dX12_feast_182 : decode cX12_feast 182 = .ok (.iload 5, 2) := by decide +kernel
theorem dX12_feast_184 : decode cX12_feast 184 = .ok (.iconst 1, 1) := by decide +kernel
theorem dX12_feast_185 : decode cX12_feast 185 = .ok (.if_icmp .ne 8, 3) := by decide +kernel
theorem dX12_feast_188 : decode cX12_feast 188 = .ok (.iload 8, 2) := by decide +kernel
theorem dX12_feast_190 : decode cX12_feast 190 = .ok (.goto 20, 3) := by decide +kernel
theorem dX12_feast_193 : decode cX12_feast 193 = .ok (.iload 8, 2) := by decide +kernel
theorem dX12_feast_195 : decode cX12_feast 195 = .ok (.bipush (-9), 2) := by decide +kernel
theorem dX12_feast_197 : decode cX12_feast 197 = .ok (.if_icmp .ne 8, 3) := by decide +kernel
theorem dX12_feast_200 : decode cX12_feast 200 = .ok (.iload 9, 2) := by decide +kernel
theorem dX12_feast_202 : decode cX12_feast 202 = .ok (.goto 8, 3) := by decide +kernel
theorem dX12_feast_205 : decode cX12_feast 205 = .ok (.bipush (-100), 2) := by decide +kernel
theorem dX12_feast_207 : decode cX12_feast 207 = .ok (.iload 8, 2) := by decide +kernel
theorem dX12_feast_209 : decode cX12_feast 209 = .ok (.isub, 1) := by decide +kernel
theorem dX12_feast_210 : decode cX12_feast 210 = .ok (.ireturn, 1) := by decide +kernel
theorem dX12_tellFeast_0 : decode cX12_tellFeast 0 = .ok (.iload_n 1, 1) := by decide +kernel
theorem dX12_tellFeast_1 : decode cX12_tellFeast 1 = .ok (.bipush 10, 2) := by decide +kernel
theorem dX12_tellFeast_3 : decode cX12_tellFeast 3 = .ok (.if_icmp .lt 28, 3) := by decide +kernel
theorem dX12_tellFeast_6 : decode cX12_tellFeast 6 = .ok (.aload_n 0, 1) := by decide +kernel
theorem dX12_tellFeast_7 : decode cX12_tellFeast 7 = .ok (.iload_n 1, 1) := by decide +kernel
theorem dX12_tellFeast_8 : decode cX12_tellFeast 8 = .ok (.bipush 10, 2) := by decide +kernel
theorem dX12_tellFeast_10 : decode cX12_tellFeast 10 = .ok (.isub, 1) := by decide +kernel
theorem dX12_tellFeast_11 : decode cX12_tellFeast 11 = .ok (.invokevirtual 161, 3) := by decide +kernel
theorem dX12_tellFeast_14 : decode cX12_tellFeast 14 = .ok (.ifCond .eq 14, 3) := by decide +kernel
theorem dX12_tellFeast_17 : decode cX12_tellFeast 17 = .ok (.aload_n 0, 1) := by decide +kernel
theorem dX12_tellFeast_18 : decode cX12_tellFeast 18 = .ok (.iload_n 1, 1) := by decide +kernel
theorem dX12_tellFeast_19 : decode cX12_tellFeast 19 = .ok (.bipush 10, 2) := by decide +kernel
theorem dX12_tellFeast_21 : decode cX12_tellFeast 21 = .ok (.isub, 1) := by decide +kernel
theorem dX12_tellFeast_22 : decode cX12_tellFeast 22 = .ok (.invokevirtual 164, 3) := by decide +kernel
theorem dX12_tellFeast_25 : decode cX12_tellFeast 25 = .ok (.goto 5, 3) := by decide +kernel
theorem dX12_tellFeast_28 : decode cX12_tellFeast 28 = .ok (.bipush (-9), 2) := by decide +kernel
theorem dX12_tellFeast_30 : decode cX12_tellFeast 30 = .ok (.ireturn, 1) := by decide +kernel
theorem dX12_tellFeast_31 : decode cX12_tellFeast 31 = .ok (.iload_n 1, 1) := by decide +kernel
theorem dX12_tellFeast_32 : decode cX12_tellFeast 32 = .ok (.tableswitch 79 0 3 #[32, 79, 69, 74], 32) := by decide +kernel
theorem dX12_tellFeast_64 : decode cX12_tellFeast 64 = .ok (.iconst 0, 1) := by decide +kernel
theorem dX12_tellFeast_65 : decode cX12_tellFeast 65 = .ok (.istore_n 2, 1) := by decide +kernel
theorem dX12_tellFeast_66 : decode cX12_tellFeast 66 = .ok (.iconst 0, 1) := by decide +kernel
theorem dX12_tellFeast_67 : decode cX12_tellFeast 67 = .ok (.istore_n 3, 1) := by decide +kernel
theorem dX12_tellFeast_68 : decode cX12_tellFeast 68 = .ok (.iload_n 3, 1) := by decide +kernel
theorem dX12_tellFeast_69 : decode cX12_tellFeast 69 = .ok (.aload_n 0, 1) := by decide +kernel
theorem dX12_tellFeast_70 : decode cX12_tellFeast 70 = .ok (.getfield 89, 3) := by decide +kernel
theorem dX12_tellFeast_73 : decode cX12_tellFeast 73 = .ok (.if_icmp .ge 26, 3) := by decide +kernel
theorem dX12_tellFeast_76 : decode cX12_tellFeast 76 = .ok (.iload_n 2, 1) := by decide +kernel
theorem dX12_tellFeast_77 : decode cX12_tellFeast 77 = .ok (.aload_n 0, 1) := by decide +kernel
theorem dX12_tellFeast_78 : decode cX12_tellFeast 78 = .ok (.getfield 31, 3) := by decide +kernel
theorem dX12_tellFeast_81 : decode cX12_tellFeast 81 = .ok (.iload_n 3, 1) := by decide +kernel
theorem dX12_tellFeast_82 : decode cX12_tellFeast 82 = .ok (.iaload, 1) := by decide +kernel
theorem dX12_tellFeast_83 : decode cX12_tellFeast 83 = .ok (.ifCond .le 7, 3) := by decide +kernel
theorem dX12_tellFeast_86 : decode cX12_tellFeast 86 = .ok (.iconst 1, 1) := by decide +kernel
theorem dX12_tellFeast_87 : decode cX12_tellFeast 87 = .ok (.goto 4, 3) := by decide +kernel
theorem dX12_tellFeast_90 : decode cX12_tellFeast 90 = .ok (.iconst 0, 1) := by decide +kernel
theorem dX12_tellFeast_91 : decode cX12_tellFeast 91 = .ok (.iadd, 1) := by decide +kernel
theorem dX12_tellFeast_92 : decode cX12_tellFeast 92 = .ok (.istore_n 2, 1) := by decide +kernel
theorem dX12_tellFeast_93 : decode cX12_tellFeast 93 = .ok (.iinc 3 1, 3) := by decide +kernel
theorem dX12_tellFeast_96 : decode cX12_tellFeast 96 = .ok (.goto (-28), 3) := by decide +kernel
theorem dX12_tellFeast_99 : decode cX12_tellFeast 99 = .ok (.iload_n 2, 1) := by decide +kernel
theorem dX12_tellFeast_100 : decode cX12_tellFeast 100 = .ok (.ireturn, 1) := by decide +kernel
theorem dX12_tellFeast_101 : decode cX12_tellFeast 101 = .ok (.aload_n 0, 1) := by decide +kernel
theorem dX12_tellFeast_102 : decode cX12_tellFeast 102 = .ok (.getfield 189, 3) := by decide +kernel
theorem dX12_tellFeast_105 : decode cX12_tellFeast 105 = .ok (.ireturn, 1) := by decide +kernel
theorem dX12_tellFeast_106 : decode cX12_tellFeast 106 = .ok (.aload_n 0, 1) := by decide +kernel
theorem dX12_tellFeast_107 : decode cX12_tellFeast 107 = .ok (.getfield 192, 3) := by decide +kernel
theorem dX12_tellFeast_110 : decode cX12_tellFeast 110 = .ok (.ireturn, 1) := by decide +kernel
theorem dX12_tellFeast_111 : decode cX12_tellFeast 111 = .ok (.aload_n 0, 1) := by decide +kernel
theorem dX12_tellFeast_112 : decode cX12_tellFeast 112 = .ok (.getfield 126, 3) := by decide +kernel
theorem dX12_tellFeast_115 : decode cX12_tellFeast 115 = .ok (.ireturn, 1) := by decide +kernel
theorem dX12_hasBy_0 : decode cX12_hasBy 0 = .ok (.aload_n 0, 1) := by decide +kernel
theorem dX12_hasBy_1 : decode cX12_hasBy 1 = .ok (.getfield 31, 3) := by decide +kernel
theorem dX12_hasBy_4 : decode cX12_hasBy 4 = .ok (.iload_n 2, 1) := by decide +kernel
theorem dX12_hasBy_5 : decode cX12_hasBy 5 = .ok (.iaload, 1) := by decide +kernel
theorem dX12_hasBy_6 : decode cX12_hasBy 6 = .ok (.bipush 8, 2) := by decide +kernel
theorem dX12_hasBy_8 : decode cX12_hasBy 8 = .ok (.if_icmp .ne 5, 3) := by decide +kernel
theorem dX12_hasBy_11 : decode cX12_hasBy 11 = .ok (.iconst 0, 1) := by decide +kernel
theorem dX12_hasBy_12 : decode cX12_hasBy 12 = .ok (.ireturn, 1) := by decide +kernel
theorem dX12_hasBy_13 : decode cX12_hasBy 13 = .ok (.aload_n 0, 1) := by decide +kernel
theorem dX12_hasBy_14 : decode cX12_hasBy 14 = .ok (.iload_n 1, 1) := by decide +kernel
theorem dX12_hasBy_15 : decode cX12_hasBy 15 = .ok (.iload_n 2, 1) := by decide +kernel
theorem dX12_hasBy_16 : decode cX12_hasBy 16 = .ok (.iload_n 3, 1) := by decide +kernel
theorem dX12_hasBy_17 : decode cX12_hasBy 17 = .ok (.invokevirtual 182, 3) := by decide +kernel
theorem dX12_hasBy_20 : decode cX12_hasBy 20 = .ok (.aload_n 0, 1) := by decide +kernel
theorem dX12_hasBy_21 : decode cX12_hasBy 21 = .ok (.iload_n 2, 1) := by decide +kernel
theorem dX12_hasBy_22 : decode cX12_hasBy 22 = .ok (.invokevirtual 164, 3) := by decide +kernel
theorem dX12_hasBy_25 : decode cX12_hasBy 25 = .ok (.iload_n 1, 1) := by decide +kernel
theorem dX12_hasBy_26 : decode cX12_hasBy 26 = .ok (.if_icmp .ne 7, 3) := by decide +kernel
theorem dX12_hasBy_29 : decode cX12_hasBy 29 = .ok (.iconst 1, 1) := by decide +kernel
theorem dX12_hasBy_30 : decode cX12_hasBy 30 = .ok (.goto 4, 3) := by decide +kernel
theorem dX12_hasBy_33 : decode cX12_hasBy 33 = .ok (.iconst 0, 1) := by decide +kernel
theorem dX12_hasBy_34 : decode cX12_hasBy 34 = .ok (.istore 4, 2) := by decide +kernel
theorem dX12_hasBy_36 : decode cX12_hasBy 36 = .ok (.aload_n 0, 1) := by decide +kernel
theorem dX12_hasBy_37 : decode cX12_hasBy 37 = .ok (.getfield 31, 3) := by decide +kernel
theorem dX12_hasBy_40 : decode cX12_hasBy 40 = .ok (.iload_n 2, 1) := by decide +kernel
theorem dX12_hasBy_41 : decode cX12_hasBy 41 = .ok (.dup2, 1) := by decide +kernel
theorem dX12_hasBy_42 : decode cX12_hasBy 42 = .ok (.iaload, 1) := by decide +kernel
theorem dX12_hasBy_43 : decode cX12_hasBy 43 = .ok (.iconst 1, 1) := by decide +kernel
theorem dX12_hasBy_44 : decode cX12_hasBy 44 = .ok (.isub, 1) := by decide +kernel
theorem dX12_hasBy_45 : decode cX12_hasBy 45 = .ok (.iastore, 1) := by decide +kernel
theorem dX12_hasBy_46 : decode cX12_hasBy 46 = .ok (.iload 4, 2) := by decide +kernel
theorem dX12_hasBy_48 : decode cX12_hasBy 48 = .ok (.ireturn, 1) := by decide +kernel
theorem dX12_winsHer_0 : decode cX12_winsHer 0 = .ok (.aload_n 0, 1) := by decide +kernel
theorem dX12_winsHer_1 : decode cX12_winsHer 1 = .ok (.iload_n 1, 1) := by decide +kernel
theorem dX12_winsHer_2 : decode cX12_winsHer 2 = .ok (.iload_n 2, 1) := by decide +kernel
theorem dX12_winsHer_3 : decode cX12_winsHer 3 = .ok (.aload_n 0, 1) := by decide +kernel
theorem dX12_winsHer_4 : decode cX12_winsHer 4 = .ok (.iload_n 1, 1) := by decide +kernel
theorem dX12_winsHer_5 : decode cX12_winsHer 5 = .ok (.iload_n 2, 1) := by decide +kernel
theorem dX12_winsHer_6 : decode cX12_winsHer 6 = .ok (.invokevirtual 179, 3) := by decide +kernel
theorem dX12_winsHer_9 : decode cX12_winsHer 9 = .ok (.invokevirtual 213, 3) := by decide +kernel
theorem dX12_winsHer_12 : decode cX12_winsHer 12 = .ok (.ireturn, 1) := by decide +kernel
theorem dX12_wins_0 : decode cX12_wins 0 = .ok (.aload_n 0, 1) := by decide +kernel
theorem dX12_wins_1 : decode cX12_wins 1 = .ok (.iload_n 1, 1) := by decide +kernel
theorem dX12_wins_2 : decode cX12_wins 2 = .ok (.invokevirtual 170, 3) := by decide +kernel
theorem dX12_wins_5 : decode cX12_wins 5 = .ok (.ifCond .ne 5, 3) := by decide +kernel
theorem dX12_wins_8 : decode cX12_wins 8 = .ok (.iconst (-1), 1) := by decide +kernel
theorem dX12_wins_9 : decode cX12_wins 9 = .ok (.ireturn, 1) := by decide +kernel
theorem dX12_wins_10 : decode cX12_wins 10 = .ok (.iconst 0, 1) := by decide +kernel
theorem dX12_wins_11 : decode cX12_wins 11 = .ok (.istore_n 2, 1) := by decide +kernel
theorem dX12_wins_12 : decode cX12_wins 12 = .ok (.iconst 0, 1) := by decide +kernel
theorem dX12_wins_13 : decode cX12_wins 13 = .ok (.istore_n 3, 1) := by decide +kernel
theorem dX12_wins_14 : decode cX12_wins 14 = .ok (.iload_n 3, 1) := by decide +kernel
theorem dX12_wins_15 : decode cX12_wins 15 = .ok (.aload_n 0, 1) := by decide +kernel
theorem dX12_wins_16 : decode cX12_wins 16 = .ok (.getfield 89, 3) := by decide +kernel
theorem dX12_wins_19 : decode cX12_wins 19 = .ok (.if_icmp .ge 28, 3) := by decide +kernel
theorem dX12_wins_22 : decode cX12_wins 22 = .ok (.iload_n 2, 1) := by decide +kernel
theorem dX12_wins_23 : decode cX12_wins 23 = .ok (.aload_n 0, 1) := by decide +kernel
theorem dX12_wins_24 : decode cX12_wins 24 = .ok (.iload_n 1, 1) := by decide +kernel
theorem dX12_wins_25 : decode cX12_wins 25 = .ok (.iload_n 3, 1) := by decide +kernel
theorem dX12_wins_26 : decode cX12_wins 26 = .ok (.invokevirtual 216, 3) := by decide +kernel
theorem dX12_wins_29 : decode cX12_wins 29 = .ok (.ifCond .eq 9, 3) := by decide +kernel
theorem dX12_wins_32 : decode cX12_wins 32 = .ok (.iconst 1, 1) := by decide +kernel
theorem dX12_wins_33 : decode cX12_wins 33 = .ok (.iload_n 3, 1) := by decide +kernel
theorem dX12_wins_34 : decode cX12_wins 34 = .ok (.ishl, 1) := by decide +kernel
theorem dX12_wins_35 : decode cX12_wins 35 = .ok (.goto 4, 3) := by decide +kernel
theorem dX12_wins_38 : decode cX12_wins 38 = .ok (.iconst 0, 1) := by decide +kernel
theorem dX12_wins_39 : decode cX12_wins 39 = .ok (.ior, 1) := by decide +kernel
theorem dX12_wins_40 : decode cX12_wins 40 = .ok (.istore_n 2, 1) := by decide +kernel
theorem dX12_wins_41 : decode cX12_wins 41 = .ok (.iinc 3 1, 3) := by decide +kernel
theorem dX12_wins_44 : decode cX12_wins 44 = .ok (.goto (-30), 3) := by decide +kernel
theorem dX12_wins_47 : decode cX12_wins 47 = .ok (.iload_n 2, 1) := by decide +kernel
theorem dX12_wins_48 : decode cX12_wins 48 = .ok (.ireturn, 1) := by decide +kernel
theorem dX12_isRow_0 : decode cX12_isRow 0 = .ok (.iload_n 1, 1) := by decide +kernel
theorem dX12_isRow_1 : decode cX12_isRow 1 = .ok (.istore_n 2, 1) := by decide +kernel
theorem dX12_isRow_2 : decode cX12_isRow 2 = .ok (.aload_n 0, 1) := by decide +kernel
theorem dX12_isRow_3 : decode cX12_isRow 3 = .ok (.getfield 92, 3) := by decide +kernel
theorem dX12_isRow_6 : decode cX12_isRow 6 = .ok (.iconst 1, 1) := by decide +kernel
theorem dX12_isRow_7 : decode cX12_isRow 7 = .ok (.isub, 1) := by decide +kernel
theorem dX12_isRow_8 : decode cX12_isRow 8 = .ok (.istore_n 3, 1) := by decide +kernel
theorem dX12_isRow_9 : decode cX12_isRow 9 = .ok (.iload_n 3, 1) := by decide +kernel
theorem dX12_isRow_10 : decode cX12_isRow 10 = .ok (.ifCond .lt 32, 3) := by decide +kernel
theorem dX12_isRow_13 : decode cX12_isRow 13 = .ok (.aload_n 0, 1) := by decide +kernel
theorem dX12_isRow_14 : decode cX12_isRow 14 = .ok (.getfield 55, 3) := by decide +kernel
theorem dX12_isRow_17 : decode cX12_isRow 17 = .ok (.iload_n 3, 1) := by decide +kernel
theorem dX12_isRow_18 : decode cX12_isRow 18 = .ok (.iload_n 2, 1) := by decide +kernel
theorem dX12_isRow_19 : decode cX12_isRow 19 = .ok (.aload_n 0, 1) := by decide +kernel
theorem dX12_isRow_20 : decode cX12_isRow 20 = .ok (.getfield 89, 3) := by decide +kernel
theorem dX12_isRow_23 : decode cX12_isRow 23 = .ok (.iconst 1, 1) := by decide +kernel
theorem dX12_isRow_24 : decode cX12_isRow 24 = .ok (.iadd, 1) := by decide +kernel
theorem dX12_isRow_25 : decode cX12_isRow 25 = .ok (.irem, 1) := by decide +kernel
theorem dX12_isRow_26 : decode cX12_isRow 26 = .ok (.iastore, 1) := by decide +kernel
theorem dX12_isRow_27 : decode cX12_isRow 27 = .ok (.iload_n 2, 1) := by decide +kernel
theorem dX12_isRow_28 : decode cX12_isRow 28 = .ok (.aload_n 0, 1) := by decide +kernel
theorem dX12_isRow_29 : decode cX12_isRow 29 = .ok (.getfield 89, 3) := by decide +kernel
theorem dX12_isRow_32 : decode cX12_isRow 32 = .ok (.iconst 1, 1) := by decide +kernel
theorem dX12_isRow_33 : decode cX12_isRow 33 = .ok (.iadd, 1) := by decide +kernel
theorem dX12_isRow_34 : decode cX12_isRow 34 = .ok (.idiv, 1) := by decide +kernel
theorem dX12_isRow_35 : decode cX12_isRow 35 = .ok (.istore_n 2, 1) := by decide +kernel
theorem dX12_isRow_36 : decode cX12_isRow 36 = .ok (.iinc 3 (-1), 3) := by decide +kernel
theorem dX12_isRow_39 : decode cX12_isRow 39 = .ok (.goto (-30), 3) := by decide +kernel
theorem dX12_isRow_42 : decode cX12_isRow 42 = .ok (.iconst 0, 1) := by decide +kernel
theorem dX12_isRow_43 : decode cX12_isRow 43 = .ok (.istore_n 3, 1) := by decide +kernel
theorem dX12_isRow_44 : decode cX12_isRow 44 = .ok (.iconst 0, 1) := by decide +kernel
theorem dX12_isRow_45 : decode cX12_isRow 45 = .ok (.istore 4, 2) := by decide +kernel
theorem dX12_isRow_47 : decode cX12_isRow 47 = .ok (.iload 4, 2) := by decide +kernel
theorem dX12_isRow_49 : decode cX12_isRow 49 = .ok (.aload_n 0, 1) := by decide +kernel
theorem dX12_isRow_50 : decode cX12_isRow 50 = .ok (.getfield 92, 3) := by decide +kernel
theorem dX12_isRow_53 : decode cX12_isRow 53 = .ok (.if_icmp .ge 68, 3) := by decide +kernel
theorem dX12_isRow_56 : decode cX12_isRow 56 = .ok (.aload_n 0, 1) := by decide +kernel
theorem dX12_isRow_57 : decode cX12_isRow 57 = .ok (.getfield 55, 3) := by decide +kernel
theorem dX12_isRow_60 : decode cX12_isRow 60 = .ok (.iload 4, 2) := by decide +kernel
theorem dX12_isRow_62 : decode cX12_isRow 62 = .ok (.iaload, 1) := by decide +kernel
theorem dX12_isRow_63 : decode cX12_isRow 63 = .ok (.aload_n 0, 1) := by decide +kernel
theorem dX12_isRow_64 : decode cX12_isRow 64 = .ok (.getfield 89, 3) := by decide +kernel
theorem dX12_isRow_67 : decode cX12_isRow 67 = .ok (.if_icmp .ge 48, 3) := by decide +kernel
theorem dX12_isRow_70 : decode cX12_isRow 70 = .ok (.iload_n 3, 1) := by decide +kernel
theorem dX12_isRow_71 : decode cX12_isRow 71 = .ok (.aload_n 0, 1) := by decide +kernel
theorem dX12_isRow_72 : decode cX12_isRow 72 = .ok (.getfield 55, 3) := by decide +kernel
theorem dX12_isRow_75 : decode cX12_isRow 75 = .ok (.iload 4, 2) := by decide +kernel
theorem dX12_isRow_77 : decode cX12_isRow 77 = .ok (.iaload, 1) := by decide +kernel
theorem dX12_isRow_78 : decode cX12_isRow 78 = .ok (.ishr, 1) := by decide +kernel
theorem dX12_isRow_79 : decode cX12_isRow 79 = .ok (.iconst 1, 1) := by decide +kernel
theorem dX12_isRow_80 : decode cX12_isRow 80 = .ok (.iand, 1) := by decide +kernel
theorem dX12_isRow_81 : decode cX12_isRow 81 = .ok (.iconst 1, 1) := by decide +kernel
theorem dX12_isRow_82 : decode cX12_isRow 82 = .ok (.if_icmp .eq 19, 3) := by decide +kernel
theorem dX12_isRow_85 : decode cX12_isRow 85 = .ok (.aload_n 0, 1) := by decide +kernel
theorem dX12_isRow_86 : decode cX12_isRow 86 = .ok (.iload 4, 2) := by decide +kernel
theorem dX12_isRow_88 : decode cX12_isRow 88 = .ok (.aload_n 0, 1) := by decide +kernel
theorem dX12_isRow_89 : decode cX12_isRow 89 = .ok (.getfield 55, 3) := by decide +kernel
theorem dX12_isRow_92 : decode cX12_isRow 92 = .ok (.iload 4, 2) := by decide +kernel
theorem dX12_isRow_94 : decode cX12_isRow 94 = .ok (.iaload, 1) := by decide +kernel
theorem dX12_isRow_95 : decode cX12_isRow 95 = .ok (.invokevirtual 216, 3) := by decide +kernel
theorem dX12_isRow_98 : decode cX12_isRow 98 = .ok (.ifCond .ne 5, 3) := by decide +kernel
theorem dX12_isRow_101 : decode cX12_isRow 101 = .ok (.iconst 0, 1) := by decide +kernel
theorem dX12_isRow_102 : decode cX12_isRow 102 = .ok (.ireturn, 1) := by decide +kernel
theorem dX12_isRow_103 : decode cX12_isRow 103 = .ok (.iload_n 3, 1) := by decide +kernel
theorem dX12_isRow_104 : decode cX12_isRow 104 = .ok (.iconst 1, 1) := by decide +kernel
theorem dX12_isRow_105 : decode cX12_isRow 105 = .ok (.aload_n 0, 1) := by decide +kernel
theorem dX12_isRow_106 : decode cX12_isRow 106 = .ok (.getfield 55, 3) := by decide +kernel
theorem dX12_isRow_109 : decode cX12_isRow 109 = .ok (.iload 4, 2) := by decide +kernel
theorem dX12_isRow_111 : decode cX12_isRow 111 = .ok (.iaload, 1) := by decide +kernel
theorem dX12_isRow_112 : decode cX12_isRow 112 = .ok (.ishl, 1) := by decide +kernel
theorem dX12_isRow_113 : decode cX12_isRow 113 = .ok (.ior, 1) := by decide +kernel
theorem dX12_isRow_114 : decode cX12_isRow 114 = .ok (.istore_n 3, 1) := by decide +kernel
theorem dX12_isRow_115 : decode cX12_isRow 115 = .ok (.iinc 4 1, 3) := by decide +kernel
theorem dX12_isRow_118 : decode cX12_isRow 118 = .ok (.goto (-71), 3) := by decide +kernel
theorem dX12_isRow_121 : decode cX12_isRow 121 = .ok (.iconst 1, 1) := by decide +kernel
theorem dX12_isRow_122 : decode cX12_isRow 122 = .ok (.ireturn, 1) := by decide +kernel
theorem dX12_tryRow_0 : decode cX12_tryRow 0 = .ok (.iconst 0, 1) := by decide +kernel
theorem dX12_tryRow_1 : decode cX12_tryRow 1 = .ok (.istore_n 1, 1) := by decide +kernel
theorem dX12_tryRow_2 : decode cX12_tryRow 2 = .ok (.iconst 0, 1) := by decide +kernel
theorem dX12_tryRow_3 : decode cX12_tryRow 3 = .ok (.istore_n 2, 1) := by decide +kernel
theorem dX12_tryRow_4 : decode cX12_tryRow 4 = .ok (.iconst 0, 1) := by decide +kernel
theorem dX12_tryRow_5 : decode cX12_tryRow 5 = .ok (.istore_n 3, 1) := by decide +kernel
theorem dX12_tryRow_6 : decode cX12_tryRow 6 = .ok (.iload_n 3, 1) := by decide +kernel
theorem dX12_tryRow_7 : decode cX12_tryRow 7 = .ok (.aload_n 0, 1) := by decide +kernel
theorem dX12_tryRow_8 : decode cX12_tryRow 8 = .ok (.getfield 92, 3) := by decide +kernel
theorem dX12_tryRow_11 : decode cX12_tryRow 11 = .ok (.if_icmp .ge 61, 3) := by decide +kernel
theorem dX12_tryRow_14 : decode cX12_tryRow 14 = .ok (.iload_n 1, 1) := by decide +kernel
theorem dX12_tryRow_15 : decode cX12_tryRow 15 = .ok (.aload_n 0, 1) := by decide +kernel
theorem dX12_tryRow_16 : decode cX12_tryRow 16 = .ok (.getfield 55, 3) := by decide +kernel
theorem dX12_tryRow_19 : decode cX12_tryRow 19 = .ok (.iload_n 3, 1) := by decide +kernel
theorem dX12_tryRow_20 : decode cX12_tryRow 20 = .ok (.iaload, 1) := by decide +kernel
theorem dX12_tryRow_21 : decode cX12_tryRow 21 = .ok (.aload_n 0, 1) := by decide +kernel
theorem dX12_tryRow_22 : decode cX12_tryRow 22 = .ok (.getfield 89, 3) := by decide +kernel
theorem dX12_tryRow_25 : decode cX12_tryRow 25 = .ok (.if_icmp .ge 7, 3) := by decide +kernel
theorem dX12_tryRow_28 : decode cX12_tryRow 28 = .ok (.iconst 1, 1) := by decide +kernel
theorem dX12_tryRow_29 : decode cX12_tryRow 29 = .ok (.goto 4, 3) := by decide +kernel
theorem dX12_tryRow_32 : decode cX12_tryRow 32 = .ok (.iconst 0, 1) := by decide +kernel
theorem dX12_tryRow_33 : decode cX12_tryRow 33 = .ok (.iadd, 1) := by decide +kernel
theorem dX12_tryRow_34 : decode cX12_tryRow 34 = .ok (.istore_n 1, 1) := by decide +kernel
theorem dX12_tryRow_35 : decode cX12_tryRow 35 = .ok (.iload_n 2, 1) := by decide +kernel
theorem dX12_tryRow_36 : decode cX12_tryRow 36 = .ok (.aload_n 0, 1) := by decide +kernel
theorem dX12_tryRow_37 : decode cX12_tryRow 37 = .ok (.getfield 55, 3) := by decide +kernel
theorem dX12_tryRow_40 : decode cX12_tryRow 40 = .ok (.iload_n 3, 1) := by decide +kernel
theorem dX12_tryRow_41 : decode cX12_tryRow 41 = .ok (.iaload, 1) := by decide +kernel
theorem dX12_tryRow_42 : decode cX12_tryRow 42 = .ok (.aload_n 0, 1) := by decide +kernel
theorem dX12_tryRow_43 : decode cX12_tryRow 43 = .ok (.getfield 89, 3) := by decide +kernel
theorem dX12_tryRow_46 : decode cX12_tryRow 46 = .ok (.if_icmp .ge 17, 3) := by decide +kernel
theorem dX12_tryRow_49 : decode cX12_tryRow 49 = .ok (.aload_n 0, 1) := by decide +kernel
theorem dX12_tryRow_50 : decode cX12_tryRow 50 = .ok (.iload_n 3, 1) := by decide +kernel
theorem dX12_tryRow_51 : decode cX12_tryRow 51 = .ok (.aload_n 0, 1) := by decide +kernel
theorem dX12_tryRow_52 : decode cX12_tryRow 52 = .ok (.getfield 55, 3) := by decide +kernel
theorem dX12_tryRow_55 : decode cX12_tryRow 55 = .ok (.iload_n 3, 1) := by decide +kernel
theorem dX12_tryRow_56 : decode cX12_tryRow 56 = .ok (.iaload, 1) := by decide +kernel
theorem dX12_tryRow_57 : decode cX12_tryRow 57 = .ok (.invokevirtual 179, 3) := by decide +kernel
theorem dX12_tryRow_60 : decode cX12_tryRow 60 = .ok (.goto 4, 3) := by decide +kernel
theorem dX12_tryRow_63 : decode cX12_tryRow 63 = .ok (.iconst 0, 1) := by decide +kernel
theorem dX12_tryRow_64 : decode cX12_tryRow 64 = .ok (.iadd, 1) := by decide +kernel
theorem dX12_tryRow_65 : decode cX12_tryRow 65 = .ok (.istore_n 2, 1) := by decide +kernel
theorem dX12_tryRow_66 : decode cX12_tryRow 66 = .ok (.iinc 3 1, 3) := by decide +kernel
theorem dX12_tryRow_69 : decode cX12_tryRow 69 = .ok (.goto (-63), 3) := by decide +kernel
theorem dX12_tryRow_72 : decode cX12_tryRow 72 = .ok (.iload_n 1, 1) := by decide +kernel
theorem dX12_tryRow_73 : decode cX12_tryRow 73 = .ok (.aload_n 0, 1) := by decide +kernel
theorem dX12_tryRow_74 : decode cX12_tryRow 74 = .ok (.getfield 219, 3) := by decide +kernel
theorem dX12_tryRow_77 : decode cX12_tryRow 77 = .ok (.if_icmp .gt 19, 3) := by decide +kernel
theorem dX12_tryRow_80 : decode cX12_tryRow 80 = .ok (.iload_n 1, 1) := by decide +kernel
theorem dX12_tryRow_81 : decode cX12_tryRow 81 = .ok (.aload_n 0, 1) := by decide +kernel
theorem dX12_tryRow_82 : decode cX12_tryRow 82 = .ok (.getfield 219, 3) := by decide +kernel
theorem dX12_tryRow_85 : decode cX12_tryRow 85 = .ok (.if_icmp .ne 49, 3) := by decide +kernel
theorem dX12_tryRow_88 : decode cX12_tryRow 88 = .ok (.iload_n 2, 1) := by decide +kernel
theorem dX12_tryRow_89 : decode cX12_tryRow 89 = .ok (.aload_n 0, 1) := by decide +kernel
theorem dX12_tryRow_90 : decode cX12_tryRow 90 = .ok (.getfield 222, 3) := by decide +kernel
theorem dX12_tryRow_93 : decode cX12_tryRow 93 = .ok (.if_icmp .ge 41, 3) := by decide +kernel
theorem dX12_tryRow_96 : decode cX12_tryRow 96 = .ok (.aload_n 0, 1) := by decide +kernel
theorem dX12_tryRow_97 : decode cX12_tryRow 97 = .ok (.iload_n 1, 1) := by decide +kernel
theorem dX12_tryRow_98 : decode cX12_tryRow 98 = .ok (.putfield 219, 3) := by decide +kernel
theorem dX12_tryRow_101 : decode cX12_tryRow 101 = .ok (.aload_n 0, 1) := by decide +kernel
theorem dX12_tryRow_102 : decode cX12_tryRow 102 = .ok (.iload_n 2, 1) := by decide +kernel
theorem dX12_tryRow_103 : decode cX12_tryRow 103 = .ok (.putfield 222, 3) := by decide +kernel
theorem dX12_tryRow_106 : decode cX12_tryRow 106 = .ok (.iconst 0, 1) := by decide +kernel
theorem dX12_tryRow_107 : decode cX12_tryRow 107 = .ok (.istore_n 3, 1) := by decide +kernel
theorem dX12_tryRow_108 : decode cX12_tryRow 108 = .ok (.iload_n 3, 1) := by decide +kernel
theorem dX12_tryRow_109 : decode cX12_tryRow 109 = .ok (.aload_n 0, 1) := by decide +kernel
theorem dX12_tryRow_110 : decode cX12_tryRow 110 = .ok (.getfield 92, 3) := by decide +kernel
theorem dX12_tryRow_113 : decode cX12_tryRow 113 = .ok (.if_icmp .ge 21, 3) := by decide +kernel
theorem dX12_tryRow_116 : decode cX12_tryRow 116 = .ok (.aload_n 0, 1) := by decide +kernel
theorem dX12_tryRow_117 : decode cX12_tryRow 117 = .ok (.getfield 58, 3) := by decide +kernel
theorem dX12_tryRow_120 : decode cX12_tryRow 120 = .ok (.iload_n 3, 1) := by decide +kernel
theorem dX12_tryRow_121 : decode cX12_tryRow 121 = .ok (.aload_n 0, 1) := by decide +kernel
theorem dX12_tryRow_122 : decode cX12_tryRow 122 = .ok (.getfield 55, 3) := by decide +kernel
theorem dX12_tryRow_125 : decode cX12_tryRow 125 = .ok (.iload_n 3, 1) := by decide +kernel
theorem dX12_tryRow_126 : decode cX12_tryRow 126 = .ok (.iaload, 1) := by decide +kernel
theorem dX12_tryRow_127 : decode cX12_tryRow 127 = .ok (.iastore, 1) := by decide +kernel
theorem dX12_tryRow_128 : decode cX12_tryRow 128 = .ok (.iinc 3 1, 3) := by decide +kernel
theorem dX12_tryRow_131 : decode cX12_tryRow 131 = .ok (.goto (-23), 3) := by decide +kernel
theorem dX12_tryRow_134 : decode cX12_tryRow 134 = .ok (.return_, 1) := by decide +kernel
theorem dX12_match_0 : decode cX12_match 0 = .ok (.iload_n 1, 1) := by decide +kernel
theorem dX12_match_1 : decode cX12_match 1 = .ok (.bipush (-2), 2) := by decide +kernel
theorem dX12_match_3 : decode cX12_match 3 = .ok (.iconst 4, 1) := by decide +kernel
theorem dX12_match_4 : decode cX12_match 4 = .ok (.invokestatic 85, 3) := by decide +kernel
theorem dX12_match_7 : decode cX12_match 7 = .ok (.ifCond .ne 6, 3) := by decide +kernel
theorem dX12_match_10 : decode cX12_match 10 = .ok (.bipush (-2), 2) := by decide +kernel
theorem dX12_match_12 : decode cX12_match 12 = .ok (.ireturn, 1) := by decide +kernel
theorem dX12_match_13 : decode cX12_match 13 = .ok (.aload_n 0, 1) := by decide +kernel
theorem dX12_match_14 : decode cX12_match 14 = .ok (.getfield 89, 3) := by decide +kernel
theorem dX12_match_17 : decode cX12_match 17 = .ok (.ifCond .ne 6, 3) := by decide +kernel
theorem dX12_match_20 : decode cX12_match 20 = .ok (.bipush (-3), 2) := by decide +kernel
theorem dX12_match_22 : decode cX12_match 22 = .ok (.ireturn, 1) := by decide +kernel
theorem dX12_match_23 : decode cX12_match 23 = .ok (.iconst 1, 1) := by decide +kernel
theorem dX12_match_24 : decode cX12_match 24 = .ok (.istore_n 2, 1) := by decide +kernel
theorem dX12_match_25 : decode cX12_match 25 = .ok (.iconst 0, 1) := by decide +kernel
theorem dX12_match_26 : decode cX12_match 26 = .ok (.istore_n 3, 1) := by decide +kernel
theorem dX12_match_27 : decode cX12_match 27 = .ok (.iload_n 3, 1) := by decide +kernel
theorem dX12_match_28 : decode cX12_match 28 = .ok (.aload_n 0, 1) := by decide +kernel
theorem dX12_match_29 : decode cX12_match 29 = .ok (.getfield 92, 3) := by decide +kernel
theorem dX12_match_32 : decode cX12_match 32 = .ok (.if_icmp .ge 18, 3) := by decide +kernel
theorem dX12_match_35 : decode cX12_match 35 = .ok (.iload_n 2, 1) := by decide +kernel
theorem dX12_match_36 : decode cX12_match 36 = .ok (.aload_n 0, 1) := by decide +kernel
theorem dX12_match_37 : decode cX12_match 37 = .ok (.getfield 89, 3) := by decide +kernel
theorem dX12_match_40 : decode cX12_match 40 = .ok (.iconst 1, 1) := by decide +kernel
theorem dX12_match_41 : decode cX12_match 41 = .ok (.iadd, 1) := by decide +kernel
theorem dX12_match_42 : decode cX12_match 42 = .ok (.imul, 1) := by decide +kernel
theorem dX12_match_43 : decode cX12_match 43 = .ok (.istore_n 2, 1) := by decide +kernel
theorem dX12_match_44 : decode cX12_match 44 = .ok (.iinc 3 1, 3) := by decide +kernel
theorem dX12_match_47 : decode cX12_match 47 = .ok (.goto (-20), 3) := by decide +kernel
theorem dX12_match_50 : decode cX12_match 50 = .ok (.aload_n 0, 1) := by decide +kernel
theorem dX12_match_51 : decode cX12_match 51 = .ok (.bipush (-9), 2) := by decide +kernel
theorem dX12_match_53 : decode cX12_match 53 = .ok (.putfield 219, 3) := by decide +kernel
theorem dX12_match_56 : decode cX12_match 56 = .ok (.aload_n 0, 1) := by decide +kernel
theorem dX12_match_57 : decode cX12_match 57 = .ok (.iconst 0, 1) := by decide +kernel
theorem dX12_match_58 : decode cX12_match 58 = .ok (.putfield 222, 3) := by decide +kernel
theorem dX12_match_61 : decode cX12_match 61 = .ok (.iconst 0, 1) := by decide +kernel
theorem dX12_match_62 : decode cX12_match 62 = .ok (.istore_n 3, 1) := by decide +kernel
theorem dX12_match_63 : decode cX12_match 63 = .ok (.iload_n 3, 1) := by decide +kernel
theorem dX12_match_64 : decode cX12_match 64 = .ok (.iload_n 2, 1) := by decide +kernel
theorem dX12_match_65 : decode cX12_match 65 = .ok (.if_icmp .ge 21, 3) := by decide +kernel
theorem dX12_match_68 : decode cX12_match 68 = .ok (.aload_n 0, 1) := by decide +kernel
theorem dX12_match_69 : decode cX12_match 69 = .ok (.iload_n 3, 1) := by decide +kernel
theorem dX12_match_70 : decode cX12_match 70 = .ok (.invokevirtual 225, 3) := by decide +kernel
theorem dX12_match_73 : decode cX12_match 73 = .ok (.ifCond .eq 7, 3) := by decide +kernel
theorem dX12_match_76 : decode cX12_match 76 = .ok (.aload_n 0, 1) := by decide +kernel
theorem dX12_match_77 : decode cX12_match 77 = .ok (.invokevirtual 228, 3) := by decide +kernel
theorem dX12_match_80 : decode cX12_match 80 = .ok (.iinc 3 1, 3) := by decide +kernel
theorem dX12_match_83 : decode cX12_match 83 = .ok (.goto (-20), 3) := by decide +kernel
theorem dX12_match_86 : decode cX12_match 86 = .ok (.iload_n 1, 1) := by decide +kernel
theorem dX12_match_87 : decode cX12_match 87 = .ok (.ifCond .ge 21, 3) := by decide +kernel
theorem dX12_match_90 : decode cX12_match 90 = .ok (.iload_n 1, 1) := by decide +kernel
theorem dX12_match_91 : decode cX12_match 91 = .ok (.bipush (-2), 2) := by decide +kernel
theorem dX12_match_93 : decode cX12_match 93 = .ok (.if_icmp .ne 10, 3) := by decide +kernel
theorem dX12_match_96 : decode cX12_match 96 = .ok (.aload_n 0, 1) := by decide +kernel
theorem dX12_match_97 : decode cX12_match 97 = .ok (.getfield 219, 3) := by decide +kernel
theorem dX12_match_100 : decode cX12_match 100 = .ok (.goto 7, 3) := by decide +kernel
theorem dX12_match_103 : decode cX12_match 103 = .ok (.aload_n 0, 1) := by decide +kernel
theorem dX12_match_104 : decode cX12_match 104 = .ok (.getfield 222, 3) := by decide +kernel
theorem dX12_match_107 : decode cX12_match 107 = .ok (.ireturn, 1) := by decide +kernel
theorem dX12_match_108 : decode cX12_match 108 = .ok (.aload_n 0, 1) := by decide +kernel
theorem dX12_match_109 : decode cX12_match 109 = .ok (.iload_n 1, 1) := by decide +kernel
theorem dX12_match_110 : decode cX12_match 110 = .ok (.invokevirtual 170, 3) := by decide +kernel
theorem dX12_match_113 : decode cX12_match 113 = .ok (.ifCond .eq 25, 3) := by decide +kernel
theorem dX12_match_116 : decode cX12_match 116 = .ok (.aload_n 0, 1) := by decide +kernel
theorem dX12_match_117 : decode cX12_match 117 = .ok (.getfield 58, 3) := by decide +kernel
theorem dX12_match_120 : decode cX12_match 120 = .ok (.iload_n 1, 1) := by decide +kernel
theorem dX12_match_121 : decode cX12_match 121 = .ok (.iaload, 1) := by decide +kernel
theorem dX12_match_122 : decode cX12_match 122 = .ok (.aload_n 0, 1) := by decide +kernel
theorem dX12_match_123 : decode cX12_match 123 = .ok (.getfield 89, 3) := by decide +kernel
theorem dX12_match_126 : decode cX12_match 126 = .ok (.if_icmp .ge 12, 3) := by decide +kernel
theorem dX12_match_129 : decode cX12_match 129 = .ok (.aload_n 0, 1) := by decide +kernel
theorem dX12_match_130 : decode cX12_match 130 = .ok (.getfield 58, 3) := by decide +kernel
theorem dX12_match_133 : decode cX12_match 133 = .ok (.iload_n 1, 1) := by decide +kernel
theorem dX12_match_134 : decode cX12_match 134 = .ok (.iaload, 1) := by decide +kernel
theorem dX12_match_135 : decode cX12_match 135 = .ok (.goto 5, 3) := by decide +kernel
theorem dX12_match_138 : decode cX12_match 138 = .ok (.bipush (-9), 2) := by decide +kernel
theorem dX12_match_140 : decode cX12_match 140 = .ok (.ireturn, 1) := by decide +kernel
theorem dX12_nextFor_0 : decode cX12_nextFor 0 = .ok (.bipush (-9), 2) := by decide +kernel
theorem dX12_nextFor_2 : decode cX12_nextFor 2 = .ok (.istore_n 2, 1) := by decide +kernel
theorem dX12_nextFor_3 : decode cX12_nextFor 3 = .ok (.iconst 0, 1) := by decide +kernel
theorem dX12_nextFor_4 : decode cX12_nextFor 4 = .ok (.istore_n 3, 1) := by decide +kernel
theorem dX12_nextFor_5 : decode cX12_nextFor 5 = .ok (.iload_n 3, 1) := by decide +kernel
theorem dX12_nextFor_6 : decode cX12_nextFor 6 = .ok (.aload_n 0, 1) := by decide +kernel
theorem dX12_nextFor_7 : decode cX12_nextFor 7 = .ok (.getfield 89, 3) := by decide +kernel
theorem dX12_nextFor_10 : decode cX12_nextFor 10 = .ok (.if_icmp .ge 61, 3) := by decide +kernel
theorem dX12_nextFor_13 : decode cX12_nextFor 13 = .ok (.aload_n 0, 1) := by decide +kernel
theorem dX12_nextFor_14 : decode cX12_nextFor 14 = .ok (.getfield 67, 3) := by decide +kernel
theorem dX12_nextFor_17 : decode cX12_nextFor 17 = .ok (.iload_n 1, 1) := by decide +kernel
theorem dX12_nextFor_18 : decode cX12_nextFor 18 = .ok (.iaload, 1) := by decide +kernel
theorem dX12_nextFor_19 : decode cX12_nextFor 19 = .ok (.iload_n 3, 1) := by decide +kernel
theorem dX12_nextFor_20 : decode cX12_nextFor 20 = .ok (.ishr, 1) := by decide +kernel
theorem dX12_nextFor_21 : decode cX12_nextFor 21 = .ok (.iconst 1, 1) := by decide +kernel
theorem dX12_nextFor_22 : decode cX12_nextFor 22 = .ok (.iand, 1) := by decide +kernel
theorem dX12_nextFor_23 : decode cX12_nextFor 23 = .ok (.ifCond .ne 7, 3) := by decide +kernel
theorem dX12_nextFor_26 : decode cX12_nextFor 26 = .ok (.iconst 1, 1) := by decide +kernel
theorem dX12_nextFor_27 : decode cX12_nextFor 27 = .ok (.goto 4, 3) := by decide +kernel
theorem dX12_nextFor_30 : decode cX12_nextFor 30 = .ok (.iconst 0, 1) := by decide +kernel
theorem dX12_nextFor_31 : decode cX12_nextFor 31 = .ok (.istore 4, 2) := by decide +kernel
theorem dX12_nextFor_33 : decode cX12_nextFor 33 = .ok (.iload 4, 2) := by decide +kernel
theorem dX12_nextFor_35 : decode cX12_nextFor 35 = .ok (.ifCond .eq 28, 3) := by decide +kernel
theorem dX12_nextFor_38 : decode cX12_nextFor 38 = .ok (.iload_n 2, 1) := by decide +kernel
theorem dX12_nextFor_39 : decode cX12_nextFor 39 = .ok (.bipush (-9), 2) := by decide +kernel
theorem dX12_nextFor_41 : decode cX12_nextFor 41 = .ok (.if_icmp .eq 18, 3) := by decide +kernel
theorem dX12_nextFor_44 : decode cX12_nextFor 44 = .ok (.aload_n 0, 1) := by decide +kernel
theorem dX12_nextFor_45 : decode cX12_nextFor 45 = .ok (.iload_n 1, 1) := by decide +kernel
theorem dX12_nextFor_46 : decode cX12_nextFor 46 = .ok (.iload_n 3, 1) := by decide +kernel
theorem dX12_nextFor_47 : decode cX12_nextFor 47 = .ok (.invokevirtual 179, 3) := by decide +kernel
theorem dX12_nextFor_50 : decode cX12_nextFor 50 = .ok (.aload_n 0, 1) := by decide +kernel
theorem dX12_nextFor_51 : decode cX12_nextFor 51 = .ok (.iload_n 1, 1) := by decide +kernel
theorem dX12_nextFor_52 : decode cX12_nextFor 52 = .ok (.iload_n 2, 1) := by decide +kernel
theorem dX12_nextFor_53 : decode cX12_nextFor 53 = .ok (.invokevirtual 179, 3) := by decide +kernel
theorem dX12_nextFor_56 : decode cX12_nextFor 56 = .ok (.if_icmp .ge 7, 3) := by decide +kernel
theorem dX12_nextFor_59 : decode cX12_nextFor 59 = .ok (.iload_n 3, 1) := by decide +kernel
theorem dX12_nextFor_60 : decode cX12_nextFor 60 = .ok (.goto 4, 3) := by decide +kernel
theorem dX12_nextFor_63 : decode cX12_nextFor 63 = .ok (.iload_n 2, 1) := by decide +kernel
theorem dX12_nextFor_64 : decode cX12_nextFor 64 = .ok (.istore_n 2, 1) := by decide +kernel
theorem dX12_nextFor_65 : decode cX12_nextFor 65 = .ok (.iinc 3 1, 3) := by decide +kernel
theorem dX12_nextFor_68 : decode cX12_nextFor 68 = .ok (.goto (-63), 3) := by decide +kernel
theorem dX12_nextFor_71 : decode cX12_nextFor 71 = .ok (.iload_n 2, 1) := by decide +kernel
theorem dX12_nextFor_72 : decode cX12_nextFor 72 = .ok (.ireturn, 1) := by decide +kernel
theorem dX12_wouldRather_0 : decode cX12_wouldRather 0 = .ok (.aload_n 0, 1) := by decide +kernel
theorem dX12_wouldRather_1 : decode cX12_wouldRather 1 = .ok (.getfield 64, 3) := by decide +kernel
theorem dX12_wouldRather_4 : decode cX12_wouldRather 4 = .ok (.iload_n 1, 1) := by decide +kernel
theorem dX12_wouldRather_5 : decode cX12_wouldRather 5 = .ok (.iaload, 1) := by decide +kernel
theorem dX12_wouldRather_6 : decode cX12_wouldRather 6 = .ok (.istore_n 3, 1) := by decide +kernel
theorem dX12_wouldRather_7 : decode cX12_wouldRather 7 = .ok (.iload_n 3, 1) := by decide +kernel
theorem dX12_wouldRather_8 : decode cX12_wouldRather 8 = .ok (.bipush (-9), 2) := by decide +kernel
theorem dX12_wouldRather_10 : decode cX12_wouldRather 10 = .ok (.if_icmp .eq 38, 3) := by decide +kernel
theorem dX12_wouldRather_13 : decode cX12_wouldRather 13 = .ok (.aload_n 0, 1) := by decide +kernel
theorem dX12_wouldRather_14 : decode cX12_wouldRather 14 = .ok (.iload_n 2, 1) := by decide +kernel
theorem dX12_wouldRather_15 : decode cX12_wouldRather 15 = .ok (.iload_n 1, 1) := by decide +kernel
theorem dX12_wouldRather_16 : decode cX12_wouldRather 16 = .ok (.invokevirtual 179, 3) := by decide +kernel
theorem dX12_wouldRather_19 : decode cX12_wouldRather 19 = .ok (.aload_n 0, 1) := by decide +kernel
theorem dX12_wouldRather_20 : decode cX12_wouldRather 20 = .ok (.iload_n 3, 1) := by decide +kernel
theorem dX12_wouldRather_21 : decode cX12_wouldRather 21 = .ok (.iload_n 1, 1) := by decide +kernel
theorem dX12_wouldRather_22 : decode cX12_wouldRather 22 = .ok (.invokevirtual 179, 3) := by decide +kernel
theorem dX12_wouldRather_25 : decode cX12_wouldRather 25 = .ok (.if_icmp .lt 23, 3) := by decide +kernel
theorem dX12_wouldRather_28 : decode cX12_wouldRather 28 = .ok (.aload_n 0, 1) := by decide +kernel
theorem dX12_wouldRather_29 : decode cX12_wouldRather 29 = .ok (.iload_n 2, 1) := by decide +kernel
theorem dX12_wouldRather_30 : decode cX12_wouldRather 30 = .ok (.iload_n 1, 1) := by decide +kernel
theorem dX12_wouldRather_31 : decode cX12_wouldRather 31 = .ok (.invokevirtual 179, 3) := by decide +kernel
theorem dX12_wouldRather_34 : decode cX12_wouldRather 34 = .ok (.aload_n 0, 1) := by decide +kernel
theorem dX12_wouldRather_35 : decode cX12_wouldRather 35 = .ok (.iload_n 3, 1) := by decide +kernel
theorem dX12_wouldRather_36 : decode cX12_wouldRather 36 = .ok (.iload_n 1, 1) := by decide +kernel
theorem dX12_wouldRather_37 : decode cX12_wouldRather 37 = .ok (.invokevirtual 179, 3) := by decide +kernel
theorem dX12_wouldRather_40 : decode cX12_wouldRather 40 = .ok (.if_icmp .ne 12, 3) := by decide +kernel
theorem dX12_wouldRather_43 : decode cX12_wouldRather 43 = .ok (.iload_n 2, 1) := by decide +kernel
theorem dX12_wouldRather_44 : decode cX12_wouldRather 44 = .ok (.iload_n 3, 1) := by decide +kernel
theorem dX12_wouldRather_45 : decode cX12_wouldRather 45 = .ok (.if_icmp .ge 7, 3) := by decide +kernel
theorem dX12_wouldRather_48 : decode cX12_wouldRather 48 = .ok (.iconst 1, 1) := by decide +kernel
theorem dX12_wouldRather_49 : decode cX12_wouldRather 49 = .ok (.goto 4, 3) := by decide +kernel
theorem dX12_wouldRather_52 : decode cX12_wouldRather 52 = .ok (.iconst 0, 1) := by decide +kernel
theorem dX12_wouldRather_53 : decode cX12_wouldRather 53 = .ok (.ireturn, 1) := by decide +kernel
theorem dX12_asks_0 : decode cX12_asks 0 = .ok (.aload_n 0, 1) := by decide +kernel
theorem dX12_asks_1 : decode cX12_asks 1 = .ok (.getfield 67, 3) := by decide +kernel
theorem dX12_asks_4 : decode cX12_asks 4 = .ok (.iload_n 1, 1) := by decide +kernel
theorem dX12_asks_5 : decode cX12_asks 5 = .ok (.dup2, 1) := by decide +kernel
theorem dX12_asks_6 : decode cX12_asks 6 = .ok (.iaload, 1) := by decide +kernel
theorem dX12_asks_7 : decode cX12_asks 7 = .ok (.iconst 1, 1) := by decide +kernel
theorem dX12_asks_8 : decode cX12_asks 8 = .ok (.iload_n 2, 1) := by decide +kernel
theorem dX12_asks_9 : decode cX12_asks 9 = .ok (.ishl, 1) := by decide +kernel
theorem dX12_asks_10 : decode cX12_asks 10 = .ok (.ior, 1) := by decide +kernel
theorem dX12_asks_11 : decode cX12_asks 11 = .ok (.iastore, 1) := by decide +kernel
theorem dX12_asks_12 : decode cX12_asks 12 = .ok (.aload_n 0, 1) := by decide +kernel
theorem dX12_asks_13 : decode cX12_asks 13 = .ok (.iload_n 2, 1) := by decide +kernel
theorem dX12_asks_14 : decode cX12_asks 14 = .ok (.iload_n 1, 1) := by decide +kernel
theorem dX12_asks_15 : decode cX12_asks 15 = .ok (.invokevirtual 231, 3) := by decide +kernel
theorem dX12_asks_18 : decode cX12_asks 18 = .ok (.ifCond .eq 41, 3) := by decide +kernel
theorem dX12_asks_21 : decode cX12_asks 21 = .ok (.aload_n 0, 1) := by decide +kernel
theorem dX12_asks_22 : decode cX12_asks 22 = .ok (.getfield 64, 3) := by decide +kernel
theorem dX12_asks_25 : decode cX12_asks 25 = .ok (.iload_n 2, 1) := by decide +kernel
theorem dX12_asks_26 : decode cX12_asks 26 = .ok (.iaload, 1) := by decide +kernel
theorem dX12_asks_27 : decode cX12_asks 27 = .ok (.bipush (-9), 2) := by decide +kernel
theorem dX12_asks_29 : decode cX12_asks 29 = .ok (.if_icmp .eq 16, 3) := by decide +kernel
theorem dX12_asks_32 : decode cX12_asks 32 = .ok (.aload_n 0, 1) := by decide +kernel
theorem dX12_asks_33 : decode cX12_asks 33 = .ok (.getfield 61, 3) := by decide +kernel
theorem dX12_asks_36 : decode cX12_asks 36 = .ok (.aload_n 0, 1) := by decide +kernel
theorem dX12_asks_37 : decode cX12_asks 37 = .ok (.getfield 64, 3) := by decide +kernel
theorem dX12_asks_40 : decode cX12_asks 40 = .ok (.iload_n 2, 1) := by decide +kernel
theorem dX12_asks_41 : decode cX12_asks 41 = .ok (.iaload, 1) := by decide +kernel
theorem dX12_asks_42 : decode cX12_asks 42 = .ok (.bipush (-9), 2) := by decide +kernel
theorem dX12_asks_44 : decode cX12_asks 44 = .ok (.iastore, 1) := by decide +kernel
theorem dX12_asks_45 : decode cX12_asks 45 = .ok (.aload_n 0, 1) := by decide +kernel
theorem dX12_asks_46 : decode cX12_asks 46 = .ok (.getfield 64, 3) := by decide +kernel
theorem dX12_asks_49 : decode cX12_asks 49 = .ok (.iload_n 2, 1) := by decide +kernel
theorem dX12_asks_50 : decode cX12_asks 50 = .ok (.iload_n 1, 1) := by decide +kernel
theorem dX12_asks_51 : decode cX12_asks 51 = .ok (.iastore, 1) := by decide +kernel
theorem dX12_asks_52 : decode cX12_asks 52 = .ok (.aload_n 0, 1) := by decide +kernel
theorem dX12_asks_53 : decode cX12_asks 53 = .ok (.getfield 61, 3) := by decide +kernel
theorem dX12_asks_56 : decode cX12_asks 56 = .ok (.iload_n 1, 1) := by decide +kernel
theorem dX12_asks_57 : decode cX12_asks 57 = .ok (.iload_n 2, 1) := by decide +kernel
theorem dX12_asks_58 : decode cX12_asks 58 = .ok (.iastore, 1) := by decide +kernel
theorem dX12_asks_59 : decode cX12_asks 59 = .ok (.return_, 1) := by decide +kernel
theorem dX12_weds_0 : decode cX12_weds 0 = .ok (.aload_n 0, 1) := by decide +kernel
theorem dX12_weds_1 : decode cX12_weds 1 = .ok (.iload_n 1, 1) := by decide +kernel
theorem dX12_weds_2 : decode cX12_weds 2 = .ok (.invokevirtual 170, 3) := by decide +kernel
theorem dX12_weds_5 : decode cX12_weds 5 = .ok (.ifCond .ne 5, 3) := by decide +kernel
theorem dX12_weds_8 : decode cX12_weds 8 = .ok (.iconst (-1), 1) := by decide +kernel
theorem dX12_weds_9 : decode cX12_weds 9 = .ok (.ireturn, 1) := by decide +kernel
theorem dX12_weds_10 : decode cX12_weds 10 = .ok (.iconst 0, 1) := by decide +kernel
theorem dX12_weds_11 : decode cX12_weds 11 = .ok (.istore_n 2, 1) := by decide +kernel
theorem dX12_weds_12 : decode cX12_weds 12 = .ok (.iload_n 2, 1) := by decide +kernel
theorem dX12_weds_13 : decode cX12_weds 13 = .ok (.aload_n 0, 1) := by decide +kernel
theorem dX12_weds_14 : decode cX12_weds 14 = .ok (.getfield 92, 3) := by decide +kernel
theorem dX12_weds_17 : decode cX12_weds 17 = .ok (.if_icmp .ge 24, 3) := by decide +kernel
theorem dX12_weds_20 : decode cX12_weds 20 = .ok (.aload_n 0, 1) := by decide +kernel
theorem dX12_weds_21 : decode cX12_weds 21 = .ok (.getfield 61, 3) := by decide +kernel
theorem dX12_weds_24 : decode cX12_weds 24 = .ok (.iload_n 2, 1) := by decide +kernel
theorem dX12_weds_25 : decode cX12_weds 25 = .ok (.bipush (-9), 2) := by decide +kernel
theorem dX12_weds_27 : decode cX12_weds 27 = .ok (.iastore, 1) := by decide +kernel
theorem dX12_weds_28 : decode cX12_weds 28 = .ok (.aload_n 0, 1) := by decide +kernel
theorem dX12_weds_29 : decode cX12_weds 29 = .ok (.getfield 67, 3) := by decide +kernel
theorem dX12_weds_32 : decode cX12_weds 32 = .ok (.iload_n 2, 1) := by decide +kernel
theorem dX12_weds_33 : decode cX12_weds 33 = .ok (.iconst 0, 1) := by decide +kernel
theorem dX12_weds_34 : decode cX12_weds 34 = .ok (.iastore, 1) := by decide +kernel
theorem dX12_weds_35 : decode cX12_weds 35 = .ok (.iinc 2 1, 3) := by decide +kernel
theorem dX12_weds_38 : decode cX12_weds 38 = .ok (.goto (-26), 3) := by decide +kernel
theorem dX12_weds_41 : decode cX12_weds 41 = .ok (.iconst 0, 1) := by decide +kernel
theorem dX12_weds_42 : decode cX12_weds 42 = .ok (.istore_n 2, 1) := by decide +kernel
theorem dX12_weds_43 : decode cX12_weds 43 = .ok (.iload_n 2, 1) := by decide +kernel
theorem dX12_weds_44 : decode cX12_weds 44 = .ok (.aload_n 0, 1) := by decide +kernel
theorem dX12_weds_45 : decode cX12_weds 45 = .ok (.getfield 89, 3) := by decide +kernel
theorem dX12_weds_48 : decode cX12_weds 48 = .ok (.if_icmp .ge 17, 3) := by decide +kernel
theorem dX12_weds_51 : decode cX12_weds 51 = .ok (.aload_n 0, 1) := by decide +kernel
theorem dX12_weds_52 : decode cX12_weds 52 = .ok (.getfield 64, 3) := by decide +kernel
theorem dX12_weds_55 : decode cX12_weds 55 = .ok (.iload_n 2, 1) := by decide +kernel
theorem dX12_weds_56 : decode cX12_weds 56 = .ok (.bipush (-9), 2) := by decide +kernel
theorem dX12_weds_58 : decode cX12_weds 58 = .ok (.iastore, 1) := by decide +kernel
theorem dX12_weds_59 : decode cX12_weds 59 = .ok (.iinc 2 1, 3) := by decide +kernel
theorem dX12_weds_62 : decode cX12_weds 62 = .ok (.goto (-19), 3) := by decide +kernel
theorem dX12_weds_65 : decode cX12_weds 65 = .ok (.iconst 1, 1) := by decide +kernel
theorem dX12_weds_66 : decode cX12_weds 66 = .ok (.istore_n 2, 1) := by decide +kernel
theorem dX12_weds_67 : decode cX12_weds 67 = .ok (.iload_n 2, 1) := by decide +kernel
theorem dX12_weds_68 : decode cX12_weds 68 = .ok (.ifCond .eq 57, 3) := by decide +kernel
theorem dX12_weds_71 : decode cX12_weds 71 = .ok (.iconst 0, 1) := by decide +kernel
theorem dX12_weds_72 : decode cX12_weds 72 = .ok (.istore_n 2, 1) := by decide +kernel
theorem dX12_weds_73 : decode cX12_weds 73 = .ok (.iconst 0, 1) := by decide +kernel
theorem dX12_weds_74 : decode cX12_weds 74 = .ok (.istore_n 3, 1) := by decide +kernel
theorem dX12_weds_75 : decode cX12_weds 75 = .ok (.iload_n 3, 1) := by decide +kernel
theorem dX12_weds_76 : decode cX12_weds 76 = .ok (.aload_n 0, 1) := by decide +kernel
theorem dX12_weds_77 : decode cX12_weds 77 = .ok (.getfield 92, 3) := by decide +kernel
theorem dX12_weds_80 : decode cX12_weds 80 = .ok (.if_icmp .ge 42, 3) := by decide +kernel
theorem dX12_weds_83 : decode cX12_weds 83 = .ok (.aload_n 0, 1) := by decide +kernel
theorem dX12_weds_84 : decode cX12_weds 84 = .ok (.getfield 61, 3) := by decide +kernel
theorem dX12_weds_87 : decode cX12_weds 87 = .ok (.iload_n 3, 1) := by decide +kernel
theorem dX12_weds_88 : decode cX12_weds 88 = .ok (.iaload, 1) := by decide +kernel
theorem dX12_weds_89 : decode cX12_weds 89 = .ok (.bipush (-9), 2) := by decide +kernel
theorem dX12_weds_91 : decode cX12_weds 91 = .ok (.if_icmp .ne 25, 3) := by decide +kernel
theorem dX12_weds_94 : decode cX12_weds 94 = .ok (.aload_n 0, 1) := by decide +kernel
theorem dX12_weds_95 : decode cX12_weds 95 = .ok (.iload_n 3, 1) := by decide +kernel
theorem dX12_weds_96 : decode cX12_weds 96 = .ok (.invokevirtual 234, 3) := by decide +kernel
theorem dX12_weds_99 : decode cX12_weds 99 = .ok (.bipush (-9), 2) := by decide +kernel
theorem dX12_weds_101 : decode cX12_weds 101 = .ok (.if_icmp .eq 15, 3) := by decide +kernel
theorem dX12_weds_104 : decode cX12_weds 104 = .ok (.aload_n 0, 1) := by decide +kernel
theorem dX12_weds_105 : decode cX12_weds 105 = .ok (.iload_n 3, 1) := by decide +kernel
theorem dX12_weds_106 : decode cX12_weds 106 = .ok (.aload_n 0, 1) := by decide +kernel
theorem dX12_weds_107 : decode cX12_weds 107 = .ok (.iload_n 3, 1) := by decide +kernel
theorem dX12_weds_108 : decode cX12_weds 108 = .ok (.invokevirtual 234, 3) := by decide +kernel
theorem dX12_weds_111 : decode cX12_weds 111 = .ok (.invokevirtual 237, 3) := by decide +kernel
theorem dX12_weds_114 : decode cX12_weds 114 = .ok (.iconst 1, 1) := by decide +kernel
theorem dX12_weds_115 : decode cX12_weds 115 = .ok (.istore_n 2, 1) := by decide +kernel
theorem dX12_weds_116 : decode cX12_weds 116 = .ok (.iinc 3 1, 3) := by decide +kernel
theorem dX12_weds_119 : decode cX12_weds 119 = .ok (.goto (-44), 3) := by decide +kernel
theorem dX12_weds_122 : decode cX12_weds 122 = .ok (.goto (-55), 3) := by decide +kernel
theorem dX12_weds_125 : decode cX12_weds 125 = .ok (.aload_n 0, 1) := by decide +kernel
theorem dX12_weds_126 : decode cX12_weds 126 = .ok (.getfield 61, 3) := by decide +kernel
theorem dX12_weds_129 : decode cX12_weds 129 = .ok (.iload_n 1, 1) := by decide +kernel
theorem dX12_weds_130 : decode cX12_weds 130 = .ok (.iaload, 1) := by decide +kernel
theorem dX12_weds_131 : decode cX12_weds 131 = .ok (.ireturn, 1) := by decide +kernel
theorem dX12_even_0 : decode cX12_even 0 = .ok (.aload_n 0, 1) := by decide +kernel
theorem dX12_even_1 : decode cX12_even 1 = .ok (.iload_n 1, 1) := by decide +kernel
theorem dX12_even_2 : decode cX12_even 2 = .ok (.invokevirtual 170, 3) := by decide +kernel
theorem dX12_even_5 : decode cX12_even 5 = .ok (.ifCond .eq 24, 3) := by decide +kernel
theorem dX12_even_8 : decode cX12_even 8 = .ok (.aload_n 0, 1) := by decide +kernel
theorem dX12_even_9 : decode cX12_even 9 = .ok (.iload_n 2, 1) := by decide +kernel
theorem dX12_even_10 : decode cX12_even 10 = .ok (.invokevirtual 170, 3) := by decide +kernel
theorem dX12_even_13 : decode cX12_even 13 = .ok (.ifCond .eq 16, 3) := by decide +kernel
theorem dX12_even_16 : decode cX12_even 16 = .ok (.iload_n 1, 1) := by decide +kernel
theorem dX12_even_17 : decode cX12_even 17 = .ok (.iload_n 2, 1) := by decide +kernel
theorem dX12_even_18 : decode cX12_even 18 = .ok (.if_icmp .eq 11, 3) := by decide +kernel
theorem dX12_even_21 : decode cX12_even 21 = .ok (.aload_n 0, 1) := by decide +kernel
theorem dX12_even_22 : decode cX12_even 22 = .ok (.iload_n 3, 1) := by decide +kernel
theorem dX12_even_23 : decode cX12_even 23 = .ok (.invokevirtual 161, 3) := by decide +kernel
theorem dX12_even_26 : decode cX12_even 26 = .ok (.ifCond .ne 5, 3) := by decide +kernel
theorem dX12_even_29 : decode cX12_even 29 = .ok (.iconst (-1), 1) := by decide +kernel
theorem dX12_even_30 : decode cX12_even 30 = .ok (.ireturn, 1) := by decide +kernel
theorem dX12_even_31 : decode cX12_even 31 = .ok (.aload_n 0, 1) := by decide +kernel
theorem dX12_even_32 : decode cX12_even 32 = .ok (.getfield 19, 3) := by decide +kernel
theorem dX12_even_35 : decode cX12_even 35 = .ok (.iload_n 3, 1) := by decide +kernel
theorem dX12_even_36 : decode cX12_even 36 = .ok (.iaload, 1) := by decide +kernel
theorem dX12_even_37 : decode cX12_even 37 = .ok (.istore 4, 2) := by decide +kernel
theorem dX12_even_39 : decode cX12_even 39 = .ok (.bipush (-9), 2) := by decide +kernel
theorem dX12_even_41 : decode cX12_even 41 = .ok (.istore 5, 2) := by decide +kernel
theorem dX12_even_43 : decode cX12_even 43 = .ok (.iconst 0, 1) := by decide +kernel
theorem dX12_even_44 : decode cX12_even 44 = .ok (.istore 6, 2) := by decide +kernel
theorem dX12_even_46 : decode cX12_even 46 = .ok (.iconst 1, 1) := by decide +kernel
theorem dX12_even_47 : decode cX12_even 47 = .ok (.istore 7, 2) := by decide +kernel
theorem dX12_even_49 : decode cX12_even 49 = .ok (.iload 7, 2) := by decide +kernel
theorem dX12_even_51 : decode cX12_even 51 = .ok (.bipush 9, 2) := by decide +kernel
theorem dX12_even_53 : decode cX12_even 53 = .ok (.if_icmp .gt 76, 3) := by decide +kernel
theorem dX12_even_56 : decode cX12_even 56 = .ok (.aload_n 0, 1) := by decide +kernel
theorem dX12_even_57 : decode cX12_even 57 = .ok (.getfield 19, 3) := by decide +kernel
theorem dX12_even_60 : decode cX12_even 60 = .ok (.iload_n 3, 1) := by decide +kernel
theorem dX12_even_61 : decode cX12_even 61 = .ok (.iload 7, 2) := by decide +kernel
theorem dX12_even_63 : decode cX12_even 63 = .ok (.iastore, 1) := by decide +kernel
theorem dX12_even_64 : decode cX12_even 64 = .ok (.iload 7, 2) := by decide +kernel
theorem dX12_even_66 : decode cX12_even 66 = .ok (.iload 4, 2) := by decide +kernel
theorem dX12_even_68 : decode cX12_even 68 = .ok (.if_icmp .ge 11, 3) := by decide +kernel
theorem dX12_even_71 : decode cX12_even 71 = .ok (.iload 4, 2) := by decide +kernel
theorem dX12_even_73 : decode cX12_even 73 = .ok (.iload 7, 2) := by decide +kernel
theorem dX12_even_75 : decode cX12_even 75 = .ok (.isub, 1) := by decide +kernel
theorem dX12_even_76 : decode cX12_even 76 = .ok (.goto 8, 3) := by decide +kernel
theorem dX12_even_79 : decode cX12_even 79 = .ok (.iload 7, 2) := by decide +kernel
theorem dX12_even_81 : decode cX12_even 81 = .ok (.iload 4, 2) := by decide +kernel
theorem dX12_even_83 : decode cX12_even 83 = .ok (.isub, 1) := by decide +kernel
theorem dX12_even_84 : decode cX12_even 84 = .ok (.istore 8, 2) := by decide +kernel
theorem dX12_even_86 : decode cX12_even 86 = .ok (.aload_n 0, 1) := by decide +kernel
theorem dX12_even_87 : decode cX12_even 87 = .ok (.iload_n 1, 1) := by decide +kernel
theorem dX12_even_88 : decode cX12_even 88 = .ok (.iload_n 3, 1) := by decide +kernel
theorem dX12_even_89 : decode cX12_even 89 = .ok (.invokevirtual 179, 3) := by decide +kernel
theorem dX12_even_92 : decode cX12_even 92 = .ok (.aload_n 0, 1) := by decide +kernel
theorem dX12_even_93 : decode cX12_even 93 = .ok (.iload_n 2, 1) := by decide +kernel
theorem dX12_even_94 : decode cX12_even 94 = .ok (.iload_n 3, 1) := by decide +kernel
theorem dX12_even_95 : decode cX12_even 95 = .ok (.invokevirtual 179, 3) := by decide +kernel
theorem dX12_even_98 : decode cX12_even 98 = .ok (.if_icmp .ne 25, 3) := by decide +kernel
theorem dX12_even_101 : decode cX12_even 101 = .ok (.iload 5, 2) := by decide +kernel
theorem dX12_even_103 : decode cX12_even 103 = .ok (.bipush (-9), 2) := by decide +kernel
theorem dX12_even_105 : decode cX12_even 105 = .ok (.if_icmp .eq 10, 3) := by decide +kernel
theorem dX12_even_108 : decode cX12_even 108 = .ok (.iload 8, 2) := by decide +kernel
theorem dX12_even_110 : decode cX12_even 110 = .ok (.iload 6, 2) := by decide +kernel
theorem dX12_even_112 : decode cX12_even 112 = .ok (.if_icmp .ge 11, 3) := by decide +kernel
theorem dX12_even_115 : decode cX12_even 115 = .ok (.iload 7, 2) := by decide +kernel
theorem dX12_even_117 : decode cX12_even 117 = .ok (.istore 5, 2) := by decide +kernel
theorem dX12_even_119 : decode cX12_even 119 = .ok (.iload 8, 2) := by decide +kernel
theorem dX12_even_121 : decode cX12_even 121 = .ok (.istore 6, 2) := by decide +kernel
theorem dX12_even_123 : decode cX12_even 123 = .ok (.iinc 7 1, 3) := by decide +kernel
theorem dX12_even_126 : decode cX12_even 126 = .ok (.goto (-77), 3) := by decide +kernel
theorem dX12_even_129 : decode cX12_even 129 = .ok (.aload_n 0, 1) := by decide +kernel
theorem dX12_even_130 : decode cX12_even 130 = .ok (.getfield 19, 3) := by decide +kernel
theorem dX12_even_133 : decode cX12_even 133 = .ok (.iload_n 3, 1) := by decide +kernel
theorem dX12_even_134 : decode cX12_even 134 = .ok (.iload 4, 2) := by decide +kernel
theorem dX12_even_136 : decode cX12_even 136 = .ok (.iastore, 1) := by decide +kernel
theorem dX12_even_137 : decode cX12_even 137 = .ok (.iload 5, 2) := by decide +kernel
theorem dX12_even_139 : decode cX12_even 139 = .ok (.ireturn, 1) := by decide +kernel
theorem dX12_reading_0 : decode cX12_reading 0 = .ok (.aload_n 0, 1) := by decide +kernel
theorem dX12_reading_1 : decode cX12_reading 1 = .ok (.iload_n 1, 1) := by decide +kernel
theorem dX12_reading_2 : decode cX12_reading 2 = .ok (.invokevirtual 170, 3) := by decide +kernel
theorem dX12_reading_5 : decode cX12_reading 5 = .ok (.ifCond .eq 11, 3) := by decide +kernel
theorem dX12_reading_8 : decode cX12_reading 8 = .ok (.aload_n 0, 1) := by decide +kernel
theorem dX12_reading_9 : decode cX12_reading 9 = .ok (.iload_n 2, 1) := by decide +kernel
theorem dX12_reading_10 : decode cX12_reading 10 = .ok (.invokevirtual 161, 3) := by decide +kernel
theorem dX12_reading_13 : decode cX12_reading 13 = .ok (.ifCond .ne 5, 3) := by decide +kernel
theorem dX12_reading_16 : decode cX12_reading 16 = .ok (.iconst (-1), 1) := by decide +kernel
theorem dX12_reading_17 : decode cX12_reading 17 = .ok (.ireturn, 1) := by decide +kernel
theorem dX12_reading_18 : decode cX12_reading 18 = .ok (.iload_n 3, 1) := by decide +kernel
theorem dX12_reading_19 : decode cX12_reading 19 = .ok (.iconst 0, 1) := by decide +kernel
theorem dX12_reading_20 : decode cX12_reading 20 = .ok (.bipush 20, 2) := by decide +kernel
theorem dX12_reading_22 : decode cX12_reading 22 = .ok (.invokestatic 85, 3) := by decide +kernel
theorem dX12_reading_25 : decode cX12_reading 25 = .ok (.ifCond .ne 6, 3) := by decide +kernel
theorem dX12_reading_28 : decode cX12_reading 28 = .ok (.bipush (-2), 2) := by decide +kernel
theorem dX12_reading_30 : decode cX12_reading 30 = .ok (.ireturn, 1) := by decide +kernel
theorem dX12_reading_31 : decode cX12_reading 31 = .ok (.aload_n 0, 1) := by decide +kernel
theorem dX12_reading_32 : decode cX12_reading 32 = .ok (.getfield 135, 3) := by decide +kernel
theorem dX12_reading_35 : decode cX12_reading 35 = .ok (.bipush 8, 2) := by decide +kernel
theorem dX12_reading_37 : decode cX12_reading 37 = .ok (.if_icmp .ne 6, 3) := by decide +kernel
theorem dX12_reading_40 : decode cX12_reading 40 = .ok (.bipush (-4), 2) := by decide +kernel
theorem dX12_reading_42 : decode cX12_reading 42 = .ok (.ireturn, 1) := by decide +kernel
theorem dX12_reading_43 : decode cX12_reading 43 = .ok (.aload_n 0, 1) := by decide +kernel
theorem dX12_reading_44 : decode cX12_reading 44 = .ok (.getfield 70, 3) := by decide +kernel
theorem dX12_reading_47 : decode cX12_reading 47 = .ok (.aload_n 0, 1) := by decide +kernel
theorem dX12_reading_48 : decode cX12_reading 48 = .ok (.getfield 135, 3) := by decide +kernel
theorem dX12_reading_51 : decode cX12_reading 51 = .ok (.iload_n 1, 1) := by decide +kernel
theorem dX12_reading_52 : decode cX12_reading 52 = .ok (.iastore, 1) := by decide +kernel
theorem dX12_reading_53 : decode cX12_reading 53 = .ok (.aload_n 0, 1) := by decide +kernel
theorem dX12_reading_54 : decode cX12_reading 54 = .ok (.getfield 73, 3) := by decide +kernel
theorem dX12_reading_57 : decode cX12_reading 57 = .ok (.aload_n 0, 1) := by decide +kernel
theorem dX12_reading_58 : decode cX12_reading 58 = .ok (.getfield 135, 3) := by decide +kernel
theorem dX12_reading_61 : decode cX12_reading 61 = .ok (.iload_n 2, 1) := by decide +kernel
theorem dX12_reading_62 : decode cX12_reading 62 = .ok (.iastore, 1) := by decide +kernel
theorem dX12_reading_63 : decode cX12_reading 63 = .ok (.aload_n 0, 1) := by decide +kernel
theorem dX12_reading_64 : decode cX12_reading 64 = .ok (.getfield 76, 3) := by decide +kernel
theorem dX12_reading_67 : decode cX12_reading 67 = .ok (.aload_n 0, 1) := by decide +kernel
theorem dX12_reading_68 : decode cX12_reading 68 = .ok (.getfield 135, 3) := by decide +kernel
theorem dX12_reading_71 : decode cX12_reading 71 = .ok (.iload_n 3, 1) := by decide +kernel
theorem dX12_reading_72 : decode cX12_reading 72 = .ok (.iastore, 1) := by decide +kernel
theorem dX12_reading_73 : decode cX12_reading 73 = .ok (.aload_n 0, 1) := by decide +kernel
theorem dX12_reading_74 : decode cX12_reading 74 = .ok (.dup, 1) := by decide +kernel
theorem dX12_reading_75 : decode cX12_reading 75 = .ok (.getfield 135, 3) := by decide +kernel
theorem dX12_reading_78 : decode cX12_reading 78 = .ok (.iconst 1, 1) := by decide +kernel
theorem dX12_reading_79 : decode cX12_reading 79 = .ok (.iadd, 1) := by decide +kernel
theorem dX12_reading_80 : decode cX12_reading 80 = .ok (.putfield 135, 3) := by decide +kernel
theorem dX12_reading_83 : decode cX12_reading 83 = .ok (.aload_n 0, 1) := by decide +kernel
theorem dX12_reading_84 : decode cX12_reading 84 = .ok (.getfield 135, 3) := by decide +kernel
theorem dX12_reading_87 : decode cX12_reading 87 = .ok (.iconst 1, 1) := by decide +kernel
theorem dX12_reading_88 : decode cX12_reading 88 = .ok (.isub, 1) := by decide +kernel
theorem dX12_reading_89 : decode cX12_reading 89 = .ok (.ireturn, 1) := by decide +kernel
theorem dX12_back_0 : decode cX12_back 0 = .ok (.iload_n 1, 1) := by decide +kernel
theorem dX12_back_1 : decode cX12_back 1 = .ok (.iconst 0, 1) := by decide +kernel
theorem dX12_back_2 : decode cX12_back 2 = .ok (.aload_n 0, 1) := by decide +kernel
theorem dX12_back_3 : decode cX12_back 3 = .ok (.getfield 135, 3) := by decide +kernel
theorem dX12_back_6 : decode cX12_back 6 = .ok (.invokestatic 85, 3) := by decide +kernel
theorem dX12_back_9 : decode cX12_back 9 = .ok (.ifCond .ne 6, 3) := by decide +kernel
theorem dX12_back_12 : decode cX12_back 12 = .ok (.bipush (-2), 2) := by decide +kernel
theorem dX12_back_14 : decode cX12_back 14 = .ok (.ireturn, 1) := by decide +kernel
theorem dX12_back_15 : decode cX12_back 15 = .ok (.aload_n 0, 1) := by decide +kernel
theorem dX12_back_16 : decode cX12_back 16 = .ok (.dup, 1) := by decide +kernel
theorem dX12_back_17 : decode cX12_back 17 = .ok (.getfield 135, 3) := by decide +kernel
theorem dX12_back_20 : decode cX12_back 20 = .ok (.iload_n 1, 1) := by decide +kernel
theorem dX12_back_21 : decode cX12_back 21 = .ok (.isub, 1) := by decide +kernel
theorem dX12_back_22 : decode cX12_back 22 = .ok (.putfield 135, 3) := by decide +kernel
theorem dX12_back_25 : decode cX12_back 25 = .ok (.aload_n 0, 1) := by decide +kernel
theorem dX12_back_26 : decode cX12_back 26 = .ok (.getfield 135, 3) := by decide +kernel
theorem dX12_back_29 : decode cX12_back 29 = .ok (.ireturn, 1) := by decide +kernel
theorem dX12_areSo_0 : decode cX12_areSo 0 = .ok (.iconst 0, 1) := by decide +kernel
theorem dX12_areSo_1 : decode cX12_areSo 1 = .ok (.istore_n 1, 1) := by decide +kernel
theorem dX12_areSo_2 : decode cX12_areSo 2 = .ok (.iload_n 1, 1) := by decide +kernel
theorem dX12_areSo_3 : decode cX12_areSo 3 = .ok (.aload_n 0, 1) := by decide +kernel
theorem dX12_areSo_4 : decode cX12_areSo 4 = .ok (.getfield 135, 3) := by decide +kernel
theorem dX12_areSo_7 : decode cX12_areSo 7 = .ok (.if_icmp .ge 36, 3) := by decide +kernel
theorem dX12_areSo_10 : decode cX12_areSo 10 = .ok (.aload_n 0, 1) := by decide +kernel
theorem dX12_areSo_11 : decode cX12_areSo 11 = .ok (.aload_n 0, 1) := by decide +kernel
theorem dX12_areSo_12 : decode cX12_areSo 12 = .ok (.getfield 70, 3) := by decide +kernel
theorem dX12_areSo_15 : decode cX12_areSo 15 = .ok (.iload_n 1, 1) := by decide +kernel
theorem dX12_areSo_16 : decode cX12_areSo 16 = .ok (.iaload, 1) := by decide +kernel
theorem dX12_areSo_17 : decode cX12_areSo 17 = .ok (.aload_n 0, 1) := by decide +kernel
theorem dX12_areSo_18 : decode cX12_areSo 18 = .ok (.getfield 73, 3) := by decide +kernel
theorem dX12_areSo_21 : decode cX12_areSo 21 = .ok (.iload_n 1, 1) := by decide +kernel
theorem dX12_areSo_22 : decode cX12_areSo 22 = .ok (.iaload, 1) := by decide +kernel
theorem dX12_areSo_23 : decode cX12_areSo 23 = .ok (.invokevirtual 179, 3) := by decide +kernel
theorem dX12_areSo_26 : decode cX12_areSo 26 = .ok (.aload_n 0, 1) := by decide +kernel
theorem dX12_areSo_27 : decode cX12_areSo 27 = .ok (.getfield 76, 3) := by decide +kernel
theorem dX12_areSo_30 : decode cX12_areSo 30 = .ok (.iload_n 1, 1) := by decide +kernel
theorem dX12_areSo_31 : decode cX12_areSo 31 = .ok (.iaload, 1) := by decide +kernel
theorem dX12_areSo_32 : decode cX12_areSo 32 = .ok (.if_icmp .eq 5, 3) := by decide +kernel
theorem dX12_areSo_35 : decode cX12_areSo 35 = .ok (.iconst 0, 1) := by decide +kernel
theorem dX12_areSo_36 : decode cX12_areSo 36 = .ok (.ireturn, 1) := by decide +kernel
theorem dX12_areSo_37 : decode cX12_areSo 37 = .ok (.iinc 1 1, 3) := by decide +kernel
theorem dX12_areSo_40 : decode cX12_areSo 40 = .ok (.goto (-38), 3) := by decide +kernel
theorem dX12_areSo_43 : decode cX12_areSo 43 = .ok (.iconst 1, 1) := by decide +kernel
theorem dX12_areSo_44 : decode cX12_areSo 44 = .ok (.ireturn, 1) := by decide +kernel
theorem dX12_leans_0 : decode cX12_leans 0 = .ok (.aload_n 0, 1) := by decide +kernel
theorem dX12_leans_1 : decode cX12_leans 1 = .ok (.iload_n 1, 1) := by decide +kernel
theorem dX12_leans_2 : decode cX12_leans 2 = .ok (.invokevirtual 161, 3) := by decide +kernel
theorem dX12_leans_5 : decode cX12_leans 5 = .ok (.ifCond .ne 5, 3) := by decide +kernel
theorem dX12_leans_8 : decode cX12_leans 8 = .ok (.iconst (-1), 1) := by decide +kernel
theorem dX12_leans_9 : decode cX12_leans 9 = .ok (.ireturn, 1) := by decide +kernel
theorem dX12_leans_10 : decode cX12_leans 10 = .ok (.aload_n 0, 1) := by decide +kernel
theorem dX12_leans_11 : decode cX12_leans 11 = .ok (.getfield 22, 3) := by decide +kernel
theorem dX12_leans_14 : decode cX12_leans 14 = .ok (.iload_n 1, 1) := by decide +kernel
theorem dX12_leans_15 : decode cX12_leans 15 = .ok (.iaload, 1) := by decide +kernel
theorem dX12_leans_16 : decode cX12_leans 16 = .ok (.istore_n 2, 1) := by decide +kernel
theorem dX12_leans_17 : decode cX12_leans 17 = .ok (.iconst 0, 1) := by decide +kernel
theorem dX12_leans_18 : decode cX12_leans 18 = .ok (.istore_n 3, 1) := by decide +kernel
theorem dX12_leans_19 : decode cX12_leans 19 = .ok (.iconst 0, 1) := by decide +kernel
theorem dX12_leans_20 : decode cX12_leans 20 = .ok (.istore 4, 2) := by decide +kernel
theorem dX12_leans_22 : decode cX12_leans 22 = .ok (.iload 4, 2) := by decide +kernel
theorem dX12_leans_24 : decode cX12_leans 24 = .ok (.bipush 9, 2) := by decide +kernel
theorem dX12_leans_26 : decode cX12_leans 26 = .ok (.if_icmp .gt 35, 3) := by decide +kernel
theorem dX12_leans_29 : decode cX12_leans 29 = .ok (.aload_n 0, 1) := by decide +kernel
theorem dX12_leans_30 : decode cX12_leans 30 = .ok (.getfield 22, 3) := by decide +kernel
theorem dX12_leans_33 : decode cX12_leans 33 = .ok (.iload_n 1, 1) := by decide +kernel
theorem dX12_leans_34 : decode cX12_leans 34 = .ok (.iload 4, 2) := by decide +kernel
theorem dX12_leans_36 : decode cX12_leans 36 = .ok (.iastore, 1) := by decide +kernel
theorem dX12_leans_37 : decode cX12_leans 37 = .ok (.iload_n 3, 1) := by decide +kernel
theorem dX12_leans_38 : decode cX12_leans 38 = .ok (.aload_n 0, 1) := by decide +kernel
theorem dX12_leans_39 : decode cX12_leans 39 = .ok (.invokevirtual 241, 3) := by decide +kernel
theorem dX12_leans_42 : decode cX12_leans 42 = .ok (.ifCond .eq 10, 3) := by decide +kernel
theorem dX12_leans_45 : decode cX12_leans 45 = .ok (.iconst 1, 1) := by decide +kernel
theorem dX12_leans_46 : decode cX12_leans 46 = .ok (.iload 4, 2) := by decide +kernel
theorem dX12_leans_48 : decode cX12_leans 48 = .ok (.ishl, 1) := by decide +kernel
theorem dX12_leans_49 : decode cX12_leans 49 = .ok (.goto 4, 3) := by decide +kernel
theorem dX12_leans_52 : decode cX12_leans 52 = .ok (.iconst 0, 1) := by decide +kernel
theorem dX12_leans_53 : decode cX12_leans 53 = .ok (.ior, 1) := by decide +kernel
theorem dX12_leans_54 : decode cX12_leans 54 = .ok (.istore_n 3, 1) := by decide +kernel
theorem dX12_leans_55 : decode cX12_leans 55 = .ok (.iinc 4 1, 3) := by decide +kernel
theorem dX12_leans_58 : decode cX12_leans 58 = .ok (.goto (-36), 3) := by decide +kernel
theorem dX12_leans_61 : decode cX12_leans 61 = .ok (.aload_n 0, 1) := by decide +kernel
theorem dX12_leans_62 : decode cX12_leans 62 = .ok (.getfield 22, 3) := by decide +kernel
theorem dX12_leans_65 : decode cX12_leans 65 = .ok (.iload_n 1, 1) := by decide +kernel
theorem dX12_leans_66 : decode cX12_leans 66 = .ok (.iload_n 2, 1) := by decide +kernel
theorem dX12_leans_67 : decode cX12_leans 67 = .ok (.iastore, 1) := by decide +kernel
theorem dX12_leans_68 : decode cX12_leans 68 = .ok (.iload_n 3, 1) := by decide +kernel
theorem dX12_leans_69 : decode cX12_leans 69 = .ok (.ireturn, 1) := by decide +kernel
theorem dX12_arms_0 : decode cX12_arms 0 = .ok (.aload_n 0, 1) := by decide +kernel
theorem dX12_arms_1 : decode cX12_arms 1 = .ok (.iload_n 1, 1) := by decide +kernel
theorem dX12_arms_2 : decode cX12_arms 2 = .ok (.invokevirtual 170, 3) := by decide +kernel
theorem dX12_arms_5 : decode cX12_arms 5 = .ok (.ifCond .ne 5, 3) := by decide +kernel
theorem dX12_arms_8 : decode cX12_arms 8 = .ok (.iconst (-1), 1) := by decide +kernel
theorem dX12_arms_9 : decode cX12_arms 9 = .ok (.ireturn, 1) := by decide +kernel
theorem dX12_arms_10 : decode cX12_arms 10 = .ok (.aload_n 0, 1) := by decide +kernel
theorem dX12_arms_11 : decode cX12_arms 11 = .ok (.getfield 28, 3) := by decide +kernel
theorem dX12_arms_14 : decode cX12_arms 14 = .ok (.iload_n 1, 1) := by decide +kernel
theorem dX12_arms_15 : decode cX12_arms 15 = .ok (.iaload, 1) := by decide +kernel
theorem dX12_arms_16 : decode cX12_arms 16 = .ok (.istore_n 2, 1) := by decide +kernel
theorem dX12_arms_17 : decode cX12_arms 17 = .ok (.iconst 0, 1) := by decide +kernel
theorem dX12_arms_18 : decode cX12_arms 18 = .ok (.istore_n 3, 1) := by decide +kernel
theorem dX12_arms_19 : decode cX12_arms 19 = .ok (.iconst 1, 1) := by decide +kernel
theorem dX12_arms_20 : decode cX12_arms 20 = .ok (.istore 4, 2) := by decide +kernel
theorem dX12_arms_22 : decode cX12_arms 22 = .ok (.iload 4, 2) := by decide +kernel
theorem dX12_arms_24 : decode cX12_arms 24 = .ok (.bipush 9, 2) := by decide +kernel
theorem dX12_arms_26 : decode cX12_arms 26 = .ok (.if_icmp .gt 35, 3) := by decide +kernel
theorem dX12_arms_29 : decode cX12_arms 29 = .ok (.aload_n 0, 1) := by decide +kernel
theorem dX12_arms_30 : decode cX12_arms 30 = .ok (.getfield 28, 3) := by decide +kernel
theorem dX12_arms_33 : decode cX12_arms 33 = .ok (.iload_n 1, 1) := by decide +kernel
theorem dX12_arms_34 : decode cX12_arms 34 = .ok (.iload 4, 2) := by decide +kernel
theorem dX12_arms_36 : decode cX12_arms 36 = .ok (.iastore, 1) := by decide +kernel
theorem dX12_arms_37 : decode cX12_arms 37 = .ok (.iload_n 3, 1) := by decide +kernel
theorem dX12_arms_38 : decode cX12_arms 38 = .ok (.aload_n 0, 1) := by decide +kernel
theorem dX12_arms_39 : decode cX12_arms 39 = .ok (.invokevirtual 241, 3) := by decide +kernel
theorem dX12_arms_42 : decode cX12_arms 42 = .ok (.ifCond .eq 10, 3) := by decide +kernel
theorem dX12_arms_45 : decode cX12_arms 45 = .ok (.iconst 1, 1) := by decide +kernel
theorem dX12_arms_46 : decode cX12_arms 46 = .ok (.iload 4, 2) := by decide +kernel
theorem dX12_arms_48 : decode cX12_arms 48 = .ok (.ishl, 1) := by decide +kernel
theorem dX12_arms_49 : decode cX12_arms 49 = .ok (.goto 4, 3) := by decide +kernel
theorem dX12_arms_52 : decode cX12_arms 52 = .ok (.iconst 0, 1) := by decide +kernel
theorem dX12_arms_53 : decode cX12_arms 53 = .ok (.ior, 1) := by decide +kernel
theorem dX12_arms_54 : decode cX12_arms 54 = .ok (.istore_n 3, 1) := by decide +kernel
theorem dX12_arms_55 : decode cX12_arms 55 = .ok (.iinc 4 1, 3) := by decide +kernel
theorem dX12_arms_58 : decode cX12_arms 58 = .ok (.goto (-36), 3) := by decide +kernel
theorem dX12_arms_61 : decode cX12_arms 61 = .ok (.aload_n 0, 1) := by decide +kernel
theorem dX12_arms_62 : decode cX12_arms 62 = .ok (.getfield 28, 3) := by decide +kernel
theorem dX12_arms_65 : decode cX12_arms 65 = .ok (.iload_n 1, 1) := by decide +kernel
theorem dX12_arms_66 : decode cX12_arms 66 = .ok (.iload_n 2, 1) := by decide +kernel
theorem dX12_arms_67 : decode cX12_arms 67 = .ok (.iastore, 1) := by decide +kernel
theorem dX12_arms_68 : decode cX12_arms 68 = .ok (.iload_n 3, 1) := by decide +kernel
theorem dX12_arms_69 : decode cX12_arms 69 = .ok (.ireturn, 1) := by decide +kernel
theorem dX12_kinds_0 : decode cX12_kinds 0 = .ok (.aload_n 0, 1) := by decide +kernel
theorem dX12_kinds_1 : decode cX12_kinds 1 = .ok (.iload_n 1, 1) := by decide +kernel
theorem dX12_kinds_2 : decode cX12_kinds 2 = .ok (.invokevirtual 170, 3) := by decide +kernel
theorem dX12_kinds_5 : decode cX12_kinds 5 = .ok (.ifCond .ne 5, 3) := by decide +kernel
theorem dX12_kinds_8 : decode cX12_kinds 8 = .ok (.iconst (-1), 1) := by decide +kernel
theorem dX12_kinds_9 : decode cX12_kinds 9 = .ok (.ireturn, 1) := by decide +kernel
theorem dX12_kinds_10 : decode cX12_kinds 10 = .ok (.aload_n 0, 1) := by decide +kernel
theorem dX12_kinds_11 : decode cX12_kinds 11 = .ok (.getfield 25, 3) := by decide +kernel
theorem dX12_kinds_14 : decode cX12_kinds 14 = .ok (.iload_n 1, 1) := by decide +kernel
theorem dX12_kinds_15 : decode cX12_kinds 15 = .ok (.iaload, 1) := by decide +kernel
theorem dX12_kinds_16 : decode cX12_kinds 16 = .ok (.istore_n 2, 1) := by decide +kernel
theorem dX12_kinds_17 : decode cX12_kinds 17 = .ok (.iconst 0, 1) := by decide +kernel
theorem dX12_kinds_18 : decode cX12_kinds 18 = .ok (.istore_n 3, 1) := by decide +kernel
theorem dX12_kinds_19 : decode cX12_kinds 19 = .ok (.iconst 0, 1) := by decide +kernel
theorem dX12_kinds_20 : decode cX12_kinds 20 = .ok (.istore 4, 2) := by decide +kernel
theorem dX12_kinds_22 : decode cX12_kinds 22 = .ok (.iload 4, 2) := by decide +kernel
theorem dX12_kinds_24 : decode cX12_kinds 24 = .ok (.iconst 3, 1) := by decide +kernel
theorem dX12_kinds_25 : decode cX12_kinds 25 = .ok (.if_icmp .ge 35, 3) := by decide +kernel
theorem dX12_kinds_28 : decode cX12_kinds 28 = .ok (.aload_n 0, 1) := by decide +kernel
theorem dX12_kinds_29 : decode cX12_kinds 29 = .ok (.getfield 25, 3) := by decide +kernel
theorem dX12_kinds_32 : decode cX12_kinds 32 = .ok (.iload_n 1, 1) := by decide +kernel
theorem dX12_kinds_33 : decode cX12_kinds 33 = .ok (.iload 4, 2) := by decide +kernel
theorem dX12_kinds_35 : decode cX12_kinds 35 = .ok (.iastore, 1) := by decide +kernel
theorem dX12_kinds_36 : decode cX12_kinds 36 = .ok (.iload_n 3, 1) := by decide +kernel
theorem dX12_kinds_37 : decode cX12_kinds 37 = .ok (.aload_n 0, 1) := by decide +kernel
theorem dX12_kinds_38 : decode cX12_kinds 38 = .ok (.invokevirtual 241, 3) := by decide +kernel
theorem dX12_kinds_41 : decode cX12_kinds 41 = .ok (.ifCond .eq 10, 3) := by decide +kernel
theorem dX12_kinds_44 : decode cX12_kinds 44 = .ok (.iconst 1, 1) := by decide +kernel
theorem dX12_kinds_45 : decode cX12_kinds 45 = .ok (.iload 4, 2) := by decide +kernel
theorem dX12_kinds_47 : decode cX12_kinds 47 = .ok (.ishl, 1) := by decide +kernel
theorem dX12_kinds_48 : decode cX12_kinds 48 = .ok (.goto 4, 3) := by decide +kernel
theorem dX12_kinds_51 : decode cX12_kinds 51 = .ok (.iconst 0, 1) := by decide +kernel
theorem dX12_kinds_52 : decode cX12_kinds 52 = .ok (.ior, 1) := by decide +kernel
theorem dX12_kinds_53 : decode cX12_kinds 53 = .ok (.istore_n 3, 1) := by decide +kernel
theorem dX12_kinds_54 : decode cX12_kinds 54 = .ok (.iinc 4 1, 3) := by decide +kernel
theorem dX12_kinds_57 : decode cX12_kinds 57 = .ok (.goto (-35), 3) := by decide +kernel
theorem dX12_kinds_60 : decode cX12_kinds 60 = .ok (.aload_n 0, 1) := by decide +kernel
theorem dX12_kinds_61 : decode cX12_kinds 61 = .ok (.getfield 25, 3) := by decide +kernel
theorem dX12_kinds_64 : decode cX12_kinds 64 = .ok (.iload_n 1, 1) := by decide +kernel
theorem dX12_kinds_65 : decode cX12_kinds 65 = .ok (.iload_n 2, 1) := by decide +kernel
theorem dX12_kinds_66 : decode cX12_kinds 66 = .ok (.iastore, 1) := by decide +kernel
theorem dX12_kinds_67 : decode cX12_kinds 67 = .ok (.iload_n 3, 1) := by decide +kernel
theorem dX12_kinds_68 : decode cX12_kinds 68 = .ok (.ireturn, 1) := by decide +kernel
theorem dX12_inLeastTerms_0 : decode cX12_inLeastTerms 0 = .ok (.lload_n 0, 1) := by decide +kernel
theorem dX12_inLeastTerms_1 : decode cX12_inLeastTerms 1 = .ok (.lstore 5, 2) := by decide +kernel
theorem dX12_inLeastTerms_3 : decode cX12_inLeastTerms 3 = .ok (.lload_n 2, 1) := by decide +kernel
theorem dX12_inLeastTerms_4 : decode cX12_inLeastTerms 4 = .ok (.lstore 7, 2) := by decide +kernel
theorem dX12_inLeastTerms_6 : decode cX12_inLeastTerms 6 = .ok (.lload 7, 2) := by decide +kernel
theorem dX12_inLeastTerms_8 : decode cX12_inLeastTerms 8 = .ok (.lconst 0, 1) := by decide +kernel
theorem dX12_inLeastTerms_9 : decode cX12_inLeastTerms 9 = .ok (.lcmp, 1) := by decide +kernel
theorem dX12_inLeastTerms_10 : decode cX12_inLeastTerms 10 = .ok (.ifCond .eq 21, 3) := by decide +kernel
theorem dX12_inLeastTerms_13 : decode cX12_inLeastTerms 13 = .ok (.lload 5, 2) := by decide +kernel
theorem dX12_inLeastTerms_15 : decode cX12_inLeastTerms 15 = .ok (.lload 7, 2) := by decide +kernel
theorem dX12_inLeastTerms_17 : decode cX12_inLeastTerms 17 = .ok (.lrem, 1) := by decide +kernel
theorem dX12_inLeastTerms_18 : decode cX12_inLeastTerms 18 = .ok (.lstore 9, 2) := by decide +kernel
theorem dX12_inLeastTerms_20 : decode cX12_inLeastTerms 20 = .ok (.lload 7, 2) := by decide +kernel
theorem dX12_inLeastTerms_22 : decode cX12_inLeastTerms 22 = .ok (.lstore 5, 2) := by decide +kernel
theorem dX12_inLeastTerms_24 : decode cX12_inLeastTerms 24 = .ok (.lload 9, 2) := by decide +kernel
theorem dX12_inLeastTerms_26 : decode cX12_inLeastTerms 26 = .ok (.lstore 7, 2) := by decide +kernel
theorem dX12_inLeastTerms_28 : decode cX12_inLeastTerms 28 = .ok (.goto (-22), 3) := by decide +kernel
theorem dX12_inLeastTerms_31 : decode cX12_inLeastTerms 31 = .ok (.iload 4, 2) := by decide +kernel
theorem dX12_inLeastTerms_33 : decode cX12_inLeastTerms 33 = .ok (.ifCond .ne 10, 3) := by decide +kernel
theorem dX12_inLeastTerms_36 : decode cX12_inLeastTerms 36 = .ok (.lload_n 0, 1) := by decide +kernel
theorem dX12_inLeastTerms_37 : decode cX12_inLeastTerms 37 = .ok (.lload 5, 2) := by decide +kernel
theorem dX12_inLeastTerms_39 : decode cX12_inLeastTerms 39 = .ok (.ldiv, 1) := by decide +kernel
theorem dX12_inLeastTerms_40 : decode cX12_inLeastTerms 40 = .ok (.goto 7, 3) := by decide +kernel
theorem dX12_inLeastTerms_43 : decode cX12_inLeastTerms 43 = .ok (.lload_n 2, 1) := by decide +kernel
theorem dX12_inLeastTerms_44 : decode cX12_inLeastTerms 44 = .ok (.lload 5, 2) := by decide +kernel
theorem dX12_inLeastTerms_46 : decode cX12_inLeastTerms 46 = .ok (.ldiv, 1) := by decide +kernel
theorem dX12_inLeastTerms_47 : decode cX12_inLeastTerms 47 = .ok (.lreturn, 1) := by decide +kernel
theorem dX12_odds_0 : decode cX12_odds 0 = .ok (.aload_n 0, 1) := by decide +kernel
theorem dX12_odds_1 : decode cX12_odds 1 = .ok (.iload_n 1, 1) := by decide +kernel
theorem dX12_odds_2 : decode cX12_odds 2 = .ok (.invokevirtual 170, 3) := by decide +kernel
theorem dX12_odds_5 : decode cX12_odds 5 = .ok (.ifCond .eq 20, 3) := by decide +kernel
theorem dX12_odds_8 : decode cX12_odds 8 = .ok (.aload_n 0, 1) := by decide +kernel
theorem dX12_odds_9 : decode cX12_odds 9 = .ok (.iload_n 2, 1) := by decide +kernel
theorem dX12_odds_10 : decode cX12_odds 10 = .ok (.invokevirtual 161, 3) := by decide +kernel
theorem dX12_odds_13 : decode cX12_odds 13 = .ok (.ifCond .eq 12, 3) := by decide +kernel
theorem dX12_odds_16 : decode cX12_odds 16 = .ok (.iload_n 3, 1) := by decide +kernel
theorem dX12_odds_17 : decode cX12_odds 17 = .ok (.iconst 0, 1) := by decide +kernel
theorem dX12_odds_18 : decode cX12_odds 18 = .ok (.iconst 1, 1) := by decide +kernel
theorem dX12_odds_19 : decode cX12_odds 19 = .ok (.invokestatic 85, 3) := by decide +kernel
theorem dX12_odds_22 : decode cX12_odds 22 = .ok (.ifCond .ne 7, 3) := by decide +kernel
theorem dX12_odds_25 : decode cX12_odds 25 = .ok (.ldc2_w 83, 3) := by decide +kernel
theorem dX12_odds_28 : decode cX12_odds 28 = .ok (.lreturn, 1) := by decide +kernel
theorem dX12_odds_29 : decode cX12_odds 29 = .ok (.iconst 0, 1) := by decide +kernel
theorem dX12_odds_30 : decode cX12_odds 30 = .ok (.istore 4, 2) := by decide +kernel
theorem dX12_odds_32 : decode cX12_odds 32 = .ok (.iconst (-1), 1) := by decide +kernel
theorem dX12_odds_33 : decode cX12_odds 33 = .ok (.istore 5, 2) := by decide +kernel
theorem dX12_odds_35 : decode cX12_odds 35 = .ok (.iload 5, 2) := by decide +kernel
theorem dX12_odds_37 : decode cX12_odds 37 = .ok (.iconst 1, 1) := by decide +kernel
theorem dX12_odds_38 : decode cX12_odds 38 = .ok (.if_icmp .gt 41, 3) := by decide +kernel
theorem dX12_odds_41 : decode cX12_odds 41 = .ok (.iload 4, 2) := by decide +kernel
theorem dX12_odds_43 : decode cX12_odds 43 = .ok (.aload_n 0, 1) := by decide +kernel
theorem dX12_odds_44 : decode cX12_odds 44 = .ok (.iload_n 1, 1) := by decide +kernel
theorem dX12_odds_45 : decode cX12_odds 45 = .ok (.iload_n 2, 1) := by decide +kernel
theorem dX12_odds_46 : decode cX12_odds 46 = .ok (.aload_n 0, 1) := by decide +kernel
theorem dX12_odds_47 : decode cX12_odds 47 = .ok (.aload_n 0, 1) := by decide +kernel
theorem dX12_odds_48 : decode cX12_odds 48 = .ok (.iload_n 1, 1) := by decide +kernel
theorem dX12_odds_49 : decode cX12_odds 49 = .ok (.invokevirtual 151, 3) := by decide +kernel
theorem dX12_odds_52 : decode cX12_odds 52 = .ok (.iload 5, 2) := by decide +kernel
theorem dX12_odds_54 : decode cX12_odds 54 = .ok (.iadd, 1) := by decide +kernel
theorem dX12_odds_55 : decode cX12_odds 55 = .ok (.iload_n 2, 1) := by decide +kernel
theorem dX12_odds_56 : decode cX12_odds 56 = .ok (.invokevirtual 154, 3) := by decide +kernel
theorem dX12_odds_59 : decode cX12_odds 59 = .ok (.invokevirtual 213, 3) := by decide +kernel
theorem dX12_odds_62 : decode cX12_odds 62 = .ok (.ifCond .eq 7, 3) := by decide +kernel
theorem dX12_odds_65 : decode cX12_odds 65 = .ok (.iconst 1, 1) := by decide +kernel
theorem dX12_odds_66 : decode cX12_odds 66 = .ok (.goto 4, 3) := by decide +kernel
theorem dX12_odds_69 : decode cX12_odds 69 = .ok (.iconst 0, 1) := by decide +kernel
theorem dX12_odds_70 : decode cX12_odds 70 = .ok (.iadd, 1) := by decide +kernel
theorem dX12_odds_71 : decode cX12_odds 71 = .ok (.istore 4, 2) := by decide +kernel
theorem dX12_odds_73 : decode cX12_odds 73 = .ok (.iinc 5 1, 3) := by decide +kernel
theorem dX12_odds_76 : decode cX12_odds 76 = .ok (.goto (-41), 3) := by decide +kernel
theorem dX12_odds_79 : decode cX12_odds 79 = .ok (.iload 4, 2) := by decide +kernel
theorem dX12_odds_81 : decode cX12_odds 81 = .ok (.i2l, 1) := by decide +kernel
theorem dX12_odds_82 : decode cX12_odds 82 = .ok (.ldc2_w 245, 3) := by decide +kernel
theorem dX12_odds_85 : decode cX12_odds 85 = .ok (.iload_n 3, 1) := by decide +kernel
theorem dX12_odds_86 : decode cX12_odds 86 = .ok (.invokestatic 247, 3) := by decide +kernel
theorem dX12_odds_89 : decode cX12_odds 89 = .ok (.lreturn, 1) := by decide +kernel
theorem dX12_sheet_0 : decode cX12_sheet 0 = .ok (.aload_n 0, 1) := by decide +kernel
theorem dX12_sheet_1 : decode cX12_sheet 1 = .ok (.iconst 0, 1) := by decide +kernel
theorem dX12_sheet_2 : decode cX12_sheet 2 = .ok (.putfield 79, 3) := by decide +kernel
theorem dX12_sheet_5 : decode cX12_sheet 5 = .ok (.iload_n 1, 1) := by decide +kernel
theorem dX12_sheet_6 : decode cX12_sheet 6 = .ok (.invokestatic 102, 3) := by decide +kernel
theorem dX12_sheet_9 : decode cX12_sheet 9 = .ok (.ifCond .ne 5, 3) := by decide +kernel
theorem dX12_sheet_12 : decode cX12_sheet 12 = .ok (.iconst (-1), 1) := by decide +kernel
theorem dX12_sheet_13 : decode cX12_sheet 13 = .ok (.ireturn, 1) := by decide +kernel
theorem dX12_sheet_14 : decode cX12_sheet 14 = .ok (.iload_n 2, 1) := by decide +kernel
theorem dX12_sheet_15 : decode cX12_sheet 15 = .ok (.invokestatic 106, 3) := by decide +kernel
theorem dX12_sheet_18 : decode cX12_sheet 18 = .ok (.ifCond .eq 9, 3) := by decide +kernel
theorem dX12_sheet_21 : decode cX12_sheet 21 = .ok (.iload_n 3, 1) := by decide +kernel
theorem dX12_sheet_22 : decode cX12_sheet 22 = .ok (.bipush 60, 2) := by decide +kernel
theorem dX12_sheet_24 : decode cX12_sheet 24 = .ok (.if_icmp .le 6, 3) := by decide +kernel
theorem dX12_sheet_27 : decode cX12_sheet 27 = .ok (.bipush (-2), 2) := by decide +kernel
theorem dX12_sheet_29 : decode cX12_sheet 29 = .ok (.ireturn, 1) := by decide +kernel
theorem dX12_sheet_30 : decode cX12_sheet 30 = .ok (.iload_n 3, 1) := by decide +kernel
theorem dX12_sheet_31 : decode cX12_sheet 31 = .ok (.ifCond .ge 9, 3) := by decide +kernel
theorem dX12_sheet_34 : decode cX12_sheet 34 = .ok (.aload_n 0, 1) := by decide +kernel
theorem dX12_sheet_35 : decode cX12_sheet 35 = .ok (.iconst 4, 1) := by decide +kernel
theorem dX12_sheet_36 : decode cX12_sheet 36 = .ok (.invokevirtual 113, 3) := by decide +kernel
theorem dX12_sheet_39 : decode cX12_sheet 39 = .ok (.ireturn, 1) := by decide +kernel
theorem dX12_sheet_40 : decode cX12_sheet 40 = .ok (.aload_n 0, 1) := by decide +kernel
theorem dX12_sheet_41 : decode cX12_sheet 41 = .ok (.getfield 9, 3) := by decide +kernel
theorem dX12_sheet_44 : decode cX12_sheet 44 = .ok (.iload_n 1, 1) := by decide +kernel
theorem dX12_sheet_45 : decode cX12_sheet 45 = .ok (.iload_n 2, 1) := by decide +kernel
theorem dX12_sheet_46 : decode cX12_sheet 46 = .ok (.iastore, 1) := by decide +kernel
theorem dX12_sheet_47 : decode cX12_sheet 47 = .ok (.aload_n 0, 1) := by decide +kernel
theorem dX12_sheet_48 : decode cX12_sheet 48 = .ok (.getfield 13, 3) := by decide +kernel
theorem dX12_sheet_51 : decode cX12_sheet 51 = .ok (.iload_n 1, 1) := by decide +kernel
theorem dX12_sheet_52 : decode cX12_sheet 52 = .ok (.iload_n 3, 1) := by decide +kernel
theorem dX12_sheet_53 : decode cX12_sheet 53 = .ok (.iastore, 1) := by decide +kernel
theorem dX12_sheet_54 : decode cX12_sheet 54 = .ok (.iconst 0, 1) := by decide +kernel
theorem dX12_sheet_55 : decode cX12_sheet 55 = .ok (.istore 4, 2) := by decide +kernel
theorem dX12_sheet_57 : decode cX12_sheet 57 = .ok (.iload 4, 2) := by decide +kernel
theorem dX12_sheet_59 : decode cX12_sheet 59 = .ok (.bipush 60, 2) := by decide +kernel
theorem dX12_sheet_61 : decode cX12_sheet 61 = .ok (.if_icmp .ge 22, 3) := by decide +kernel
theorem dX12_sheet_64 : decode cX12_sheet 64 = .ok (.aload_n 0, 1) := by decide +kernel
theorem dX12_sheet_65 : decode cX12_sheet 65 = .ok (.getfield 16, 3) := by decide +kernel
theorem dX12_sheet_68 : decode cX12_sheet 68 = .ok (.bipush 60, 2) := by decide +kernel
theorem dX12_sheet_70 : decode cX12_sheet 70 = .ok (.iload_n 1, 1) := by decide +kernel
theorem dX12_sheet_71 : decode cX12_sheet 71 = .ok (.imul, 1) := by decide +kernel
theorem dX12_sheet_72 : decode cX12_sheet 72 = .ok (.iload 4, 2) := by decide +kernel
theorem dX12_sheet_74 : decode cX12_sheet 74 = .ok (.iadd, 1) := by decide +kernel
theorem dX12_sheet_75 : decode cX12_sheet 75 = .ok (.iconst 0, 1) := by decide +kernel
theorem dX12_sheet_76 : decode cX12_sheet 76 = .ok (.iastore, 1) := by decide +kernel
theorem dX12_sheet_77 : decode cX12_sheet 77 = .ok (.iinc 4 1, 3) := by decide +kernel
theorem dX12_sheet_80 : decode cX12_sheet 80 = .ok (.goto (-23), 3) := by decide +kernel
theorem dX12_sheet_83 : decode cX12_sheet 83 = .ok (.iconst 1, 1) := by decide +kernel
theorem dX12_sheet_84 : decode cX12_sheet 84 = .ok (.ireturn, 1) := by decide +kernel
theorem dX12_lose_0 : decode cX12_lose 0 = .ok (.iload_n 1, 1) := by decide +kernel
theorem dX12_lose_1 : decode cX12_lose 1 = .ok (.invokestatic 102, 3) := by decide +kernel
theorem dX12_lose_4 : decode cX12_lose 4 = .ok (.ifCond .ne 5, 3) := by decide +kernel
theorem dX12_lose_7 : decode cX12_lose 7 = .ok (.iconst (-1), 1) := by decide +kernel
theorem dX12_lose_8 : decode cX12_lose 8 = .ok (.ireturn, 1) := by decide +kernel
theorem dX12_lose_9 : decode cX12_lose 9 = .ok (.aload_n 0, 1) := by decide +kernel
theorem dX12_lose_10 : decode cX12_lose 10 = .ok (.getfield 9, 3) := by decide +kernel
theorem dX12_lose_13 : decode cX12_lose 13 = .ok (.iload_n 1, 1) := by decide +kernel
theorem dX12_lose_14 : decode cX12_lose 14 = .ok (.iaload, 1) := by decide +kernel
theorem dX12_lose_15 : decode cX12_lose 15 = .ok (.bipush (-9), 2) := by decide +kernel
theorem dX12_lose_17 : decode cX12_lose 17 = .ok (.if_icmp .ne 7, 3) := by decide +kernel
theorem dX12_lose_20 : decode cX12_lose 20 = .ok (.iconst 0, 1) := by decide +kernel
theorem dX12_lose_21 : decode cX12_lose 21 = .ok (.goto 4, 3) := by decide +kernel
theorem dX12_lose_24 : decode cX12_lose 24 = .ok (.iconst 1, 1) := by decide +kernel
theorem dX12_lose_25 : decode cX12_lose 25 = .ok (.istore_n 2, 1) := by decide +kernel
theorem dX12_lose_26 : decode cX12_lose 26 = .ok (.aload_n 0, 1) := by decide +kernel
theorem dX12_lose_27 : decode cX12_lose 27 = .ok (.getfield 9, 3) := by decide +kernel
theorem dX12_lose_30 : decode cX12_lose 30 = .ok (.iload_n 1, 1) := by decide +kernel
theorem dX12_lose_31 : decode cX12_lose 31 = .ok (.bipush (-9), 2) := by decide +kernel
theorem dX12_lose_33 : decode cX12_lose 33 = .ok (.iastore, 1) := by decide +kernel
theorem dX12_lose_34 : decode cX12_lose 34 = .ok (.iload_n 2, 1) := by decide +kernel
theorem dX12_lose_35 : decode cX12_lose 35 = .ok (.ireturn, 1) := by decide +kernel
theorem dX12_put_0 : decode cX12_put 0 = .ok (.aload_n 0, 1) := by decide +kernel
theorem dX12_put_1 : decode cX12_put 1 = .ok (.iconst 0, 1) := by decide +kernel
theorem dX12_put_2 : decode cX12_put 2 = .ok (.putfield 79, 3) := by decide +kernel
theorem dX12_put_5 : decode cX12_put 5 = .ok (.iload_n 1, 1) := by decide +kernel
theorem dX12_put_6 : decode cX12_put 6 = .ok (.invokestatic 102, 3) := by decide +kernel
theorem dX12_put_9 : decode cX12_put 9 = .ok (.ifCond .ne 5, 3) := by decide +kernel
theorem dX12_put_12 : decode cX12_put 12 = .ok (.iconst (-1), 1) := by decide +kernel
theorem dX12_put_13 : decode cX12_put 13 = .ok (.ireturn, 1) := by decide +kernel
theorem dX12_put_14 : decode cX12_put 14 = .ok (.aload_n 0, 1) := by decide +kernel
theorem dX12_put_15 : decode cX12_put 15 = .ok (.getfield 9, 3) := by decide +kernel
theorem dX12_put_18 : decode cX12_put 18 = .ok (.iload_n 1, 1) := by decide +kernel
theorem dX12_put_19 : decode cX12_put 19 = .ok (.iaload, 1) := by decide +kernel
theorem dX12_put_20 : decode cX12_put 20 = .ok (.bipush (-9), 2) := by decide +kernel
theorem dX12_put_22 : decode cX12_put 22 = .ok (.if_icmp .ne 9, 3) := by decide +kernel
theorem dX12_put_25 : decode cX12_put 25 = .ok (.aload_n 0, 1) := by decide +kernel
theorem dX12_put_26 : decode cX12_put 26 = .ok (.iconst 1, 1) := by decide +kernel
theorem dX12_put_27 : decode cX12_put 27 = .ok (.invokevirtual 113, 3) := by decide +kernel
theorem dX12_put_30 : decode cX12_put 30 = .ok (.ireturn, 1) := by decide +kernel
theorem dX12_put_31 : decode cX12_put 31 = .ok (.iload_n 2, 1) := by decide +kernel
theorem dX12_put_32 : decode cX12_put 32 = .ok (.iconst 0, 1) := by decide +kernel
theorem dX12_put_33 : decode cX12_put 33 = .ok (.aload_n 0, 1) := by decide +kernel
theorem dX12_put_34 : decode cX12_put 34 = .ok (.getfield 13, 3) := by decide +kernel
theorem dX12_put_37 : decode cX12_put 37 = .ok (.iload_n 1, 1) := by decide +kernel
theorem dX12_put_38 : decode cX12_put 38 = .ok (.iaload, 1) := by decide +kernel
theorem dX12_put_39 : decode cX12_put 39 = .ok (.iconst 1, 1) := by decide +kernel
theorem dX12_put_40 : decode cX12_put 40 = .ok (.isub, 1) := by decide +kernel
theorem dX12_put_41 : decode cX12_put 41 = .ok (.invokestatic 85, 3) := by decide +kernel
theorem dX12_put_44 : decode cX12_put 44 = .ok (.ifCond .ne 9, 3) := by decide +kernel
theorem dX12_put_47 : decode cX12_put 47 = .ok (.aload_n 0, 1) := by decide +kernel
theorem dX12_put_48 : decode cX12_put 48 = .ok (.iconst 3, 1) := by decide +kernel
theorem dX12_put_49 : decode cX12_put 49 = .ok (.invokevirtual 113, 3) := by decide +kernel
theorem dX12_put_52 : decode cX12_put 52 = .ok (.ireturn, 1) := by decide +kernel
theorem dX12_put_53 : decode cX12_put 53 = .ok (.aload_n 0, 1) := by decide +kernel
theorem dX12_put_54 : decode cX12_put 54 = .ok (.getfield 16, 3) := by decide +kernel
theorem dX12_put_57 : decode cX12_put 57 = .ok (.bipush 60, 2) := by decide +kernel
theorem dX12_put_59 : decode cX12_put 59 = .ok (.iload_n 1, 1) := by decide +kernel
theorem dX12_put_60 : decode cX12_put 60 = .ok (.imul, 1) := by decide +kernel
theorem dX12_put_61 : decode cX12_put 61 = .ok (.iload_n 2, 1) := by decide +kernel
theorem dX12_put_62 : decode cX12_put 62 = .ok (.iadd, 1) := by decide +kernel
theorem dX12_put_63 : decode cX12_put 63 = .ok (.aload_n 0, 1) := by decide +kernel
theorem dX12_put_64 : decode cX12_put 64 = .ok (.getfield 9, 3) := by decide +kernel
theorem dX12_put_67 : decode cX12_put 67 = .ok (.iload_n 1, 1) := by decide +kernel
theorem dX12_put_68 : decode cX12_put 68 = .ok (.iaload, 1) := by decide +kernel
theorem dX12_put_69 : decode cX12_put 69 = .ok (.ifCond .ne 8, 3) := by decide +kernel
theorem dX12_put_72 : decode cX12_put 72 = .ok (.iload_n 3, 1) := by decide +kernel
theorem dX12_put_73 : decode cX12_put 73 = .ok (.i2b, 1) := by decide +kernel
theorem dX12_put_74 : decode cX12_put 74 = .ok (.goto 19, 3) := by decide +kernel
theorem dX12_put_77 : decode cX12_put 77 = .ok (.aload_n 0, 1) := by decide +kernel
theorem dX12_put_78 : decode cX12_put 78 = .ok (.getfield 9, 3) := by decide +kernel
theorem dX12_put_81 : decode cX12_put 81 = .ok (.iload_n 1, 1) := by decide +kernel
theorem dX12_put_82 : decode cX12_put 82 = .ok (.iaload, 1) := by decide +kernel
theorem dX12_put_83 : decode cX12_put 83 = .ok (.iconst 1, 1) := by decide +kernel
theorem dX12_put_84 : decode cX12_put 84 = .ok (.if_icmp .ne 8, 3) := by decide +kernel
theorem dX12_put_87 : decode cX12_put 87 = .ok (.iload_n 3, 1) := by decide +kernel
theorem dX12_put_88 : decode cX12_put 88 = .ok (.i2s, 1) := by decide +kernel
theorem dX12_put_89 : decode cX12_put 89 = .ok (.goto 4, 3) := by decide +kernel
theorem dX12_put_92 : decode cX12_put 92 = .ok (.iload_n 3, 1) := by decide +kernel
theorem dX12_put_93 : decode cX12_put 93 = .ok (.iastore, 1) := by decide +kernel
theorem dX12_put_94 : decode cX12_put 94 = .ok (.iconst 1, 1) := by decide +kernel
theorem dX12_put_95 : decode cX12_put 95 = .ok (.ireturn, 1) := by decide +kernel
theorem dX12_cell_0 : decode cX12_cell 0 = .ok (.aload_n 0, 1) := by decide +kernel
theorem dX12_cell_1 : decode cX12_cell 1 = .ok (.iconst 0, 1) := by decide +kernel
theorem dX12_cell_2 : decode cX12_cell 2 = .ok (.putfield 79, 3) := by decide +kernel
theorem dX12_cell_5 : decode cX12_cell 5 = .ok (.iload_n 1, 1) := by decide +kernel
theorem dX12_cell_6 : decode cX12_cell 6 = .ok (.invokestatic 102, 3) := by decide +kernel
theorem dX12_cell_9 : decode cX12_cell 9 = .ok (.ifCond .eq 10, 3) := by decide +kernel
theorem dX12_cell_12 : decode cX12_cell 12 = .ok (.iload_n 3, 1) := by decide +kernel
theorem dX12_cell_13 : decode cX12_cell 13 = .ok (.invokestatic 106, 3) := by decide +kernel
theorem dX12_cell_16 : decode cX12_cell 16 = .ok (.ifCond .ne 7, 3) := by decide +kernel
theorem dX12_cell_19 : decode cX12_cell 19 = .ok (.ldc2_w 83, 3) := by decide +kernel
theorem dX12_cell_22 : decode cX12_cell 22 = .ok (.lreturn, 1) := by decide +kernel
theorem dX12_cell_23 : decode cX12_cell 23 = .ok (.aload_n 0, 1) := by decide +kernel
theorem dX12_cell_24 : decode cX12_cell 24 = .ok (.getfield 9, 3) := by decide +kernel
theorem dX12_cell_27 : decode cX12_cell 27 = .ok (.iload_n 1, 1) := by decide +kernel
theorem dX12_cell_28 : decode cX12_cell 28 = .ok (.iaload, 1) := by decide +kernel
theorem dX12_cell_29 : decode cX12_cell 29 = .ok (.bipush (-9), 2) := by decide +kernel
theorem dX12_cell_31 : decode cX12_cell 31 = .ok (.if_icmp .eq 19, 3) := by decide +kernel
theorem dX12_cell_34 : decode cX12_cell 34 = .ok (.aload_n 0, 1) := by decide +kernel
theorem dX12_cell_35 : decode cX12_cell 35 = .ok (.getfield 9, 3) := by decide +kernel
theorem dX12_cell_38 : decode cX12_cell 38 = .ok (.iload_n 1, 1) := by decide +kernel
theorem dX12_cell_39 : decode cX12_cell 39 = .ok (.iaload, 1) := by decide +kernel
theorem dX12_cell_40 : decode cX12_cell 40 = .ok (.iload_n 3, 1) := by decide +kernel
theorem dX12_cell_41 : decode cX12_cell 41 = .ok (.if_icmp .eq 9, 3) := by decide +kernel
theorem dX12_cell_44 : decode cX12_cell 44 = .ok (.aload_n 0, 1) := by decide +kernel
theorem dX12_cell_45 : decode cX12_cell 45 = .ok (.iconst 2, 1) := by decide +kernel
theorem dX12_cell_46 : decode cX12_cell 46 = .ok (.invokevirtual 251, 3) := by decide +kernel
theorem dX12_cell_49 : decode cX12_cell 49 = .ok (.lreturn, 1) := by decide +kernel
theorem dX12_cell_50 : decode cX12_cell 50 = .ok (.aload_n 0, 1) := by decide +kernel
theorem dX12_cell_51 : decode cX12_cell 51 = .ok (.getfield 9, 3) := by decide +kernel
theorem dX12_cell_54 : decode cX12_cell 54 = .ok (.iload_n 1, 1) := by decide +kernel
theorem dX12_cell_55 : decode cX12_cell 55 = .ok (.iaload, 1) := by decide +kernel
theorem dX12_cell_56 : decode cX12_cell 56 = .ok (.bipush (-9), 2) := by decide +kernel
theorem dX12_cell_58 : decode cX12_cell 58 = .ok (.if_icmp .ne 9, 3) := by decide +kernel
theorem dX12_cell_61 : decode cX12_cell 61 = .ok (.aload_n 0, 1) := by decide +kernel
theorem dX12_cell_62 : decode cX12_cell 62 = .ok (.iconst 1, 1) := by decide +kernel
theorem dX12_cell_63 : decode cX12_cell 63 = .ok (.invokevirtual 251, 3) := by decide +kernel
theorem dX12_cell_66 : decode cX12_cell 66 = .ok (.lreturn, 1) := by decide +kernel
theorem dX12_cell_67 : decode cX12_cell 67 = .ok (.iload_n 2, 1) := by decide +kernel
theorem dX12_cell_68 : decode cX12_cell 68 = .ok (.iconst 0, 1) := by decide +kernel
theorem dX12_cell_69 : decode cX12_cell 69 = .ok (.aload_n 0, 1) := by decide +kernel
theorem dX12_cell_70 : decode cX12_cell 70 = .ok (.getfield 13, 3) := by decide +kernel
theorem dX12_cell_73 : decode cX12_cell 73 = .ok (.iload_n 1, 1) := by decide +kernel
theorem dX12_cell_74 : decode cX12_cell 74 = .ok (.iaload, 1) := by decide +kernel
theorem dX12_cell_75 : decode cX12_cell 75 = .ok (.iconst 1, 1) := by decide +kernel
theorem dX12_cell_76 : decode cX12_cell 76 = .ok (.isub, 1) := by decide +kernel
theorem dX12_cell_77 : decode cX12_cell 77 = .ok (.invokestatic 85, 3) := by decide +kernel
theorem dX12_cell_80 : decode cX12_cell 80 = .ok (.ifCond .ne 9, 3) := by decide +kernel
theorem dX12_cell_83 : decode cX12_cell 83 = .ok (.aload_n 0, 1) := by decide +kernel
theorem dX12_cell_84 : decode cX12_cell 84 = .ok (.iconst 3, 1) := by decide +kernel
theorem dX12_cell_85 : decode cX12_cell 85 = .ok (.invokevirtual 251, 3) := by decide +kernel
theorem dX12_cell_88 : decode cX12_cell 88 = .ok (.lreturn, 1) := by decide +kernel
theorem dX12_cell_89 : decode cX12_cell 89 = .ok (.aload_n 0, 1) := by decide +kernel
theorem dX12_cell_90 : decode cX12_cell 90 = .ok (.getfield 16, 3) := by decide +kernel
theorem dX12_cell_93 : decode cX12_cell 93 = .ok (.bipush 60, 2) := by decide +kernel
theorem dX12_cell_95 : decode cX12_cell 95 = .ok (.iload_n 1, 1) := by decide +kernel
theorem dX12_cell_96 : decode cX12_cell 96 = .ok (.imul, 1) := by decide +kernel
theorem dX12_cell_97 : decode cX12_cell 97 = .ok (.iload_n 2, 1) := by decide +kernel
theorem dX12_cell_98 : decode cX12_cell 98 = .ok (.iadd, 1) := by decide +kernel
theorem dX12_cell_99 : decode cX12_cell 99 = .ok (.iaload, 1) := by decide +kernel
theorem dX12_cell_100 : decode cX12_cell 100 = .ok (.i2l, 1) := by decide +kernel
theorem dX12_cell_101 : decode cX12_cell 101 = .ok (.lreturn, 1) := by decide +kernel
theorem dX12_copy_0 : decode cX12_copy 0 = .ok (.aload_n 0, 1) := by decide +kernel
theorem dX12_copy_1 : decode cX12_copy 1 = .ok (.iconst 0, 1) := by decide +kernel
theorem dX12_copy_2 : decode cX12_copy 2 = .ok (.putfield 79, 3) := by decide +kernel
theorem dX12_copy_5 : decode cX12_copy 5 = .ok (.iload_n 1, 1) := by decide +kernel
theorem dX12_copy_6 : decode cX12_copy 6 = .ok (.invokestatic 102, 3) := by decide +kernel
theorem dX12_copy_9 : decode cX12_copy 9 = .ok (.ifCond .eq 10, 3) := by decide +kernel
theorem dX12_copy_12 : decode cX12_copy 12 = .ok (.iload_n 3, 1) := by decide +kernel
theorem dX12_copy_13 : decode cX12_copy 13 = .ok (.invokestatic 102, 3) := by decide +kernel
theorem dX12_copy_16 : decode cX12_copy 16 = .ok (.ifCond .ne 5, 3) := by decide +kernel
theorem dX12_copy_19 : decode cX12_copy 19 = .ok (.iconst (-1), 1) := by decide +kernel
theorem dX12_copy_20 : decode cX12_copy 20 = .ok (.ireturn, 1) := by decide +kernel
theorem dX12_copy_21 : decode cX12_copy 21 = .ok (.aload_n 0, 1) := by decide +kernel
theorem dX12_copy_22 : decode cX12_copy 22 = .ok (.getfield 9, 3) := by decide +kernel
theorem dX12_copy_25 : decode cX12_copy 25 = .ok (.iload_n 1, 1) := by decide +kernel
theorem dX12_copy_26 : decode cX12_copy 26 = .ok (.iaload, 1) := by decide +kernel
theorem dX12_copy_27 : decode cX12_copy 27 = .ok (.bipush (-9), 2) := by decide +kernel
theorem dX12_copy_29 : decode cX12_copy 29 = .ok (.if_icmp .eq 14, 3) := by decide +kernel
theorem dX12_copy_32 : decode cX12_copy 32 = .ok (.aload_n 0, 1) := by decide +kernel
theorem dX12_copy_33 : decode cX12_copy 33 = .ok (.getfield 9, 3) := by decide +kernel
theorem dX12_copy_36 : decode cX12_copy 36 = .ok (.iload_n 3, 1) := by decide +kernel
theorem dX12_copy_37 : decode cX12_copy 37 = .ok (.iaload, 1) := by decide +kernel
theorem dX12_copy_38 : decode cX12_copy 38 = .ok (.bipush (-9), 2) := by decide +kernel
theorem dX12_copy_40 : decode cX12_copy 40 = .ok (.if_icmp .ne 9, 3) := by decide +kernel
theorem dX12_copy_43 : decode cX12_copy 43 = .ok (.aload_n 0, 1) := by decide +kernel
theorem dX12_copy_44 : decode cX12_copy 44 = .ok (.iconst 1, 1) := by decide +kernel
theorem dX12_copy_45 : decode cX12_copy 45 = .ok (.invokevirtual 113, 3) := by decide +kernel
theorem dX12_copy_48 : decode cX12_copy 48 = .ok (.ireturn, 1) := by decide +kernel
theorem dX12_copy_49 : decode cX12_copy 49 = .ok (.aload_n 0, 1) := by decide +kernel
theorem dX12_copy_50 : decode cX12_copy 50 = .ok (.getfield 9, 3) := by decide +kernel
theorem dX12_copy_53 : decode cX12_copy 53 = .ok (.iload_n 1, 1) := by decide +kernel
theorem dX12_copy_54 : decode cX12_copy 54 = .ok (.iaload, 1) := by decide +kernel
theorem dX12_copy_55 : decode cX12_copy 55 = .ok (.aload_n 0, 1) := by decide +kernel
theorem dX12_copy_56 : decode cX12_copy 56 = .ok (.getfield 9, 3) := by decide +kernel
theorem dX12_copy_59 : decode cX12_copy 59 = .ok (.iload_n 3, 1) := by decide +kernel
theorem dX12_copy_60 : decode cX12_copy 60 = .ok (.iaload, 1) := by decide +kernel
theorem dX12_copy_61 : decode cX12_copy 61 = .ok (.if_icmp .eq 9, 3) := by decide +kernel
theorem dX12_copy_64 : decode cX12_copy 64 = .ok (.aload_n 0, 1) := by decide +kernel
theorem dX12_copy_65 : decode cX12_copy 65 = .ok (.iconst 2, 1) := by decide +kernel
theorem dX12_copy_66 : decode cX12_copy 66 = .ok (.invokevirtual 113, 3) := by decide +kernel
theorem dX12_copy_69 : decode cX12_copy 69 = .ok (.ireturn, 1) := by decide +kernel
theorem dX12_copy_70 : decode cX12_copy 70 = .ok (.iload_n 2, 1) := by decide +kernel
theorem dX12_copy_71 : decode cX12_copy 71 = .ok (.ifCond .lt 38, 3) := by decide +kernel
theorem dX12_copy_74 : decode cX12_copy 74 = .ok (.iload 4, 2) := by decide +kernel
theorem dX12_copy_76 : decode cX12_copy 76 = .ok (.ifCond .lt 33, 3) := by decide +kernel
theorem dX12_copy_79 : decode cX12_copy 79 = .ok (.iload 5, 2) := by decide +kernel
theorem dX12_copy_81 : decode cX12_copy 81 = .ok (.ifCond .lt 28, 3) := by decide +kernel
theorem dX12_copy_84 : decode cX12_copy 84 = .ok (.iload_n 2, 1) := by decide +kernel
theorem dX12_copy_85 : decode cX12_copy 85 = .ok (.aload_n 0, 1) := by decide +kernel
theorem dX12_copy_86 : decode cX12_copy 86 = .ok (.getfield 13, 3) := by decide +kernel
theorem dX12_copy_89 : decode cX12_copy 89 = .ok (.iload_n 1, 1) := by decide +kernel
theorem dX12_copy_90 : decode cX12_copy 90 = .ok (.iaload, 1) := by decide +kernel
theorem dX12_copy_91 : decode cX12_copy 91 = .ok (.if_icmp .gt 18, 3) := by decide +kernel
theorem dX12_copy_94 : decode cX12_copy 94 = .ok (.iload 4, 2) := by decide +kernel
theorem dX12_copy_96 : decode cX12_copy 96 = .ok (.aload_n 0, 1) := by decide +kernel
theorem dX12_copy_97 : decode cX12_copy 97 = .ok (.getfield 13, 3) := by decide +kernel
theorem dX12_copy_100 : decode cX12_copy 100 = .ok (.iload_n 3, 1) := by decide +kernel
theorem dX12_copy_101 : decode cX12_copy 101 = .ok (.iaload, 1) := by decide +kernel
theorem dX12_copy_102 : decode cX12_copy 102 = .ok (.if_icmp .gt 7, 3) := by decide +kernel
theorem dX12_copy_105 : decode cX12_copy 105 = .ok (.iconst 1, 1) := by decide +kernel
theorem dX12_copy_106 : decode cX12_copy 106 = .ok (.goto 4, 3) := by decide +kernel
theorem dX12_copy_109 : decode cX12_copy 109 = .ok (.iconst 0, 1) := by decide +kernel
theorem dX12_copy_110 : decode cX12_copy 110 = .ok (.istore 6, 2) := by decide +kernel
theorem dX12_copy_112 : decode cX12_copy 112 = .ok (.iload 6, 2) := by decide +kernel
theorem dX12_copy_114 : decode cX12_copy 114 = .ok (.ifCond .eq 30, 3) := by decide +kernel
theorem dX12_copy_117 : decode cX12_copy 117 = .ok (.iload 5, 2) := by decide +kernel
theorem dX12_copy_119 : decode cX12_copy 119 = .ok (.aload_n 0, 1) := by decide +kernel
theorem dX12_copy_120 : decode cX12_copy 120 = .ok (.getfield 13, 3) := by decide +kernel
theorem dX12_copy_123 : decode cX12_copy 123 = .ok (.iload_n 1, 1) := by decide +kernel
theorem dX12_copy_124 : decode cX12_copy 124 = .ok (.iaload, 1) := by decide +kernel
theorem dX12_copy_125 : decode cX12_copy 125 = .ok (.iload_n 2, 1) := by decide +kernel
theorem dX12_copy_126 : decode cX12_copy 126 = .ok (.isub, 1) := by decide +kernel
theorem dX12_copy_127 : decode cX12_copy 127 = .ok (.if_icmp .gt 17, 3) := by decide +kernel
theorem dX12_copy_130 : decode cX12_copy 130 = .ok (.iload 5, 2) := by decide +kernel
theorem dX12_copy_132 : decode cX12_copy 132 = .ok (.aload_n 0, 1) := by decide +kernel
theorem dX12_copy_133 : decode cX12_copy 133 = .ok (.getfield 13, 3) := by decide +kernel
theorem dX12_copy_136 : decode cX12_copy 136 = .ok (.iload_n 3, 1) := by decide +kernel
theorem dX12_copy_137 : decode cX12_copy 137 = .ok (.iaload, 1) := by decide +kernel
theorem dX12_copy_138 : decode cX12_copy 138 = .ok (.iload 4, 2) := by decide +kernel
theorem dX12_copy_140 : decode cX12_copy 140 = .ok (.isub, 1) := by decide +kernel
theorem dX12_copy_141 : decode cX12_copy 141 = .ok (.if_icmp .le 9, 3) := by decide +kernel
theorem dX12_copy_144 : decode cX12_copy 144 = .ok (.aload_n 0, 1) := by decide +kernel
theorem dX12_copy_145 : decode cX12_copy 145 = .ok (.iconst 3, 1) := by decide +kernel
theorem dX12_copy_146 : decode cX12_copy 146 = .ok (.invokevirtual 113, 3) := by decide +kernel
theorem dX12_copy_149 : decode cX12_copy 149 = .ok (.ireturn, 1) := by decide +kernel
theorem dX12_copy_150 : decode cX12_copy 150 = .ok (.iload_n 2, 1) := by decide +kernel
theorem dX12_copy_151 : decode cX12_copy 151 = .ok (.iload 4, 2) := by decide +kernel
theorem dX12_copy_153 : decode cX12_copy 153 = .ok (.if_icmp .ge 7, 3) := by decide +kernel
theorem dX12_copy_156 : decode cX12_copy 156 = .ok (.iconst 1, 1) := by decide +kernel
theorem dX12_copy_157 : decode cX12_copy 157 = .ok (.goto 4, 3) := by decide +kernel
theorem dX12_copy_160 : decode cX12_copy 160 = .ok (.iconst 0, 1) := by decide +kernel
theorem dX12_copy_161 : decode cX12_copy 161 = .ok (.istore 7, 2) := by decide +kernel
theorem dX12_copy_163 : decode cX12_copy 163 = .ok (.iconst 0, 1) := by decide +kernel
theorem dX12_copy_164 : decode cX12_copy 164 = .ok (.istore 8, 2) := by decide +kernel
theorem dX12_copy_166 : decode cX12_copy 166 = .ok (.iload 8, 2) := by decide +kernel
theorem dX12_copy_168 : decode cX12_copy 168 = .ok (.iload 5, 2) := by decide +kernel
theorem dX12_copy_170 : decode cX12_copy 170 = .ok (.if_icmp .ge 57, 3) := by decide +kernel
theorem dX12_copy_173 : decode cX12_copy 173 = .ok (.iload 7, 2) := by decide +kernel
theorem dX12_copy_175 : decode cX12_copy 175 = .ok (.ifCond .eq 13, 3) := by decide +kernel
theorem dX12_copy_178 : decode cX12_copy 178 = .ok (.iload 5, 2) := by decide +kernel
theorem dX12_copy_180 : decode cX12_copy 180 = .ok (.iconst 1, 1) := by decide +kernel
theorem dX12_copy_181 : decode cX12_copy 181 = .ok (.isub, 1) := by decide +kernel
theorem dX12_copy_182 : decode cX12_copy 182 = .ok (.iload 8, 2) := by decide +kernel
theorem dX12_copy_184 : decode cX12_copy 184 = .ok (.isub, 1) := by decide +kernel
theorem dX12_copy_185 : decode cX12_copy 185 = .ok (.goto 5, 3) := by decide +kernel
theorem dX12_copy_188 : decode cX12_copy 188 = .ok (.iload 8, 2) := by decide +kernel
theorem dX12_copy_190 : decode cX12_copy 190 = .ok (.istore 9, 2) := by decide +kernel
theorem dX12_copy_192 : decode cX12_copy 192 = .ok (.aload_n 0, 1) := by decide +kernel
theorem dX12_copy_193 : decode cX12_copy 193 = .ok (.getfield 16, 3) := by decide +kernel
theorem dX12_copy_196 : decode cX12_copy 196 = .ok (.bipush 60, 2) := by decide +kernel
theorem dX12_copy_198 : decode cX12_copy 198 = .ok (.iload_n 3, 1) := by decide +kernel
theorem dX12_copy_199 : decode cX12_copy 199 = .ok (.imul, 1) := by decide +kernel
theorem dX12_copy_200 : decode cX12_copy 200 = .ok (.iload 4, 2) := by decide +kernel
theorem dX12_copy_202 : decode cX12_copy 202 = .ok (.iadd, 1) := by decide +kernel
theorem dX12_copy_203 : decode cX12_copy 203 = .ok (.iload 9, 2) := by decide +kernel
theorem dX12_copy_205 : decode cX12_copy 205 = .ok (.iadd, 1) := by decide +kernel
theorem dX12_copy_206 : decode cX12_copy 206 = .ok (.aload_n 0, 1) := by decide +kernel
theorem dX12_copy_207 : decode cX12_copy 207 = .ok (.getfield 16, 3) := by decide +kernel
theorem dX12_copy_210 : decode cX12_copy 210 = .ok (.bipush 60, 2) := by decide +kernel
theorem dX12_copy_212 : decode cX12_copy 212 = .ok (.iload_n 1, 1) := by decide +kernel
theorem dX12_copy_213 : decode cX12_copy 213 = .ok (.imul, 1) := by decide +kernel
theorem dX12_copy_214 : decode cX12_copy 214 = .ok (.iload_n 2, 1) := by decide +kernel
theorem dX12_copy_215 : decode cX12_copy 215 = .ok (.iadd, 1) := by decide +kernel
theorem dX12_copy_216 : decode cX12_copy 216 = .ok (.iload 9, 2) := by decide +kernel
theorem dX12_copy_218 : decode cX12_copy 218 = .ok (.iadd, 1) := by decide +kernel
theorem dX12_copy_219 : decode cX12_copy 219 = .ok (.iaload, 1) := by decide +kernel
theorem dX12_copy_220 : decode cX12_copy 220 = .ok (.iastore, 1) := by decide +kernel
theorem dX12_copy_221 : decode cX12_copy 221 = .ok (.iinc 8 1, 3) := by decide +kernel
theorem dX12_copy_224 : decode cX12_copy 224 = .ok (.goto (-58), 3) := by decide +kernel
theorem dX12_copy_227 : decode cX12_copy 227 = .ok (.iload 5, 2) := by decide +kernel
theorem dX12_copy_229 : decode cX12_copy 229 = .ok (.ireturn, 1) := by decide +kernel
theorem dX12_begins_0 : decode cX12_begins 0 = .ok (.aload_n 0, 1) := by decide +kernel
theorem dX12_begins_1 : decode cX12_begins 1 = .ok (.bipush 31, 2) := by decide +kernel
theorem dX12_begins_3 : decode cX12_begins 3 = .ok (.aload_n 0, 1) := by decide +kernel
theorem dX12_begins_4 : decode cX12_begins 4 = .ok (.getfield 255, 3) := by decide +kernel
theorem dX12_begins_7 : decode cX12_begins 7 = .ok (.imul, 1) := by decide +kernel
theorem dX12_begins_8 : decode cX12_begins 8 = .ok (.iload_n 1, 1) := by decide +kernel
theorem dX12_begins_9 : decode cX12_begins 9 = .ok (.iadd, 1) := by decide +kernel
theorem dX12_begins_10 : decode cX12_begins 10 = .ok (.putfield 255, 3) := by decide +kernel
theorem dX12_begins_13 : decode cX12_begins 13 = .ok (.return_, 1) := by decide +kernel
theorem dX12_tell_0 : decode cX12_tell 0 = .ok (.aload_n 0, 1) := by decide +kernel
theorem dX12_tell_1 : decode cX12_tell 1 = .ok (.iload_n 1, 1) := by decide +kernel
theorem dX12_tell_2 : decode cX12_tell 2 = .ok (.invokevirtual 170, 3) := by decide +kernel
theorem dX12_tell_5 : decode cX12_tell 5 = .ok (.ifCond .ne 5, 3) := by decide +kernel
theorem dX12_tell_8 : decode cX12_tell 8 = .ok (.iconst (-1), 1) := by decide +kernel
theorem dX12_tell_9 : decode cX12_tell 9 = .ok (.ireturn, 1) := by decide +kernel
theorem dX12_tell_10 : decode cX12_tell 10 = .ok (.aload_n 0, 1) := by decide +kernel
theorem dX12_tell_11 : decode cX12_tell 11 = .ok (.getfield 28, 3) := by decide +kernel
theorem dX12_tell_14 : decode cX12_tell 14 = .ok (.iload_n 1, 1) := by decide +kernel
theorem dX12_tell_15 : decode cX12_tell 15 = .ok (.iaload, 1) := by decide +kernel
theorem dX12_tell_16 : decode cX12_tell 16 = .ok (.istore_n 2, 1) := by decide +kernel
theorem dX12_tell_17 : decode cX12_tell 17 = .ok (.aload_n 0, 1) := by decide +kernel
theorem dX12_tell_18 : decode cX12_tell 18 = .ok (.getfield 25, 3) := by decide +kernel
theorem dX12_tell_21 : decode cX12_tell 21 = .ok (.iload_n 1, 1) := by decide +kernel
theorem dX12_tell_22 : decode cX12_tell 22 = .ok (.iaload, 1) := by decide +kernel
theorem dX12_tell_23 : decode cX12_tell 23 = .ok (.lookupswitch 67 #[(1, 25), (2, 40)], 25) := by decide +kernel
theorem dX12_tell_48 : decode cX12_tell 48 = .ok (.aload_n 0, 1) := by decide +kernel
theorem dX12_tell_49 : decode cX12_tell 49 = .ok (.iconst 2, 1) := by decide +kernel
theorem dX12_tell_50 : decode cX12_tell 50 = .ok (.invokevirtual 258, 3) := by decide +kernel
theorem dX12_tell_53 : decode cX12_tell 53 = .ok (.aload_n 0, 1) := by decide +kernel
theorem dX12_tell_54 : decode cX12_tell 54 = .ok (.iconst 1, 1) := by decide +kernel
theorem dX12_tell_55 : decode cX12_tell 55 = .ok (.invokevirtual 258, 3) := by decide +kernel
theorem dX12_tell_58 : decode cX12_tell 58 = .ok (.iload_n 2, 1) := by decide +kernel
theorem dX12_tell_59 : decode cX12_tell 59 = .ok (.bipush 100, 2) := by decide +kernel
theorem dX12_tell_61 : decode cX12_tell 61 = .ok (.iadd, 1) := by decide +kernel
theorem dX12_tell_62 : decode cX12_tell 62 = .ok (.ireturn, 1) := by decide +kernel
theorem dX12_tell_63 : decode cX12_tell 63 = .ok (.aload_n 0, 1) := by decide +kernel
theorem dX12_tell_64 : decode cX12_tell 64 = .ok (.iconst 3, 1) := by decide +kernel
theorem dX12_tell_65 : decode cX12_tell 65 = .ok (.invokevirtual 258, 3) := by decide +kernel
theorem dX12_tell_68 : decode cX12_tell 68 = .ok (.aload_n 0, 1) := by decide +kernel
theorem dX12_tell_69 : decode cX12_tell 69 = .ok (.iconst 2, 1) := by decide +kernel
theorem dX12_tell_70 : decode cX12_tell 70 = .ok (.invokevirtual 258, 3) := by decide +kernel
theorem dX12_tell_73 : decode cX12_tell 73 = .ok (.aload_n 0, 1) := by decide +kernel
theorem dX12_tell_74 : decode cX12_tell 74 = .ok (.iconst 1, 1) := by decide +kernel
theorem dX12_tell_75 : decode cX12_tell 75 = .ok (.invokevirtual 258, 3) := by decide +kernel
theorem dX12_tell_78 : decode cX12_tell 78 = .ok (.aload_n 0, 1) := by decide +kernel
theorem dX12_tell_79 : decode cX12_tell 79 = .ok (.iconst 1, 1) := by decide +kernel
theorem dX12_tell_80 : decode cX12_tell 80 = .ok (.invokevirtual 258, 3) := by decide +kernel
theorem dX12_tell_83 : decode cX12_tell 83 = .ok (.iconst 2, 1) := by decide +kernel
theorem dX12_tell_84 : decode cX12_tell 84 = .ok (.iload_n 2, 1) := by decide +kernel
theorem dX12_tell_85 : decode cX12_tell 85 = .ok (.imul, 1) := by decide +kernel
theorem dX12_tell_86 : decode cX12_tell 86 = .ok (.bipush 100, 2) := by decide +kernel
theorem dX12_tell_88 : decode cX12_tell 88 = .ok (.iadd, 1) := by decide +kernel
theorem dX12_tell_89 : decode cX12_tell 89 = .ok (.ireturn, 1) := by decide +kernel
theorem dX12_tell_90 : decode cX12_tell 90 = .ok (.aload_n 0, 1) := by decide +kernel
theorem dX12_tell_91 : decode cX12_tell 91 = .ok (.iconst 1, 1) := by decide +kernel
theorem dX12_tell_92 : decode cX12_tell 92 = .ok (.invokevirtual 258, 3) := by decide +kernel
theorem dX12_tell_95 : decode cX12_tell 95 = .ok (.iload_n 2, 1) := by decide +kernel
theorem dX12_tell_96 : decode cX12_tell 96 = .ok (.ireturn, 1) := by decide +kernel
theorem dX12_cheer_0 : decode cX12_cheer 0 = .ok (.aload_n 0, 1) := by decide +kernel
theorem dX12_cheer_1 : decode cX12_cheer 1 = .ok (.iload_n 1, 1) := by decide +kernel
theorem dX12_cheer_2 : decode cX12_cheer 2 = .ok (.invokevirtual 170, 3) := by decide +kernel
theorem dX12_cheer_5 : decode cX12_cheer 5 = .ok (.ifCond .ne 5, 3) := by decide +kernel
theorem dX12_cheer_8 : decode cX12_cheer 8 = .ok (.iconst (-1), 1) := by decide +kernel
theorem dX12_cheer_9 : decode cX12_cheer 9 = .ok (.ireturn, 1) := by decide +kernel
theorem dX12_cheer_10 : decode cX12_cheer 10 = .ok (.aload_n 0, 1) := by decide +kernel
theorem dX12_cheer_11 : decode cX12_cheer 11 = .ok (.aload_n 0, 1) := by decide +kernel
theorem dX12_cheer_12 : decode cX12_cheer 12 = .ok (.getfield 25, 3) := by decide +kernel
theorem dX12_cheer_15 : decode cX12_cheer 15 = .ok (.iload_n 1, 1) := by decide +kernel
theorem dX12_cheer_16 : decode cX12_cheer 16 = .ok (.iaload, 1) := by decide +kernel
theorem dX12_cheer_17 : decode cX12_cheer 17 = .ok (.iconst 2, 1) := by decide +kernel
theorem dX12_cheer_18 : decode cX12_cheer 18 = .ok (.if_icmp .ne 7, 3) := by decide +kernel
theorem dX12_cheer_21 : decode cX12_cheer 21 = .ok (.iconst 5, 1) := by decide +kernel
theorem dX12_cheer_22 : decode cX12_cheer 22 = .ok (.goto 4, 3) := by decide +kernel
theorem dX12_cheer_25 : decode cX12_cheer 25 = .ok (.iconst 4, 1) := by decide +kernel
theorem dX12_cheer_26 : decode cX12_cheer 26 = .ok (.invokevirtual 258, 3) := by decide +kernel
theorem dX12_cheer_29 : decode cX12_cheer 29 = .ok (.aload_n 0, 1) := by decide +kernel
theorem dX12_cheer_30 : decode cX12_cheer 30 = .ok (.getfield 25, 3) := by decide +kernel
theorem dX12_cheer_33 : decode cX12_cheer 33 = .ok (.iload_n 1, 1) := by decide +kernel
theorem dX12_cheer_34 : decode cX12_cheer 34 = .ok (.iaload, 1) := by decide +kernel
theorem dX12_cheer_35 : decode cX12_cheer 35 = .ok (.iconst 2, 1) := by decide +kernel
theorem dX12_cheer_36 : decode cX12_cheer 36 = .ok (.if_icmp .ne 8, 3) := by decide +kernel
theorem dX12_cheer_39 : decode cX12_cheer 39 = .ok (.bipush 50, 2) := by decide +kernel
theorem dX12_cheer_41 : decode cX12_cheer 41 = .ok (.goto 4, 3) := by decide +kernel
theorem dX12_cheer_44 : decode cX12_cheer 44 = .ok (.iload_n 1, 1) := by decide +kernel
theorem dX12_cheer_45 : decode cX12_cheer 45 = .ok (.ireturn, 1) := by decide +kernel
theorem dX12_as_0 : decode cX12_as 0 = .ok (.aload_n 0, 1) := by decide +kernel
theorem dX12_as_1 : decode cX12_as 1 = .ok (.iconst 0, 1) := by decide +kernel
theorem dX12_as_2 : decode cX12_as 2 = .ok (.putfield 79, 3) := by decide +kernel
theorem dX12_as_5 : decode cX12_as 5 = .ok (.aload_n 0, 1) := by decide +kernel
theorem dX12_as_6 : decode cX12_as 6 = .ok (.iload_n 1, 1) := by decide +kernel
theorem dX12_as_7 : decode cX12_as 7 = .ok (.invokevirtual 170, 3) := by decide +kernel
theorem dX12_as_10 : decode cX12_as 10 = .ok (.ifCond .ne 5, 3) := by decide +kernel
theorem dX12_as_13 : decode cX12_as 13 = .ok (.iconst (-1), 1) := by decide +kernel
theorem dX12_as_14 : decode cX12_as 14 = .ok (.ireturn, 1) := by decide +kernel
theorem dX12_as_15 : decode cX12_as 15 = .ok (.iload_n 2, 1) := by decide +kernel
theorem dX12_as_16 : decode cX12_as 16 = .ok (.iconst 0, 1) := by decide +kernel
theorem dX12_as_17 : decode cX12_as 17 = .ok (.iconst 2, 1) := by decide +kernel
theorem dX12_as_18 : decode cX12_as 18 = .ok (.invokestatic 85, 3) := by decide +kernel
theorem dX12_as_21 : decode cX12_as 21 = .ok (.ifCond .ne 6, 3) := by decide +kernel
theorem dX12_as_24 : decode cX12_as 24 = .ok (.bipush (-2), 2) := by decide +kernel
theorem dX12_as_26 : decode cX12_as 26 = .ok (.ireturn, 1) := by decide +kernel
theorem dX12_as_27 : decode cX12_as 27 = .ok (.aload_n 0, 1) := by decide +kernel
theorem dX12_as_28 : decode cX12_as 28 = .ok (.getfield 25, 3) := by decide +kernel
theorem dX12_as_31 : decode cX12_as 31 = .ok (.iload_n 1, 1) := by decide +kernel
theorem dX12_as_32 : decode cX12_as 32 = .ok (.iaload, 1) := by decide +kernel
theorem dX12_as_33 : decode cX12_as 33 = .ok (.iload_n 2, 1) := by decide +kernel
theorem dX12_as_34 : decode cX12_as 34 = .ok (.if_icmp .lt 7, 3) := by decide +kernel
theorem dX12_as_37 : decode cX12_as 37 = .ok (.iconst 1, 1) := by decide +kernel
theorem dX12_as_38 : decode cX12_as 38 = .ok (.goto 8, 3) := by decide +kernel
theorem dX12_as_41 : decode cX12_as 41 = .ok (.aload_n 0, 1) := by decide +kernel
theorem dX12_as_42 : decode cX12_as 42 = .ok (.iconst 2, 1) := by decide +kernel
theorem dX12_as_43 : decode cX12_as 43 = .ok (.invokevirtual 113, 3) := by decide +kernel
theorem dX12_as_46 : decode cX12_as 46 = .ok (.ireturn, 1) := by decide +kernel
theorem dX12_trace_0 : decode cX12_trace 0 = .ok (.aload_n 0, 1) := by decide +kernel
theorem dX12_trace_1 : decode cX12_trace 1 = .ok (.getfield 255, 3) := by decide +kernel
theorem dX12_trace_4 : decode cX12_trace 4 = .ok (.ireturn, 1) := by decide +kernel
theorem dX12_fault_0 : decode cX12_fault 0 = .ok (.aload_n 0, 1) := by decide +kernel
theorem dX12_fault_1 : decode cX12_fault 1 = .ok (.getfield 79, 3) := by decide +kernel
theorem dX12_fault_4 : decode cX12_fault 4 = .ok (.ireturn, 1) := by decide +kernel
theorem dX12_many_0 : decode cX12_many 0 = .ok (.iload_n 1, 1) := by decide +kernel
theorem dX12_many_1 : decode cX12_many 1 = .ok (.tableswitch 84 0 4 #[35, 40, 45, 50, 79], 35) := by decide +kernel
theorem dX12_many_36 : decode cX12_many 36 = .ok (.aload_n 0, 1) := by decide +kernel
theorem dX12_many_37 : decode cX12_many 37 = .ok (.getfield 89, 3) := by decide +kernel
theorem dX12_many_40 : decode cX12_many 40 = .ok (.ireturn, 1) := by decide +kernel
theorem dX12_many_41 : decode cX12_many 41 = .ok (.aload_n 0, 1) := by decide +kernel
theorem dX12_many_42 : decode cX12_many 42 = .ok (.getfield 92, 3) := by decide +kernel
theorem dX12_many_45 : decode cX12_many 45 = .ok (.ireturn, 1) := by decide +kernel
theorem dX12_many_46 : decode cX12_many 46 = .ok (.aload_n 0, 1) := by decide +kernel
theorem dX12_many_47 : decode cX12_many 47 = .ok (.getfield 126, 3) := by decide +kernel
theorem dX12_many_50 : decode cX12_many 50 = .ok (.ireturn, 1) := by decide +kernel
theorem dX12_many_51 : decode cX12_many 51 = .ok (.iconst 0, 1) := by decide +kernel
theorem dX12_many_52 : decode cX12_many 52 = .ok (.istore_n 2, 1) := by decide +kernel
theorem dX12_many_53 : decode cX12_many 53 = .ok (.iconst 0, 1) := by decide +kernel
theorem dX12_many_54 : decode cX12_many 54 = .ok (.istore_n 3, 1) := by decide +kernel
theorem dX12_many_55 : decode cX12_many 55 = .ok (.iload_n 3, 1) := by decide +kernel
theorem dX12_many_56 : decode cX12_many 56 = .ok (.aload_n 0, 1) := by decide +kernel
theorem dX12_many_57 : decode cX12_many 57 = .ok (.getfield 89, 3) := by decide +kernel
theorem dX12_many_60 : decode cX12_many 60 = .ok (.if_icmp .ge 18, 3) := by decide +kernel
theorem dX12_many_63 : decode cX12_many 63 = .ok (.iload_n 2, 1) := by decide +kernel
theorem dX12_many_64 : decode cX12_many 64 = .ok (.aload_n 0, 1) := by decide +kernel
theorem dX12_many_65 : decode cX12_many 65 = .ok (.getfield 31, 3) := by decide +kernel
theorem dX12_many_68 : decode cX12_many 68 = .ok (.iload_n 3, 1) := by decide +kernel
theorem dX12_many_69 : decode cX12_many 69 = .ok (.iaload, 1) := by decide +kernel
theorem dX12_many_70 : decode cX12_many 70 = .ok (.iadd, 1) := by decide +kernel
theorem dX12_many_71 : decode cX12_many 71 = .ok (.istore_n 2, 1) := by decide +kernel
theorem dX12_many_72 : decode cX12_many 72 = .ok (.iinc 3 1, 3) := by decide +kernel
theorem dX12_many_75 : decode cX12_many 75 = .ok (.goto (-20), 3) := by decide +kernel
theorem dX12_many_78 : decode cX12_many 78 = .ok (.iload_n 2, 1) := by decide +kernel
theorem dX12_many_79 : decode cX12_many 79 = .ok (.ireturn, 1) := by decide +kernel
theorem dX12_many_80 : decode cX12_many 80 = .ok (.aload_n 0, 1) := by decide +kernel
theorem dX12_many_81 : decode cX12_many 81 = .ok (.getfield 135, 3) := by decide +kernel
theorem dX12_many_84 : decode cX12_many 84 = .ok (.ireturn, 1) := by decide +kernel
theorem dX12_many_85 : decode cX12_many 85 = .ok (.bipush (-2), 2) := by decide +kernel
theorem dX12_many_87 : decode cX12_many 87 = .ok (.ireturn, 1) := by decide +kernel
