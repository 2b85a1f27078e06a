theorem dX12_init_0 : decode cX12_init 0 = .ok (.aload_n 0, 1) := by decide +kernel
theorem dX12_init_1 : decode cX12_init 1 = .ok (.invokespecial 1, 3) := by decide +kernel
theorem dX12_init_4 : decode cX12_init 4 = .ok (.aload_n 0, 1) := by decide +kernel
theorem dX12_init_5 : decode cX12_init 5 = .ok (.bipush 72, 2) := by decide +kernel
theorem dX12_init_7 : decode cX12_init 7 = .ok (.newarray .int, 2) := by decide +kernel
theorem dX12_init_9 : decode cX12_init 9 = .ok (.putfield 7, 3) := by decide +kernel
theorem dX12_init_12 : decode cX12_init 12 = .ok (.aload_n 0, 1) := by decide +kernel
theorem dX12_init_13 : decode cX12_init 13 = .ok (.iconst 2, 1) := by decide +kernel
theorem dX12_init_14 : decode cX12_init 14 = .ok (.putfield 13, 3) := by decide +kernel
theorem dX12_init_17 : decode cX12_init 17 = .ok (.aload_n 0, 1) := by decide +kernel
theorem dX12_init_18 : decode cX12_init 18 = .ok (.iconst (-1), 1) := by decide +kernel
theorem dX12_init_19 : decode cX12_init 19 = .ok (.putfield 17, 3) := by decide +kernel
theorem dX12_init_22 : decode cX12_init 22 = .ok (.aload_n 0, 1) := by decide +kernel
theorem dX12_init_23 : decode cX12_init 23 = .ok (.iconst 4, 1) := by decide +kernel
theorem dX12_init_24 : decode cX12_init 24 = .ok (.newarray .int, 2) := by decide +kernel
theorem dX12_init_26 : decode cX12_init 26 = .ok (.putfield 20, 3) := by decide +kernel
theorem dX12_init_29 : decode cX12_init 29 = .ok (.aload_n 0, 1) := by decide +kernel
theorem dX12_init_30 : decode cX12_init 30 = .ok (.bipush 8, 2) := by decide +kernel
theorem dX12_init_32 : decode cX12_init 32 = .ok (.newarray .int, 2) := by decide +kernel
theorem dX12_init_34 : decode cX12_init 34 = .ok (.putfield 23, 3) := by decide +kernel
theorem dX12_init_37 : decode cX12_init 37 = .ok (.aload_n 0, 1) := by decide +kernel
theorem dX12_init_38 : decode cX12_init 38 = .ok (.bipush 89, 2) := by decide +kernel
theorem dX12_init_40 : decode cX12_init 40 = .ok (.newarray .int, 2) := by decide +kernel
theorem dX12_init_42 : decode cX12_init 42 = .ok (.putfield 26, 3) := by decide +kernel
theorem dX12_init_45 : decode cX12_init 45 = .ok (.aload_n 0, 1) := by decide +kernel
theorem dX12_init_46 : decode cX12_init 46 = .ok (.bipush 89, 2) := by decide +kernel
theorem dX12_init_48 : decode cX12_init 48 = .ok (.newarray .int, 2) := by decide +kernel
theorem dX12_init_50 : decode cX12_init 50 = .ok (.putfield 29, 3) := by decide +kernel
theorem dX12_init_53 : decode cX12_init 53 = .ok (.aload_n 0, 1) := by decide +kernel
theorem dX12_init_54 : decode cX12_init 54 = .ok (.bipush 100, 2) := by decide +kernel
theorem dX12_init_56 : decode cX12_init 56 = .ok (.newarray .int, 2) := by decide +kernel
theorem dX12_init_58 : decode cX12_init 58 = .ok (.putfield 32, 3) := by decide +kernel
theorem dX12_init_61 : decode cX12_init 61 = .ok (.aload_n 0, 1) := by decide +kernel
theorem dX12_init_62 : decode cX12_init 62 = .ok (.sipush 600, 3) := by decide +kernel
theorem dX12_init_65 : decode cX12_init 65 = .ok (.newarray .int, 2) := by decide +kernel
theorem dX12_init_67 : decode cX12_init 67 = .ok (.putfield 35, 3) := by decide +kernel
theorem dX12_init_70 : decode cX12_init 70 = .ok (.aload_n 0, 1) := by decide +kernel
theorem dX12_init_71 : decode cX12_init 71 = .ok (.bipush 6, 2) := by decide +kernel
theorem dX12_init_73 : decode cX12_init 73 = .ok (.newarray .int, 2) := by decide +kernel
theorem dX12_init_75 : decode cX12_init 75 = .ok (.putfield 38, 3) := by decide +kernel
theorem dX12_init_78 : decode cX12_init 78 = .ok (.aload_n 0, 1) := by decide +kernel
theorem dX12_init_79 : decode cX12_init 79 = .ok (.bipush 60, 2) := by decide +kernel
theorem dX12_init_81 : decode cX12_init 81 = .ok (.newarray .int, 2) := by decide +kernel
theorem dX12_init_83 : decode cX12_init 83 = .ok (.putfield 41, 3) := by decide +kernel
theorem dX12_init_86 : decode cX12_init 86 = .ok (.aload_n 0, 1) := by decide +kernel
theorem dX12_init_87 : decode cX12_init 87 = .ok (.bipush 60, 2) := by decide +kernel
theorem dX12_init_89 : decode cX12_init 89 = .ok (.newarray .int, 2) := by decide +kernel
theorem dX12_init_91 : decode cX12_init 91 = .ok (.putfield 44, 3) := by decide +kernel
theorem dX12_init_94 : decode cX12_init 94 = .ok (.aload_n 0, 1) := by decide +kernel
theorem dX12_init_95 : decode cX12_init 95 = .ok (.bipush 60, 2) := by decide +kernel
theorem dX12_init_97 : decode cX12_init 97 = .ok (.newarray .int, 2) := by decide +kernel
theorem dX12_init_99 : decode cX12_init 99 = .ok (.putfield 47, 3) := by decide +kernel
theorem dX12_init_102 : decode cX12_init 102 = .ok (.aload_n 0, 1) := by decide +kernel
theorem dX12_init_103 : decode cX12_init 103 = .ok (.bipush 6, 2) := by decide +kernel
theorem dX12_init_105 : decode cX12_init 105 = .ok (.newarray .int, 2) := by decide +kernel
theorem dX12_init_107 : decode cX12_init 107 = .ok (.putfield 50, 3) := by decide +kernel
theorem dX12_init_110 : decode cX12_init 110 = .ok (.aload_n 0, 1) := by decide +kernel
theorem dX12_init_111 : decode cX12_init 111 = .ok (.bipush 6, 2) := by decide +kernel
theorem dX12_init_113 : decode cX12_init 113 = .ok (.newarray .int, 2) := by decide +kernel
theorem dX12_init_115 : decode cX12_init 115 = .ok (.putfield 53, 3) := by decide +kernel
theorem dX12_init_118 : decode cX12_init 118 = .ok (.aload_n 0, 1) := by decide +kernel
theorem dX12_init_119 : decode cX12_init 119 = .ok (.bipush 6, 2) := by decide +kernel
theorem dX12_init_121 : decode cX12_init 121 = .ok (.newarray .boolean, 2) := by decide +kernel
theorem dX12_init_123 : decode cX12_init 123 = .ok (.putfield 56, 3) := by decide +kernel
theorem dX12_init_126 : decode cX12_init 126 = .ok (.aload_n 0, 1) := by decide +kernel
theorem dX12_init_127 : decode cX12_init 127 = .ok (.bipush 6, 2) := by decide +kernel
theorem dX12_init_129 : decode cX12_init 129 = .ok (.newarray .boolean, 2) := by decide +kernel
theorem dX12_init_131 : decode cX12_init 131 = .ok (.putfield 60, 3) := by decide +kernel
theorem dX12_init_134 : decode cX12_init 134 = .ok (.aload_n 0, 1) := by decide +kernel
theorem dX12_init_135 : decode cX12_init 135 = .ok (.bipush 6, 2) := by decide +kernel
theorem dX12_init_137 : decode cX12_init 137 = .ok (.newarray .boolean, 2) := by decide +kernel
theorem dX12_init_139 : decode cX12_init 139 = .ok (.putfield 63, 3) := by decide +kernel
theorem dX12_init_142 : decode cX12_init 142 = .ok (.aload_n 0, 1) := by decide +kernel
theorem dX12_init_143 : decode cX12_init 143 = .ok (.bipush 20, 2) := by decide +kernel
theorem dX12_init_145 : decode cX12_init 145 = .ok (.newarray .int, 2) := by decide +kernel
theorem dX12_init_147 : decode cX12_init 147 = .ok (.putfield 66, 3) := by decide +kernel
theorem dX12_init_150 : decode cX12_init 150 = .ok (.aload_n 0, 1) := by decide +kernel
theorem dX12_init_151 : decode cX12_init 151 = .ok (.bipush 6, 2) := by decide +kernel
theorem dX12_init_153 : decode cX12_init 153 = .ok (.newarray .int, 2) := by decide +kernel
theorem dX12_init_155 : decode cX12_init 155 = .ok (.putfield 69, 3) := by decide +kernel
theorem dX12_init_158 : decode cX12_init 158 = .ok (.aload_n 0, 1) := by decide +kernel
theorem dX12_init_159 : decode cX12_init 159 = .ok (.bipush 6, 2) := by decide +kernel
theorem dX12_init_161 : decode cX12_init 161 = .ok (.newarray .int, 2) := by decide +kernel
theorem dX12_init_163 : decode cX12_init 163 = .ok (.putfield 72, 3) := by decide +kernel
theorem dX12_init_166 : decode cX12_init 166 = .ok (.aload_n 0, 1) := by decide +kernel
theorem dX12_init_167 : decode cX12_init 167 = .ok (.sipush 360, 3) := by decide +kernel
theorem dX12_init_170 : decode cX12_init 170 = .ok (.newarray .long, 2) := by decide +kernel
theorem dX12_init_172 : decode cX12_init 172 = .ok (.putfield 75, 3) := by decide +kernel
theorem dX12_init_175 : decode cX12_init 175 = .ok (.aload_n 0, 1) := by decide +kernel
theorem dX12_init_176 : decode cX12_init 176 = .ok (.bipush 60, 2) := by decide +kernel
theorem dX12_init_178 : decode cX12_init 178 = .ok (.newarray .long, 2) := by decide +kernel
theorem dX12_init_180 : decode cX12_init 180 = .ok (.putfield 79, 3) := by decide +kernel
theorem dX12_init_183 : decode cX12_init 183 = .ok (.aload_n 0, 1) := by decide +kernel
theorem dX12_init_184 : decode cX12_init 184 = .ok (.bipush 6, 2) := by decide +kernel
theorem dX12_init_186 : decode cX12_init 186 = .ok (.newarray .boolean, 2) := by decide +kernel
theorem dX12_init_188 : decode cX12_init 188 = .ok (.putfield 82, 3) := by decide +kernel
theorem dX12_init_191 : decode cX12_init 191 = .ok (.aload_n 0, 1) := by decide +kernel
theorem dX12_init_192 : decode cX12_init 192 = .ok (.iconst 0, 1) := by decide +kernel
theorem dX12_init_193 : decode cX12_init 193 = .ok (.putfield 85, 3) := by decide +kernel
theorem dX12_init_196 : decode cX12_init 196 = .ok (.return_, 1) := by decide +kernel
theorem dX12_in_0 : decode cX12_in 0 = .ok (.lload_n 0, 1) := by decide +kernel
theorem dX12_in_1 : decode cX12_in 1 = .ok (.lload_n 2, 1) := by decide +kernel
theorem dX12_in_2 : decode cX12_in 2 = .ok (.lcmp, 1) := by decide +kernel
theorem dX12_in_3 : decode cX12_in 3 = .ok (.ifCond .lt 14, 3) := by decide +kernel
theorem dX12_in_6 : decode cX12_in 6 = .ok (.lload_n 0, 1) := by decide +kernel
theorem dX12_in_7 : decode cX12_in 7 = .ok (.lload 4, 2) := by decide +kernel
theorem dX12_in_9 : decode cX12_in 9 = .ok (.lcmp, 1) := by decide +kernel
theorem dX12_in_10 : decode cX12_in 10 = .ok (.ifCond .gt 7, 3) := by decide +kernel
theorem dX12_in_13 : decode cX12_in 13 = .ok (.iconst 1, 1) := by decide +kernel
theorem dX12_in_14 : decode cX12_in 14 = .ok (.goto 4, 3) := by decide +kernel
theorem dX12_in_17 : decode cX12_in 17 = .ok (.iconst 0, 1) := by decide +kernel
theorem dX12_in_18 : decode cX12_in 18 = .ok (.ireturn, 1) := by decide +kernel
theorem dX12_isCustomer_0 : decode cX12_isCustomer 0 = .ok (.iload_n 1, 1) := by decide +kernel
theorem dX12_isCustomer_1 : decode cX12_isCustomer 1 = .ok (.i2l, 1) := by decide +kernel
theorem dX12_isCustomer_2 : decode cX12_isCustomer 2 = .ok (.lconst 0, 1) := by decide +kernel
theorem dX12_isCustomer_3 : decode cX12_isCustomer 3 = .ok (.aload_n 0, 1) := by decide +kernel
theorem dX12_isCustomer_4 : decode cX12_isCustomer 4 = .ok (.getfield 88, 3) := by decide +kernel
theorem dX12_isCustomer_7 : decode cX12_isCustomer 7 = .ok (.iconst 1, 1) := by decide +kernel
theorem dX12_isCustomer_8 : decode cX12_isCustomer 8 = .ok (.isub, 1) := by decide +kernel
theorem dX12_isCustomer_9 : decode cX12_isCustomer 9 = .ok (.i2l, 1) := by decide +kernel
theorem dX12_isCustomer_10 : decode cX12_isCustomer 10 = .ok (.invokestatic 91, 3) := by decide +kernel
theorem dX12_isCustomer_13 : decode cX12_isCustomer 13 = .ok (.ireturn, 1) := by decide +kernel
theorem dX12_of0_0 : decode cX12_of0 0 = .ok (.aload_n 0, 1) := by decide +kernel
theorem dX12_of0_1 : decode cX12_of0 1 = .ok (.getfield 7, 3) := by decide +kernel
theorem dX12_of0_4 : decode cX12_of0 4 = .ok (.bipush 12, 2) := by decide +kernel
theorem dX12_of0_6 : decode cX12_of0 6 = .ok (.iload_n 1, 1) := by decide +kernel
theorem dX12_of0_7 : decode cX12_of0 7 = .ok (.imul, 1) := by decide +kernel
theorem dX12_of0_8 : decode cX12_of0 8 = .ok (.iload_n 2, 1) := by decide +kernel
theorem dX12_of0_9 : decode cX12_of0 9 = .ok (.iadd, 1) := by decide +kernel
theorem dX12_of0_10 : decode cX12_of0 10 = .ok (.iaload, 1) := by decide +kernel
theorem dX12_of0_11 : decode cX12_of0 11 = .ok (.ireturn, 1) := by decide +kernel
theorem dX12_put_0 : decode cX12_put 0 = .ok (.aload_n 0, 1) := by decide +kernel
theorem dX12_put_1 : decode cX12_put 1 = .ok (.getfield 7, 3) := by decide +kernel
theorem dX12_put_4 : decode cX12_put 4 = .ok (.bipush 12, 2) := by decide +kernel
theorem dX12_put_6 : decode cX12_put 6 = .ok (.iload_n 1, 1) := by decide +kernel
theorem dX12_put_7 : decode cX12_put 7 = .ok (.imul, 1) := by decide +kernel
theorem dX12_put_8 : decode cX12_put 8 = .ok (.iload_n 2, 1) := by decide +kernel
theorem dX12_put_9 : decode cX12_put 9 = .ok (.iadd, 1) := by decide +kernel
theorem dX12_put_10 : decode cX12_put 10 = .ok (.iload_n 3, 1) := by decide +kernel
theorem dX12_put_11 : decode cX12_put 11 = .ok (.iastore, 1) := by decide +kernel
theorem dX12_put_12 : decode cX12_put 12 = .ok (.return_, 1) := by decide +kernel
theorem dX12_carry_0 : decode cX12_carry 0 = .ok (.aload_n 0, 1) := by decide +kernel
theorem dX12_carry_1 : decode cX12_carry 1 = .ok (.getfield 95, 3) := by decide +kernel
theorem dX12_carry_4 : decode cX12_carry 4 = .ok (.ifCond .eq 13, 3) := by decide +kernel
theorem dX12_carry_7 : decode cX12_carry 7 = .ok (.aload_n 0, 1) := by decide +kernel
theorem dX12_carry_8 : decode cX12_carry 8 = .ok (.getfield 99, 3) := by decide +kernel
theorem dX12_carry_11 : decode cX12_carry 11 = .ok (.aload_n 0, 1) := by decide +kernel
theorem dX12_carry_12 : decode cX12_carry 12 = .ok (.getfield 102, 3) := by decide +kernel
theorem dX12_carry_15 : decode cX12_carry 15 = .ok (.iload_n 1, 1) := by decide +kernel
theorem dX12_carry_16 : decode cX12_carry 16 = .ok (.iastore, 1) := by decide +kernel
theorem dX12_carry_17 : decode cX12_carry 17 = .ok (.aload_n 0, 1) := by decide +kernel
theorem dX12_carry_18 : decode cX12_carry 18 = .ok (.dup, 1) := by decide +kernel
theorem dX12_carry_19 : decode cX12_carry 19 = .ok (.getfield 102, 3) := by decide +kernel
theorem dX12_carry_22 : decode cX12_carry 22 = .ok (.iconst 1, 1) := by decide +kernel
theorem dX12_carry_23 : decode cX12_carry 23 = .ok (.iadd, 1) := by decide +kernel
theorem dX12_carry_24 : decode cX12_carry 24 = .ok (.putfield 102, 3) := by decide +kernel
theorem dX12_carry_27 : decode cX12_carry 27 = .ok (.aload_n 0, 1) := by decide +kernel
theorem dX12_carry_28 : decode cX12_carry 28 = .ok (.getfield 99, 3) := by decide +kernel
theorem dX12_carry_31 : decode cX12_carry 31 = .ok (.aload_n 0, 1) := by decide +kernel
theorem dX12_carry_32 : decode cX12_carry 32 = .ok (.getfield 102, 3) := by decide +kernel
theorem dX12_carry_35 : decode cX12_carry 35 = .ok (.iconst 1, 1) := by decide +kernel
theorem dX12_carry_36 : decode cX12_carry 36 = .ok (.isub, 1) := by decide +kernel
theorem dX12_carry_37 : decode cX12_carry 37 = .ok (.iaload, 1) := by decide +kernel
theorem dX12_carry_38 : decode cX12_carry 38 = .ok (.ireturn, 1) := by decide +kernel
theorem dX12_carryAll_0 : decode cX12_carryAll 0 = .ok (.aload_n 0, 1) := by decide +kernel
theorem dX12_carryAll_1 : decode cX12_carryAll 1 = .ok (.aload_n 1, 1) := by decide +kernel
theorem dX12_carryAll_2 : decode cX12_carryAll 2 = .ok (.putfield 99, 3) := by decide +kernel
theorem dX12_carryAll_5 : decode cX12_carryAll 5 = .ok (.aload_n 0, 1) := by decide +kernel
theorem dX12_carryAll_6 : decode cX12_carryAll 6 = .ok (.iload_n 2, 1) := by decide +kernel
theorem dX12_carryAll_7 : decode cX12_carryAll 7 = .ok (.putfield 95, 3) := by decide +kernel
theorem dX12_carryAll_10 : decode cX12_carryAll 10 = .ok (.aload_n 0, 1) := by decide +kernel
theorem dX12_carryAll_11 : decode cX12_carryAll 11 = .ok (.iconst 0, 1) := by decide +kernel
theorem dX12_carryAll_12 : decode cX12_carryAll 12 = .ok (.putfield 102, 3) := by decide +kernel
theorem dX12_carryAll_15 : decode cX12_carryAll 15 = .ok (.aload_n 0, 1) := by decide +kernel
theorem dX12_carryAll_16 : decode cX12_carryAll 16 = .ok (.aload_n 0, 1) := by decide +kernel
theorem dX12_carryAll_17 : decode cX12_carryAll 17 = .ok (.aload_n 0, 1) := by decide +kernel
theorem dX12_carryAll_18 : decode cX12_carryAll 18 = .ok (.getfield 88, 3) := by decide +kernel
theorem dX12_carryAll_21 : decode cX12_carryAll 21 = .ok (.invokevirtual 105, 3) := by decide +kernel
theorem dX12_carryAll_24 : decode cX12_carryAll 24 = .ok (.putfield 88, 3) := by decide +kernel
theorem dX12_carryAll_27 : decode cX12_carryAll 27 = .ok (.aload_n 0, 1) := by decide +kernel
theorem dX12_carryAll_28 : decode cX12_carryAll 28 = .ok (.aload_n 0, 1) := by decide +kernel
theorem dX12_carryAll_29 : decode cX12_carryAll 29 = .ok (.aload_n 0, 1) := by decide +kernel
theorem dX12_carryAll_30 : decode cX12_carryAll 30 = .ok (.getfield 13, 3) := by decide +kernel
theorem dX12_carryAll_33 : decode cX12_carryAll 33 = .ok (.invokevirtual 105, 3) := by decide +kernel
theorem dX12_carryAll_36 : decode cX12_carryAll 36 = .ok (.putfield 13, 3) := by decide +kernel
theorem dX12_carryAll_39 : decode cX12_carryAll 39 = .ok (.aload_n 0, 1) := by decide +kernel
theorem dX12_carryAll_40 : decode cX12_carryAll 40 = .ok (.aload_n 0, 1) := by decide +kernel
theorem dX12_carryAll_41 : decode cX12_carryAll 41 = .ok (.aload_n 0, 1) := by decide +kernel
theorem dX12_carryAll_42 : decode cX12_carryAll 42 = .ok (.getfield 17, 3) := by decide +kernel
theorem dX12_carryAll_45 : decode cX12_carryAll 45 = .ok (.invokevirtual 105, 3) := by decide +kernel
theorem dX12_carryAll_48 : decode cX12_carryAll 48 = .ok (.putfield 17, 3) := by decide +kernel
theorem dX12_carryAll_51 : decode cX12_carryAll 51 = .ok (.aload_n 0, 1) := by decide +kernel
theorem dX12_carryAll_52 : decode cX12_carryAll 52 = .ok (.aload_n 0, 1) := by decide +kernel
theorem dX12_carryAll_53 : decode cX12_carryAll 53 = .ok (.aload_n 0, 1) := by decide +kernel
theorem dX12_carryAll_54 : decode cX12_carryAll 54 = .ok (.getfield 109, 3) := by decide +kernel
theorem dX12_carryAll_57 : decode cX12_carryAll 57 = .ok (.invokevirtual 105, 3) := by decide +kernel
theorem dX12_carryAll_60 : decode cX12_carryAll 60 = .ok (.putfield 109, 3) := by decide +kernel
theorem dX12_carryAll_63 : decode cX12_carryAll 63 = .ok (.aload_n 0, 1) := by decide +kernel
theorem dX12_carryAll_64 : decode cX12_carryAll 64 = .ok (.aload_n 0, 1) := by decide +kernel
theorem dX12_carryAll_65 : decode cX12_carryAll 65 = .ok (.aload_n 0, 1) := by decide +kernel
theorem dX12_carryAll_66 : decode cX12_carryAll 66 = .ok (.getfield 112, 3) := by decide +kernel
theorem dX12_carryAll_69 : decode cX12_carryAll 69 = .ok (.invokevirtual 105, 3) := by decide +kernel
theorem dX12_carryAll_72 : decode cX12_carryAll 72 = .ok (.putfield 112, 3) := by decide +kernel
theorem dX12_carryAll_75 : decode cX12_carryAll 75 = .ok (.iconst 0, 1) := by decide +kernel
theorem dX12_carryAll_76 : decode cX12_carryAll 76 = .ok (.istore_n 3, 1) := by decide +kernel
theorem dX12_carryAll_77 : decode cX12_carryAll 77 = .ok (.iload_n 3, 1) := by decide +kernel
theorem dX12_carryAll_78 : decode cX12_carryAll 78 = .ok (.bipush 72, 2) := by decide +kernel
theorem dX12_carryAll_80 : decode cX12_carryAll 80 = .ok (.if_icmp .ge 25, 3) := by decide +kernel
theorem dX12_carryAll_83 : decode cX12_carryAll 83 = .ok (.aload_n 0, 1) := by decide +kernel
theorem dX12_carryAll_84 : decode cX12_carryAll 84 = .ok (.getfield 7, 3) := by decide +kernel
theorem dX12_carryAll_87 : decode cX12_carryAll 87 = .ok (.iload_n 3, 1) := by decide +kernel
theorem dX12_carryAll_88 : decode cX12_carryAll 88 = .ok (.aload_n 0, 1) := by decide +kernel
theorem dX12_carryAll_89 : decode cX12_carryAll 89 = .ok (.aload_n 0, 1) := by decide +kernel
theorem dX12_carryAll_90 : decode cX12_carryAll 90 = .ok (.getfield 7, 3) := by decide +kernel
theorem dX12_carryAll_93 : decode cX12_carryAll 93 = .ok (.iload_n 3, 1) := by decide +kernel
theorem dX12_carryAll_94 : decode cX12_carryAll 94 = .ok (.iaload, 1) := by decide +kernel
theorem dX12_carryAll_95 : decode cX12_carryAll 95 = .ok (.invokevirtual 105, 3) := by decide +kernel
theorem dX12_carryAll_98 : decode cX12_carryAll 98 = .ok (.iastore, 1) := by decide +kernel
theorem dX12_carryAll_99 : decode cX12_carryAll 99 = .ok (.iinc 3 1, 3) := by decide +kernel
theorem dX12_carryAll_102 : decode cX12_carryAll 102 = .ok (.goto (-25), 3) := by decide +kernel
theorem dX12_carryAll_105 : decode cX12_carryAll 105 = .ok (.iconst 0, 1) := by decide +kernel
theorem dX12_carryAll_106 : decode cX12_carryAll 106 = .ok (.istore_n 3, 1) := by decide +kernel
theorem dX12_carryAll_107 : decode cX12_carryAll 107 = .ok (.iload_n 3, 1) := by decide +kernel
theorem dX12_carryAll_108 : decode cX12_carryAll 108 = .ok (.iconst 4, 1) := by decide +kernel
theorem dX12_carryAll_109 : decode cX12_carryAll 109 = .ok (.if_icmp .ge 25, 3) := by decide +kernel
theorem dX12_carryAll_112 : decode cX12_carryAll 112 = .ok (.aload_n 0, 1) := by decide +kernel
theorem dX12_carryAll_113 : decode cX12_carryAll 113 = .ok (.getfield 20, 3) := by decide +kernel
theorem dX12_carryAll_116 : decode cX12_carryAll 116 = .ok (.iload_n 3, 1) := by decide +kernel
theorem dX12_carryAll_117 : decode cX12_carryAll 117 = .ok (.aload_n 0, 1) := by decide +kernel
theorem dX12_carryAll_118 : decode cX12_carryAll 118 = .ok (.aload_n 0, 1) := by decide +kernel
theorem dX12_carryAll_119 : decode cX12_carryAll 119 = .ok (.getfield 20, 3) := by decide +kernel
theorem dX12_carryAll_122 : decode cX12_carryAll 122 = .ok (.iload_n 3, 1) := by decide +kernel
theorem dX12_carryAll_123 : decode cX12_carryAll 123 = .ok (.iaload, 1) := by decide +kernel
theorem dX12_carryAll_124 : decode cX12_carryAll 124 = .ok (.invokevirtual 105, 3) := by decide +kernel
theorem dX12_carryAll_127 : decode cX12_carryAll 127 = .ok (.iastore, 1) := by decide +kernel
theorem dX12_carryAll_128 : decode cX12_carryAll 128 = .ok (.iinc 3 1, 3) := by decide +kernel
theorem dX12_carryAll_131 : decode cX12_carryAll 131 = .ok (.goto (-24), 3) := by decide +kernel
theorem dX12_carryAll_134 : decode cX12_carryAll 134 = .ok (.iconst 0, 1) := by decide +kernel
theorem dX12_carryAll_135 : decode cX12_carryAll 135 = .ok (.istore_n 3, 1) := by decide +kernel
theorem dX12_carryAll_136 : decode cX12_carryAll 136 = .ok (.iload_n 3, 1) := by decide +kernel
theorem dX12_carryAll_137 : decode cX12_carryAll 137 = .ok (.bipush 8, 2) := by decide +kernel
theorem dX12_carryAll_139 : decode cX12_carryAll 139 = .ok (.if_icmp .ge 25, 3) := by decide +kernel
theorem dX12_carryAll_142 : decode cX12_carryAll 142 = .ok (.aload_n 0, 1) := by decide +kernel
theorem dX12_carryAll_143 : decode cX12_carryAll 143 = .ok (.getfield 23, 3) := by decide +kernel
theorem dX12_carryAll_146 : decode cX12_carryAll 146 = .ok (.iload_n 3, 1) := by decide +kernel
theorem dX12_carryAll_147 : decode cX12_carryAll 147 = .ok (.aload_n 0, 1) := by decide +kernel
theorem dX12_carryAll_148 : decode cX12_carryAll 148 = .ok (.aload_n 0, 1) := by decide +kernel
theorem dX12_carryAll_149 : decode cX12_carryAll 149 = .ok (.getfield 23, 3) := by decide +kernel
theorem dX12_carryAll_152 : decode cX12_carryAll 152 = .ok (.iload_n 3, 1) := by decide +kernel
theorem dX12_carryAll_153 : decode cX12_carryAll 153 = .ok (.iaload, 1) := by decide +kernel
theorem dX12_carryAll_154 : decode cX12_carryAll 154 = .ok (.invokevirtual 105, 3) := by decide +kernel
theorem dX12_carryAll_157 : decode cX12_carryAll 157 = .ok (.iastore, 1) := by decide +kernel
theorem dX12_carryAll_158 : decode cX12_carryAll 158 = .ok (.iinc 3 1, 3) := by decide +kernel
theorem dX12_carryAll_161 : decode cX12_carryAll 161 = .ok (.goto (-25), 3) := by decide +kernel
theorem dX12_carryAll_164 : decode cX12_carryAll 164 = .ok (.return_, 1) := by decide +kernel
theorem dX12_open_0 : decode cX12_open 0 = .ok (.aload_n 0, 1) := by decide +kernel
theorem dX12_open_1 : decode cX12_open 1 = .ok (.iconst 1, 1) := by decide +kernel
theorem dX12_open_2 : decode cX12_open 2 = .ok (.putfield 115, 3) := by decide +kernel
theorem dX12_open_5 : decode cX12_open 5 = .ok (.aload_n 0, 1) := by decide +kernel
theorem dX12_open_6 : decode cX12_open 6 = .ok (.aload_n 0, 1) := by decide +kernel
theorem dX12_open_7 : decode cX12_open 7 = .ok (.getfield 26, 3) := by decide +kernel
theorem dX12_open_10 : decode cX12_open 10 = .ok (.iconst 1, 1) := by decide +kernel
theorem dX12_open_11 : decode cX12_open 11 = .ok (.invokevirtual 118, 3) := by decide +kernel
theorem dX12_open_14 : decode cX12_open 14 = .ok (.return_, 1) := by decide +kernel
theorem dX12_again_0 : decode cX12_again 0 = .ok (.aload_n 0, 1) := by decide +kernel
theorem dX12_again_1 : decode cX12_again 1 = .ok (.aload_n 0, 1) := by decide +kernel
theorem dX12_again_2 : decode cX12_again 2 = .ok (.getfield 26, 3) := by decide +kernel
theorem dX12_again_5 : decode cX12_again 5 = .ok (.iconst 0, 1) := by decide +kernel
theorem dX12_again_6 : decode cX12_again 6 = .ok (.invokevirtual 118, 3) := by decide +kernel
theorem dX12_again_9 : decode cX12_again 9 = .ok (.return_, 1) := by decide +kernel
theorem dX12_close_0 : decode cX12_close 0 = .ok (.aload_n 0, 1) := by decide +kernel
theorem dX12_close_1 : decode cX12_close 1 = .ok (.aload_n 0, 1) := by decide +kernel
theorem dX12_close_2 : decode cX12_close 2 = .ok (.getfield 26, 3) := by decide +kernel
theorem dX12_close_5 : decode cX12_close 5 = .ok (.iconst 0, 1) := by decide +kernel
theorem dX12_close_6 : decode cX12_close 6 = .ok (.invokevirtual 118, 3) := by decide +kernel
theorem dX12_close_9 : decode cX12_close 9 = .ok (.aload_n 0, 1) := by decide +kernel
theorem dX12_close_10 : decode cX12_close 10 = .ok (.iconst 0, 1) := by decide +kernel
theorem dX12_close_11 : decode cX12_close 11 = .ok (.putfield 115, 3) := by decide +kernel
theorem dX12_close_14 : decode cX12_close 14 = .ok (.return_, 1) := by decide +kernel
theorem dX12_image_0 : decode cX12_image 0 = .ok (.aload_n 0, 1) := by decide +kernel
theorem dX12_image_1 : decode cX12_image 1 = .ok (.iconst 0, 1) := by decide +kernel
theorem dX12_image_2 : decode cX12_image 2 = .ok (.putfield 85, 3) := by decide +kernel
theorem dX12_image_5 : decode cX12_image 5 = .ok (.aload_n 0, 1) := by decide +kernel
theorem dX12_image_6 : decode cX12_image 6 = .ok (.iconst 1, 1) := by decide +kernel
theorem dX12_image_7 : decode cX12_image 7 = .ok (.putfield 122, 3) := by decide +kernel
theorem dX12_image_10 : decode cX12_image 10 = .ok (.aload_n 0, 1) := by decide +kernel
theorem dX12_image_11 : decode cX12_image 11 = .ok (.aload_n 0, 1) := by decide +kernel
theorem dX12_image_12 : decode cX12_image 12 = .ok (.getfield 29, 3) := by decide +kernel
theorem dX12_image_15 : decode cX12_image 15 = .ok (.iconst 1, 1) := by decide +kernel
theorem dX12_image_16 : decode cX12_image 16 = .ok (.invokevirtual 118, 3) := by decide +kernel
theorem dX12_image_19 : decode cX12_image 19 = .ok (.aload_n 0, 1) := by decide +kernel
theorem dX12_image_20 : decode cX12_image 20 = .ok (.getfield 88, 3) := by decide +kernel
theorem dX12_image_23 : decode cX12_image 23 = .ok (.ireturn, 1) := by decide +kernel
theorem dX12_undo_0 : decode cX12_undo 0 = .ok (.aload_n 0, 1) := by decide +kernel
theorem dX12_undo_1 : decode cX12_undo 1 = .ok (.iconst 0, 1) := by decide +kernel
theorem dX12_undo_2 : decode cX12_undo 2 = .ok (.putfield 85, 3) := by decide +kernel
theorem dX12_undo_5 : decode cX12_undo 5 = .ok (.aload_n 0, 1) := by decide +kernel
theorem dX12_undo_6 : decode cX12_undo 6 = .ok (.getfield 122, 3) := by decide +kernel
theorem dX12_undo_9 : decode cX12_undo 9 = .ok (.ifCond .ne 6, 3) := by decide +kernel
theorem dX12_undo_12 : decode cX12_undo 12 = .ok (.bipush (-3), 2) := by decide +kernel
theorem dX12_undo_14 : decode cX12_undo 14 = .ok (.ireturn, 1) := by decide +kernel
theorem dX12_undo_15 : decode cX12_undo 15 = .ok (.aload_n 0, 1) := by decide +kernel
theorem dX12_undo_16 : decode cX12_undo 16 = .ok (.aload_n 0, 1) := by decide +kernel
theorem dX12_undo_17 : decode cX12_undo 17 = .ok (.getfield 29, 3) := by decide +kernel
theorem dX12_undo_20 : decode cX12_undo 20 = .ok (.iconst 0, 1) := by decide +kernel
theorem dX12_undo_21 : decode cX12_undo 21 = .ok (.invokevirtual 118, 3) := by decide +kernel
theorem dX12_undo_24 : decode cX12_undo 24 = .ok (.aload_n 0, 1) := by decide +kernel
theorem dX12_undo_25 : decode cX12_undo 25 = .ok (.getfield 88, 3) := by decide +kernel
theorem dX12_undo_28 : decode cX12_undo 28 = .ok (.ireturn, 1) := by decide +kernel
theorem dX12_feed_0 : decode cX12_feed 0 = .ok (.aload_n 0, 1) := by decide +kernel
theorem dX12_feed_1 : decode cX12_feed 1 = .ok (.iconst 0, 1) := by decide +kernel
theorem dX12_feed_2 : decode cX12_feed 2 = .ok (.putfield 85, 3) := by decide +kernel
theorem dX12_feed_5 : decode cX12_feed 5 = .ok (.iload_n 1, 1) := by decide +kernel
theorem dX12_feed_6 : decode cX12_feed 6 = .ok (.i2l, 1) := by decide +kernel
theorem dX12_feed_7 : decode cX12_feed 7 = .ok (.lconst 0, 1) := by decide +kernel
theorem dX12_feed_8 : decode cX12_feed 8 = .ok (.ldc2_w 125, 3) := by decide +kernel
theorem dX12_feed_11 : decode cX12_feed 11 = .ok (.invokestatic 91, 3) := by decide +kernel
theorem dX12_feed_14 : decode cX12_feed 14 = .ok (.ifCond .ne 6, 3) := by decide +kernel
theorem dX12_feed_17 : decode cX12_feed 17 = .ok (.bipush (-2), 2) := by decide +kernel
theorem dX12_feed_19 : decode cX12_feed 19 = .ok (.ireturn, 1) := by decide +kernel
theorem dX12_feed_20 : decode cX12_feed 20 = .ok (.aload_n 0, 1) := by decide +kernel
theorem dX12_feed_21 : decode cX12_feed 21 = .ok (.getfield 127, 3) := by decide +kernel
theorem dX12_feed_24 : decode cX12_feed 24 = .ok (.bipush 100, 2) := by decide +kernel
theorem dX12_feed_26 : decode cX12_feed 26 = .ok (.if_icmp .ne 6, 3) := by decide +kernel
theorem dX12_feed_29 : decode cX12_feed 29 = .ok (.bipush (-4), 2) := by decide +kernel
theorem dX12_feed_31 : decode cX12_feed 31 = .ok (.ireturn, 1) := by decide +kernel
theorem dX12_feed_32 : decode cX12_feed 32 = .ok (.aload_n 0, 1) := by decide +kernel
theorem dX12_feed_33 : decode cX12_feed 33 = .ok (.getfield 32, 3) := by decide +kernel
theorem dX12_feed_36 : decode cX12_feed 36 = .ok (.aload_n 0, 1) := by decide +kernel
theorem dX12_feed_37 : decode cX12_feed 37 = .ok (.getfield 127, 3) := by decide +kernel
theorem dX12_feed_40 : decode cX12_feed 40 = .ok (.iload_n 1, 1) := by decide +kernel
theorem dX12_feed_41 : decode cX12_feed 41 = .ok (.iastore, 1) := by decide +kernel
theorem dX12_feed_42 : decode cX12_feed 42 = .ok (.aload_n 0, 1) := by decide +kernel
theorem dX12_feed_43 : decode cX12_feed 43 = .ok (.dup, 1) := by decide +kernel
theorem dX12_feed_44 : decode cX12_feed 44 = .ok (.getfield 127, 3) := by decide +kernel
theorem dX12_feed_47 : decode cX12_feed 47 = .ok (.iconst 1, 1) := by decide +kernel
theorem dX12_feed_48 : decode cX12_feed 48 = .ok (.iadd, 1) := by decide +kernel
theorem dX12_feed_49 : decode cX12_feed 49 = .ok (.putfield 127, 3) := by decide +kernel
theorem dX12_feed_52 : decode cX12_feed 52 = .ok (.aload_n 0, 1) := by decide +kernel
theorem dX12_feed_53 : decode cX12_feed 53 = .ok (.getfield 127, 3) := by decide +kernel
theorem dX12_feed_56 : decode cX12_feed 56 = .ok (.ireturn, 1) := by decide +kernel
theorem dX12_here_0 : decode cX12_here 0 = .ok (.aload_n 0, 1) := by decide +kernel
theorem dX12_here_1 : decode cX12_here 1 = .ok (.getfield 130, 3) := by decide +kernel
theorem dX12_here_4 : decode cX12_here 4 = .ok (.aload_n 0, 1) := by decide +kernel
theorem dX12_here_5 : decode cX12_here 5 = .ok (.getfield 127, 3) := by decide +kernel
theorem dX12_here_8 : decode cX12_here 8 = .ok (.if_icmp .ge 15, 3) := by decide +kernel
theorem dX12_here_11 : decode cX12_here 11 = .ok (.aload_n 0, 1) := by decide +kernel
theorem dX12_here_12 : decode cX12_here 12 = .ok (.getfield 32, 3) := by decide +kernel
theorem dX12_here_15 : decode cX12_here 15 = .ok (.aload_n 0, 1) := by decide +kernel
theorem dX12_here_16 : decode cX12_here 16 = .ok (.getfield 130, 3) := by decide +kernel
theorem dX12_here_19 : decode cX12_here 19 = .ok (.iaload, 1) := by decide +kernel
theorem dX12_here_20 : decode cX12_here 20 = .ok (.goto 4, 3) := by decide +kernel
theorem dX12_here_23 : decode cX12_here 23 = .ok (.iconst (-1), 1) := by decide +kernel
theorem dX12_here_24 : decode cX12_here 24 = .ok (.ireturn, 1) := by decide +kernel
theorem dX12_take_0 : decode cX12_take 0 = .ok (.aload_n 0, 1) := by decide +kernel
theorem dX12_take_1 : decode cX12_take 1 = .ok (.aload_n 0, 1) := by decide +kernel
theorem dX12_take_2 : decode cX12_take 2 = .ok (.getfield 133, 3) := by decide +kernel
theorem dX12_take_5 : decode cX12_take 5 = .ok (.ifCond .ne 11, 3) := by decide +kernel
theorem dX12_take_8 : decode cX12_take 8 = .ok (.aload_n 0, 1) := by decide +kernel
theorem dX12_take_9 : decode cX12_take 9 = .ok (.invokevirtual 136, 3) := by decide +kernel
theorem dX12_take_12 : decode cX12_take 12 = .ok (.iload_n 1, 1) := by decide +kernel
theorem dX12_take_13 : decode cX12_take 13 = .ok (.if_icmp .eq 7, 3) := by decide +kernel
theorem dX12_take_16 : decode cX12_take 16 = .ok (.iconst 1, 1) := by decide +kernel
theorem dX12_take_17 : decode cX12_take 17 = .ok (.goto 4, 3) := by decide +kernel
theorem dX12_take_20 : decode cX12_take 20 = .ok (.iconst 0, 1) := by decide +kernel
theorem dX12_take_21 : decode cX12_take 21 = .ok (.putfield 133, 3) := by decide +kernel
theorem dX12_take_24 : decode cX12_take 24 = .ok (.aload_n 0, 1) := by decide +kernel
theorem dX12_take_25 : decode cX12_take 25 = .ok (.dup, 1) := by decide +kernel
theorem dX12_take_26 : decode cX12_take 26 = .ok (.getfield 130, 3) := by decide +kernel
theorem dX12_take_29 : decode cX12_take 29 = .ok (.aload_n 0, 1) := by decide +kernel
theorem dX12_take_30 : decode cX12_take 30 = .ok (.getfield 133, 3) := by decide +kernel
theorem dX12_take_33 : decode cX12_take 33 = .ok (.ifCond .eq 7, 3) := by decide +kernel
theorem dX12_take_36 : decode cX12_take 36 = .ok (.iconst 0, 1) := by decide +kernel
theorem dX12_take_37 : decode cX12_take 37 = .ok (.goto 4, 3) := by decide +kernel
theorem dX12_take_40 : decode cX12_take 40 = .ok (.iconst 1, 1) := by decide +kernel
theorem dX12_take_41 : decode cX12_take 41 = .ok (.iadd, 1) := by decide +kernel
theorem dX12_take_42 : decode cX12_take 42 = .ok (.putfield 130, 3) := by decide +kernel
theorem dX12_take_45 : decode cX12_take 45 = .ok (.return_, 1) := by decide +kernel
theorem dX12_takeAll_0 : decode cX12_takeAll 0 = .ok (.lload_n 1, 1) := by decide +kernel
theorem dX12_takeAll_1 : decode cX12_takeAll 1 = .ok (.lstore_n 3, 1) := by decide +kernel
theorem dX12_takeAll_2 : decode cX12_takeAll 2 = .ok (.lload_n 3, 1) := by decide +kernel
theorem dX12_takeAll_3 : decode cX12_takeAll 3 = .ok (.lconst 0, 1) := by decide +kernel
theorem dX12_takeAll_4 : decode cX12_takeAll 4 = .ok (.lcmp, 1) := by decide +kernel
theorem dX12_takeAll_5 : decode cX12_takeAll 5 = .ok (.ifCond .eq 22, 3) := by decide +kernel
theorem dX12_takeAll_8 : decode cX12_takeAll 8 = .ok (.aload_n 0, 1) := by decide +kernel
theorem dX12_takeAll_9 : decode cX12_takeAll 9 = .ok (.lload_n 3, 1) := by decide +kernel
theorem dX12_takeAll_10 : decode cX12_takeAll 10 = .ok (.ldc2_w 140, 3) := by decide +kernel
theorem dX12_takeAll_13 : decode cX12_takeAll 13 = .ok (.lrem, 1) := by decide +kernel
theorem dX12_takeAll_14 : decode cX12_takeAll 14 = .ok (.l2i, 1) := by decide +kernel
theorem dX12_takeAll_15 : decode cX12_takeAll 15 = .ok (.invokevirtual 142, 3) := by decide +kernel
theorem dX12_takeAll_18 : decode cX12_takeAll 18 = .ok (.lload_n 3, 1) := by decide +kernel
theorem dX12_takeAll_19 : decode cX12_takeAll 19 = .ok (.ldc2_w 140, 3) := by decide +kernel
theorem dX12_takeAll_22 : decode cX12_takeAll 22 = .ok (.ldiv, 1) := by decide +kernel
theorem dX12_takeAll_23 : decode cX12_takeAll 23 = .ok (.lstore_n 3, 1) := by decide +kernel
theorem dX12_takeAll_24 : decode cX12_takeAll 24 = .ok (.goto (-22), 3) := by decide +kernel
theorem dX12_takeAll_27 : decode cX12_takeAll 27 = .ok (.return_, 1) := by decide +kernel
theorem dX12_readDigit_0 : decode cX12_readDigit 0 = .ok (.aload_n 0, 1) := by decide +kernel
theorem dX12_readDigit_1 : decode cX12_readDigit 1 = .ok (.aload_n 0, 1) := by decide +kernel
theorem dX12_readDigit_2 : decode cX12_readDigit 2 = .ok (.getfield 133, 3) := by decide +kernel
theorem dX12_readDigit_5 : decode cX12_readDigit 5 = .ok (.ifCond .ne 20, 3) := by decide +kernel
theorem dX12_readDigit_8 : decode cX12_readDigit 8 = .ok (.aload_n 0, 1) := by decide +kernel
theorem dX12_readDigit_9 : decode cX12_readDigit 9 = .ok (.invokevirtual 136, 3) := by decide +kernel
theorem dX12_readDigit_12 : decode cX12_readDigit 12 = .ok (.i2l, 1) := by decide +kernel
theorem dX12_readDigit_13 : decode cX12_readDigit 13 = .ok (.ldc2_w 146, 3) := by decide +kernel
theorem dX12_readDigit_16 : decode cX12_readDigit 16 = .ok (.ldc2_w 148, 3) := by decide +kernel
theorem dX12_readDigit_19 : decode cX12_readDigit 19 = .ok (.invokestatic 91, 3) := by decide +kernel
theorem dX12_readDigit_22 : decode cX12_readDigit 22 = .ok (.ifCond .ne 7, 3) := by decide +kernel
theorem dX12_readDigit_25 : decode cX12_readDigit 25 = .ok (.iconst 1, 1) := by decide +kernel
theorem dX12_readDigit_26 : decode cX12_readDigit 26 = .ok (.goto 4, 3) := by decide +kernel
theorem dX12_readDigit_29 : decode cX12_readDigit 29 = .ok (.iconst 0, 1) := by decide +kernel
theorem dX12_readDigit_30 : decode cX12_readDigit 30 = .ok (.putfield 133, 3) := by decide +kernel
theorem dX12_readDigit_33 : decode cX12_readDigit 33 = .ok (.aload_n 0, 1) := by decide +kernel
theorem dX12_readDigit_34 : decode cX12_readDigit 34 = .ok (.getfield 133, 3) := by decide +kernel
theorem dX12_readDigit_37 : decode cX12_readDigit 37 = .ok (.ifCond .eq 5, 3) := by decide +kernel
theorem dX12_readDigit_40 : decode cX12_readDigit 40 = .ok (.iconst 0, 1) := by decide +kernel
theorem dX12_readDigit_41 : decode cX12_readDigit 41 = .ok (.ireturn, 1) := by decide +kernel
theorem dX12_readDigit_42 : decode cX12_readDigit 42 = .ok (.aload_n 0, 1) := by decide +kernel
theorem dX12_readDigit_43 : decode cX12_readDigit 43 = .ok (.dup, 1) := by decide +kernel
theorem dX12_readDigit_44 : decode cX12_readDigit 44 = .ok (.getfield 130, 3) := by decide +kernel
theorem dX12_readDigit_47 : decode cX12_readDigit 47 = .ok (.iconst 1, 1) := by decide +kernel
theorem dX12_readDigit_48 : decode cX12_readDigit 48 = .ok (.iadd, 1) := by decide +kernel
theorem dX12_readDigit_49 : decode cX12_readDigit 49 = .ok (.putfield 130, 3) := by decide +kernel
theorem dX12_readDigit_52 : decode cX12_readDigit 52 = .ok (.aload_n 0, 1) := by decide +kernel
theorem dX12_readDigit_53 : decode cX12_readDigit 53 = .ok (.getfield 32, 3) := by decide +kernel
theorem dX12_readDigit_56 : decode cX12_readDigit 56 = .ok (.aload_n 0, 1) := by decide +kernel
theorem dX12_readDigit_57 : decode cX12_readDigit 57 = .ok (.getfield 130, 3) := by decide +kernel
theorem dX12_readDigit_60 : decode cX12_readDigit 60 = .ok (.iconst 1, 1) := by decide +kernel
theorem dX12_readDigit_61 : decode cX12_readDigit 61 = .ok (.isub, 1) := by decide +kernel
theorem dX12_readDigit_62 : decode cX12_readDigit 62 = .ok (.iaload, 1) := by decide +kernel
theorem dX12_readDigit_63 : decode cX12_readDigit 63 = .ok (.bipush 48, 2) := by decide +kernel
theorem dX12_readDigit_65 : decode cX12_readDigit 65 = .ok (.isub, 1) := by decide +kernel
theorem dX12_readDigit_66 : decode cX12_readDigit 66 = .ok (.ireturn, 1) := by decide +kernel
theorem dX12_readNumber_0 : decode cX12_readNumber 0 = .ok (.aload_n 0, 1) := by decide +kernel
theorem dX12_readNumber_1 : decode cX12_readNumber 1 = .ok (.invokevirtual 150, 3) := by decide +kernel
theorem dX12_readNumber_4 : decode cX12_readNumber 4 = .ok (.istore_n 1, 1) := by decide +kernel
theorem dX12_readNumber_5 : decode cX12_readNumber 5 = .ok (.aload_n 0, 1) := by decide +kernel
theorem dX12_readNumber_6 : decode cX12_readNumber 6 = .ok (.getfield 133, 3) := by decide +kernel
theorem dX12_readNumber_9 : decode cX12_readNumber 9 = .ok (.ifCond .ne 32, 3) := by decide +kernel
theorem dX12_readNumber_12 : decode cX12_readNumber 12 = .ok (.aload_n 0, 1) := by decide +kernel
theorem dX12_readNumber_13 : decode cX12_readNumber 13 = .ok (.invokevirtual 136, 3) := by decide +kernel
theorem dX12_readNumber_16 : decode cX12_readNumber 16 = .ok (.i2l, 1) := by decide +kernel
theorem dX12_readNumber_17 : decode cX12_readNumber 17 = .ok (.ldc2_w 146, 3) := by decide +kernel
theorem dX12_readNumber_20 : decode cX12_readNumber 20 = .ok (.ldc2_w 148, 3) := by decide +kernel
theorem dX12_readNumber_23 : decode cX12_readNumber 23 = .ok (.invokestatic 91, 3) := by decide +kernel
theorem dX12_readNumber_26 : decode cX12_readNumber 26 = .ok (.ifCond .eq 15, 3) := by decide +kernel
theorem dX12_readNumber_29 : decode cX12_readNumber 29 = .ok (.bipush 10, 2) := by decide +kernel
theorem dX12_readNumber_31 : decode cX12_readNumber 31 = .ok (.iload_n 1, 1) := by decide +kernel
theorem dX12_readNumber_32 : decode cX12_readNumber 32 = .ok (.imul, 1) := by decide +kernel
theorem dX12_readNumber_33 : decode cX12_readNumber 33 = .ok (.aload_n 0, 1) := by decide +kernel
theorem dX12_readNumber_34 : decode cX12_readNumber 34 = .ok (.invokevirtual 150, 3) := by decide +kernel
theorem dX12_readNumber_37 : decode cX12_readNumber 37 = .ok (.iadd, 1) := by decide +kernel
theorem dX12_readNumber_38 : decode cX12_readNumber 38 = .ok (.goto 4, 3) := by decide +kernel
theorem dX12_readNumber_41 : decode cX12_readNumber 41 = .ok (.iload_n 1, 1) := by decide +kernel
theorem dX12_readNumber_42 : decode cX12_readNumber 42 = .ok (.ireturn, 1) := by decide +kernel
theorem dX12_readWord_0 : decode cX12_readWord 0 = .ok (.aload_n 0, 1) := by decide +kernel
theorem dX12_readWord_1 : decode cX12_readWord 1 = .ok (.invokevirtual 136, 3) := by decide +kernel
theorem dX12_readWord_4 : decode cX12_readWord 4 = .ok (.istore_n 1, 1) := by decide +kernel
theorem dX12_readWord_5 : decode cX12_readWord 5 = .ok (.iload_n 1, 1) := by decide +kernel
theorem dX12_readWord_6 : decode cX12_readWord 6 = .ok (.bipush 109, 2) := by decide +kernel
theorem dX12_readWord_8 : decode cX12_readWord 8 = .ok (.if_icmp .eq 9, 3) := by decide +kernel
theorem dX12_readWord_11 : decode cX12_readWord 11 = .ok (.iload_n 1, 1) := by decide +kernel
theorem dX12_readWord_12 : decode cX12_readWord 12 = .ok (.bipush 112, 2) := by decide +kernel
theorem dX12_readWord_14 : decode cX12_readWord 14 = .ok (.if_icmp .ne 44, 3) := by decide +kernel
theorem dX12_readWord_17 : decode cX12_readWord 17 = .ok (.aload_n 0, 1) := by decide +kernel
theorem dX12_readWord_18 : decode cX12_readWord 18 = .ok (.dup, 1) := by decide +kernel
theorem dX12_readWord_19 : decode cX12_readWord 19 = .ok (.getfield 130, 3) := by decide +kernel
theorem dX12_readWord_22 : decode cX12_readWord 22 = .ok (.iconst 1, 1) := by decide +kernel
theorem dX12_readWord_23 : decode cX12_readWord 23 = .ok (.iadd, 1) := by decide +kernel
theorem dX12_readWord_24 : decode cX12_readWord 24 = .ok (.putfield 130, 3) := by decide +kernel
theorem dX12_readWord_27 : decode cX12_readWord 27 = .ok (.aload_n 0, 1) := by decide +kernel
theorem dX12_readWord_28 : decode cX12_readWord 28 = .ok (.iload_n 1, 1) := by decide +kernel
theorem dX12_readWord_29 : decode cX12_readWord 29 = .ok (.bipush 109, 2) := by decide +kernel
theorem dX12_readWord_31 : decode cX12_readWord 31 = .ok (.if_icmp .ne 9, 3) := by decide +kernel
theorem dX12_readWord_34 : decode cX12_readWord 34 = .ok (.ldc2_w 153, 3) := by decide +kernel
theorem dX12_readWord_37 : decode cX12_readWord 37 = .ok (.goto 6, 3) := by decide +kernel
theorem dX12_readWord_40 : decode cX12_readWord 40 = .ok (.ldc2_w 155, 3) := by decide +kernel
theorem dX12_readWord_43 : decode cX12_readWord 43 = .ok (.invokevirtual 157, 3) := by decide +kernel
theorem dX12_readWord_46 : decode cX12_readWord 46 = .ok (.iload_n 1, 1) := by decide +kernel
theorem dX12_readWord_47 : decode cX12_readWord 47 = .ok (.bipush 109, 2) := by decide +kernel
theorem dX12_readWord_49 : decode cX12_readWord 49 = .ok (.if_icmp .ne 7, 3) := by decide +kernel
theorem dX12_readWord_52 : decode cX12_readWord 52 = .ok (.iconst 0, 1) := by decide +kernel
theorem dX12_readWord_53 : decode cX12_readWord 53 = .ok (.goto 4, 3) := by decide +kernel
theorem dX12_readWord_56 : decode cX12_readWord 56 = .ok (.iconst 2, 1) := by decide +kernel
theorem dX12_readWord_57 : decode cX12_readWord 57 = .ok (.ireturn, 1) := by decide +kernel
theorem dX12_readWord_58 : decode cX12_readWord 58 = .ok (.aload_n 0, 1) := by decide +kernel
theorem dX12_readWord_59 : decode cX12_readWord 59 = .ok (.bipush 108, 2) := by decide +kernel
theorem dX12_readWord_61 : decode cX12_readWord 61 = .ok (.invokevirtual 142, 3) := by decide +kernel
theorem dX12_readWord_64 : decode cX12_readWord 64 = .ok (.aload_n 0, 1) := by decide +kernel
theorem dX12_readWord_65 : decode cX12_readWord 65 = .ok (.bipush 101, 2) := by decide +kernel
theorem dX12_readWord_67 : decode cX12_readWord 67 = .ok (.invokevirtual 142, 3) := by decide +kernel
theorem dX12_readWord_70 : decode cX12_readWord 70 = .ok (.aload_n 0, 1) := by decide +kernel
theorem dX12_readWord_71 : decode cX12_readWord 71 = .ok (.invokevirtual 136, 3) := by decide +kernel
theorem dX12_readWord_74 : decode cX12_readWord 74 = .ok (.istore_n 2, 1) := by decide +kernel
theorem dX12_readWord_75 : decode cX12_readWord 75 = .ok (.aload_n 0, 1) := by decide +kernel
theorem dX12_readWord_76 : decode cX12_readWord 76 = .ok (.aload_n 0, 1) := by decide +kernel
theorem dX12_readWord_77 : decode cX12_readWord 77 = .ok (.getfield 133, 3) := by decide +kernel
theorem dX12_readWord_80 : decode cX12_readWord 80 = .ok (.ifCond .ne 15, 3) := by decide +kernel
theorem dX12_readWord_83 : decode cX12_readWord 83 = .ok (.iload_n 2, 1) := by decide +kernel
theorem dX12_readWord_84 : decode cX12_readWord 84 = .ok (.bipush 115, 2) := by decide +kernel
theorem dX12_readWord_86 : decode cX12_readWord 86 = .ok (.if_icmp .eq 13, 3) := by decide +kernel
theorem dX12_readWord_89 : decode cX12_readWord 89 = .ok (.iload_n 2, 1) := by decide +kernel
theorem dX12_readWord_90 : decode cX12_readWord 90 = .ok (.bipush 97, 2) := by decide +kernel
theorem dX12_readWord_92 : decode cX12_readWord 92 = .ok (.if_icmp .eq 7, 3) := by decide +kernel
theorem dX12_readWord_95 : decode cX12_readWord 95 = .ok (.iconst 1, 1) := by decide +kernel
theorem dX12_readWord_96 : decode cX12_readWord 96 = .ok (.goto 4, 3) := by decide +kernel
theorem dX12_readWord_99 : decode cX12_readWord 99 = .ok (.iconst 0, 1) := by decide +kernel
theorem dX12_readWord_100 : decode cX12_readWord 100 = .ok (.putfield 133, 3) := by decide +kernel
theorem dX12_readWord_103 : decode cX12_readWord 103 = .ok (.aload_n 0, 1) := by decide +kernel
theorem dX12_readWord_104 : decode cX12_readWord 104 = .ok (.dup, 1) := by decide +kernel
theorem dX12_readWord_105 : decode cX12_readWord 105 = .ok (.getfield 130, 3) := by decide +kernel
theorem dX12_readWord_108 : decode cX12_readWord 108 = .ok (.aload_n 0, 1) := by decide +kernel
theorem dX12_readWord_109 : decode cX12_readWord 109 = .ok (.getfield 133, 3) := by decide +kernel
theorem dX12_readWord_112 : decode cX12_readWord 112 = .ok (.ifCond .eq 7, 3) := by decide +kernel
theorem dX12_readWord_115 : decode cX12_readWord 115 = .ok (.iconst 0, 1) := by decide +kernel
theorem dX12_readWord_116 : decode cX12_readWord 116 = .ok (.goto 4, 3) := by decide +kernel
theorem dX12_readWord_119 : decode cX12_readWord 119 = .ok (.iconst 1, 1) := by decide +kernel
theorem dX12_readWord_120 : decode cX12_readWord 120 = .ok (.iadd, 1) := by decide +kernel
theorem dX12_readWord_121 : decode cX12_readWord 121 = .ok (.putfield 130, 3) := by decide +kernel
theorem dX12_readWord_124 : decode cX12_readWord 124 = .ok (.aload_n 0, 1) := by decide +kernel
theorem dX12_readWord_125 : decode cX12_readWord 125 = .ok (.iload_n 2, 1) := by decide +kernel
theorem dX12_readWord_126 : decode cX12_readWord 126 = .ok (.bipush 115, 2) := by decide +kernel
theorem dX12_readWord_128 : decode cX12_readWord 128 = .ok (.if_icmp .ne 9, 3) := by decide +kernel
theorem dX12_readWord_131 : decode cX12_readWord 131 = .ok (.ldc2_w 161, 3) := by decide +kernel
theorem dX12_readWord_134 : decode cX12_readWord 134 = .ok (.goto 6, 3) := by decide +kernel
theorem dX12_readWord_137 : decode cX12_readWord 137 = .ok (.ldc2_w 163, 3) := by decide +kernel
theorem dX12_readWord_140 : decode cX12_readWord 140 = .ok (.invokevirtual 157, 3) := by decide +kernel
theorem dX12_readWord_143 : decode cX12_readWord 143 = .ok (.iload_n 2, 1) := by decide +kernel
theorem dX12_readWord_144 : decode cX12_readWord 144 = .ok (.bipush 115, 2) := by decide +kernel
theorem dX12_readWord_146 : decode cX12_readWord 146 = .ok (.if_icmp .ne 7, 3) := by decide +kernel
theorem dX12_readWord_149 : decode cX12_readWord 149 = .ok (.iconst 1, 1) := by decide +kernel
theorem dX12_readWord_150 : decode cX12_readWord 150 = .ok (.goto 4, 3) := by decide +kernel
theorem dX12_readWord_153 : decode cX12_readWord 153 = .ok (.iconst 3, 1) := by decide +kernel
theorem dX12_readWord_154 : decode cX12_readWord 154 = .ok (.ireturn, 1) := by decide +kernel
theorem dX12_isLetter_0 : decode cX12_isLetter 0 = .ok (.iload_n 0, 1) := by decide +kernel
theorem dX12_isLetter_1 : decode cX12_isLetter 1 = .ok (.bipush 99, 2) := by decide +kernel
theorem dX12_isLetter_3 : decode cX12_isLetter 3 = .ok (.if_icmp .eq 33, 3) := by decide +kernel
theorem dX12_isLetter_6 : decode cX12_isLetter 6 = .ok (.iload_n 0, 1) := by decide +kernel
theorem dX12_isLetter_7 : decode cX12_isLetter 7 = .ok (.bipush 107, 2) := by decide +kernel
theorem dX12_isLetter_9 : decode cX12_isLetter 9 = .ok (.if_icmp .eq 27, 3) := by decide +kernel
theorem dX12_isLetter_12 : decode cX12_isLetter 12 = .ok (.iload_n 0, 1) := by decide +kernel
theorem dX12_isLetter_13 : decode cX12_isLetter 13 = .ok (.bipush 116, 2) := by decide +kernel
theorem dX12_isLetter_15 : decode cX12_isLetter 15 = .ok (.if_icmp .eq 21, 3) := by decide +kernel
theorem dX12_isLetter_18 : decode cX12_isLetter 18 = .ok (.iload_n 0, 1) := by decide +kernel
theorem dX12_isLetter_19 : decode cX12_isLetter 19 = .ok (.bipush 111, 2) := by decide +kernel
theorem dX12_isLetter_21 : decode cX12_isLetter 21 = .ok (.if_icmp .eq 15, 3) := by decide +kernel
theorem dX12_isLetter_24 : decode cX12_isLetter 24 = .ok (.iload_n 0, 1) := by decide +kernel
theorem dX12_isLetter_25 : decode cX12_isLetter 25 = .ok (.bipush 110, 2) := by decide +kernel
theorem dX12_isLetter_27 : decode cX12_isLetter 27 = .ok (.if_icmp .eq 9, 3) := by decide +kernel
theorem dX12_isLetter_30 : decode cX12_isLetter 30 = .ok (.iload_n 0, 1) := by decide +kernel
theorem dX12_isLetter_31 : decode cX12_isLetter 31 = .ok (.bipush 100, 2) := by decide +kernel
theorem dX12_isLetter_33 : decode cX12_isLetter 33 = .ok (.if_icmp .ne 7, 3) := by decide +kernel
theorem dX12_isLetter_36 : decode cX12_isLetter 36 = .ok (.iconst 1, 1) := by decide +kernel
theorem dX12_isLetter_37 : decode cX12_isLetter 37 = .ok (.goto 4, 3) := by decide +kernel
theorem dX12_isLetter_40 : decode cX12_isLetter 40 = .ok (.iconst 0, 1) := by decide +kernel
theorem dX12_isLetter_41 : decode cX12_isLetter 41 = .ok (.ireturn, 1) := by decide +kernel
theorem dX12_factorEnds_0 : decode cX12_factorEnds 0 = .ok (.aload_n 0, 1) := by decide +kernel
theorem dX12_factorEnds_1 : decode cX12_factorEnds 1 = .ok (.dup, 1) := by decide +kernel
theorem dX12_factorEnds_2 : decode cX12_factorEnds 2 = .ok (.getfield 165, 3) := by decide +kernel
theorem dX12_factorEnds_5 : decode cX12_factorEnds 5 = .ok (.aload_n 0, 1) := by decide +kernel
theorem dX12_factorEnds_6 : decode cX12_factorEnds 6 = .ok (.getfield 53, 3) := by decide +kernel
theorem dX12_factorEnds_9 : decode cX12_factorEnds 9 = .ok (.aload_n 0, 1) := by decide +kernel
theorem dX12_factorEnds_10 : decode cX12_factorEnds 10 = .ok (.getfield 168, 3) := by decide +kernel
theorem dX12_factorEnds_13 : decode cX12_factorEnds 13 = .ok (.iaload, 1) := by decide +kernel
theorem dX12_factorEnds_14 : decode cX12_factorEnds 14 = .ok (.isub, 1) := by decide +kernel
theorem dX12_factorEnds_15 : decode cX12_factorEnds 15 = .ok (.putfield 165, 3) := by decide +kernel
theorem dX12_factorEnds_18 : decode cX12_factorEnds 18 = .ok (.aload_n 0, 1) := by decide +kernel
theorem dX12_factorEnds_19 : decode cX12_factorEnds 19 = .ok (.getfield 53, 3) := by decide +kernel
theorem dX12_factorEnds_22 : decode cX12_factorEnds 22 = .ok (.aload_n 0, 1) := by decide +kernel
theorem dX12_factorEnds_23 : decode cX12_factorEnds 23 = .ok (.getfield 168, 3) := by decide +kernel
theorem dX12_factorEnds_26 : decode cX12_factorEnds 26 = .ok (.iconst 0, 1) := by decide +kernel
theorem dX12_factorEnds_27 : decode cX12_factorEnds 27 = .ok (.iastore, 1) := by decide +kernel
theorem dX12_factorEnds_28 : decode cX12_factorEnds 28 = .ok (.return_, 1) := by decide +kernel
theorem dX12_readTest_0 : decode cX12_readTest 0 = .ok (.aload_n 0, 1) := by decide +kernel
theorem dX12_readTest_1 : decode cX12_readTest 1 = .ok (.aload_n 0, 1) := by decide +kernel
theorem dX12_readTest_2 : decode cX12_readTest 2 = .ok (.getfield 133, 3) := by decide +kernel
theorem dX12_readTest_5 : decode cX12_readTest 5 = .ok (.ifCond .ne 13, 3) := by decide +kernel
theorem dX12_readTest_8 : decode cX12_readTest 8 = .ok (.aload_n 0, 1) := by decide +kernel
theorem dX12_readTest_9 : decode cX12_readTest 9 = .ok (.invokevirtual 136, 3) := by decide +kernel
theorem dX12_readTest_12 : decode cX12_readTest 12 = .ok (.invokestatic 171, 3) := by decide +kernel
theorem dX12_readTest_15 : decode cX12_readTest 15 = .ok (.ifCond .ne 7, 3) := by decide +kernel
theorem dX12_readTest_18 : decode cX12_readTest 18 = .ok (.iconst 1, 1) := by decide +kernel
theorem dX12_readTest_19 : decode cX12_readTest 19 = .ok (.goto 4, 3) := by decide +kernel
theorem dX12_readTest_22 : decode cX12_readTest 22 = .ok (.iconst 0, 1) := by decide +kernel
theorem dX12_readTest_23 : decode cX12_readTest 23 = .ok (.putfield 133, 3) := by decide +kernel
theorem dX12_readTest_26 : decode cX12_readTest 26 = .ok (.aload_n 0, 1) := by decide +kernel
theorem dX12_readTest_27 : decode cX12_readTest 27 = .ok (.dup, 1) := by decide +kernel
theorem dX12_readTest_28 : decode cX12_readTest 28 = .ok (.getfield 130, 3) := by decide +kernel
theorem dX12_readTest_31 : decode cX12_readTest 31 = .ok (.aload_n 0, 1) := by decide +kernel
theorem dX12_readTest_32 : decode cX12_readTest 32 = .ok (.getfield 133, 3) := by decide +kernel
theorem dX12_readTest_35 : decode cX12_readTest 35 = .ok (.ifCond .eq 7, 3) := by decide +kernel
theorem dX12_readTest_38 : decode cX12_readTest 38 = .ok (.iconst 0, 1) := by decide +kernel
theorem dX12_readTest_39 : decode cX12_readTest 39 = .ok (.goto 4, 3) := by decide +kernel
theorem dX12_readTest_42 : decode cX12_readTest 42 = .ok (.iconst 1, 1) := by decide +kernel
theorem dX12_readTest_43 : decode cX12_readTest 43 = .ok (.iadd, 1) := by decide +kernel
theorem dX12_readTest_44 : decode cX12_readTest 44 = .ok (.putfield 130, 3) := by decide +kernel
theorem dX12_readTest_47 : decode cX12_readTest 47 = .ok (.aload_n 0, 1) := by decide +kernel
theorem dX12_readTest_48 : decode cX12_readTest 48 = .ok (.aload_n 0, 1) := by decide +kernel
theorem dX12_readTest_49 : decode cX12_readTest 49 = .ok (.getfield 133, 3) := by decide +kernel
theorem dX12_readTest_52 : decode cX12_readTest 52 = .ok (.ifCond .ne 20, 3) := by decide +kernel
theorem dX12_readTest_55 : decode cX12_readTest 55 = .ok (.aload_n 0, 1) := by decide +kernel
theorem dX12_readTest_56 : decode cX12_readTest 56 = .ok (.invokevirtual 136, 3) := by decide +kernel
theorem dX12_readTest_59 : decode cX12_readTest 59 = .ok (.i2l, 1) := by decide +kernel
theorem dX12_readTest_60 : decode cX12_readTest 60 = .ok (.ldc2_w 175, 3) := by decide +kernel
theorem dX12_readTest_63 : decode cX12_readTest 63 = .ok (.ldc2_w 177, 3) := by decide +kernel
theorem dX12_readTest_66 : decode cX12_readTest 66 = .ok (.invokestatic 91, 3) := by decide +kernel
theorem dX12_readTest_69 : decode cX12_readTest 69 = .ok (.ifCond .ne 7, 3) := by decide +kernel
theorem dX12_readTest_72 : decode cX12_readTest 72 = .ok (.iconst 1, 1) := by decide +kernel
theorem dX12_readTest_73 : decode cX12_readTest 73 = .ok (.goto 4, 3) := by decide +kernel
theorem dX12_readTest_76 : decode cX12_readTest 76 = .ok (.iconst 0, 1) := by decide +kernel
theorem dX12_readTest_77 : decode cX12_readTest 77 = .ok (.putfield 133, 3) := by decide +kernel
theorem dX12_readTest_80 : decode cX12_readTest 80 = .ok (.aload_n 0, 1) := by decide +kernel
theorem dX12_readTest_81 : decode cX12_readTest 81 = .ok (.dup, 1) := by decide +kernel
theorem dX12_readTest_82 : decode cX12_readTest 82 = .ok (.getfield 130, 3) := by decide +kernel
theorem dX12_readTest_85 : decode cX12_readTest 85 = .ok (.aload_n 0, 1) := by decide +kernel
theorem dX12_readTest_86 : decode cX12_readTest 86 = .ok (.getfield 133, 3) := by decide +kernel
theorem dX12_readTest_89 : decode cX12_readTest 89 = .ok (.ifCond .eq 7, 3) := by decide +kernel
theorem dX12_readTest_92 : decode cX12_readTest 92 = .ok (.iconst 0, 1) := by decide +kernel
theorem dX12_readTest_93 : decode cX12_readTest 93 = .ok (.goto 4, 3) := by decide +kernel
theorem dX12_readTest_96 : decode cX12_readTest 96 = .ok (.iconst 1, 1) := by decide +kernel
theorem dX12_readTest_97 : decode cX12_readTest 97 = .ok (.iadd, 1) := by decide +kernel
theorem dX12_readTest_98 : decode cX12_readTest 98 = .ok (.putfield 130, 3) := by decide +kernel
theorem dX12_readTest_101 : decode cX12_readTest 101 = .ok (.aload_n 0, 1) := by decide +kernel
theorem dX12_readTest_102 : decode cX12_readTest 102 = .ok (.invokevirtual 179, 3) := by decide +kernel
theorem dX12_readTest_105 : decode cX12_readTest 105 = .ok (.pop, 1) := by decide +kernel
theorem dX12_readTest_106 : decode cX12_readTest 106 = .ok (.aload_n 0, 1) := by decide +kernel
theorem dX12_readTest_107 : decode cX12_readTest 107 = .ok (.invokevirtual 182, 3) := by decide +kernel
theorem dX12_readTest_110 : decode cX12_readTest 110 = .ok (.return_, 1) := by decide +kernel
theorem dX12_readOpening_0 : decode cX12_readOpening 0 = .ok (.aload_n 0, 1) := by decide +kernel
theorem dX12_readOpening_1 : decode cX12_readOpening 1 = .ok (.aload_n 0, 1) := by decide +kernel
theorem dX12_readOpening_2 : decode cX12_readOpening 2 = .ok (.getfield 165, 3) := by decide +kernel
theorem dX12_readOpening_5 : decode cX12_readOpening 5 = .ok (.iconst 4, 1) := by decide +kernel
theorem dX12_readOpening_6 : decode cX12_readOpening 6 = .ok (.if_icmp .ne 7, 3) := by decide +kernel
theorem dX12_readOpening_9 : decode cX12_readOpening 9 = .ok (.iconst 1, 1) := by decide +kernel
theorem dX12_readOpening_10 : decode cX12_readOpening 10 = .ok (.goto 4, 3) := by decide +kernel
theorem dX12_readOpening_13 : decode cX12_readOpening 13 = .ok (.iconst 0, 1) := by decide +kernel
theorem dX12_readOpening_14 : decode cX12_readOpening 14 = .ok (.putfield 133, 3) := by decide +kernel
theorem dX12_readOpening_17 : decode cX12_readOpening 17 = .ok (.aload_n 0, 1) := by decide +kernel
theorem dX12_readOpening_18 : decode cX12_readOpening 18 = .ok (.getfield 133, 3) := by decide +kernel
theorem dX12_readOpening_21 : decode cX12_readOpening 21 = .ok (.ifCond .ne 65, 3) := by decide +kernel
theorem dX12_readOpening_24 : decode cX12_readOpening 24 = .ok (.aload_n 0, 1) := by decide +kernel
theorem dX12_readOpening_25 : decode cX12_readOpening 25 = .ok (.dup, 1) := by decide +kernel
theorem dX12_readOpening_26 : decode cX12_readOpening 26 = .ok (.getfield 165, 3) := by decide +kernel
theorem dX12_readOpening_29 : decode cX12_readOpening 29 = .ok (.iconst 1, 1) := by decide +kernel
theorem dX12_readOpening_30 : decode cX12_readOpening 30 = .ok (.iadd, 1) := by decide +kernel
theorem dX12_readOpening_31 : decode cX12_readOpening 31 = .ok (.putfield 165, 3) := by decide +kernel
theorem dX12_readOpening_34 : decode cX12_readOpening 34 = .ok (.aload_n 0, 1) := by decide +kernel
theorem dX12_readOpening_35 : decode cX12_readOpening 35 = .ok (.dup, 1) := by decide +kernel
theorem dX12_readOpening_36 : decode cX12_readOpening 36 = .ok (.getfield 130, 3) := by decide +kernel
theorem dX12_readOpening_39 : decode cX12_readOpening 39 = .ok (.iconst 1, 1) := by decide +kernel
theorem dX12_readOpening_40 : decode cX12_readOpening 40 = .ok (.iadd, 1) := by decide +kernel
theorem dX12_readOpening_41 : decode cX12_readOpening 41 = .ok (.putfield 130, 3) := by decide +kernel
theorem dX12_readOpening_44 : decode cX12_readOpening 44 = .ok (.iload_n 1, 1) := by decide +kernel
theorem dX12_readOpening_45 : decode cX12_readOpening 45 = .ok (.bipush 40, 2) := by decide +kernel
theorem dX12_readOpening_47 : decode cX12_readOpening 47 = .ok (.if_icmp .ne 26, 3) := by decide +kernel
theorem dX12_readOpening_50 : decode cX12_readOpening 50 = .ok (.aload_n 0, 1) := by decide +kernel
theorem dX12_readOpening_51 : decode cX12_readOpening 51 = .ok (.dup, 1) := by decide +kernel
theorem dX12_readOpening_52 : decode cX12_readOpening 52 = .ok (.getfield 168, 3) := by decide +kernel
theorem dX12_readOpening_55 : decode cX12_readOpening 55 = .ok (.iconst 1, 1) := by decide +kernel
theorem dX12_readOpening_56 : decode cX12_readOpening 56 = .ok (.iadd, 1) := by decide +kernel
theorem dX12_readOpening_57 : decode cX12_readOpening 57 = .ok (.putfield 168, 3) := by decide +kernel
theorem dX12_readOpening_60 : decode cX12_readOpening 60 = .ok (.aload_n 0, 1) := by decide +kernel
theorem dX12_readOpening_61 : decode cX12_readOpening 61 = .ok (.getfield 53, 3) := by decide +kernel
theorem dX12_readOpening_64 : decode cX12_readOpening 64 = .ok (.aload_n 0, 1) := by decide +kernel
theorem dX12_readOpening_65 : decode cX12_readOpening 65 = .ok (.getfield 168, 3) := by decide +kernel
theorem dX12_readOpening_68 : decode cX12_readOpening 68 = .ok (.iconst 0, 1) := by decide +kernel
theorem dX12_readOpening_69 : decode cX12_readOpening 69 = .ok (.iastore, 1) := by decide +kernel
theorem dX12_readOpening_70 : decode cX12_readOpening 70 = .ok (.goto 16, 3) := by decide +kernel
theorem dX12_readOpening_73 : decode cX12_readOpening 73 = .ok (.aload_n 0, 1) := by decide +kernel
theorem dX12_readOpening_74 : decode cX12_readOpening 74 = .ok (.getfield 53, 3) := by decide +kernel
theorem dX12_readOpening_77 : decode cX12_readOpening 77 = .ok (.aload_n 0, 1) := by decide +kernel
theorem dX12_readOpening_78 : decode cX12_readOpening 78 = .ok (.getfield 168, 3) := by decide +kernel
theorem dX12_readOpening_81 : decode cX12_readOpening 81 = .ok (.dup2, 1) := by decide +kernel
theorem dX12_readOpening_82 : decode cX12_readOpening 82 = .ok (.iaload, 1) := by decide +kernel
theorem dX12_readOpening_83 : decode cX12_readOpening 83 = .ok (.iconst 1, 1) := by decide +kernel
theorem dX12_readOpening_84 : decode cX12_readOpening 84 = .ok (.iadd, 1) := by decide +kernel
theorem dX12_readOpening_85 : decode cX12_readOpening 85 = .ok (.iastore, 1) := by decide +kernel
theorem dX12_readOpening_86 : decode cX12_readOpening 86 = .ok (.return_, 1) := by decide +kernel
theorem dX12_readExpression_0 : decode cX12_readExpression 0 = .ok (.aload_n 0, 1) := by decide +kernel
theorem dX12_readExpression_1 : decode cX12_readExpression 1 = .ok (.iconst 0, 1) := by decide +kernel
theorem dX12_readExpression_2 : decode cX12_readExpression 2 = .ok (.putfield 168, 3) := by decide +kernel
theorem dX12_readExpression_5 : decode cX12_readExpression 5 = .ok (.aload_n 0, 1) := by decide +kernel
theorem dX12_readExpression_6 : decode cX12_readExpression 6 = .ok (.iconst 0, 1) := by decide +kernel
theorem dX12_readExpression_7 : decode cX12_readExpression 7 = .ok (.putfield 165, 3) := by decide +kernel
theorem dX12_readExpression_10 : decode cX12_readExpression 10 = .ok (.aload_n 0, 1) := by decide +kernel
theorem dX12_readExpression_11 : decode cX12_readExpression 11 = .ok (.getfield 53, 3) := by decide +kernel
theorem dX12_readExpression_14 : decode cX12_readExpression 14 = .ok (.iconst 0, 1) := by decide +kernel
theorem dX12_readExpression_15 : decode cX12_readExpression 15 = .ok (.iconst 0, 1) := by decide +kernel
theorem dX12_readExpression_16 : decode cX12_readExpression 16 = .ok (.iastore, 1) := by decide +kernel
theorem dX12_readExpression_17 : decode cX12_readExpression 17 = .ok (.iconst 1, 1) := by decide +kernel
theorem dX12_readExpression_18 : decode cX12_readExpression 18 = .ok (.istore_n 1, 1) := by decide +kernel
theorem dX12_readExpression_19 : decode cX12_readExpression 19 = .ok (.iconst 0, 1) := by decide +kernel
theorem dX12_readExpression_20 : decode cX12_readExpression 20 = .ok (.istore_n 2, 1) := by decide +kernel
theorem dX12_readExpression_21 : decode cX12_readExpression 21 = .ok (.aload_n 0, 1) := by decide +kernel
theorem dX12_readExpression_22 : decode cX12_readExpression 22 = .ok (.getfield 133, 3) := by decide +kernel
theorem dX12_readExpression_25 : decode cX12_readExpression 25 = .ok (.ifCond .ne 143, 3) := by decide +kernel
theorem dX12_readExpression_28 : decode cX12_readExpression 28 = .ok (.iload_n 2, 1) := by decide +kernel
theorem dX12_readExpression_29 : decode cX12_readExpression 29 = .ok (.ifCond .ne 139, 3) := by decide +kernel
theorem dX12_readExpression_32 : decode cX12_readExpression 32 = .ok (.aload_n 0, 1) := by decide +kernel
theorem dX12_readExpression_33 : decode cX12_readExpression 33 = .ok (.invokevirtual 136, 3) := by decide +kernel
theorem dX12_readExpression_36 : decode cX12_readExpression 36 = .ok (.istore_n 3, 1) := by decide +kernel
theorem dX12_readExpression_37 : decode cX12_readExpression 37 = .ok (.iload_n 1, 1) := by decide +kernel
theorem dX12_readExpression_38 : decode cX12_readExpression 38 = .ok (.ifCond .eq 32, 3) := by decide +kernel
theorem dX12_readExpression_41 : decode cX12_readExpression 41 = .ok (.iload_n 3, 1) := by decide +kernel
theorem dX12_readExpression_42 : decode cX12_readExpression 42 = .ok (.bipush 33, 2) := by decide +kernel
theorem dX12_readExpression_44 : decode cX12_readExpression 44 = .ok (.if_icmp .eq 9, 3) := by decide +kernel
theorem dX12_readExpression_47 : decode cX12_readExpression 47 = .ok (.iload_n 3, 1) := by decide +kernel
theorem dX12_readExpression_48 : decode cX12_readExpression 48 = .ok (.bipush 40, 2) := by decide +kernel
theorem dX12_readExpression_50 : decode cX12_readExpression 50 = .ok (.if_icmp .ne 11, 3) := by decide +kernel
theorem dX12_readExpression_53 : decode cX12_readExpression 53 = .ok (.aload_n 0, 1) := by decide +kernel
theorem dX12_readExpression_54 : decode cX12_readExpression 54 = .ok (.iload_n 3, 1) := by decide +kernel
theorem dX12_readExpression_55 : decode cX12_readExpression 55 = .ok (.invokevirtual 185, 3) := by decide +kernel
theorem dX12_readExpression_58 : decode cX12_readExpression 58 = .ok (.goto 107, 3) := by decide +kernel
theorem dX12_readExpression_61 : decode cX12_readExpression 61 = .ok (.aload_n 0, 1) := by decide +kernel
theorem dX12_readExpression_62 : decode cX12_readExpression 62 = .ok (.invokevirtual 188, 3) := by decide +kernel
theorem dX12_readExpression_65 : decode cX12_readExpression 65 = .ok (.iconst 0, 1) := by decide +kernel
theorem dX12_readExpression_66 : decode cX12_readExpression 66 = .ok (.istore_n 1, 1) := by decide +kernel
theorem dX12_readExpression_67 : decode cX12_readExpression 67 = .ok (.goto 98, 3) := by decide +kernel
theorem dX12_readExpression_70 : decode cX12_readExpression 70 = .ok (.iload_n 3, 1) := by decide +kernel
theorem dX12_readExpression_71 : decode cX12_readExpression 71 = .ok (.bipush 38, 2) := by decide +kernel
theorem dX12_readExpression_73 : decode cX12_readExpression 73 = .ok (.if_icmp .eq 9, 3) := by decide +kernel
theorem dX12_readExpression_76 : decode cX12_readExpression 76 = .ok (.iload_n 3, 1) := by decide +kernel
theorem dX12_readExpression_77 : decode cX12_readExpression 77 = .ok (.bipush 124, 2) := by decide +kernel
theorem dX12_readExpression_79 : decode cX12_readExpression 79 = .ok (.if_icmp .ne 18, 3) := by decide +kernel
theorem dX12_readExpression_82 : decode cX12_readExpression 82 = .ok (.aload_n 0, 1) := by decide +kernel
theorem dX12_readExpression_83 : decode cX12_readExpression 83 = .ok (.dup, 1) := by decide +kernel
theorem dX12_readExpression_84 : decode cX12_readExpression 84 = .ok (.getfield 130, 3) := by decide +kernel
theorem dX12_readExpression_87 : decode cX12_readExpression 87 = .ok (.iconst 1, 1) := by decide +kernel
theorem dX12_readExpression_88 : decode cX12_readExpression 88 = .ok (.iadd, 1) := by decide +kernel
theorem dX12_readExpression_89 : decode cX12_readExpression 89 = .ok (.putfield 130, 3) := by decide +kernel
theorem dX12_readExpression_92 : decode cX12_readExpression 92 = .ok (.iconst 1, 1) := by decide +kernel
theorem dX12_readExpression_93 : decode cX12_readExpression 93 = .ok (.istore_n 1, 1) := by decide +kernel
theorem dX12_readExpression_94 : decode cX12_readExpression 94 = .ok (.goto 71, 3) := by decide +kernel
theorem dX12_readExpression_97 : decode cX12_readExpression 97 = .ok (.iload_n 3, 1) := by decide +kernel
theorem dX12_readExpression_98 : decode cX12_readExpression 98 = .ok (.bipush 41, 2) := by decide +kernel
theorem dX12_readExpression_100 : decode cX12_readExpression 100 = .ok (.if_icmp .ne 47, 3) := by decide +kernel
theorem dX12_readExpression_103 : decode cX12_readExpression 103 = .ok (.aload_n 0, 1) := by decide +kernel
theorem dX12_readExpression_104 : decode cX12_readExpression 104 = .ok (.getfield 168, 3) := by decide +kernel
theorem dX12_readExpression_107 : decode cX12_readExpression 107 = .ok (.ifCond .le 40, 3) := by decide +kernel
theorem dX12_readExpression_110 : decode cX12_readExpression 110 = .ok (.aload_n 0, 1) := by decide +kernel
theorem dX12_readExpression_111 : decode cX12_readExpression 111 = .ok (.dup, 1) := by decide +kernel
theorem dX12_readExpression_112 : decode cX12_readExpression 112 = .ok (.getfield 130, 3) := by decide +kernel
theorem dX12_readExpression_115 : decode cX12_readExpression 115 = .ok (.iconst 1, 1) := by decide +kernel
theorem dX12_readExpression_116 : decode cX12_readExpression 116 = .ok (.iadd, 1) := by decide +kernel
theorem dX12_readExpression_117 : decode cX12_readExpression 117 = .ok (.putfield 130, 3) := by decide +kernel
theorem dX12_readExpression_120 : decode cX12_readExpression 120 = .ok (.aload_n 0, 1) := by decide +kernel
theorem dX12_readExpression_121 : decode cX12_readExpression 121 = .ok (.dup, 1) := by decide +kernel
theorem dX12_readExpression_122 : decode cX12_readExpression 122 = .ok (.getfield 168, 3) := by decide +kernel
theorem dX12_readExpression_125 : decode cX12_readExpression 125 = .ok (.iconst 1, 1) := by decide +kernel
theorem dX12_readExpression_126 : decode cX12_readExpression 126 = .ok (.isub, 1) := by decide +kernel
theorem dX12_readExpression_127 : decode cX12_readExpression 127 = .ok (.putfield 168, 3) := by decide +kernel
theorem dX12_readExpression_130 : decode cX12_readExpression 130 = .ok (.aload_n 0, 1) := by decide +kernel
theorem dX12_readExpression_131 : decode cX12_readExpression 131 = .ok (.dup, 1) := by decide +kernel
theorem dX12_readExpression_132 : decode cX12_readExpression 132 = .ok (.getfield 165, 3) := by decide +kernel
theorem dX12_readExpression_135 : decode cX12_readExpression 135 = .ok (.iconst 1, 1) := by decide +kernel
theorem dX12_readExpression_136 : decode cX12_readExpression 136 = .ok (.isub, 1) := by decide +kernel
theorem dX12_readExpression_137 : decode cX12_readExpression 137 = .ok (.putfield 165, 3) := by decide +kernel
theorem dX12_readExpression_140 : decode cX12_readExpression 140 = .ok (.aload_n 0, 1) := by decide +kernel
theorem dX12_readExpression_141 : decode cX12_readExpression 141 = .ok (.invokevirtual 182, 3) := by decide +kernel
theorem dX12_readExpression_144 : decode cX12_readExpression 144 = .ok (.goto 21, 3) := by decide +kernel
theorem dX12_readExpression_147 : decode cX12_readExpression 147 = .ok (.iconst 1, 1) := by decide +kernel
theorem dX12_readExpression_148 : decode cX12_readExpression 148 = .ok (.istore_n 2, 1) := by decide +kernel
theorem dX12_readExpression_149 : decode cX12_readExpression 149 = .ok (.aload_n 0, 1) := by decide +kernel
theorem dX12_readExpression_150 : decode cX12_readExpression 150 = .ok (.aload_n 0, 1) := by decide +kernel
theorem dX12_readExpression_151 : decode cX12_readExpression 151 = .ok (.getfield 168, 3) := by decide +kernel
theorem dX12_readExpression_154 : decode cX12_readExpression 154 = .ok (.ifCond .le 7, 3) := by decide +kernel
theorem dX12_readExpression_157 : decode cX12_readExpression 157 = .ok (.iconst 1, 1) := by decide +kernel
theorem dX12_readExpression_158 : decode cX12_readExpression 158 = .ok (.goto 4, 3) := by decide +kernel
theorem dX12_readExpression_161 : decode cX12_readExpression 161 = .ok (.iconst 0, 1) := by decide +kernel
theorem dX12_readExpression_162 : decode cX12_readExpression 162 = .ok (.putfield 133, 3) := by decide +kernel
theorem dX12_readExpression_165 : decode cX12_readExpression 165 = .ok (.goto (-144), 3) := by decide +kernel
theorem dX12_readExpression_168 : decode cX12_readExpression 168 = .ok (.return_, 1) := by decide +kernel
theorem dX12_readClause_0 : decode cX12_readClause 0 = .ok (.aload_n 0, 1) := by decide +kernel
theorem dX12_readClause_1 : decode cX12_readClause 1 = .ok (.invokevirtual 191, 3) := by decide +kernel
theorem dX12_readClause_4 : decode cX12_readClause 4 = .ok (.istore_n 2, 1) := by decide +kernel
theorem dX12_readClause_5 : decode cX12_readClause 5 = .ok (.aload_n 0, 1) := by decide +kernel
theorem dX12_readClause_6 : decode cX12_readClause 6 = .ok (.getfield 41, 3) := by decide +kernel
theorem dX12_readClause_9 : decode cX12_readClause 9 = .ok (.iload_n 1, 1) := by decide +kernel
theorem dX12_readClause_10 : decode cX12_readClause 10 = .ok (.iload_n 2, 1) := by decide +kernel
theorem dX12_readClause_11 : decode cX12_readClause 11 = .ok (.iastore, 1) := by decide +kernel
theorem dX12_readClause_12 : decode cX12_readClause 12 = .ok (.aload_n 0, 1) := by decide +kernel
theorem dX12_readClause_13 : decode cX12_readClause 13 = .ok (.getfield 44, 3) := by decide +kernel
theorem dX12_readClause_16 : decode cX12_readClause 16 = .ok (.iload_n 1, 1) := by decide +kernel
theorem dX12_readClause_17 : decode cX12_readClause 17 = .ok (.aload_n 0, 1) := by decide +kernel
theorem dX12_readClause_18 : decode cX12_readClause 18 = .ok (.invokevirtual 179, 3) := by decide +kernel
theorem dX12_readClause_21 : decode cX12_readClause 21 = .ok (.iastore, 1) := by decide +kernel
theorem dX12_readClause_22 : decode cX12_readClause 22 = .ok (.iload_n 2, 1) := by decide +kernel
theorem dX12_readClause_23 : decode cX12_readClause 23 = .ok (.iconst 2, 1) := by decide +kernel
theorem dX12_readClause_24 : decode cX12_readClause 24 = .ok (.if_icmp .ge 37, 3) := by decide +kernel
theorem dX12_readClause_27 : decode cX12_readClause 27 = .ok (.aload_n 0, 1) := by decide +kernel
theorem dX12_readClause_28 : decode cX12_readClause 28 = .ok (.getfield 133, 3) := by decide +kernel
theorem dX12_readClause_31 : decode cX12_readClause 31 = .ok (.ifCond .ne 30, 3) := by decide +kernel
theorem dX12_readClause_34 : decode cX12_readClause 34 = .ok (.aload_n 0, 1) := by decide +kernel
theorem dX12_readClause_35 : decode cX12_readClause 35 = .ok (.bipush 32, 2) := by decide +kernel
theorem dX12_readClause_37 : decode cX12_readClause 37 = .ok (.invokevirtual 142, 3) := by decide +kernel
theorem dX12_readClause_40 : decode cX12_readClause 40 = .ok (.aload_n 0, 1) := by decide +kernel
theorem dX12_readClause_41 : decode cX12_readClause 41 = .ok (.getfield 47, 3) := by decide +kernel
theorem dX12_readClause_44 : decode cX12_readClause 44 = .ok (.iload_n 1, 1) := by decide +kernel
theorem dX12_readClause_45 : decode cX12_readClause 45 = .ok (.aload_n 0, 1) := by decide +kernel
theorem dX12_readClause_46 : decode cX12_readClause 46 = .ok (.getfield 130, 3) := by decide +kernel
theorem dX12_readClause_49 : decode cX12_readClause 49 = .ok (.iastore, 1) := by decide +kernel
theorem dX12_readClause_50 : decode cX12_readClause 50 = .ok (.aload_n 0, 1) := by decide +kernel
theorem dX12_readClause_51 : decode cX12_readClause 51 = .ok (.getfield 133, 3) := by decide +kernel
theorem dX12_readClause_54 : decode cX12_readClause 54 = .ok (.ifCond .ne 7, 3) := by decide +kernel
theorem dX12_readClause_57 : decode cX12_readClause 57 = .ok (.aload_n 0, 1) := by decide +kernel
theorem dX12_readClause_58 : decode cX12_readClause 58 = .ok (.invokevirtual 194, 3) := by decide +kernel
theorem dX12_readClause_61 : decode cX12_readClause 61 = .ok (.return_, 1) := by decide +kernel
theorem dX12_counter_0 : decode cX12_counter 0 = .ok (.aload_n 0, 1) := by decide +kernel
theorem dX12_counter_1 : decode cX12_counter 1 = .ok (.iconst 0, 1) := by decide +kernel
theorem dX12_counter_2 : decode cX12_counter 2 = .ok (.putfield 85, 3) := by decide +kernel
theorem dX12_counter_5 : decode cX12_counter 5 = .ok (.aload_n 0, 1) := by decide +kernel
theorem dX12_counter_6 : decode cX12_counter 6 = .ok (.getfield 197, 3) := by decide +kernel
theorem dX12_counter_9 : decode cX12_counter 9 = .ok (.bipush 6, 2) := by decide +kernel
theorem dX12_counter_11 : decode cX12_counter 11 = .ok (.if_icmp .ne 6, 3) := by decide +kernel
theorem dX12_counter_14 : decode cX12_counter 14 = .ok (.bipush (-4), 2) := by decide +kernel
theorem dX12_counter_16 : decode cX12_counter 16 = .ok (.ireturn, 1) := by decide +kernel
theorem dX12_counter_17 : decode cX12_counter 17 = .ok (.aload_n 0, 1) := by decide +kernel
theorem dX12_counter_18 : decode cX12_counter 18 = .ok (.iconst 0, 1) := by decide +kernel
theorem dX12_counter_19 : decode cX12_counter 19 = .ok (.putfield 130, 3) := by decide +kernel
theorem dX12_counter_22 : decode cX12_counter 22 = .ok (.aload_n 0, 1) := by decide +kernel
theorem dX12_counter_23 : decode cX12_counter 23 = .ok (.iconst 0, 1) := by decide +kernel
theorem dX12_counter_24 : decode cX12_counter 24 = .ok (.putfield 133, 3) := by decide +kernel
theorem dX12_counter_27 : decode cX12_counter 27 = .ok (.iconst 0, 1) := by decide +kernel
theorem dX12_counter_28 : decode cX12_counter 28 = .ok (.istore_n 1, 1) := by decide +kernel
theorem dX12_counter_29 : decode cX12_counter 29 = .ok (.iconst 0, 1) := by decide +kernel
theorem dX12_counter_30 : decode cX12_counter 30 = .ok (.istore_n 2, 1) := by decide +kernel
theorem dX12_counter_31 : decode cX12_counter 31 = .ok (.aload_n 0, 1) := by decide +kernel
theorem dX12_counter_32 : decode cX12_counter 32 = .ok (.getfield 133, 3) := by decide +kernel
theorem dX12_counter_35 : decode cX12_counter 35 = .ok (.ifCond .ne 78, 3) := by decide +kernel
theorem dX12_counter_38 : decode cX12_counter 38 = .ok (.iload_n 2, 1) := by decide +kernel
theorem dX12_counter_39 : decode cX12_counter 39 = .ok (.ifCond .ne 74, 3) := by decide +kernel
theorem dX12_counter_42 : decode cX12_counter 42 = .ok (.aload_n 0, 1) := by decide +kernel
theorem dX12_counter_43 : decode cX12_counter 43 = .ok (.bipush 10, 2) := by decide +kernel
theorem dX12_counter_45 : decode cX12_counter 45 = .ok (.aload_n 0, 1) := by decide +kernel
theorem dX12_counter_46 : decode cX12_counter 46 = .ok (.getfield 197, 3) := by decide +kernel
theorem dX12_counter_49 : decode cX12_counter 49 = .ok (.imul, 1) := by decide +kernel
theorem dX12_counter_50 : decode cX12_counter 50 = .ok (.iload_n 1, 1) := by decide +kernel
theorem dX12_counter_51 : decode cX12_counter 51 = .ok (.iadd, 1) := by decide +kernel
theorem dX12_counter_52 : decode cX12_counter 52 = .ok (.invokevirtual 200, 3) := by decide +kernel
theorem dX12_counter_55 : decode cX12_counter 55 = .ok (.iinc 1 1, 3) := by decide +kernel
theorem dX12_counter_58 : decode cX12_counter 58 = .ok (.aload_n 0, 1) := by decide +kernel
theorem dX12_counter_59 : decode cX12_counter 59 = .ok (.getfield 133, 3) := by decide +kernel
theorem dX12_counter_62 : decode cX12_counter 62 = .ok (.ifCond .ne 18, 3) := by decide +kernel
theorem dX12_counter_65 : decode cX12_counter 65 = .ok (.aload_n 0, 1) := by decide +kernel
theorem dX12_counter_66 : decode cX12_counter 66 = .ok (.getfield 130, 3) := by decide +kernel
theorem dX12_counter_69 : decode cX12_counter 69 = .ok (.aload_n 0, 1) := by decide +kernel
theorem dX12_counter_70 : decode cX12_counter 70 = .ok (.getfield 127, 3) := by decide +kernel
theorem dX12_counter_73 : decode cX12_counter 73 = .ok (.if_icmp .ne 7, 3) := by decide +kernel
theorem dX12_counter_76 : decode cX12_counter 76 = .ok (.iconst 1, 1) := by decide +kernel
theorem dX12_counter_77 : decode cX12_counter 77 = .ok (.goto 4, 3) := by decide +kernel
theorem dX12_counter_80 : decode cX12_counter 80 = .ok (.iconst 0, 1) := by decide +kernel
theorem dX12_counter_81 : decode cX12_counter 81 = .ok (.istore_n 2, 1) := by decide +kernel
theorem dX12_counter_82 : decode cX12_counter 82 = .ok (.iload_n 2, 1) := by decide +kernel
theorem dX12_counter_83 : decode cX12_counter 83 = .ok (.ifCond .ne 17, 3) := by decide +kernel
theorem dX12_counter_86 : decode cX12_counter 86 = .ok (.iload_n 1, 1) := by decide +kernel
theorem dX12_counter_87 : decode cX12_counter 87 = .ok (.bipush 10, 2) := by decide +kernel
theorem dX12_counter_89 : decode cX12_counter 89 = .ok (.if_icmp .ne 11, 3) := by decide +kernel
theorem dX12_counter_92 : decode cX12_counter 92 = .ok (.aload_n 0, 1) := by decide +kernel
theorem dX12_counter_93 : decode cX12_counter 93 = .ok (.iconst 1, 1) := by decide +kernel
theorem dX12_counter_94 : decode cX12_counter 94 = .ok (.putfield 133, 3) := by decide +kernel
theorem dX12_counter_97 : decode cX12_counter 97 = .ok (.goto (-66), 3) := by decide +kernel
theorem dX12_counter_100 : decode cX12_counter 100 = .ok (.iload_n 2, 1) := by decide +kernel
theorem dX12_counter_101 : decode cX12_counter 101 = .ok (.ifCond .ne (-70), 3) := by decide +kernel
theorem dX12_counter_104 : decode cX12_counter 104 = .ok (.aload_n 0, 1) := by decide +kernel
theorem dX12_counter_105 : decode cX12_counter 105 = .ok (.bipush 59, 2) := by decide +kernel
theorem dX12_counter_107 : decode cX12_counter 107 = .ok (.invokevirtual 142, 3) := by decide +kernel
theorem dX12_counter_110 : decode cX12_counter 110 = .ok (.goto (-79), 3) := by decide +kernel
theorem dX12_counter_113 : decode cX12_counter 113 = .ok (.aload_n 0, 1) := by decide +kernel
theorem dX12_counter_114 : decode cX12_counter 114 = .ok (.getfield 127, 3) := by decide +kernel
theorem dX12_counter_117 : decode cX12_counter 117 = .ok (.istore_n 3, 1) := by decide +kernel
theorem dX12_counter_118 : decode cX12_counter 118 = .ok (.aload_n 0, 1) := by decide +kernel
theorem dX12_counter_119 : decode cX12_counter 119 = .ok (.iconst 0, 1) := by decide +kernel
theorem dX12_counter_120 : decode cX12_counter 120 = .ok (.putfield 127, 3) := by decide +kernel
theorem dX12_counter_123 : decode cX12_counter 123 = .ok (.aload_n 0, 1) := by decide +kernel
theorem dX12_counter_124 : decode cX12_counter 124 = .ok (.getfield 133, 3) := by decide +kernel
theorem dX12_counter_127 : decode cX12_counter 127 = .ok (.ifCond .eq 11, 3) := by decide +kernel
theorem dX12_counter_130 : decode cX12_counter 130 = .ok (.bipush (-10), 2) := by decide +kernel
theorem dX12_counter_132 : decode cX12_counter 132 = .ok (.aload_n 0, 1) := by decide +kernel
theorem dX12_counter_133 : decode cX12_counter 133 = .ok (.getfield 130, 3) := by decide +kernel
theorem dX12_counter_136 : decode cX12_counter 136 = .ok (.isub, 1) := by decide +kernel
theorem dX12_counter_137 : decode cX12_counter 137 = .ok (.ireturn, 1) := by decide +kernel
theorem dX12_counter_138 : decode cX12_counter 138 = .ok (.iconst 0, 1) := by decide +kernel
theorem dX12_counter_139 : decode cX12_counter 139 = .ok (.istore 4, 2) := by decide +kernel
theorem dX12_counter_141 : decode cX12_counter 141 = .ok (.iload 4, 2) := by decide +kernel
theorem dX12_counter_143 : decode cX12_counter 143 = .ok (.iload_n 3, 1) := by decide +kernel
theorem dX12_counter_144 : decode cX12_counter 144 = .ok (.if_icmp .ge 31, 3) := by decide +kernel
theorem dX12_counter_147 : decode cX12_counter 147 = .ok (.aload_n 0, 1) := by decide +kernel
theorem dX12_counter_148 : decode cX12_counter 148 = .ok (.getfield 35, 3) := by decide +kernel
theorem dX12_counter_151 : decode cX12_counter 151 = .ok (.bipush 100, 2) := by decide +kernel
theorem dX12_counter_153 : decode cX12_counter 153 = .ok (.aload_n 0, 1) := by decide +kernel
theorem dX12_counter_154 : decode cX12_counter 154 = .ok (.getfield 197, 3) := by decide +kernel
theorem dX12_counter_157 : decode cX12_counter 157 = .ok (.imul, 1) := by decide +kernel
theorem dX12_counter_158 : decode cX12_counter 158 = .ok (.iload 4, 2) := by decide +kernel
theorem dX12_counter_160 : decode cX12_counter 160 = .ok (.iadd, 1) := by decide +kernel
theorem dX12_counter_161 : decode cX12_counter 161 = .ok (.aload_n 0, 1) := by decide +kernel
theorem dX12_counter_162 : decode cX12_counter 162 = .ok (.getfield 32, 3) := by decide +kernel
theorem dX12_counter_165 : decode cX12_counter 165 = .ok (.iload 4, 2) := by decide +kernel
theorem dX12_counter_167 : decode cX12_counter 167 = .ok (.iaload, 1) := by decide +kernel
theorem dX12_counter_168 : decode cX12_counter 168 = .ok (.iastore, 1) := by decide +kernel
theorem dX12_counter_169 : decode cX12_counter 169 = .ok (.iinc 4 1, 3) := by decide +kernel
theorem dX12_counter_172 : decode cX12_counter 172 = .ok (.goto (-31), 3) := by decide +kernel
theorem dX12_counter_175 : decode cX12_counter 175 = .ok (.aload_n 0, 1) := by decide +kernel
theorem dX12_counter_176 : decode cX12_counter 176 = .ok (.getfield 38, 3) := by decide +kernel
theorem dX12_counter_179 : decode cX12_counter 179 = .ok (.aload_n 0, 1) := by decide +kernel
theorem dX12_counter_180 : decode cX12_counter 180 = .ok (.getfield 197, 3) := by decide +kernel
theorem dX12_counter_183 : decode cX12_counter 183 = .ok (.iload_n 3, 1) := by decide +kernel
theorem dX12_counter_184 : decode cX12_counter 184 = .ok (.iastore, 1) := by decide +kernel
theorem dX12_counter_185 : decode cX12_counter 185 = .ok (.aload_n 0, 1) := by decide +kernel
theorem dX12_counter_186 : decode cX12_counter 186 = .ok (.getfield 50, 3) := by decide +kernel
theorem dX12_counter_189 : decode cX12_counter 189 = .ok (.aload_n 0, 1) := by decide +kernel
theorem dX12_counter_190 : decode cX12_counter 190 = .ok (.getfield 197, 3) := by decide +kernel
theorem dX12_counter_193 : decode cX12_counter 193 = .ok (.iload_n 1, 1) := by decide +kernel
theorem dX12_counter_194 : decode cX12_counter 194 = .ok (.iastore, 1) := by decide +kernel
theorem dX12_counter_195 : decode cX12_counter 195 = .ok (.aload_n 0, 1) := by decide +kernel
theorem dX12_counter_196 : decode cX12_counter 196 = .ok (.aload_n 0, 1) := by decide +kernel
theorem dX12_counter_197 : decode cX12_counter 197 = .ok (.getfield 197, 3) := by decide +kernel
theorem dX12_counter_200 : decode cX12_counter 200 = .ok (.putfield 17, 3) := by decide +kernel
theorem dX12_counter_203 : decode cX12_counter 203 = .ok (.aload_n 0, 1) := by decide +kernel
theorem dX12_counter_204 : decode cX12_counter 204 = .ok (.dup, 1) := by decide +kernel
theorem dX12_counter_205 : decode cX12_counter 205 = .ok (.getfield 197, 3) := by decide +kernel
theorem dX12_counter_208 : decode cX12_counter 208 = .ok (.iconst 1, 1) := by decide +kernel
theorem dX12_counter_209 : decode cX12_counter 209 = .ok (.iadd, 1) := by decide +kernel
theorem dX12_counter_210 : decode cX12_counter 210 = .ok (.putfield 197, 3) := by decide +kernel
theorem dX12_counter_213 : decode cX12_counter 213 = .ok (.aload_n 0, 1) := by decide +kernel
theorem dX12_counter_214 : decode cX12_counter 214 = .ok (.getfield 17, 3) := by decide +kernel
theorem dX12_counter_217 : decode cX12_counter 217 = .ok (.ireturn, 1) := by decide +kernel
theorem dX12_sign_0 : decode cX12_sign 0 = .ok (.iload_n 1, 1) := by decide +kernel
theorem dX12_sign_1 : decode cX12_sign 1 = .ok (.aload_n 0, 1) := by decide +kernel
theorem dX12_sign_2 : decode cX12_sign 2 = .ok (.getfield 38, 3) := by decide +kernel
theorem dX12_sign_5 : decode cX12_sign 5 = .ok (.aload_n 0, 1) := by decide +kernel
theorem dX12_sign_6 : decode cX12_sign 6 = .ok (.getfield 17, 3) := by decide +kernel
theorem dX12_sign_9 : decode cX12_sign 9 = .ok (.iaload, 1) := by decide +kernel
theorem dX12_sign_10 : decode cX12_sign 10 = .ok (.if_icmp .ge 20, 3) := by decide +kernel
theorem dX12_sign_13 : decode cX12_sign 13 = .ok (.aload_n 0, 1) := by decide +kernel
theorem dX12_sign_14 : decode cX12_sign 14 = .ok (.getfield 35, 3) := by decide +kernel
theorem dX12_sign_17 : decode cX12_sign 17 = .ok (.bipush 100, 2) := by decide +kernel
theorem dX12_sign_19 : decode cX12_sign 19 = .ok (.aload_n 0, 1) := by decide +kernel
theorem dX12_sign_20 : decode cX12_sign 20 = .ok (.getfield 17, 3) := by decide +kernel
theorem dX12_sign_23 : decode cX12_sign 23 = .ok (.imul, 1) := by decide +kernel
theorem dX12_sign_24 : decode cX12_sign 24 = .ok (.iload_n 1, 1) := by decide +kernel
theorem dX12_sign_25 : decode cX12_sign 25 = .ok (.iadd, 1) := by decide +kernel
theorem dX12_sign_26 : decode cX12_sign 26 = .ok (.iaload, 1) := by decide +kernel
theorem dX12_sign_27 : decode cX12_sign 27 = .ok (.goto 4, 3) := by decide +kernel
theorem dX12_sign_30 : decode cX12_sign 30 = .ok (.iconst (-1), 1) := by decide +kernel
theorem dX12_sign_31 : decode cX12_sign 31 = .ok (.ireturn, 1) := by decide +kernel
theorem dX12_tested_0 : decode cX12_tested 0 = .ok (.iload_n 2, 1) := by decide +kernel
theorem dX12_tested_1 : decode cX12_tested 1 = .ok (.lookupswitch 81 #[(99, 51), (107, 53), (110, 74), (111, 67), (116, 60)], 51) := by decide +kernel
theorem dX12_tested_52 : decode cX12_tested 52 = .ok (.iload_n 1, 1) := by decide +kernel
theorem dX12_tested_53 : decode cX12_tested 53 = .ok (.ireturn, 1) := by decide +kernel
theorem dX12_tested_54 : decode cX12_tested 54 = .ok (.aload_n 0, 1) := by decide +kernel
theorem dX12_tested_55 : decode cX12_tested 55 = .ok (.iload_n 1, 1) := by decide +kernel
theorem dX12_tested_56 : decode cX12_tested 56 = .ok (.iconst 0, 1) := by decide +kernel
theorem dX12_tested_57 : decode cX12_tested 57 = .ok (.invokevirtual 203, 3) := by decide +kernel
theorem dX12_tested_60 : decode cX12_tested 60 = .ok (.ireturn, 1) := by decide +kernel
theorem dX12_tested_61 : decode cX12_tested 61 = .ok (.aload_n 0, 1) := by decide +kernel
theorem dX12_tested_62 : decode cX12_tested 62 = .ok (.iload_n 1, 1) := by decide +kernel
theorem dX12_tested_63 : decode cX12_tested 63 = .ok (.iconst 3, 1) := by decide +kernel
theorem dX12_tested_64 : decode cX12_tested 64 = .ok (.invokevirtual 203, 3) := by decide +kernel
theorem dX12_tested_67 : decode cX12_tested 67 = .ok (.ireturn, 1) := by decide +kernel
theorem dX12_tested_68 : decode cX12_tested 68 = .ok (.aload_n 0, 1) := by decide +kernel
theorem dX12_tested_69 : decode cX12_tested 69 = .ok (.iload_n 1, 1) := by decide +kernel
theorem dX12_tested_70 : decode cX12_tested 70 = .ok (.iconst 4, 1) := by decide +kernel
theorem dX12_tested_71 : decode cX12_tested 71 = .ok (.invokevirtual 203, 3) := by decide +kernel
theorem dX12_tested_74 : decode cX12_tested 74 = .ok (.ireturn, 1) := by decide +kernel
theorem dX12_tested_75 : decode cX12_tested 75 = .ok (.aload_n 0, 1) := by decide +kernel
theorem dX12_tested_76 : decode cX12_tested 76 = .ok (.iload_n 1, 1) := by decide +kernel
theorem dX12_tested_77 : decode cX12_tested 77 = .ok (.iconst 5, 1) := by decide +kernel
theorem dX12_tested_78 : decode cX12_tested 78 = .ok (.invokevirtual 203, 3) := by decide +kernel
theorem dX12_tested_81 : decode cX12_tested 81 = .ok (.ireturn, 1) := by decide +kernel
theorem dX12_tested_82 : decode cX12_tested 82 = .ok (.aload_n 0, 1) := by decide +kernel
theorem dX12_tested_83 : decode cX12_tested 83 = .ok (.iload_n 1, 1) := by decide +kernel
theorem dX12_tested_84 : decode cX12_tested 84 = .ok (.bipush 6, 2) := by decide +kernel
theorem dX12_tested_86 : decode cX12_tested 86 = .ok (.invokevirtual 203, 3) := by decide +kernel
theorem dX12_tested_89 : decode cX12_tested 89 = .ok (.bipush 7, 2) := by decide +kernel
theorem dX12_tested_91 : decode cX12_tested 91 = .ok (.irem, 1) := by decide +kernel
theorem dX12_tested_92 : decode cX12_tested 92 = .ok (.ireturn, 1) := by decide +kernel
theorem dX12_openLevel_0 : decode cX12_openLevel 0 = .ok (.aload_n 0, 1) := by decide +kernel
theorem dX12_openLevel_1 : decode cX12_openLevel 1 = .ok (.getfield 56, 3) := by decide +kernel
theorem dX12_openLevel_4 : decode cX12_openLevel 4 = .ok (.iload_n 1, 1) := by decide +kernel
theorem dX12_openLevel_5 : decode cX12_openLevel 5 = .ok (.iconst 0, 1) := by decide +kernel
theorem dX12_openLevel_6 : decode cX12_openLevel 6 = .ok (.bastore, 1) := by decide +kernel
theorem dX12_openLevel_7 : decode cX12_openLevel 7 = .ok (.aload_n 0, 1) := by decide +kernel
theorem dX12_openLevel_8 : decode cX12_openLevel 8 = .ok (.getfield 60, 3) := by decide +kernel
theorem dX12_openLevel_11 : decode cX12_openLevel 11 = .ok (.iload_n 1, 1) := by decide +kernel
theorem dX12_openLevel_12 : decode cX12_openLevel 12 = .ok (.iconst 1, 1) := by decide +kernel
theorem dX12_openLevel_13 : decode cX12_openLevel 13 = .ok (.bastore, 1) := by decide +kernel
theorem dX12_openLevel_14 : decode cX12_openLevel 14 = .ok (.aload_n 0, 1) := by decide +kernel
theorem dX12_openLevel_15 : decode cX12_openLevel 15 = .ok (.getfield 63, 3) := by decide +kernel
theorem dX12_openLevel_18 : decode cX12_openLevel 18 = .ok (.iload_n 1, 1) := by decide +kernel
theorem dX12_openLevel_19 : decode cX12_openLevel 19 = .ok (.iconst 0, 1) := by decide +kernel
theorem dX12_openLevel_20 : decode cX12_openLevel 20 = .ok (.bastore, 1) := by decide +kernel
theorem dX12_openLevel_21 : decode cX12_openLevel 21 = .ok (.return_, 1) := by decide +kernel
theorem dX12_factorIs_0 : decode cX12_factorIs 0 = .ok (.aload_n 0, 1) := by decide +kernel
theorem dX12_factorIs_1 : decode cX12_factorIs 1 = .ok (.getfield 60, 3) := by decide +kernel
theorem dX12_factorIs_4 : decode cX12_factorIs 4 = .ok (.iload_n 1, 1) := by decide +kernel
theorem dX12_factorIs_5 : decode cX12_factorIs 5 = .ok (.aload_n 0, 1) := by decide +kernel
theorem dX12_factorIs_6 : decode cX12_factorIs 6 = .ok (.getfield 60, 3) := by decide +kernel
theorem dX12_factorIs_9 : decode cX12_factorIs 9 = .ok (.iload_n 1, 1) := by decide +kernel
theorem dX12_factorIs_10 : decode cX12_factorIs 10 = .ok (.baload, 1) := by decide +kernel
theorem dX12_factorIs_11 : decode cX12_factorIs 11 = .ok (.ifCond .eq 17, 3) := by decide +kernel
theorem dX12_factorIs_14 : decode cX12_factorIs 14 = .ok (.iload_n 2, 1) := by decide +kernel
theorem dX12_factorIs_15 : decode cX12_factorIs 15 = .ok (.aload_n 0, 1) := by decide +kernel
theorem dX12_factorIs_16 : decode cX12_factorIs 16 = .ok (.getfield 63, 3) := by decide +kernel
theorem dX12_factorIs_19 : decode cX12_factorIs 19 = .ok (.iload_n 1, 1) := by decide +kernel
theorem dX12_factorIs_20 : decode cX12_factorIs 20 = .ok (.baload, 1) := by decide +kernel
theorem dX12_factorIs_21 : decode cX12_factorIs 21 = .ok (.if_icmp .eq 7, 3) := by decide +kernel
theorem dX12_factorIs_24 : decode cX12_factorIs 24 = .ok (.iconst 1, 1) := by decide +kernel
theorem dX12_factorIs_25 : decode cX12_factorIs 25 = .ok (.goto 4, 3) := by decide +kernel
theorem dX12_factorIs_28 : decode cX12_factorIs 28 = .ok (.iconst 0, 1) := by decide +kernel
theorem dX12_factorIs_29 : decode cX12_factorIs 29 = .ok (.bastore, 1) := by decide +kernel
theorem dX12_factorIs_30 : decode cX12_factorIs 30 = .ok (.aload_n 0, 1) := by decide +kernel
theorem dX12_factorIs_31 : decode cX12_factorIs 31 = .ok (.getfield 63, 3) := by decide +kernel
theorem dX12_factorIs_34 : decode cX12_factorIs 34 = .ok (.iload_n 1, 1) := by decide +kernel
theorem dX12_factorIs_35 : decode cX12_factorIs 35 = .ok (.iconst 0, 1) := by decide +kernel
theorem dX12_factorIs_36 : decode cX12_factorIs 36 = .ok (.bastore, 1) := by decide +kernel
theorem dX12_factorIs_37 : decode cX12_factorIs 37 = .ok (.return_, 1) := by decide +kernel
theorem dX12_holds_0 : decode cX12_holds 0 = .ok (.iconst 0, 1) := by decide +kernel
theorem dX12_holds_1 : decode cX12_holds 1 = .ok (.istore_n 3, 1) := by decide +kernel
theorem dX12_holds_2 : decode cX12_holds 2 = .ok (.iload_n 2, 1) := by decide +kernel
theorem dX12_holds_3 : decode cX12_holds 3 = .ok (.istore 4, 2) := by decide +kernel
theorem dX12_holds_5 : decode cX12_holds 5 = .ok (.aload_n 0, 1) := by decide +kernel
theorem dX12_holds_6 : decode cX12_holds 6 = .ok (.iconst 0, 1) := by decide +kernel
theorem dX12_holds_7 : decode cX12_holds 7 = .ok (.invokevirtual 207, 3) := by decide +kernel
theorem dX12_holds_10 : decode cX12_holds 10 = .ok (.aload_n 0, 1) := by decide +kernel
theorem dX12_holds_11 : decode cX12_holds 11 = .ok (.iload 4, 2) := by decide +kernel
theorem dX12_holds_13 : decode cX12_holds 13 = .ok (.invokevirtual 210, 3) := by decide +kernel
theorem dX12_holds_16 : decode cX12_holds 16 = .ok (.ifCond .lt 307, 3) := by decide +kernel
theorem dX12_holds_19 : decode cX12_holds 19 = .ok (.aload_n 0, 1) := by decide +kernel
theorem dX12_holds_20 : decode cX12_holds 20 = .ok (.iload 4, 2) := by decide +kernel
theorem dX12_holds_22 : decode cX12_holds 22 = .ok (.invokevirtual 210, 3) := by decide +kernel
theorem dX12_holds_25 : decode cX12_holds 25 = .ok (.bipush 59, 2) := by decide +kernel
theorem dX12_holds_27 : decode cX12_holds 27 = .ok (.if_icmp .eq 296, 3) := by decide +kernel
theorem dX12_holds_30 : decode cX12_holds 30 = .ok (.aload_n 0, 1) := by decide +kernel
theorem dX12_holds_31 : decode cX12_holds 31 = .ok (.iload 4, 2) := by decide +kernel
theorem dX12_holds_33 : decode cX12_holds 33 = .ok (.invokevirtual 210, 3) := by decide +kernel
theorem dX12_holds_36 : decode cX12_holds 36 = .ok (.istore 5, 2) := by decide +kernel
theorem dX12_holds_38 : decode cX12_holds 38 = .ok (.iinc 4 1, 3) := by decide +kernel
theorem dX12_holds_41 : decode cX12_holds 41 = .ok (.iload 5, 2) := by decide +kernel
theorem dX12_holds_43 : decode cX12_holds 43 = .ok (.bipush 33, 2) := by decide +kernel
theorem dX12_holds_45 : decode cX12_holds 45 = .ok (.if_icmp .ne 26, 3) := by decide +kernel
theorem dX12_holds_48 : decode cX12_holds 48 = .ok (.aload_n 0, 1) := by decide +kernel
theorem dX12_holds_49 : decode cX12_holds 49 = .ok (.getfield 63, 3) := by decide +kernel
theorem dX12_holds_52 : decode cX12_holds 52 = .ok (.iload_n 3, 1) := by decide +kernel
theorem dX12_holds_53 : decode cX12_holds 53 = .ok (.aload_n 0, 1) := by decide +kernel
theorem dX12_holds_54 : decode cX12_holds 54 = .ok (.getfield 63, 3) := by decide +kernel
theorem dX12_holds_57 : decode cX12_holds 57 = .ok (.iload_n 3, 1) := by decide +kernel
theorem dX12_holds_58 : decode cX12_holds 58 = .ok (.baload, 1) := by decide +kernel
theorem dX12_holds_59 : decode cX12_holds 59 = .ok (.ifCond .ne 7, 3) := by decide +kernel
theorem dX12_holds_62 : decode cX12_holds 62 = .ok (.iconst 1, 1) := by decide +kernel
theorem dX12_holds_63 : decode cX12_holds 63 = .ok (.goto 4, 3) := by decide +kernel
theorem dX12_holds_66 : decode cX12_holds 66 = .ok (.iconst 0, 1) := by decide +kernel
theorem dX12_holds_67 : decode cX12_holds 67 = .ok (.bastore, 1) := by decide +kernel
theorem dX12_holds_68 : decode cX12_holds 68 = .ok (.goto 252, 3) := by decide +kernel
theorem dX12_holds_71 : decode cX12_holds 71 = .ok (.iload 5, 2) := by decide +kernel
theorem dX12_holds_73 : decode cX12_holds 73 = .ok (.bipush 40, 2) := by decide +kernel
theorem dX12_holds_75 : decode cX12_holds 75 = .ok (.if_icmp .ne 14, 3) := by decide +kernel
theorem dX12_holds_78 : decode cX12_holds 78 = .ok (.iinc 3 1, 3) := by decide +kernel
theorem dX12_holds_81 : decode cX12_holds 81 = .ok (.aload_n 0, 1) := by decide +kernel
theorem dX12_holds_82 : decode cX12_holds 82 = .ok (.iload_n 3, 1) := by decide +kernel
theorem dX12_holds_83 : decode cX12_holds 83 = .ok (.invokevirtual 207, 3) := by decide +kernel
theorem dX12_holds_86 : decode cX12_holds 86 = .ok (.goto 234, 3) := by decide +kernel
theorem dX12_holds_89 : decode cX12_holds 89 = .ok (.iload 5, 2) := by decide +kernel
theorem dX12_holds_91 : decode cX12_holds 91 = .ok (.bipush 41, 2) := by decide +kernel
theorem dX12_holds_93 : decode cX12_holds 93 = .ok (.if_icmp .ne 41, 3) := by decide +kernel
theorem dX12_holds_96 : decode cX12_holds 96 = .ok (.aload_n 0, 1) := by decide +kernel
theorem dX12_holds_97 : decode cX12_holds 97 = .ok (.getfield 56, 3) := by decide +kernel
theorem dX12_holds_100 : decode cX12_holds 100 = .ok (.iload_n 3, 1) := by decide +kernel
theorem dX12_holds_101 : decode cX12_holds 101 = .ok (.baload, 1) := by decide +kernel
theorem dX12_holds_102 : decode cX12_holds 102 = .ok (.ifCond .ne 12, 3) := by decide +kernel
theorem dX12_holds_105 : decode cX12_holds 105 = .ok (.aload_n 0, 1) := by decide +kernel
theorem dX12_holds_106 : decode cX12_holds 106 = .ok (.getfield 60, 3) := by decide +kernel
theorem dX12_holds_109 : decode cX12_holds 109 = .ok (.iload_n 3, 1) := by decide +kernel
theorem dX12_holds_110 : decode cX12_holds 110 = .ok (.baload, 1) := by decide +kernel
theorem dX12_holds_111 : decode cX12_holds 111 = .ok (.ifCond .eq 7, 3) := by decide +kernel
theorem dX12_holds_114 : decode cX12_holds 114 = .ok (.iconst 1, 1) := by decide +kernel
theorem dX12_holds_115 : decode cX12_holds 115 = .ok (.goto 4, 3) := by decide +kernel
theorem dX12_holds_118 : decode cX12_holds 118 = .ok (.iconst 0, 1) := by decide +kernel
theorem dX12_holds_119 : decode cX12_holds 119 = .ok (.istore 6, 2) := by decide +kernel
theorem dX12_holds_121 : decode cX12_holds 121 = .ok (.iinc 3 (-1), 3) := by decide +kernel
theorem dX12_holds_124 : decode cX12_holds 124 = .ok (.aload_n 0, 1) := by decide +kernel
theorem dX12_holds_125 : decode cX12_holds 125 = .ok (.iload_n 3, 1) := by decide +kernel
theorem dX12_holds_126 : decode cX12_holds 126 = .ok (.iload 6, 2) := by decide +kernel
theorem dX12_holds_128 : decode cX12_holds 128 = .ok (.invokevirtual 213, 3) := by decide +kernel
theorem dX12_holds_131 : decode cX12_holds 131 = .ok (.goto 189, 3) := by decide +kernel
theorem dX12_holds_134 : decode cX12_holds 134 = .ok (.iload 5, 2) := by decide +kernel
theorem dX12_holds_136 : decode cX12_holds 136 = .ok (.bipush 124, 2) := by decide +kernel
theorem dX12_holds_138 : decode cX12_holds 138 = .ok (.if_icmp .ne 42, 3) := by decide +kernel
theorem dX12_holds_141 : decode cX12_holds 141 = .ok (.aload_n 0, 1) := by decide +kernel
theorem dX12_holds_142 : decode cX12_holds 142 = .ok (.getfield 56, 3) := by decide +kernel
theorem dX12_holds_145 : decode cX12_holds 145 = .ok (.iload_n 3, 1) := by decide +kernel
theorem dX12_holds_146 : decode cX12_holds 146 = .ok (.aload_n 0, 1) := by decide +kernel
theorem dX12_holds_147 : decode cX12_holds 147 = .ok (.getfield 56, 3) := by decide +kernel
theorem dX12_holds_150 : decode cX12_holds 150 = .ok (.iload_n 3, 1) := by decide +kernel
theorem dX12_holds_151 : decode cX12_holds 151 = .ok (.baload, 1) := by decide +kernel
theorem dX12_holds_152 : decode cX12_holds 152 = .ok (.ifCond .ne 12, 3) := by decide +kernel
theorem dX12_holds_155 : decode cX12_holds 155 = .ok (.aload_n 0, 1) := by decide +kernel
theorem dX12_holds_156 : decode cX12_holds 156 = .ok (.getfield 60, 3) := by decide +kernel
theorem dX12_holds_159 : decode cX12_holds 159 = .ok (.iload_n 3, 1) := by decide +kernel
theorem dX12_holds_160 : decode cX12_holds 160 = .ok (.baload, 1) := by decide +kernel
theorem dX12_holds_161 : decode cX12_holds 161 = .ok (.ifCond .eq 7, 3) := by decide +kernel
theorem dX12_holds_164 : decode cX12_holds 164 = .ok (.iconst 1, 1) := by decide +kernel
theorem dX12_holds_165 : decode cX12_holds 165 = .ok (.goto 4, 3) := by decide +kernel
theorem dX12_holds_168 : decode cX12_holds 168 = .ok (.iconst 0, 1) := by decide +kernel
theorem dX12_holds_169 : decode cX12_holds 169 = .ok (.bastore, 1) := by decide +kernel
theorem dX12_holds_170 : decode cX12_holds 170 = .ok (.aload_n 0, 1) := by decide +kernel
theorem dX12_holds_171 : decode cX12_holds 171 = .ok (.getfield 60, 3) := by decide +kernel
theorem dX12_holds_174 : decode cX12_holds 174 = .ok (.iload_n 3, 1) := by decide +kernel
theorem dX12_holds_175 : decode cX12_holds 175 = .ok (.iconst 1, 1) := by decide +kernel
theorem dX12_holds_176 : decode cX12_holds 176 = .ok (.bastore, 1) := by decide +kernel
theorem dX12_holds_177 : decode cX12_holds 177 = .ok (.goto 143, 3) := by decide +kernel
theorem dX12_holds_180 : decode cX12_holds 180 = .ok (.iload 5, 2) := by decide +kernel
theorem dX12_holds_182 : decode cX12_holds 182 = .ok (.bipush 38, 2) := by decide +kernel
theorem dX12_holds_184 : decode cX12_holds 184 = .ok (.if_icmp .eq 136, 3) := by decide +kernel
theorem dX12_holds_187 : decode cX12_holds 187 = .ok (.aload_n 0, 1) := by decide +kernel
theorem dX12_holds_188 : decode cX12_holds 188 = .ok (.iload 4, 2) := by decide +kernel
theorem dX12_holds_190 : decode cX12_holds 190 = .ok (.invokevirtual 210, 3) := by decide +kernel
theorem dX12_holds_193 : decode cX12_holds 193 = .ok (.istore 6, 2) := by decide +kernel
theorem dX12_holds_195 : decode cX12_holds 195 = .ok (.aload_n 0, 1) := by decide +kernel
theorem dX12_holds_196 : decode cX12_holds 196 = .ok (.iload 4, 2) := by decide +kernel
theorem dX12_holds_198 : decode cX12_holds 198 = .ok (.iconst 1, 1) := by decide +kernel
theorem dX12_holds_199 : decode cX12_holds 199 = .ok (.iadd, 1) := by decide +kernel
theorem dX12_holds_200 : decode cX12_holds 200 = .ok (.invokevirtual 210, 3) := by decide +kernel
theorem dX12_holds_203 : decode cX12_holds 203 = .ok (.bipush 48, 2) := by decide +kernel
theorem dX12_holds_205 : decode cX12_holds 205 = .ok (.isub, 1) := by decide +kernel
theorem dX12_holds_206 : decode cX12_holds 206 = .ok (.istore 7, 2) := by decide +kernel
theorem dX12_holds_208 : decode cX12_holds 208 = .ok (.iinc 4 2, 3) := by decide +kernel
theorem dX12_holds_211 : decode cX12_holds 211 = .ok (.aload_n 0, 1) := by decide +kernel
theorem dX12_holds_212 : decode cX12_holds 212 = .ok (.iload 4, 2) := by decide +kernel
theorem dX12_holds_214 : decode cX12_holds 214 = .ok (.invokevirtual 210, 3) := by decide +kernel
theorem dX12_holds_217 : decode cX12_holds 217 = .ok (.i2l, 1) := by decide +kernel
theorem dX12_holds_218 : decode cX12_holds 218 = .ok (.ldc2_w 146, 3) := by decide +kernel
theorem dX12_holds_221 : decode cX12_holds 221 = .ok (.ldc2_w 148, 3) := by decide +kernel
theorem dX12_holds_224 : decode cX12_holds 224 = .ok (.invokestatic 91, 3) := by decide +kernel
theorem dX12_holds_227 : decode cX12_holds 227 = .ok (.ifCond .eq 23, 3) := by decide +kernel
theorem dX12_holds_230 : decode cX12_holds 230 = .ok (.bipush 10, 2) := by decide +kernel
theorem dX12_holds_232 : decode cX12_holds 232 = .ok (.iload 7, 2) := by decide +kernel
theorem dX12_holds_234 : decode cX12_holds 234 = .ok (.imul, 1) := by decide +kernel
theorem dX12_holds_235 : decode cX12_holds 235 = .ok (.aload_n 0, 1) := by decide +kernel
theorem dX12_holds_236 : decode cX12_holds 236 = .ok (.iload 4, 2) := by decide +kernel
theorem dX12_holds_238 : decode cX12_holds 238 = .ok (.invokevirtual 210, 3) := by decide +kernel
theorem dX12_holds_241 : decode cX12_holds 241 = .ok (.iadd, 1) := by decide +kernel
theorem dX12_holds_242 : decode cX12_holds 242 = .ok (.bipush 48, 2) := by decide +kernel
theorem dX12_holds_244 : decode cX12_holds 244 = .ok (.isub, 1) := by decide +kernel
theorem dX12_holds_245 : decode cX12_holds 245 = .ok (.istore 7, 2) := by decide +kernel
theorem dX12_holds_247 : decode cX12_holds 247 = .ok (.iinc 4 1, 3) := by decide +kernel
theorem dX12_holds_250 : decode cX12_holds 250 = .ok (.aload_n 0, 1) := by decide +kernel
theorem dX12_holds_251 : decode cX12_holds 251 = .ok (.iload_n 1, 1) := by decide +kernel
theorem dX12_holds_252 : decode cX12_holds 252 = .ok (.iload 5, 2) := by decide +kernel
theorem dX12_holds_254 : decode cX12_holds 254 = .ok (.invokevirtual 217, 3) := by decide +kernel
theorem dX12_holds_257 : decode cX12_holds 257 = .ok (.istore 8, 2) := by decide +kernel
theorem dX12_holds_259 : decode cX12_holds 259 = .ok (.aload_n 0, 1) := by decide +kernel
theorem dX12_holds_260 : decode cX12_holds 260 = .ok (.iload_n 3, 1) := by decide +kernel
theorem dX12_holds_261 : decode cX12_holds 261 = .ok (.iload 6, 2) := by decide +kernel
theorem dX12_holds_263 : decode cX12_holds 263 = .ok (.bipush 60, 2) := by decide +kernel
theorem dX12_holds_265 : decode cX12_holds 265 = .ok (.if_icmp .ne 18, 3) := by decide +kernel
theorem dX12_holds_268 : decode cX12_holds 268 = .ok (.iload 8, 2) := by decide +kernel
theorem dX12_holds_270 : decode cX12_holds 270 = .ok (.iload 7, 2) := by decide +kernel
theorem dX12_holds_272 : decode cX12_holds 272 = .ok (.if_icmp .ge 7, 3) := by decide +kernel
theorem dX12_holds_275 : decode cX12_holds 275 = .ok (.iconst 1, 1) := by decide +kernel
theorem dX12_holds_276 : decode cX12_holds 276 = .ok (.goto 41, 3) := by decide +kernel
theorem dX12_holds_279 : decode cX12_holds 279 = .ok (.iconst 0, 1) := by decide +kernel
theorem dX12_holds_280 : decode cX12_holds 280 = .ok (.goto 37, 3) := by decide +kernel
theorem dX12_holds_283 : decode cX12_holds 283 = .ok (.iload 6, 2) := by decide +kernel
theorem dX12_holds_285 : decode cX12_holds 285 = .ok (.bipush 61, 2) := by decide +kernel
theorem dX12_holds_287 : decode cX12_holds 287 = .ok (.if_icmp .ne 18, 3) := by decide +kernel
theorem dX12_holds_290 : decode cX12_holds 290 = .ok (.iload 8, 2) := by decide +kernel
theorem dX12_holds_292 : decode cX12_holds 292 = .ok (.iload 7, 2) := by decide +kernel
theorem dX12_holds_294 : decode cX12_holds 294 = .ok (.if_icmp .ne 7, 3) := by decide +kernel
theorem dX12_holds_297 : decode cX12_holds 297 = .ok (.iconst 1, 1) := by decide +kernel
theorem dX12_holds_298 : decode cX12_holds 298 = .ok (.goto 19, 3) := by decide +kernel
theorem dX12_holds_301 : decode cX12_holds 301 = .ok (.iconst 0, 1) := by decide +kernel
theorem dX12_holds_302 : decode cX12_holds 302 = .ok (.goto 15, 3) := by decide +kernel
theorem dX12_holds_305 : decode cX12_holds 305 = .ok (.iload 8, 2) := by decide +kernel
theorem dX12_holds_307 : decode cX12_holds 307 = .ok (.iload 7, 2) := by decide +kernel
theorem dX12_holds_309 : decode cX12_holds 309 = .ok (.if_icmp .le 7, 3) := by decide +kernel
theorem dX12_holds_312 : decode cX12_holds 312 = .ok (.iconst 1, 1) := by decide +kernel
theorem dX12_holds_313 : decode cX12_holds 313 = .ok (.goto 4, 3) := by decide +kernel
theorem dX12_holds_316 : decode cX12_holds 316 = .ok (.iconst 0, 1) := by decide +kernel
theorem dX12_holds_317 : decode cX12_holds 317 = .ok (.invokevirtual 213, 3) := by decide +kernel
theorem dX12_holds_320 : decode cX12_holds 320 = .ok (.goto (-310), 3) := by decide +kernel
theorem dX12_holds_323 : decode cX12_holds 323 = .ok (.aload_n 0, 1) := by decide +kernel
theorem dX12_holds_324 : decode cX12_holds 324 = .ok (.getfield 56, 3) := by decide +kernel
theorem dX12_holds_327 : decode cX12_holds 327 = .ok (.iconst 0, 1) := by decide +kernel
theorem dX12_holds_328 : decode cX12_holds 328 = .ok (.baload, 1) := by decide +kernel
theorem dX12_holds_329 : decode cX12_holds 329 = .ok (.ifCond .ne 12, 3) := by decide +kernel
theorem dX12_holds_332 : decode cX12_holds 332 = .ok (.aload_n 0, 1) := by decide +kernel
theorem dX12_holds_333 : decode cX12_holds 333 = .ok (.getfield 60, 3) := by decide +kernel
theorem dX12_holds_336 : decode cX12_holds 336 = .ok (.iconst 0, 1) := by decide +kernel
theorem dX12_holds_337 : decode cX12_holds 337 = .ok (.baload, 1) := by decide +kernel
theorem dX12_holds_338 : decode cX12_holds 338 = .ok (.ifCond .eq 7, 3) := by decide +kernel
theorem dX12_holds_341 : decode cX12_holds 341 = .ok (.iconst 1, 1) := by decide +kernel
theorem dX12_holds_342 : decode cX12_holds 342 = .ok (.goto 4, 3) := by decide +kernel
theorem dX12_holds_345 : decode cX12_holds 345 = .ok (.iconst 0, 1) := by decide +kernel
theorem dX12_holds_346 : decode cX12_holds 346 = .ok (.ireturn, 1) := by decide +kernel
theorem dX12_lastOf_0 : decode cX12_lastOf 0 = .ok (.iload_n 2, 1) := by decide +kernel
theorem dX12_lastOf_1 : decode cX12_lastOf 1 = .ok (.istore_n 3, 1) := by decide +kernel
theorem dX12_lastOf_2 : decode cX12_lastOf 2 = .ok (.iconst 0, 1) := by decide +kernel
theorem dX12_lastOf_3 : decode cX12_lastOf 3 = .ok (.istore 4, 2) := by decide +kernel
theorem dX12_lastOf_5 : decode cX12_lastOf 5 = .ok (.aload_n 0, 1) := by decide +kernel
theorem dX12_lastOf_6 : decode cX12_lastOf 6 = .ok (.getfield 17, 3) := by decide +kernel
theorem dX12_lastOf_9 : decode cX12_lastOf 9 = .ok (.ifCond .lt 62, 3) := by decide +kernel
theorem dX12_lastOf_12 : decode cX12_lastOf 12 = .ok (.iload 4, 2) := by decide +kernel
theorem dX12_lastOf_14 : decode cX12_lastOf 14 = .ok (.aload_n 0, 1) := by decide +kernel
theorem dX12_lastOf_15 : decode cX12_lastOf 15 = .ok (.getfield 50, 3) := by decide +kernel
theorem dX12_lastOf_18 : decode cX12_lastOf 18 = .ok (.aload_n 0, 1) := by decide +kernel
theorem dX12_lastOf_19 : decode cX12_lastOf 19 = .ok (.getfield 17, 3) := by decide +kernel
theorem dX12_lastOf_22 : decode cX12_lastOf 22 = .ok (.iaload, 1) := by decide +kernel
theorem dX12_lastOf_23 : decode cX12_lastOf 23 = .ok (.if_icmp .ge 48, 3) := by decide +kernel
theorem dX12_lastOf_26 : decode cX12_lastOf 26 = .ok (.aload_n 0, 1) := by decide +kernel
theorem dX12_lastOf_27 : decode cX12_lastOf 27 = .ok (.getfield 41, 3) := by decide +kernel
theorem dX12_lastOf_30 : decode cX12_lastOf 30 = .ok (.bipush 10, 2) := by decide +kernel
theorem dX12_lastOf_32 : decode cX12_lastOf 32 = .ok (.aload_n 0, 1) := by decide +kernel
theorem dX12_lastOf_33 : decode cX12_lastOf 33 = .ok (.getfield 17, 3) := by decide +kernel
theorem dX12_lastOf_36 : decode cX12_lastOf 36 = .ok (.imul, 1) := by decide +kernel
theorem dX12_lastOf_37 : decode cX12_lastOf 37 = .ok (.iload 4, 2) := by decide +kernel
theorem dX12_lastOf_39 : decode cX12_lastOf 39 = .ok (.iadd, 1) := by decide +kernel
theorem dX12_lastOf_40 : decode cX12_lastOf 40 = .ok (.iaload, 1) := by decide +kernel
theorem dX12_lastOf_41 : decode cX12_lastOf 41 = .ok (.iload_n 1, 1) := by decide +kernel
theorem dX12_lastOf_42 : decode cX12_lastOf 42 = .ok (.if_icmp .ne 21, 3) := by decide +kernel
theorem dX12_lastOf_45 : decode cX12_lastOf 45 = .ok (.aload_n 0, 1) := by decide +kernel
theorem dX12_lastOf_46 : decode cX12_lastOf 46 = .ok (.getfield 44, 3) := by decide +kernel
theorem dX12_lastOf_49 : decode cX12_lastOf 49 = .ok (.bipush 10, 2) := by decide +kernel
theorem dX12_lastOf_51 : decode cX12_lastOf 51 = .ok (.aload_n 0, 1) := by decide +kernel
theorem dX12_lastOf_52 : decode cX12_lastOf 52 = .ok (.getfield 17, 3) := by decide +kernel
theorem dX12_lastOf_55 : decode cX12_lastOf 55 = .ok (.imul, 1) := by decide +kernel
theorem dX12_lastOf_56 : decode cX12_lastOf 56 = .ok (.iload 4, 2) := by decide +kernel
theorem dX12_lastOf_58 : decode cX12_lastOf 58 = .ok (.iadd, 1) := by decide +kernel
theorem dX12_lastOf_59 : decode cX12_lastOf 59 = .ok (.iaload, 1) := by decide +kernel
theorem dX12_lastOf_60 : decode cX12_lastOf 60 = .ok (.goto 4, 3) := by decide +kernel
theorem dX12_lastOf_63 : decode cX12_lastOf 63 = .ok (.iload_n 3, 1) := by decide +kernel
theorem dX12_lastOf_64 : decode cX12_lastOf 64 = .ok (.istore_n 3, 1) := by decide +kernel
theorem dX12_lastOf_65 : decode cX12_lastOf 65 = .ok (.iinc 4 1, 3) := by decide +kernel
theorem dX12_lastOf_68 : decode cX12_lastOf 68 = .ok (.goto (-63), 3) := by decide +kernel
theorem dX12_lastOf_71 : decode cX12_lastOf 71 = .ok (.iload_n 3, 1) := by decide +kernel
theorem dX12_lastOf_72 : decode cX12_lastOf 72 = .ok (.ireturn, 1) := by decide +kernel
theorem dX12_moreOf_0 : decode cX12_moreOf 0 = .ok (.aload_n 0, 1) := by decide +kernel
theorem dX12_moreOf_1 : decode cX12_moreOf 1 = .ok (.getfield 13, 3) := by decide +kernel
theorem dX12_moreOf_4 : decode cX12_moreOf 4 = .ok (.aload_n 0, 1) := by decide +kernel
theorem dX12_moreOf_5 : decode cX12_moreOf 5 = .ok (.iload_n 1, 1) := by decide +kernel
theorem dX12_moreOf_6 : decode cX12_moreOf 6 = .ok (.iconst 3, 1) := by decide +kernel
theorem dX12_moreOf_7 : decode cX12_moreOf 7 = .ok (.invokevirtual 203, 3) := by decide +kernel
theorem dX12_moreOf_10 : decode cX12_moreOf 10 = .ok (.iadd, 1) := by decide +kernel
theorem dX12_moreOf_11 : decode cX12_moreOf 11 = .ok (.istore_n 2, 1) := by decide +kernel
theorem dX12_moreOf_12 : decode cX12_moreOf 12 = .ok (.iconst 0, 1) := by decide +kernel
theorem dX12_moreOf_13 : decode cX12_moreOf 13 = .ok (.istore_n 3, 1) := by decide +kernel
theorem dX12_moreOf_14 : decode cX12_moreOf 14 = .ok (.aload_n 0, 1) := by decide +kernel
theorem dX12_moreOf_15 : decode cX12_moreOf 15 = .ok (.getfield 17, 3) := by decide +kernel
theorem dX12_moreOf_18 : decode cX12_moreOf 18 = .ok (.ifCond .lt 90, 3) := by decide +kernel
theorem dX12_moreOf_21 : decode cX12_moreOf 21 = .ok (.iload_n 3, 1) := by decide +kernel
theorem dX12_moreOf_22 : decode cX12_moreOf 22 = .ok (.aload_n 0, 1) := by decide +kernel
theorem dX12_moreOf_23 : decode cX12_moreOf 23 = .ok (.getfield 50, 3) := by decide +kernel
theorem dX12_moreOf_26 : decode cX12_moreOf 26 = .ok (.aload_n 0, 1) := by decide +kernel
theorem dX12_moreOf_27 : decode cX12_moreOf 27 = .ok (.getfield 17, 3) := by decide +kernel
theorem dX12_moreOf_30 : decode cX12_moreOf 30 = .ok (.iaload, 1) := by decide +kernel
theorem dX12_moreOf_31 : decode cX12_moreOf 31 = .ok (.if_icmp .ge 77, 3) := by decide +kernel
theorem dX12_moreOf_34 : decode cX12_moreOf 34 = .ok (.bipush 10, 2) := by decide +kernel
theorem dX12_moreOf_36 : decode cX12_moreOf 36 = .ok (.aload_n 0, 1) := by decide +kernel
theorem dX12_moreOf_37 : decode cX12_moreOf 37 = .ok (.getfield 17, 3) := by decide +kernel
theorem dX12_moreOf_40 : decode cX12_moreOf 40 = .ok (.imul, 1) := by decide +kernel
theorem dX12_moreOf_41 : decode cX12_moreOf 41 = .ok (.iload_n 3, 1) := by decide +kernel
theorem dX12_moreOf_42 : decode cX12_moreOf 42 = .ok (.iadd, 1) := by decide +kernel
theorem dX12_moreOf_43 : decode cX12_moreOf 43 = .ok (.istore 4, 2) := by decide +kernel
theorem dX12_moreOf_45 : decode cX12_moreOf 45 = .ok (.aload_n 0, 1) := by decide +kernel
theorem dX12_moreOf_46 : decode cX12_moreOf 46 = .ok (.getfield 41, 3) := by decide +kernel
theorem dX12_moreOf_49 : decode cX12_moreOf 49 = .ok (.iload 4, 2) := by decide +kernel
theorem dX12_moreOf_51 : decode cX12_moreOf 51 = .ok (.iaload, 1) := by decide +kernel
theorem dX12_moreOf_52 : decode cX12_moreOf 52 = .ok (.iconst 2, 1) := by decide +kernel
theorem dX12_moreOf_53 : decode cX12_moreOf 53 = .ok (.if_icmp .ge 49, 3) := by decide +kernel
theorem dX12_moreOf_56 : decode cX12_moreOf 56 = .ok (.aload_n 0, 1) := by decide +kernel
theorem dX12_moreOf_57 : decode cX12_moreOf 57 = .ok (.iload_n 1, 1) := by decide +kernel
theorem dX12_moreOf_58 : decode cX12_moreOf 58 = .ok (.aload_n 0, 1) := by decide +kernel
theorem dX12_moreOf_59 : decode cX12_moreOf 59 = .ok (.getfield 47, 3) := by decide +kernel
theorem dX12_moreOf_62 : decode cX12_moreOf 62 = .ok (.iload 4, 2) := by decide +kernel
theorem dX12_moreOf_64 : decode cX12_moreOf 64 = .ok (.iaload, 1) := by decide +kernel
theorem dX12_moreOf_65 : decode cX12_moreOf 65 = .ok (.invokevirtual 220, 3) := by decide +kernel
theorem dX12_moreOf_68 : decode cX12_moreOf 68 = .ok (.ifCond .eq 34, 3) := by decide +kernel
theorem dX12_moreOf_71 : decode cX12_moreOf 71 = .ok (.iload_n 2, 1) := by decide +kernel
theorem dX12_moreOf_72 : decode cX12_moreOf 72 = .ok (.aload_n 0, 1) := by decide +kernel
theorem dX12_moreOf_73 : decode cX12_moreOf 73 = .ok (.getfield 41, 3) := by decide +kernel
theorem dX12_moreOf_76 : decode cX12_moreOf 76 = .ok (.iload 4, 2) := by decide +kernel
theorem dX12_moreOf_78 : decode cX12_moreOf 78 = .ok (.iaload, 1) := by decide +kernel
theorem dX12_moreOf_79 : decode cX12_moreOf 79 = .ok (.ifCond .ne 13, 3) := by decide +kernel
theorem dX12_moreOf_82 : decode cX12_moreOf 82 = .ok (.aload_n 0, 1) := by decide +kernel
theorem dX12_moreOf_83 : decode cX12_moreOf 83 = .ok (.getfield 44, 3) := by decide +kernel
theorem dX12_moreOf_86 : decode cX12_moreOf 86 = .ok (.iload 4, 2) := by decide +kernel
theorem dX12_moreOf_88 : decode cX12_moreOf 88 = .ok (.iaload, 1) := by decide +kernel
theorem dX12_moreOf_89 : decode cX12_moreOf 89 = .ok (.goto 11, 3) := by decide +kernel
theorem dX12_moreOf_92 : decode cX12_moreOf 92 = .ok (.aload_n 0, 1) := by decide +kernel
theorem dX12_moreOf_93 : decode cX12_moreOf 93 = .ok (.getfield 44, 3) := by decide +kernel
theorem dX12_moreOf_96 : decode cX12_moreOf 96 = .ok (.iload 4, 2) := by decide +kernel
theorem dX12_moreOf_98 : decode cX12_moreOf 98 = .ok (.iaload, 1) := by decide +kernel
theorem dX12_moreOf_99 : decode cX12_moreOf 99 = .ok (.ineg, 1) := by decide +kernel
theorem dX12_moreOf_100 : decode cX12_moreOf 100 = .ok (.iadd, 1) := by decide +kernel
theorem dX12_moreOf_101 : decode cX12_moreOf 101 = .ok (.istore_n 2, 1) := by decide +kernel
theorem dX12_moreOf_102 : decode cX12_moreOf 102 = .ok (.iinc 3 1, 3) := by decide +kernel
theorem dX12_moreOf_105 : decode cX12_moreOf 105 = .ok (.goto (-91), 3) := by decide +kernel
theorem dX12_moreOf_108 : decode cX12_moreOf 108 = .ok (.iload_n 2, 1) := by decide +kernel
theorem dX12_moreOf_109 : decode cX12_moreOf 109 = .ok (.ifCond .ge 7, 3) := by decide +kernel
theorem dX12_moreOf_112 : decode cX12_moreOf 112 = .ok (.iconst 0, 1) := by decide +kernel
theorem dX12_moreOf_113 : decode cX12_moreOf 113 = .ok (.goto 4, 3) := by decide +kernel
theorem dX12_moreOf_116 : decode cX12_moreOf 116 = .ok (.iload_n 2, 1) := by decide +kernel
theorem dX12_moreOf_117 : decode cX12_moreOf 117 = .ok (.ireturn, 1) := by decide +kernel
theorem dX12_atLeast_0 : decode cX12_atLeast 0 = .ok (.iload_n 0, 1) := by decide +kernel
theorem dX12_atLeast_1 : decode cX12_atLeast 1 = .ok (.iload_n 1, 1) := by decide +kernel
theorem dX12_atLeast_2 : decode cX12_atLeast 2 = .ok (.if_icmp .ge 7, 3) := by decide +kernel
theorem dX12_atLeast_5 : decode cX12_atLeast 5 = .ok (.iload_n 1, 1) := by decide +kernel
theorem dX12_atLeast_6 : decode cX12_atLeast 6 = .ok (.goto 4, 3) := by decide +kernel
theorem dX12_atLeast_9 : decode cX12_atLeast 9 = .ok (.iload_n 0, 1) := by decide +kernel
theorem dX12_atLeast_10 : decode cX12_atLeast 10 = .ok (.ireturn, 1) := by decide +kernel
theorem dX12_asksOf_0 : decode cX12_asksOf 0 = .ok (.aload_n 0, 1) := by decide +kernel
theorem dX12_asksOf_1 : decode cX12_asksOf 1 = .ok (.iload_n 1, 1) := by decide +kernel
theorem dX12_asksOf_2 : decode cX12_asksOf 2 = .ok (.iconst 2, 1) := by decide +kernel
theorem dX12_asksOf_3 : decode cX12_asksOf 3 = .ok (.invokevirtual 203, 3) := by decide +kernel
theorem dX12_asksOf_6 : decode cX12_asksOf 6 = .ok (.istore_n 2, 1) := by decide +kernel
theorem dX12_asksOf_7 : decode cX12_asksOf 7 = .ok (.iload_n 2, 1) := by decide +kernel
theorem dX12_asksOf_8 : decode cX12_asksOf 8 = .ok (.aload_n 0, 1) := by decide +kernel
theorem dX12_asksOf_9 : decode cX12_asksOf 9 = .ok (.iload_n 1, 1) := by decide +kernel
theorem dX12_asksOf_10 : decode cX12_asksOf 10 = .ok (.iconst 4, 1) := by decide +kernel
theorem dX12_asksOf_11 : decode cX12_asksOf 11 = .ok (.invokevirtual 203, 3) := by decide +kernel
theorem dX12_asksOf_14 : decode cX12_asksOf 14 = .ok (.isub, 1) := by decide +kernel
theorem dX12_asksOf_15 : decode cX12_asksOf 15 = .ok (.iconst 1, 1) := by decide +kernel
theorem dX12_asksOf_16 : decode cX12_asksOf 16 = .ok (.invokestatic 224, 3) := by decide +kernel
theorem dX12_asksOf_19 : decode cX12_asksOf 19 = .ok (.istore_n 3, 1) := by decide +kernel
theorem dX12_asksOf_20 : decode cX12_asksOf 20 = .ok (.aload_n 0, 1) := by decide +kernel
theorem dX12_asksOf_21 : decode cX12_asksOf 21 = .ok (.iload_n 1, 1) := by decide +kernel
theorem dX12_asksOf_22 : decode cX12_asksOf 22 = .ok (.iconst 0, 1) := by decide +kernel
theorem dX12_asksOf_23 : decode cX12_asksOf 23 = .ok (.invokevirtual 203, 3) := by decide +kernel
theorem dX12_asksOf_26 : decode cX12_asksOf 26 = .ok (.tableswitch 79 1 6 #[38, 79, 40, 44, 79, 52], 38) := by decide +kernel
theorem dX12_asksOf_64 : decode cX12_asksOf 64 = .ok (.iload_n 3, 1) := by decide +kernel
theorem dX12_asksOf_65 : decode cX12_asksOf 65 = .ok (.ireturn, 1) := by decide +kernel
theorem dX12_asksOf_66 : decode cX12_asksOf 66 = .ok (.iload_n 2, 1) := by decide +kernel
theorem dX12_asksOf_67 : decode cX12_asksOf 67 = .ok (.iconst 2, 1) := by decide +kernel
theorem dX12_asksOf_68 : decode cX12_asksOf 68 = .ok (.idiv, 1) := by decide +kernel
theorem dX12_asksOf_69 : decode cX12_asksOf 69 = .ok (.ireturn, 1) := by decide +kernel
theorem dX12_asksOf_70 : decode cX12_asksOf 70 = .ok (.iload_n 3, 1) := by decide +kernel
theorem dX12_asksOf_71 : decode cX12_asksOf 71 = .ok (.iconst 2, 1) := by decide +kernel
theorem dX12_asksOf_72 : decode cX12_asksOf 72 = .ok (.isub, 1) := by decide +kernel
theorem dX12_asksOf_73 : decode cX12_asksOf 73 = .ok (.iconst 1, 1) := by decide +kernel
theorem dX12_asksOf_74 : decode cX12_asksOf 74 = .ok (.invokestatic 224, 3) := by decide +kernel
theorem dX12_asksOf_77 : decode cX12_asksOf 77 = .ok (.ireturn, 1) := by decide +kernel
theorem dX12_asksOf_78 : decode cX12_asksOf 78 = .ok (.iload_n 2, 1) := by decide +kernel
theorem dX12_asksOf_79 : decode cX12_asksOf 79 = .ok (.iconst 2, 1) := by decide +kernel
theorem dX12_asksOf_80 : decode cX12_asksOf 80 = .ok (.idiv, 1) := by decide +kernel
theorem dX12_asksOf_81 : decode cX12_asksOf 81 = .ok (.aload_n 0, 1) := by decide +kernel
theorem dX12_asksOf_82 : decode cX12_asksOf 82 = .ok (.getfield 7, 3) := by decide +kernel
theorem dX12_asksOf_85 : decode cX12_asksOf 85 = .ok (.bipush 12, 2) := by decide +kernel
theorem dX12_asksOf_87 : decode cX12_asksOf 87 = .ok (.iload_n 1, 1) := by decide +kernel
theorem dX12_asksOf_88 : decode cX12_asksOf 88 = .ok (.imul, 1) := by decide +kernel
theorem dX12_asksOf_89 : decode cX12_asksOf 89 = .ok (.bipush 8, 2) := by decide +kernel
theorem dX12_asksOf_91 : decode cX12_asksOf 91 = .ok (.iadd, 1) := by decide +kernel
theorem dX12_asksOf_92 : decode cX12_asksOf 92 = .ok (.aload_n 0, 1) := by decide +kernel
theorem dX12_asksOf_93 : decode cX12_asksOf 93 = .ok (.iload_n 1, 1) := by decide +kernel
theorem dX12_asksOf_94 : decode cX12_asksOf 94 = .ok (.bipush 6, 2) := by decide +kernel
theorem dX12_asksOf_96 : decode cX12_asksOf 96 = .ok (.invokevirtual 203, 3) := by decide +kernel
theorem dX12_asksOf_99 : decode cX12_asksOf 99 = .ok (.iconst 4, 1) := by decide +kernel
theorem dX12_asksOf_100 : decode cX12_asksOf 100 = .ok (.irem, 1) := by decide +kernel
theorem dX12_asksOf_101 : decode cX12_asksOf 101 = .ok (.iadd, 1) := by decide +kernel
theorem dX12_asksOf_102 : decode cX12_asksOf 102 = .ok (.iaload, 1) := by decide +kernel
theorem dX12_asksOf_103 : decode cX12_asksOf 103 = .ok (.iadd, 1) := by decide +kernel
theorem dX12_asksOf_104 : decode cX12_asksOf 104 = .ok (.ireturn, 1) := by decide +kernel
theorem dX12_asksOf_105 : decode cX12_asksOf 105 = .ok (.iload_n 2, 1) := by decide +kernel
theorem dX12_asksOf_106 : decode cX12_asksOf 106 = .ok (.ireturn, 1) := by decide +kernel
theorem dX12_letsOf_0 : decode cX12_letsOf 0 = .ok (.aload_n 0, 1) := by decide +kernel
theorem dX12_letsOf_1 : decode cX12_letsOf 1 = .ok (.iload_n 1, 1) := by decide +kernel
theorem dX12_letsOf_2 : decode cX12_letsOf 2 = .ok (.iconst 1, 1) := by decide +kernel
theorem dX12_letsOf_3 : decode cX12_letsOf 3 = .ok (.invokevirtual 203, 3) := by decide +kernel
theorem dX12_letsOf_6 : decode cX12_letsOf 6 = .ok (.istore_n 2, 1) := by decide +kernel
theorem dX12_letsOf_7 : decode cX12_letsOf 7 = .ok (.aload_n 0, 1) := by decide +kernel
theorem dX12_letsOf_8 : decode cX12_letsOf 8 = .ok (.iload_n 1, 1) := by decide +kernel
theorem dX12_letsOf_9 : decode cX12_letsOf 9 = .ok (.iconst 0, 1) := by decide +kernel
theorem dX12_letsOf_10 : decode cX12_letsOf 10 = .ok (.invokevirtual 203, 3) := by decide +kernel
theorem dX12_letsOf_13 : decode cX12_letsOf 13 = .ok (.tableswitch 64 0 5 #[39, 41, 60, 64, 45, 60], 39) := by decide +kernel
theorem dX12_letsOf_52 : decode cX12_letsOf 52 = .ok (.iload_n 2, 1) := by decide +kernel
theorem dX12_letsOf_53 : decode cX12_letsOf 53 = .ok (.ireturn, 1) := by decide +kernel
theorem dX12_letsOf_54 : decode cX12_letsOf 54 = .ok (.iload_n 2, 1) := by decide +kernel
theorem dX12_letsOf_55 : decode cX12_letsOf 55 = .ok (.iconst 2, 1) := by decide +kernel
theorem dX12_letsOf_56 : decode cX12_letsOf 56 = .ok (.idiv, 1) := by decide +kernel
theorem dX12_letsOf_57 : decode cX12_letsOf 57 = .ok (.ireturn, 1) := by decide +kernel
theorem dX12_letsOf_58 : decode cX12_letsOf 58 = .ok (.iload_n 2, 1) := by decide +kernel
theorem dX12_letsOf_59 : decode cX12_letsOf 59 = .ok (.iconst 2, 1) := by decide +kernel
theorem dX12_letsOf_60 : decode cX12_letsOf 60 = .ok (.idiv, 1) := by decide +kernel
theorem dX12_letsOf_61 : decode cX12_letsOf 61 = .ok (.aload_n 0, 1) := by decide +kernel
theorem dX12_letsOf_62 : decode cX12_letsOf 62 = .ok (.iload_n 1, 1) := by decide +kernel
theorem dX12_letsOf_63 : decode cX12_letsOf 63 = .ok (.iconst 4, 1) := by decide +kernel
theorem dX12_letsOf_64 : decode cX12_letsOf 64 = .ok (.invokevirtual 203, 3) := by decide +kernel
theorem dX12_letsOf_67 : decode cX12_letsOf 67 = .ok (.isub, 1) := by decide +kernel
theorem dX12_letsOf_68 : decode cX12_letsOf 68 = .ok (.iconst 0, 1) := by decide +kernel
theorem dX12_letsOf_69 : decode cX12_letsOf 69 = .ok (.invokestatic 224, 3) := by decide +kernel
theorem dX12_letsOf_72 : decode cX12_letsOf 72 = .ok (.ireturn, 1) := by decide +kernel
theorem dX12_letsOf_73 : decode cX12_letsOf 73 = .ok (.iconst 2, 1) := by decide +kernel
theorem dX12_letsOf_74 : decode cX12_letsOf 74 = .ok (.iload_n 2, 1) := by decide +kernel
theorem dX12_letsOf_75 : decode cX12_letsOf 75 = .ok (.imul, 1) := by decide +kernel
theorem dX12_letsOf_76 : decode cX12_letsOf 76 = .ok (.ireturn, 1) := by decide +kernel
theorem dX12_letsOf_77 : decode cX12_letsOf 77 = .ok (.bipush 99, 2) := by decide +kernel
theorem dX12_letsOf_79 : decode cX12_letsOf 79 = .ok (.ireturn, 1) := by decide +kernel
theorem dX12_saysNo_0 : decode cX12_saysNo 0 = .ok (.aload_n 0, 1) := by decide +kernel
theorem dX12_saysNo_1 : decode cX12_saysNo 1 = .ok (.iload_n 1, 1) := by decide +kernel
theorem dX12_saysNo_2 : decode cX12_saysNo 2 = .ok (.invokevirtual 227, 3) := by decide +kernel
theorem dX12_saysNo_5 : decode cX12_saysNo 5 = .ok (.aload_n 0, 1) := by decide +kernel
theorem dX12_saysNo_6 : decode cX12_saysNo 6 = .ok (.iload_n 1, 1) := by decide +kernel
theorem dX12_saysNo_7 : decode cX12_saysNo 7 = .ok (.invokevirtual 230, 3) := by decide +kernel
theorem dX12_saysNo_10 : decode cX12_saysNo 10 = .ok (.if_icmp .le 7, 3) := by decide +kernel
theorem dX12_saysNo_13 : decode cX12_saysNo 13 = .ok (.iconst 1, 1) := by decide +kernel
theorem dX12_saysNo_14 : decode cX12_saysNo 14 = .ok (.goto 4, 3) := by decide +kernel
theorem dX12_saysNo_17 : decode cX12_saysNo 17 = .ok (.iconst 0, 1) := by decide +kernel
theorem dX12_saysNo_18 : decode cX12_saysNo 18 = .ok (.ireturn, 1) := by decide +kernel
theorem dX12_visitOne_0 : decode cX12_visitOne 0 = .ok (.aload_n 0, 1) := by decide +kernel
theorem dX12_visitOne_1 : decode cX12_visitOne 1 = .ok (.iload_n 1, 1) := by decide +kernel
theorem dX12_visitOne_2 : decode cX12_visitOne 2 = .ok (.invokevirtual 227, 3) := by decide +kernel
theorem dX12_visitOne_5 : decode cX12_visitOne 5 = .ok (.istore_n 2, 1) := by decide +kernel
theorem dX12_visitOne_6 : decode cX12_visitOne 6 = .ok (.aload_n 0, 1) := by decide +kernel
theorem dX12_visitOne_7 : decode cX12_visitOne 7 = .ok (.iload_n 1, 1) := by decide +kernel
theorem dX12_visitOne_8 : decode cX12_visitOne 8 = .ok (.invokevirtual 233, 3) := by decide +kernel
theorem dX12_visitOne_11 : decode cX12_visitOne 11 = .ok (.istore_n 3, 1) := by decide +kernel
theorem dX12_visitOne_12 : decode cX12_visitOne 12 = .ok (.aload_n 0, 1) := by decide +kernel
theorem dX12_visitOne_13 : decode cX12_visitOne 13 = .ok (.aload_n 0, 1) := by decide +kernel
theorem dX12_visitOne_14 : decode cX12_visitOne 14 = .ok (.iload_n 1, 1) := by decide +kernel
theorem dX12_visitOne_15 : decode cX12_visitOne 15 = .ok (.invokevirtual 236, 3) := by decide +kernel
theorem dX12_visitOne_18 : decode cX12_visitOne 18 = .ok (.putfield 239, 3) := by decide +kernel
theorem dX12_visitOne_21 : decode cX12_visitOne 21 = .ok (.aload_n 0, 1) := by decide +kernel
theorem dX12_visitOne_22 : decode cX12_visitOne 22 = .ok (.aload_n 0, 1) := by decide +kernel
theorem dX12_visitOne_23 : decode cX12_visitOne 23 = .ok (.getfield 239, 3) := by decide +kernel
theorem dX12_visitOne_26 : decode cX12_visitOne 26 = .ok (.iload_n 2, 1) := by decide +kernel
theorem dX12_visitOne_27 : decode cX12_visitOne 27 = .ok (.iadd, 1) := by decide +kernel
theorem dX12_visitOne_28 : decode cX12_visitOne 28 = .ok (.putfield 242, 3) := by decide +kernel
theorem dX12_visitOne_31 : decode cX12_visitOne 31 = .ok (.aload_n 0, 1) := by decide +kernel
theorem dX12_visitOne_32 : decode cX12_visitOne 32 = .ok (.iload_n 3, 1) := by decide +kernel
theorem dX12_visitOne_33 : decode cX12_visitOne 33 = .ok (.ifCond .eq 14, 3) := by decide +kernel
theorem dX12_visitOne_36 : decode cX12_visitOne 36 = .ok (.aload_n 0, 1) := by decide +kernel
theorem dX12_visitOne_37 : decode cX12_visitOne 37 = .ok (.getfield 239, 3) := by decide +kernel
theorem dX12_visitOne_40 : decode cX12_visitOne 40 = .ok (.iload_n 2, 1) := by decide +kernel
theorem dX12_visitOne_41 : decode cX12_visitOne 41 = .ok (.iconst 2, 1) := by decide +kernel
theorem dX12_visitOne_42 : decode cX12_visitOne 42 = .ok (.idiv, 1) := by decide +kernel
theorem dX12_visitOne_43 : decode cX12_visitOne 43 = .ok (.iadd, 1) := by decide +kernel
theorem dX12_visitOne_44 : decode cX12_visitOne 44 = .ok (.goto 7, 3) := by decide +kernel
theorem dX12_visitOne_47 : decode cX12_visitOne 47 = .ok (.aload_n 0, 1) := by decide +kernel
theorem dX12_visitOne_48 : decode cX12_visitOne 48 = .ok (.getfield 242, 3) := by decide +kernel
theorem dX12_visitOne_51 : decode cX12_visitOne 51 = .ok (.putfield 245, 3) := by decide +kernel
theorem dX12_visitOne_54 : decode cX12_visitOne 54 = .ok (.aload_n 0, 1) := by decide +kernel
theorem dX12_visitOne_55 : decode cX12_visitOne 55 = .ok (.iload_n 1, 1) := by decide +kernel
theorem dX12_visitOne_56 : decode cX12_visitOne 56 = .ok (.iconst 3, 1) := by decide +kernel
theorem dX12_visitOne_57 : decode cX12_visitOne 57 = .ok (.invokevirtual 203, 3) := by decide +kernel
theorem dX12_visitOne_60 : decode cX12_visitOne 60 = .ok (.iload_n 3, 1) := by decide +kernel
theorem dX12_visitOne_61 : decode cX12_visitOne 61 = .ok (.ifCond .eq 8, 3) := by decide +kernel
theorem dX12_visitOne_64 : decode cX12_visitOne 64 = .ok (.bipush (-2), 2) := by decide +kernel
theorem dX12_visitOne_66 : decode cX12_visitOne 66 = .ok (.goto 9, 3) := by decide +kernel
theorem dX12_visitOne_69 : decode cX12_visitOne 69 = .ok (.aload_n 0, 1) := by decide +kernel
theorem dX12_visitOne_70 : decode cX12_visitOne 70 = .ok (.iconst 3, 1) := by decide +kernel
theorem dX12_visitOne_71 : decode cX12_visitOne 71 = .ok (.iconst 1, 1) := by decide +kernel
theorem dX12_visitOne_72 : decode cX12_visitOne 72 = .ok (.invokevirtual 248, 3) := by decide +kernel
theorem dX12_visitOne_75 : decode cX12_visitOne 75 = .ok (.iadd, 1) := by decide +kernel
theorem dX12_visitOne_76 : decode cX12_visitOne 76 = .ok (.istore 4, 2) := by decide +kernel
theorem dX12_visitOne_78 : decode cX12_visitOne 78 = .ok (.aload_n 0, 1) := by decide +kernel
theorem dX12_visitOne_79 : decode cX12_visitOne 79 = .ok (.iload_n 1, 1) := by decide +kernel
theorem dX12_visitOne_80 : decode cX12_visitOne 80 = .ok (.iconst 3, 1) := by decide +kernel
theorem dX12_visitOne_81 : decode cX12_visitOne 81 = .ok (.iload 4, 2) := by decide +kernel
theorem dX12_visitOne_83 : decode cX12_visitOne 83 = .ok (.ifCond .ge 7, 3) := by decide +kernel
theorem dX12_visitOne_86 : decode cX12_visitOne 86 = .ok (.iconst 0, 1) := by decide +kernel
theorem dX12_visitOne_87 : decode cX12_visitOne 87 = .ok (.goto 17, 3) := by decide +kernel
theorem dX12_visitOne_90 : decode cX12_visitOne 90 = .ok (.iload 4, 2) := by decide +kernel
theorem dX12_visitOne_92 : decode cX12_visitOne 92 = .ok (.bipush 20, 2) := by decide +kernel
theorem dX12_visitOne_94 : decode cX12_visitOne 94 = .ok (.if_icmp .le 8, 3) := by decide +kernel
theorem dX12_visitOne_97 : decode cX12_visitOne 97 = .ok (.bipush 20, 2) := by decide +kernel
theorem dX12_visitOne_99 : decode cX12_visitOne 99 = .ok (.goto 5, 3) := by decide +kernel
theorem dX12_visitOne_102 : decode cX12_visitOne 102 = .ok (.iload 4, 2) := by decide +kernel
theorem dX12_visitOne_104 : decode cX12_visitOne 104 = .ok (.invokevirtual 251, 3) := by decide +kernel
theorem dX12_visitOne_107 : decode cX12_visitOne 107 = .ok (.iload_n 3, 1) := by decide +kernel
theorem dX12_visitOne_108 : decode cX12_visitOne 108 = .ok (.ifCond .eq 28, 3) := by decide +kernel
theorem dX12_visitOne_111 : decode cX12_visitOne 111 = .ok (.aload_n 0, 1) := by decide +kernel
theorem dX12_visitOne_112 : decode cX12_visitOne 112 = .ok (.iload_n 1, 1) := by decide +kernel
theorem dX12_visitOne_113 : decode cX12_visitOne 113 = .ok (.iconst 5, 1) := by decide +kernel
theorem dX12_visitOne_114 : decode cX12_visitOne 114 = .ok (.invokevirtual 203, 3) := by decide +kernel
theorem dX12_visitOne_117 : decode cX12_visitOne 117 = .ok (.bipush 99, 2) := by decide +kernel
theorem dX12_visitOne_119 : decode cX12_visitOne 119 = .ok (.if_icmp .ge 17, 3) := by decide +kernel
theorem dX12_visitOne_122 : decode cX12_visitOne 122 = .ok (.aload_n 0, 1) := by decide +kernel
theorem dX12_visitOne_123 : decode cX12_visitOne 123 = .ok (.iload_n 1, 1) := by decide +kernel
theorem dX12_visitOne_124 : decode cX12_visitOne 124 = .ok (.iconst 5, 1) := by decide +kernel
theorem dX12_visitOne_125 : decode cX12_visitOne 125 = .ok (.aload_n 0, 1) := by decide +kernel
theorem dX12_visitOne_126 : decode cX12_visitOne 126 = .ok (.iload_n 1, 1) := by decide +kernel
theorem dX12_visitOne_127 : decode cX12_visitOne 127 = .ok (.iconst 5, 1) := by decide +kernel
theorem dX12_visitOne_128 : decode cX12_visitOne 128 = .ok (.invokevirtual 203, 3) := by decide +kernel
theorem dX12_visitOne_131 : decode cX12_visitOne 131 = .ok (.iconst 1, 1) := by decide +kernel
theorem dX12_visitOne_132 : decode cX12_visitOne 132 = .ok (.iadd, 1) := by decide +kernel
theorem dX12_visitOne_133 : decode cX12_visitOne 133 = .ok (.invokevirtual 251, 3) := by decide +kernel
theorem dX12_visitOne_136 : decode cX12_visitOne 136 = .ok (.iload_n 3, 1) := by decide +kernel
theorem dX12_visitOne_137 : decode cX12_visitOne 137 = .ok (.ifCond .eq 31, 3) := by decide +kernel
theorem dX12_visitOne_140 : decode cX12_visitOne 140 = .ok (.aload_n 0, 1) := by decide +kernel
theorem dX12_visitOne_141 : decode cX12_visitOne 141 = .ok (.iload_n 1, 1) := by decide +kernel
theorem dX12_visitOne_142 : decode cX12_visitOne 142 = .ok (.iconst 0, 1) := by decide +kernel
theorem dX12_visitOne_143 : decode cX12_visitOne 143 = .ok (.invokevirtual 203, 3) := by decide +kernel
theorem dX12_visitOne_146 : decode cX12_visitOne 146 = .ok (.iconst 5, 1) := by decide +kernel
theorem dX12_visitOne_147 : decode cX12_visitOne 147 = .ok (.if_icmp .ne 21, 3) := by decide +kernel
theorem dX12_visitOne_150 : decode cX12_visitOne 150 = .ok (.aload_n 0, 1) := by decide +kernel
theorem dX12_visitOne_151 : decode cX12_visitOne 151 = .ok (.iload_n 1, 1) := by decide +kernel
theorem dX12_visitOne_152 : decode cX12_visitOne 152 = .ok (.iconst 5, 1) := by decide +kernel
theorem dX12_visitOne_153 : decode cX12_visitOne 153 = .ok (.invokevirtual 203, 3) := by decide +kernel
theorem dX12_visitOne_156 : decode cX12_visitOne 156 = .ok (.iconst 3, 1) := by decide +kernel
theorem dX12_visitOne_157 : decode cX12_visitOne 157 = .ok (.if_icmp .lt 11, 3) := by decide +kernel
theorem dX12_visitOne_160 : decode cX12_visitOne 160 = .ok (.aload_n 0, 1) := by decide +kernel
theorem dX12_visitOne_161 : decode cX12_visitOne 161 = .ok (.iload_n 1, 1) := by decide +kernel
theorem dX12_visitOne_162 : decode cX12_visitOne 162 = .ok (.bipush 7, 2) := by decide +kernel
theorem dX12_visitOne_164 : decode cX12_visitOne 164 = .ok (.iconst 1, 1) := by decide +kernel
theorem dX12_visitOne_165 : decode cX12_visitOne 165 = .ok (.invokevirtual 251, 3) := by decide +kernel
theorem dX12_visitOne_168 : decode cX12_visitOne 168 = .ok (.aload_n 0, 1) := by decide +kernel
theorem dX12_visitOne_169 : decode cX12_visitOne 169 = .ok (.getfield 245, 3) := by decide +kernel
theorem dX12_visitOne_172 : decode cX12_visitOne 172 = .ok (.aload_n 0, 1) := by decide +kernel
theorem dX12_visitOne_173 : decode cX12_visitOne 173 = .ok (.iload_n 1, 1) := by decide +kernel
theorem dX12_visitOne_174 : decode cX12_visitOne 174 = .ok (.iconst 2, 1) := by decide +kernel
theorem dX12_visitOne_175 : decode cX12_visitOne 175 = .ok (.invokevirtual 203, 3) := by decide +kernel
theorem dX12_visitOne_178 : decode cX12_visitOne 178 = .ok (.isub, 1) := by decide +kernel
theorem dX12_visitOne_179 : decode cX12_visitOne 179 = .ok (.istore 5, 2) := by decide +kernel
theorem dX12_visitOne_181 : decode cX12_visitOne 181 = .ok (.aload_n 0, 1) := by decide +kernel
theorem dX12_visitOne_182 : decode cX12_visitOne 182 = .ok (.iload_n 1, 1) := by decide +kernel
theorem dX12_visitOne_183 : decode cX12_visitOne 183 = .ok (.iconst 4, 1) := by decide +kernel
theorem dX12_visitOne_184 : decode cX12_visitOne 184 = .ok (.iload 5, 2) := by decide +kernel
theorem dX12_visitOne_186 : decode cX12_visitOne 186 = .ok (.ifCond .ge 7, 3) := by decide +kernel
theorem dX12_visitOne_189 : decode cX12_visitOne 189 = .ok (.iconst 0, 1) := by decide +kernel
theorem dX12_visitOne_190 : decode cX12_visitOne 190 = .ok (.goto 17, 3) := by decide +kernel
theorem dX12_visitOne_193 : decode cX12_visitOne 193 = .ok (.iload 5, 2) := by decide +kernel
theorem dX12_visitOne_195 : decode cX12_visitOne 195 = .ok (.bipush 99, 2) := by decide +kernel
theorem dX12_visitOne_197 : decode cX12_visitOne 197 = .ok (.if_icmp .le 8, 3) := by decide +kernel
theorem dX12_visitOne_200 : decode cX12_visitOne 200 = .ok (.bipush 99, 2) := by decide +kernel
theorem dX12_visitOne_202 : decode cX12_visitOne 202 = .ok (.goto 5, 3) := by decide +kernel
theorem dX12_visitOne_205 : decode cX12_visitOne 205 = .ok (.iload 5, 2) := by decide +kernel
theorem dX12_visitOne_207 : decode cX12_visitOne 207 = .ok (.invokevirtual 251, 3) := by decide +kernel
theorem dX12_visitOne_210 : decode cX12_visitOne 210 = .ok (.aload_n 0, 1) := by decide +kernel
theorem dX12_visitOne_211 : decode cX12_visitOne 211 = .ok (.getfield 115, 3) := by decide +kernel
theorem dX12_visitOne_214 : decode cX12_visitOne 214 = .ok (.ifCond .ne 16, 3) := by decide +kernel
theorem dX12_visitOne_217 : decode cX12_visitOne 217 = .ok (.aload_n 0, 1) := by decide +kernel
theorem dX12_visitOne_218 : decode cX12_visitOne 218 = .ok (.iload_n 1, 1) := by decide +kernel
theorem dX12_visitOne_219 : decode cX12_visitOne 219 = .ok (.bipush 6, 2) := by decide +kernel
theorem dX12_visitOne_221 : decode cX12_visitOne 221 = .ok (.invokevirtual 203, 3) := by decide +kernel
theorem dX12_visitOne_224 : decode cX12_visitOne 224 = .ok (.sipush 9999, 3) := by decide +kernel
theorem dX12_visitOne_227 : decode cX12_visitOne 227 = .ok (.if_icmp .ge 19, 3) := by decide +kernel
theorem dX12_visitOne_230 : decode cX12_visitOne 230 = .ok (.aload_n 0, 1) := by decide +kernel
theorem dX12_visitOne_231 : decode cX12_visitOne 231 = .ok (.iload_n 1, 1) := by decide +kernel
theorem dX12_visitOne_232 : decode cX12_visitOne 232 = .ok (.bipush 6, 2) := by decide +kernel
theorem dX12_visitOne_234 : decode cX12_visitOne 234 = .ok (.aload_n 0, 1) := by decide +kernel
theorem dX12_visitOne_235 : decode cX12_visitOne 235 = .ok (.iload_n 1, 1) := by decide +kernel
theorem dX12_visitOne_236 : decode cX12_visitOne 236 = .ok (.bipush 6, 2) := by decide +kernel
theorem dX12_visitOne_238 : decode cX12_visitOne 238 = .ok (.invokevirtual 203, 3) := by decide +kernel
theorem dX12_visitOne_241 : decode cX12_visitOne 241 = .ok (.iconst 1, 1) := by decide +kernel
theorem dX12_visitOne_242 : decode cX12_visitOne 242 = .ok (.iadd, 1) := by decide +kernel
theorem dX12_visitOne_243 : decode cX12_visitOne 243 = .ok (.invokevirtual 251, 3) := by decide +kernel
theorem dX12_visitOne_246 : decode cX12_visitOne 246 = .ok (.return_, 1) := by decide +kernel
theorem dX12_isGone_0 : decode cX12_isGone 0 = .ok (.aload_n 0, 1) := by decide +kernel
theorem dX12_isGone_1 : decode cX12_isGone 1 = .ok (.iload_n 1, 1) := by decide +kernel
theorem dX12_isGone_2 : decode cX12_isGone 2 = .ok (.bipush 7, 2) := by decide +kernel
theorem dX12_isGone_4 : decode cX12_isGone 4 = .ok (.invokevirtual 203, 3) := by decide +kernel
theorem dX12_isGone_7 : decode cX12_isGone 7 = .ok (.iconst 1, 1) := by decide +kernel
theorem dX12_isGone_8 : decode cX12_isGone 8 = .ok (.if_icmp .ne 7, 3) := by decide +kernel
theorem dX12_isGone_11 : decode cX12_isGone 11 = .ok (.iconst 1, 1) := by decide +kernel
theorem dX12_isGone_12 : decode cX12_isGone 12 = .ok (.goto 4, 3) := by decide +kernel
theorem dX12_isGone_15 : decode cX12_isGone 15 = .ok (.iconst 0, 1) := by decide +kernel
theorem dX12_isGone_16 : decode cX12_isGone 16 = .ok (.ireturn, 1) := by decide +kernel
theorem dX12_saturdayOn_0 : decode cX12_saturdayOn 0 = .ok (.iconst 0, 1) := by decide +kernel
theorem dX12_saturdayOn_1 : decode cX12_saturdayOn 1 = .ok (.istore_n 1, 1) := by decide +kernel
theorem dX12_saturdayOn_2 : decode cX12_saturdayOn 2 = .ok (.iload_n 1, 1) := by decide +kernel
theorem dX12_saturdayOn_3 : decode cX12_saturdayOn 3 = .ok (.aload_n 0, 1) := by decide +kernel
theorem dX12_saturdayOn_4 : decode cX12_saturdayOn 4 = .ok (.getfield 88, 3) := by decide +kernel
theorem dX12_saturdayOn_7 : decode cX12_saturdayOn 7 = .ok (.if_icmp .ge 58, 3) := by decide +kernel
theorem dX12_saturdayOn_10 : decode cX12_saturdayOn 10 = .ok (.aload_n 0, 1) := by decide +kernel
theorem dX12_saturdayOn_11 : decode cX12_saturdayOn 11 = .ok (.iload_n 1, 1) := by decide +kernel
theorem dX12_saturdayOn_12 : decode cX12_saturdayOn 12 = .ok (.invokevirtual 255, 3) := by decide +kernel
theorem dX12_saturdayOn_15 : decode cX12_saturdayOn 15 = .ok (.ifCond .ne 44, 3) := by decide +kernel
theorem dX12_saturdayOn_18 : decode cX12_saturdayOn 18 = .ok (.aload_n 0, 1) := by decide +kernel
theorem dX12_saturdayOn_19 : decode cX12_saturdayOn 19 = .ok (.iload_n 1, 1) := by decide +kernel
theorem dX12_saturdayOn_20 : decode cX12_saturdayOn 20 = .ok (.invokevirtual 258, 3) := by decide +kernel
theorem dX12_saturdayOn_23 : decode cX12_saturdayOn 23 = .ok (.aload_n 0, 1) := by decide +kernel
theorem dX12_saturdayOn_24 : decode cX12_saturdayOn 24 = .ok (.dup, 1) := by decide +kernel
theorem dX12_saturdayOn_25 : decode cX12_saturdayOn 25 = .ok (.getfield 261, 3) := by decide +kernel
theorem dX12_saturdayOn_28 : decode cX12_saturdayOn 28 = .ok (.aload_n 0, 1) := by decide +kernel
theorem dX12_saturdayOn_29 : decode cX12_saturdayOn 29 = .ok (.getfield 245, 3) := by decide +kernel
theorem dX12_saturdayOn_32 : decode cX12_saturdayOn 32 = .ok (.iadd, 1) := by decide +kernel
theorem dX12_saturdayOn_33 : decode cX12_saturdayOn 33 = .ok (.putfield 261, 3) := by decide +kernel
theorem dX12_saturdayOn_36 : decode cX12_saturdayOn 36 = .ok (.aload_n 0, 1) := by decide +kernel
theorem dX12_saturdayOn_37 : decode cX12_saturdayOn 37 = .ok (.dup, 1) := by decide +kernel
theorem dX12_saturdayOn_38 : decode cX12_saturdayOn 38 = .ok (.getfield 264, 3) := by decide +kernel
theorem dX12_saturdayOn_41 : decode cX12_saturdayOn 41 = .ok (.aload_n 0, 1) := by decide +kernel
theorem dX12_saturdayOn_42 : decode cX12_saturdayOn 42 = .ok (.getfield 239, 3) := by decide +kernel
theorem dX12_saturdayOn_45 : decode cX12_saturdayOn 45 = .ok (.iadd, 1) := by decide +kernel
theorem dX12_saturdayOn_46 : decode cX12_saturdayOn 46 = .ok (.putfield 264, 3) := by decide +kernel
theorem dX12_saturdayOn_49 : decode cX12_saturdayOn 49 = .ok (.aload_n 0, 1) := by decide +kernel
theorem dX12_saturdayOn_50 : decode cX12_saturdayOn 50 = .ok (.dup, 1) := by decide +kernel
theorem dX12_saturdayOn_51 : decode cX12_saturdayOn 51 = .ok (.getfield 267, 3) := by decide +kernel
theorem dX12_saturdayOn_54 : decode cX12_saturdayOn 54 = .ok (.iconst 1, 1) := by decide +kernel
theorem dX12_saturdayOn_55 : decode cX12_saturdayOn 55 = .ok (.iadd, 1) := by decide +kernel
theorem dX12_saturdayOn_56 : decode cX12_saturdayOn 56 = .ok (.putfield 267, 3) := by decide +kernel
theorem dX12_saturdayOn_59 : decode cX12_saturdayOn 59 = .ok (.iinc 1 1, 3) := by decide +kernel
theorem dX12_saturdayOn_62 : decode cX12_saturdayOn 62 = .ok (.goto (-60), 3) := by decide +kernel
theorem dX12_saturdayOn_65 : decode cX12_saturdayOn 65 = .ok (.return_, 1) := by decide +kernel
theorem dX12_saturdaysOn_0 : decode cX12_saturdaysOn 0 = .ok (.aload_n 0, 1) := by decide +kernel
theorem dX12_saturdaysOn_1 : decode cX12_saturdaysOn 1 = .ok (.iconst 0, 1) := by decide +kernel
theorem dX12_saturdaysOn_2 : decode cX12_saturdaysOn 2 = .ok (.putfield 261, 3) := by decide +kernel
theorem dX12_saturdaysOn_5 : decode cX12_saturdaysOn 5 = .ok (.aload_n 0, 1) := by decide +kernel
theorem dX12_saturdaysOn_6 : decode cX12_saturdaysOn 6 = .ok (.iconst 0, 1) := by decide +kernel
theorem dX12_saturdaysOn_7 : decode cX12_saturdaysOn 7 = .ok (.putfield 264, 3) := by decide +kernel
theorem dX12_saturdaysOn_10 : decode cX12_saturdaysOn 10 = .ok (.aload_n 0, 1) := by decide +kernel
theorem dX12_saturdaysOn_11 : decode cX12_saturdaysOn 11 = .ok (.iconst 0, 1) := by decide +kernel
theorem dX12_saturdaysOn_12 : decode cX12_saturdaysOn 12 = .ok (.putfield 267, 3) := by decide +kernel
theorem dX12_saturdaysOn_15 : decode cX12_saturdaysOn 15 = .ok (.iconst 0, 1) := by decide +kernel
theorem dX12_saturdaysOn_16 : decode cX12_saturdaysOn 16 = .ok (.istore_n 2, 1) := by decide +kernel
theorem dX12_saturdaysOn_17 : decode cX12_saturdaysOn 17 = .ok (.iload_n 2, 1) := by decide +kernel
theorem dX12_saturdaysOn_18 : decode cX12_saturdaysOn 18 = .ok (.iload_n 1, 1) := by decide +kernel
theorem dX12_saturdaysOn_19 : decode cX12_saturdaysOn 19 = .ok (.if_icmp .ge 13, 3) := by decide +kernel
theorem dX12_saturdaysOn_22 : decode cX12_saturdaysOn 22 = .ok (.aload_n 0, 1) := by decide +kernel
theorem dX12_saturdaysOn_23 : decode cX12_saturdaysOn 23 = .ok (.invokevirtual 270, 3) := by decide +kernel
theorem dX12_saturdaysOn_26 : decode cX12_saturdaysOn 26 = .ok (.iinc 2 1, 3) := by decide +kernel
theorem dX12_saturdaysOn_29 : decode cX12_saturdaysOn 29 = .ok (.goto (-12), 3) := by decide +kernel
theorem dX12_saturdaysOn_32 : decode cX12_saturdaysOn 32 = .ok (.return_, 1) := by decide +kernel
theorem dX12_goneBits_0 : decode cX12_goneBits 0 = .ok (.iconst 0, 1) := by decide +kernel
theorem dX12_goneBits_1 : decode cX12_goneBits 1 = .ok (.istore_n 1, 1) := by decide +kernel
theorem dX12_goneBits_2 : decode cX12_goneBits 2 = .ok (.iconst 0, 1) := by decide +kernel
theorem dX12_goneBits_3 : decode cX12_goneBits 3 = .ok (.istore_n 2, 1) := by decide +kernel
theorem dX12_goneBits_4 : decode cX12_goneBits 4 = .ok (.iload_n 2, 1) := by decide +kernel
theorem dX12_goneBits_5 : decode cX12_goneBits 5 = .ok (.aload_n 0, 1) := by decide +kernel
theorem dX12_goneBits_6 : decode cX12_goneBits 6 = .ok (.getfield 88, 3) := by decide +kernel
theorem dX12_goneBits_9 : decode cX12_goneBits 9 = .ok (.if_icmp .ge 21, 3) := by decide +kernel
theorem dX12_goneBits_12 : decode cX12_goneBits 12 = .ok (.iload_n 1, 1) := by decide +kernel
theorem dX12_goneBits_13 : decode cX12_goneBits 13 = .ok (.aload_n 0, 1) := by decide +kernel
theorem dX12_goneBits_14 : decode cX12_goneBits 14 = .ok (.iload_n 2, 1) := by decide +kernel
theorem dX12_goneBits_15 : decode cX12_goneBits 15 = .ok (.bipush 7, 2) := by decide +kernel
theorem dX12_goneBits_17 : decode cX12_goneBits 17 = .ok (.invokevirtual 203, 3) := by decide +kernel
theorem dX12_goneBits_20 : decode cX12_goneBits 20 = .ok (.iload_n 2, 1) := by decide +kernel
theorem dX12_goneBits_21 : decode cX12_goneBits 21 = .ok (.ishl, 1) := by decide +kernel
theorem dX12_goneBits_22 : decode cX12_goneBits 22 = .ok (.ior, 1) := by decide +kernel
theorem dX12_goneBits_23 : decode cX12_goneBits 23 = .ok (.istore_n 1, 1) := by decide +kernel
theorem dX12_goneBits_24 : decode cX12_goneBits 24 = .ok (.iinc 2 1, 3) := by decide +kernel
theorem dX12_goneBits_27 : decode cX12_goneBits 27 = .ok (.goto (-23), 3) := by decide +kernel
theorem dX12_goneBits_30 : decode cX12_goneBits 30 = .ok (.iload_n 1, 1) := by decide +kernel
theorem dX12_goneBits_31 : decode cX12_goneBits 31 = .ok (.ireturn, 1) := by decide +kernel
theorem dX12_customer_0 : decode cX12_customer 0 = .ok (.aload_n 0, 1) := by decide +kernel
theorem dX12_customer_1 : decode cX12_customer 1 = .ok (.iconst 0, 1) := by decide +kernel
theorem dX12_customer_2 : decode cX12_customer 2 = .ok (.putfield 85, 3) := by decide +kernel
theorem dX12_customer_5 : decode cX12_customer 5 = .ok (.iload_n 1, 1) := by decide +kernel
theorem dX12_customer_6 : decode cX12_customer 6 = .ok (.i2l, 1) := by decide +kernel
theorem dX12_customer_7 : decode cX12_customer 7 = .ok (.lconst 0, 1) := by decide +kernel
theorem dX12_customer_8 : decode cX12_customer 8 = .ok (.ldc2_w 273, 3) := by decide +kernel
theorem dX12_customer_11 : decode cX12_customer 11 = .ok (.invokestatic 91, 3) := by decide +kernel
theorem dX12_customer_14 : decode cX12_customer 14 = .ok (.ifCond .ne 5, 3) := by decide +kernel
theorem dX12_customer_17 : decode cX12_customer 17 = .ok (.iconst (-1), 1) := by decide +kernel
theorem dX12_customer_18 : decode cX12_customer 18 = .ok (.ireturn, 1) := by decide +kernel
theorem dX12_customer_19 : decode cX12_customer 19 = .ok (.iload_n 2, 1) := by decide +kernel
theorem dX12_customer_20 : decode cX12_customer 20 = .ok (.i2l, 1) := by decide +kernel
theorem dX12_customer_21 : decode cX12_customer 21 = .ok (.lconst 0, 1) := by decide +kernel
theorem dX12_customer_22 : decode cX12_customer 22 = .ok (.ldc2_w 275, 3) := by decide +kernel
theorem dX12_customer_25 : decode cX12_customer 25 = .ok (.invokestatic 91, 3) := by decide +kernel
theorem dX12_customer_28 : decode cX12_customer 28 = .ok (.ifCond .eq 17, 3) := by decide +kernel
theorem dX12_customer_31 : decode cX12_customer 31 = .ok (.iload_n 3, 1) := by decide +kernel
theorem dX12_customer_32 : decode cX12_customer 32 = .ok (.i2l, 1) := by decide +kernel
theorem dX12_customer_33 : decode cX12_customer 33 = .ok (.ldc2_w 277, 3) := by decide +kernel
theorem dX12_customer_36 : decode cX12_customer 36 = .ok (.ldc2_w 279, 3) := by decide +kernel
theorem dX12_customer_39 : decode cX12_customer 39 = .ok (.invokestatic 91, 3) := by decide +kernel
theorem dX12_customer_42 : decode cX12_customer 42 = .ok (.ifCond .ne 6, 3) := by decide +kernel
theorem dX12_customer_45 : decode cX12_customer 45 = .ok (.bipush (-2), 2) := by decide +kernel
theorem dX12_customer_47 : decode cX12_customer 47 = .ok (.ireturn, 1) := by decide +kernel
theorem dX12_customer_48 : decode cX12_customer 48 = .ok (.aload_n 0, 1) := by decide +kernel
theorem dX12_customer_49 : decode cX12_customer 49 = .ok (.getfield 88, 3) := by decide +kernel
theorem dX12_customer_52 : decode cX12_customer 52 = .ok (.bipush 6, 2) := by decide +kernel
theorem dX12_customer_54 : decode cX12_customer 54 = .ok (.if_icmp .ne 6, 3) := by decide +kernel
theorem dX12_customer_57 : decode cX12_customer 57 = .ok (.bipush (-4), 2) := by decide +kernel
theorem dX12_customer_59 : decode cX12_customer 59 = .ok (.ireturn, 1) := by decide +kernel
theorem dX12_customer_60 : decode cX12_customer 60 = .ok (.iconst 0, 1) := by decide +kernel
theorem dX12_customer_61 : decode cX12_customer 61 = .ok (.istore 4, 2) := by decide +kernel
theorem dX12_customer_63 : decode cX12_customer 63 = .ok (.iload 4, 2) := by decide +kernel
theorem dX12_customer_65 : decode cX12_customer 65 = .ok (.bipush 12, 2) := by decide +kernel
theorem dX12_customer_67 : decode cX12_customer 67 = .ok (.if_icmp .ge 20, 3) := by decide +kernel
theorem dX12_customer_70 : decode cX12_customer 70 = .ok (.aload_n 0, 1) := by decide +kernel
theorem dX12_customer_71 : decode cX12_customer 71 = .ok (.aload_n 0, 1) := by decide +kernel
theorem dX12_customer_72 : decode cX12_customer 72 = .ok (.getfield 88, 3) := by decide +kernel
theorem dX12_customer_75 : decode cX12_customer 75 = .ok (.iload 4, 2) := by decide +kernel
theorem dX12_customer_77 : decode cX12_customer 77 = .ok (.iconst 0, 1) := by decide +kernel
theorem dX12_customer_78 : decode cX12_customer 78 = .ok (.invokevirtual 251, 3) := by decide +kernel
theorem dX12_customer_81 : decode cX12_customer 81 = .ok (.iinc 4 1, 3) := by decide +kernel
theorem dX12_customer_84 : decode cX12_customer 84 = .ok (.goto (-21), 3) := by decide +kernel
theorem dX12_customer_87 : decode cX12_customer 87 = .ok (.aload_n 0, 1) := by decide +kernel
theorem dX12_customer_88 : decode cX12_customer 88 = .ok (.aload_n 0, 1) := by decide +kernel
theorem dX12_customer_89 : decode cX12_customer 89 = .ok (.getfield 88, 3) := by decide +kernel
theorem dX12_customer_92 : decode cX12_customer 92 = .ok (.iconst 0, 1) := by decide +kernel
theorem dX12_customer_93 : decode cX12_customer 93 = .ok (.iload_n 1, 1) := by decide +kernel
theorem dX12_customer_94 : decode cX12_customer 94 = .ok (.invokevirtual 251, 3) := by decide +kernel
theorem dX12_customer_97 : decode cX12_customer 97 = .ok (.aload_n 0, 1) := by decide +kernel
theorem dX12_customer_98 : decode cX12_customer 98 = .ok (.aload_n 0, 1) := by decide +kernel
theorem dX12_customer_99 : decode cX12_customer 99 = .ok (.getfield 88, 3) := by decide +kernel
theorem dX12_customer_102 : decode cX12_customer 102 = .ok (.iconst 1, 1) := by decide +kernel
theorem dX12_customer_103 : decode cX12_customer 103 = .ok (.iload_n 2, 1) := by decide +kernel
theorem dX12_customer_104 : decode cX12_customer 104 = .ok (.invokevirtual 251, 3) := by decide +kernel
theorem dX12_customer_107 : decode cX12_customer 107 = .ok (.aload_n 0, 1) := by decide +kernel
theorem dX12_customer_108 : decode cX12_customer 108 = .ok (.aload_n 0, 1) := by decide +kernel
theorem dX12_customer_109 : decode cX12_customer 109 = .ok (.getfield 88, 3) := by decide +kernel
theorem dX12_customer_112 : decode cX12_customer 112 = .ok (.iconst 2, 1) := by decide +kernel
theorem dX12_customer_113 : decode cX12_customer 113 = .ok (.iload_n 3, 1) := by decide +kernel
theorem dX12_customer_114 : decode cX12_customer 114 = .ok (.invokevirtual 251, 3) := by decide +kernel
theorem dX12_customer_117 : decode cX12_customer 117 = .ok (.aload_n 0, 1) := by decide +kernel
theorem dX12_customer_118 : decode cX12_customer 118 = .ok (.aload_n 0, 1) := by decide +kernel
theorem dX12_customer_119 : decode cX12_customer 119 = .ok (.getfield 88, 3) := by decide +kernel
theorem dX12_customer_122 : decode cX12_customer 122 = .ok (.iconst 3, 1) := by decide +kernel
theorem dX12_customer_123 : decode cX12_customer 123 = .ok (.iconst 3, 1) := by decide +kernel
theorem dX12_customer_124 : decode cX12_customer 124 = .ok (.invokevirtual 251, 3) := by decide +kernel
theorem dX12_customer_127 : decode cX12_customer 127 = .ok (.aload_n 0, 1) := by decide +kernel
theorem dX12_customer_128 : decode cX12_customer 128 = .ok (.dup, 1) := by decide +kernel
theorem dX12_customer_129 : decode cX12_customer 129 = .ok (.getfield 88, 3) := by decide +kernel
theorem dX12_customer_132 : decode cX12_customer 132 = .ok (.iconst 1, 1) := by decide +kernel
theorem dX12_customer_133 : decode cX12_customer 133 = .ok (.iadd, 1) := by decide +kernel
theorem dX12_customer_134 : decode cX12_customer 134 = .ok (.putfield 88, 3) := by decide +kernel
theorem dX12_customer_137 : decode cX12_customer 137 = .ok (.aload_n 0, 1) := by decide +kernel
theorem dX12_customer_138 : decode cX12_customer 138 = .ok (.getfield 88, 3) := by decide +kernel
theorem dX12_customer_141 : decode cX12_customer 141 = .ok (.iconst 1, 1) := by decide +kernel
theorem dX12_customer_142 : decode cX12_customer 142 = .ok (.isub, 1) := by decide +kernel
theorem dX12_customer_143 : decode cX12_customer 143 = .ok (.ireturn, 1) := by decide +kernel
theorem dX12_of_0 : decode cX12_of 0 = .ok (.aload_n 0, 1) := by decide +kernel
theorem dX12_of_1 : decode cX12_of 1 = .ok (.iconst 0, 1) := by decide +kernel
theorem dX12_of_2 : decode cX12_of 2 = .ok (.putfield 85, 3) := by decide +kernel
theorem dX12_of_5 : decode cX12_of 5 = .ok (.aload_n 0, 1) := by decide +kernel
theorem dX12_of_6 : decode cX12_of 6 = .ok (.iload_n 1, 1) := by decide +kernel
theorem dX12_of_7 : decode cX12_of 7 = .ok (.invokevirtual 281, 3) := by decide +kernel
theorem dX12_of_10 : decode cX12_of 10 = .ok (.ifCond .eq 15, 3) := by decide +kernel
theorem dX12_of_13 : decode cX12_of 13 = .ok (.iload_n 2, 1) := by decide +kernel
theorem dX12_of_14 : decode cX12_of 14 = .ok (.i2l, 1) := by decide +kernel
theorem dX12_of_15 : decode cX12_of 15 = .ok (.lconst 0, 1) := by decide +kernel
theorem dX12_of_16 : decode cX12_of 16 = .ok (.ldc2_w 284, 3) := by decide +kernel
theorem dX12_of_19 : decode cX12_of 19 = .ok (.invokestatic 91, 3) := by decide +kernel
theorem dX12_of_22 : decode cX12_of 22 = .ok (.ifCond .ne 5, 3) := by decide +kernel
theorem dX12_of_25 : decode cX12_of 25 = .ok (.iconst (-1), 1) := by decide +kernel
theorem dX12_of_26 : decode cX12_of 26 = .ok (.ireturn, 1) := by decide +kernel
theorem dX12_of_27 : decode cX12_of 27 = .ok (.iload_n 2, 1) := by decide +kernel
theorem dX12_of_28 : decode cX12_of 28 = .ok (.tableswitch 64 8 11 #[32, 38, 44, 50], 32) := by decide +kernel
theorem dX12_of_60 : decode cX12_of 60 = .ok (.aload_n 0, 1) := by decide +kernel
theorem dX12_of_61 : decode cX12_of 61 = .ok (.iload_n 1, 1) := by decide +kernel
theorem dX12_of_62 : decode cX12_of 62 = .ok (.invokevirtual 227, 3) := by decide +kernel
theorem dX12_of_65 : decode cX12_of 65 = .ok (.ireturn, 1) := by decide +kernel
theorem dX12_of_66 : decode cX12_of 66 = .ok (.aload_n 0, 1) := by decide +kernel
theorem dX12_of_67 : decode cX12_of 67 = .ok (.iload_n 1, 1) := by decide +kernel
theorem dX12_of_68 : decode cX12_of 68 = .ok (.invokevirtual 236, 3) := by decide +kernel
theorem dX12_of_71 : decode cX12_of 71 = .ok (.ireturn, 1) := by decide +kernel
theorem dX12_of_72 : decode cX12_of 72 = .ok (.aload_n 0, 1) := by decide +kernel
theorem dX12_of_73 : decode cX12_of 73 = .ok (.iload_n 1, 1) := by decide +kernel
theorem dX12_of_74 : decode cX12_of 74 = .ok (.invokevirtual 230, 3) := by decide +kernel
theorem dX12_of_77 : decode cX12_of 77 = .ok (.ireturn, 1) := by decide +kernel
theorem dX12_of_78 : decode cX12_of 78 = .ok (.aload_n 0, 1) := by decide +kernel
theorem dX12_of_79 : decode cX12_of 79 = .ok (.iload_n 1, 1) := by decide +kernel
theorem dX12_of_80 : decode cX12_of 80 = .ok (.invokevirtual 233, 3) := by decide +kernel
theorem dX12_of_83 : decode cX12_of 83 = .ok (.ifCond .eq 7, 3) := by decide +kernel
theorem dX12_of_86 : decode cX12_of 86 = .ok (.iconst 1, 1) := by decide +kernel
theorem dX12_of_87 : decode cX12_of 87 = .ok (.goto 4, 3) := by decide +kernel
theorem dX12_of_90 : decode cX12_of 90 = .ok (.iconst 0, 1) := by decide +kernel
theorem dX12_of_91 : decode cX12_of 91 = .ok (.ireturn, 1) := by decide +kernel
theorem dX12_of_92 : decode cX12_of 92 = .ok (.aload_n 0, 1) := by decide +kernel
theorem dX12_of_93 : decode cX12_of 93 = .ok (.iload_n 1, 1) := by decide +kernel
theorem dX12_of_94 : decode cX12_of 94 = .ok (.iload_n 2, 1) := by decide +kernel
theorem dX12_of_95 : decode cX12_of 95 = .ok (.invokevirtual 203, 3) := by decide +kernel
theorem dX12_of_98 : decode cX12_of 98 = .ok (.ireturn, 1) := by decide +kernel
theorem dX12_may_0 : decode cX12_may 0 = .ok (.iload_n 0, 1) := by decide +kernel
theorem dX12_may_1 : decode cX12_may 1 = .ok (.tableswitch 59 0 2 #[27, 39, 49], 27) := by decide +kernel
theorem dX12_may_28 : decode cX12_may 28 = .ok (.iload_n 1, 1) := by decide +kernel
theorem dX12_may_29 : decode cX12_may 29 = .ok (.i2l, 1) := by decide +kernel
theorem dX12_may_30 : decode cX12_may 30 = .ok (.ldc2_w 277, 3) := by decide +kernel
theorem dX12_may_33 : decode cX12_may 33 = .ok (.ldc2_w 279, 3) := by decide +kernel
theorem dX12_may_36 : decode cX12_may 36 = .ok (.invokestatic 91, 3) := by decide +kernel
theorem dX12_may_39 : decode cX12_may 39 = .ok (.ireturn, 1) := by decide +kernel
theorem dX12_may_40 : decode cX12_may 40 = .ok (.iload_n 1, 1) := by decide +kernel
theorem dX12_may_41 : decode cX12_may 41 = .ok (.i2l, 1) := by decide +kernel
theorem dX12_may_42 : decode cX12_may 42 = .ok (.lconst 0, 1) := by decide +kernel
theorem dX12_may_43 : decode cX12_may 43 = .ok (.ldc2_w 286, 3) := by decide +kernel
theorem dX12_may_46 : decode cX12_may 46 = .ok (.invokestatic 91, 3) := by decide +kernel
theorem dX12_may_49 : decode cX12_may 49 = .ok (.ireturn, 1) := by decide +kernel
theorem dX12_may_50 : decode cX12_may 50 = .ok (.iload_n 1, 1) := by decide +kernel
theorem dX12_may_51 : decode cX12_may 51 = .ok (.i2l, 1) := by decide +kernel
theorem dX12_may_52 : decode cX12_may 52 = .ok (.lconst 0, 1) := by decide +kernel
theorem dX12_may_53 : decode cX12_may 53 = .ok (.ldc2_w 279, 3) := by decide +kernel
theorem dX12_may_56 : decode cX12_may 56 = .ok (.invokestatic 91, 3) := by decide +kernel
theorem dX12_may_59 : decode cX12_may 59 = .ok (.ireturn, 1) := by decide +kernel
theorem dX12_may_60 : decode cX12_may 60 = .ok (.iload_n 1, 1) := by decide +kernel
theorem dX12_may_61 : decode cX12_may 61 = .ok (.i2l, 1) := by decide +kernel
theorem dX12_may_62 : decode cX12_may 62 = .ok (.lconst 0, 1) := by decide +kernel
theorem dX12_may_63 : decode cX12_may 63 = .ok (.lconst 1, 1) := by decide +kernel
theorem dX12_may_64 : decode cX12_may 64 = .ok (.invokestatic 91, 3) := by decide +kernel
theorem dX12_may_67 : decode cX12_may 67 = .ok (.ireturn, 1) := by decide +kernel
theorem dX12_set_0 : decode cX12_set 0 = .ok (.aload_n 0, 1) := by decide +kernel
theorem dX12_set_1 : decode cX12_set 1 = .ok (.iconst 0, 1) := by decide +kernel
theorem dX12_set_2 : decode cX12_set 2 = .ok (.putfield 85, 3) := by decide +kernel
theorem dX12_set_5 : decode cX12_set 5 = .ok (.aload_n 0, 1) := by decide +kernel
theorem dX12_set_6 : decode cX12_set 6 = .ok (.iload_n 1, 1) := by decide +kernel
theorem dX12_set_7 : decode cX12_set 7 = .ok (.invokevirtual 281, 3) := by decide +kernel
theorem dX12_set_10 : decode cX12_set 10 = .ok (.ifCond .eq 15, 3) := by decide +kernel
theorem dX12_set_13 : decode cX12_set 13 = .ok (.iload_n 2, 1) := by decide +kernel
theorem dX12_set_14 : decode cX12_set 14 = .ok (.i2l, 1) := by decide +kernel
theorem dX12_set_15 : decode cX12_set 15 = .ok (.lconst 0, 1) := by decide +kernel
theorem dX12_set_16 : decode cX12_set 16 = .ok (.ldc2_w 288, 3) := by decide +kernel
theorem dX12_set_19 : decode cX12_set 19 = .ok (.invokestatic 91, 3) := by decide +kernel
theorem dX12_set_22 : decode cX12_set 22 = .ok (.ifCond .ne 5, 3) := by decide +kernel
theorem dX12_set_25 : decode cX12_set 25 = .ok (.iconst (-1), 1) := by decide +kernel
theorem dX12_set_26 : decode cX12_set 26 = .ok (.ireturn, 1) := by decide +kernel
theorem dX12_set_27 : decode cX12_set 27 = .ok (.iload_n 2, 1) := by decide +kernel
theorem dX12_set_28 : decode cX12_set 28 = .ok (.iload_n 3, 1) := by decide +kernel
theorem dX12_set_29 : decode cX12_set 29 = .ok (.invokestatic 290, 3) := by decide +kernel
theorem dX12_set_32 : decode cX12_set 32 = .ok (.ifCond .ne 6, 3) := by decide +kernel
theorem dX12_set_35 : decode cX12_set 35 = .ok (.bipush (-2), 2) := by decide +kernel
theorem dX12_set_37 : decode cX12_set 37 = .ok (.ireturn, 1) := by decide +kernel
theorem dX12_set_38 : decode cX12_set 38 = .ok (.iload_n 2, 1) := by decide +kernel
theorem dX12_set_39 : decode cX12_set 39 = .ok (.ifCond .ne 7, 3) := by decide +kernel
theorem dX12_set_42 : decode cX12_set 42 = .ok (.iconst 2, 1) := by decide +kernel
theorem dX12_set_43 : decode cX12_set 43 = .ok (.goto 23, 3) := by decide +kernel
theorem dX12_set_46 : decode cX12_set 46 = .ok (.iload_n 2, 1) := by decide +kernel
theorem dX12_set_47 : decode cX12_set 47 = .ok (.iconst 1, 1) := by decide +kernel
theorem dX12_set_48 : decode cX12_set 48 = .ok (.if_icmp .ne 7, 3) := by decide +kernel
theorem dX12_set_51 : decode cX12_set 51 = .ok (.iconst 3, 1) := by decide +kernel
theorem dX12_set_52 : decode cX12_set 52 = .ok (.goto 14, 3) := by decide +kernel
theorem dX12_set_55 : decode cX12_set 55 = .ok (.iload_n 2, 1) := by decide +kernel
theorem dX12_set_56 : decode cX12_set 56 = .ok (.iconst 2, 1) := by decide +kernel
theorem dX12_set_57 : decode cX12_set 57 = .ok (.if_icmp .ne 7, 3) := by decide +kernel
theorem dX12_set_60 : decode cX12_set 60 = .ok (.iconst 4, 1) := by decide +kernel
theorem dX12_set_61 : decode cX12_set 61 = .ok (.goto 5, 3) := by decide +kernel
theorem dX12_set_64 : decode cX12_set 64 = .ok (.bipush 7, 2) := by decide +kernel
theorem dX12_set_66 : decode cX12_set 66 = .ok (.istore 4, 2) := by decide +kernel
theorem dX12_set_68 : decode cX12_set 68 = .ok (.aload_n 0, 1) := by decide +kernel
theorem dX12_set_69 : decode cX12_set 69 = .ok (.iload_n 1, 1) := by decide +kernel
theorem dX12_set_70 : decode cX12_set 70 = .ok (.iload 4, 2) := by decide +kernel
theorem dX12_set_72 : decode cX12_set 72 = .ok (.invokevirtual 203, 3) := by decide +kernel
theorem dX12_set_75 : decode cX12_set 75 = .ok (.istore 5, 2) := by decide +kernel
theorem dX12_set_77 : decode cX12_set 77 = .ok (.aload_n 0, 1) := by decide +kernel
theorem dX12_set_78 : decode cX12_set 78 = .ok (.iload_n 1, 1) := by decide +kernel
theorem dX12_set_79 : decode cX12_set 79 = .ok (.iload 4, 2) := by decide +kernel
theorem dX12_set_81 : decode cX12_set 81 = .ok (.iload_n 3, 1) := by decide +kernel
theorem dX12_set_82 : decode cX12_set 82 = .ok (.invokevirtual 251, 3) := by decide +kernel
theorem dX12_set_85 : decode cX12_set 85 = .ok (.iload 5, 2) := by decide +kernel
theorem dX12_set_87 : decode cX12_set 87 = .ok (.ireturn, 1) := by decide +kernel
theorem dX12_row_0 : decode cX12_row 0 = .ok (.aload_n 0, 1) := by decide +kernel
theorem dX12_row_1 : decode cX12_row 1 = .ok (.iconst 0, 1) := by decide +kernel
theorem dX12_row_2 : decode cX12_row 2 = .ok (.putfield 85, 3) := by decide +kernel
theorem dX12_row_5 : decode cX12_row 5 = .ok (.aload_n 0, 1) := by decide +kernel
theorem dX12_row_6 : decode cX12_row 6 = .ok (.iload_n 1, 1) := by decide +kernel
theorem dX12_row_7 : decode cX12_row 7 = .ok (.invokevirtual 281, 3) := by decide +kernel
theorem dX12_row_10 : decode cX12_row 10 = .ok (.ifCond .eq 15, 3) := by decide +kernel
theorem dX12_row_13 : decode cX12_row 13 = .ok (.iload_n 2, 1) := by decide +kernel
theorem dX12_row_14 : decode cX12_row 14 = .ok (.i2l, 1) := by decide +kernel
theorem dX12_row_15 : decode cX12_row 15 = .ok (.lconst 0, 1) := by decide +kernel
theorem dX12_row_16 : decode cX12_row 16 = .ok (.ldc2_w 288, 3) := by decide +kernel
theorem dX12_row_19 : decode cX12_row 19 = .ok (.invokestatic 91, 3) := by decide +kernel
theorem dX12_row_22 : decode cX12_row 22 = .ok (.ifCond .ne 5, 3) := by decide +kernel
theorem dX12_row_25 : decode cX12_row 25 = .ok (.iconst (-1), 1) := by decide +kernel
theorem dX12_row_26 : decode cX12_row 26 = .ok (.ireturn, 1) := by decide +kernel
theorem dX12_row_27 : decode cX12_row 27 = .ok (.iload_n 3, 1) := by decide +kernel
theorem dX12_row_28 : decode cX12_row 28 = .ok (.i2l, 1) := by decide +kernel
theorem dX12_row_29 : decode cX12_row 29 = .ok (.lconst 0, 1) := by decide +kernel
theorem dX12_row_30 : decode cX12_row 30 = .ok (.ldc2_w 275, 3) := by decide +kernel
theorem dX12_row_33 : decode cX12_row 33 = .ok (.invokestatic 91, 3) := by decide +kernel
theorem dX12_row_36 : decode cX12_row 36 = .ok (.ifCond .ne 6, 3) := by decide +kernel
theorem dX12_row_39 : decode cX12_row 39 = .ok (.bipush (-2), 2) := by decide +kernel
theorem dX12_row_41 : decode cX12_row 41 = .ok (.ireturn, 1) := by decide +kernel
theorem dX12_row_42 : decode cX12_row 42 = .ok (.aload_n 0, 1) := by decide +kernel
theorem dX12_row_43 : decode cX12_row 43 = .ok (.iload_n 1, 1) := by decide +kernel
theorem dX12_row_44 : decode cX12_row 44 = .ok (.iconst 0, 1) := by decide +kernel
theorem dX12_row_45 : decode cX12_row 45 = .ok (.invokevirtual 203, 3) := by decide +kernel
theorem dX12_row_48 : decode cX12_row 48 = .ok (.bipush 6, 2) := by decide +kernel
theorem dX12_row_50 : decode cX12_row 50 = .ok (.if_icmp .eq 6, 3) := by decide +kernel
theorem dX12_row_53 : decode cX12_row 53 = .ok (.bipush (-3), 2) := by decide +kernel
theorem dX12_row_55 : decode cX12_row 55 = .ok (.ireturn, 1) := by decide +kernel
theorem dX12_row_56 : decode cX12_row 56 = .ok (.aload_n 0, 1) := by decide +kernel
theorem dX12_row_57 : decode cX12_row 57 = .ok (.iload_n 1, 1) := by decide +kernel
theorem dX12_row_58 : decode cX12_row 58 = .ok (.bipush 8, 2) := by decide +kernel
theorem dX12_row_60 : decode cX12_row 60 = .ok (.iload_n 2, 1) := by decide +kernel
theorem dX12_row_61 : decode cX12_row 61 = .ok (.iadd, 1) := by decide +kernel
theorem dX12_row_62 : decode cX12_row 62 = .ok (.invokevirtual 203, 3) := by decide +kernel
theorem dX12_row_65 : decode cX12_row 65 = .ok (.istore 4, 2) := by decide +kernel
theorem dX12_row_67 : decode cX12_row 67 = .ok (.aload_n 0, 1) := by decide +kernel
theorem dX12_row_68 : decode cX12_row 68 = .ok (.iload_n 1, 1) := by decide +kernel
theorem dX12_row_69 : decode cX12_row 69 = .ok (.bipush 8, 2) := by decide +kernel
theorem dX12_row_71 : decode cX12_row 71 = .ok (.iload_n 2, 1) := by decide +kernel
theorem dX12_row_72 : decode cX12_row 72 = .ok (.iadd, 1) := by decide +kernel
theorem dX12_row_73 : decode cX12_row 73 = .ok (.iload_n 3, 1) := by decide +kernel
theorem dX12_row_74 : decode cX12_row 74 = .ok (.invokevirtual 251, 3) := by decide +kernel
theorem dX12_row_77 : decode cX12_row 77 = .ok (.iload 4, 2) := by decide +kernel
theorem dX12_row_79 : decode cX12_row 79 = .ok (.ireturn, 1) := by decide +kernel
theorem dX12_knife_0 : decode cX12_knife 0 = .ok (.aload_n 0, 1) := by decide +kernel
theorem dX12_knife_1 : decode cX12_knife 1 = .ok (.iconst 0, 1) := by decide +kernel
theorem dX12_knife_2 : decode cX12_knife 2 = .ok (.putfield 85, 3) := by decide +kernel
theorem dX12_knife_5 : decode cX12_knife 5 = .ok (.iload_n 1, 1) := by decide +kernel
theorem dX12_knife_6 : decode cX12_knife 6 = .ok (.i2l, 1) := by decide +kernel
theorem dX12_knife_7 : decode cX12_knife 7 = .ok (.lconst 0, 1) := by decide +kernel
theorem dX12_knife_8 : decode cX12_knife 8 = .ok (.ldc2_w 293, 3) := by decide +kernel
theorem dX12_knife_11 : decode cX12_knife 11 = .ok (.invokestatic 91, 3) := by decide +kernel
theorem dX12_knife_14 : decode cX12_knife 14 = .ok (.ifCond .ne 6, 3) := by decide +kernel
theorem dX12_knife_17 : decode cX12_knife 17 = .ok (.bipush (-2), 2) := by decide +kernel
theorem dX12_knife_19 : decode cX12_knife 19 = .ok (.ireturn, 1) := by decide +kernel
theorem dX12_knife_20 : decode cX12_knife 20 = .ok (.aload_n 0, 1) := by decide +kernel
theorem dX12_knife_21 : decode cX12_knife 21 = .ok (.getfield 13, 3) := by decide +kernel
theorem dX12_knife_24 : decode cX12_knife 24 = .ok (.istore_n 2, 1) := by decide +kernel
theorem dX12_knife_25 : decode cX12_knife 25 = .ok (.aload_n 0, 1) := by decide +kernel
theorem dX12_knife_26 : decode cX12_knife 26 = .ok (.iload_n 1, 1) := by decide +kernel
theorem dX12_knife_27 : decode cX12_knife 27 = .ok (.putfield 13, 3) := by decide +kernel
theorem dX12_knife_30 : decode cX12_knife 30 = .ok (.iload_n 2, 1) := by decide +kernel
theorem dX12_knife_31 : decode cX12_knife 31 = .ok (.ireturn, 1) := by decide +kernel
theorem dX12_told_0 : decode cX12_told 0 = .ok (.aload_n 0, 1) := by decide +kernel
theorem dX12_told_1 : decode cX12_told 1 = .ok (.iconst 0, 1) := by decide +kernel
theorem dX12_told_2 : decode cX12_told 2 = .ok (.putfield 85, 3) := by decide +kernel
theorem dX12_told_5 : decode cX12_told 5 = .ok (.iload_n 1, 1) := by decide +kernel
theorem dX12_told_6 : decode cX12_told 6 = .ok (.tableswitch 54 0 3 #[30, 35, 42, 49], 30) := by decide +kernel
theorem dX12_told_36 : decode cX12_told 36 = .ok (.aload_n 0, 1) := by decide +kernel
theorem dX12_told_37 : decode cX12_told 37 = .ok (.getfield 13, 3) := by decide +kernel
theorem dX12_told_40 : decode cX12_told 40 = .ok (.ireturn, 1) := by decide +kernel
theorem dX12_told_41 : decode cX12_told 41 = .ok (.aload_n 0, 1) := by decide +kernel
theorem dX12_told_42 : decode cX12_told 42 = .ok (.iconst 2, 1) := by decide +kernel
theorem dX12_told_43 : decode cX12_told 43 = .ok (.iconst 5, 1) := by decide +kernel
theorem dX12_told_44 : decode cX12_told 44 = .ok (.invokevirtual 248, 3) := by decide +kernel
theorem dX12_told_47 : decode cX12_told 47 = .ok (.ireturn, 1) := by decide +kernel
theorem dX12_told_48 : decode cX12_told 48 = .ok (.aload_n 0, 1) := by decide +kernel
theorem dX12_told_49 : decode cX12_told 49 = .ok (.iconst 3, 1) := by decide +kernel
theorem dX12_told_50 : decode cX12_told 50 = .ok (.iconst 1, 1) := by decide +kernel
theorem dX12_told_51 : decode cX12_told 51 = .ok (.invokevirtual 248, 3) := by decide +kernel
theorem dX12_told_54 : decode cX12_told 54 = .ok (.ireturn, 1) := by decide +kernel
theorem dX12_told_55 : decode cX12_told 55 = .ok (.aload_n 0, 1) := by decide +kernel
theorem dX12_told_56 : decode cX12_told 56 = .ok (.invokevirtual 295, 3) := by decide +kernel
theorem dX12_told_59 : decode cX12_told 59 = .ok (.ireturn, 1) := by decide +kernel
theorem dX12_told_60 : decode cX12_told 60 = .ok (.iconst (-1), 1) := by decide +kernel
theorem dX12_told_61 : decode cX12_told 61 = .ok (.ireturn, 1) := by decide +kernel
theorem dX12_visit_0 : decode cX12_visit 0 = .ok (.aload_n 0, 1) := by decide +kernel
theorem dX12_visit_1 : decode cX12_visit 1 = .ok (.iconst 0, 1) := by decide +kernel
theorem dX12_visit_2 : decode cX12_visit 2 = .ok (.putfield 85, 3) := by decide +kernel
theorem dX12_visit_5 : decode cX12_visit 5 = .ok (.aload_n 0, 1) := by decide +kernel
theorem dX12_visit_6 : decode cX12_visit 6 = .ok (.iload_n 1, 1) := by decide +kernel
theorem dX12_visit_7 : decode cX12_visit 7 = .ok (.invokevirtual 281, 3) := by decide +kernel
theorem dX12_visit_10 : decode cX12_visit 10 = .ok (.ifCond .ne 5, 3) := by decide +kernel
theorem dX12_visit_13 : decode cX12_visit 13 = .ok (.iconst (-1), 1) := by decide +kernel
theorem dX12_visit_14 : decode cX12_visit 14 = .ok (.ireturn, 1) := by decide +kernel
theorem dX12_visit_15 : decode cX12_visit 15 = .ok (.aload_n 0, 1) := by decide +kernel
theorem dX12_visit_16 : decode cX12_visit 16 = .ok (.iload_n 1, 1) := by decide +kernel
theorem dX12_visit_17 : decode cX12_visit 17 = .ok (.invokevirtual 255, 3) := by decide +kernel
theorem dX12_visit_20 : decode cX12_visit 20 = .ok (.ifCond .eq 6, 3) := by decide +kernel
theorem dX12_visit_23 : decode cX12_visit 23 = .ok (.bipush (-3), 2) := by decide +kernel
theorem dX12_visit_25 : decode cX12_visit 25 = .ok (.ireturn, 1) := by decide +kernel
theorem dX12_visit_26 : decode cX12_visit 26 = .ok (.aload_n 0, 1) := by decide +kernel
theorem dX12_visit_27 : decode cX12_visit 27 = .ok (.iload_n 1, 1) := by decide +kernel
theorem dX12_visit_28 : decode cX12_visit 28 = .ok (.invokevirtual 258, 3) := by decide +kernel
theorem dX12_visit_31 : decode cX12_visit 31 = .ok (.aload_n 0, 1) := by decide +kernel
theorem dX12_visit_32 : decode cX12_visit 32 = .ok (.getfield 245, 3) := by decide +kernel
theorem dX12_visit_35 : decode cX12_visit 35 = .ok (.aload_n 0, 1) := by decide +kernel
theorem dX12_visit_36 : decode cX12_visit 36 = .ok (.iconst 2, 1) := by decide +kernel
theorem dX12_visit_37 : decode cX12_visit 37 = .ok (.iconst 5, 1) := by decide +kernel
theorem dX12_visit_38 : decode cX12_visit 38 = .ok (.invokevirtual 248, 3) := by decide +kernel
theorem dX12_visit_41 : decode cX12_visit 41 = .ok (.imul, 1) := by decide +kernel
theorem dX12_visit_42 : decode cX12_visit 42 = .ok (.ireturn, 1) := by decide +kernel
theorem dX12_saturday_0 : decode cX12_saturday 0 = .ok (.aload_n 0, 1) := by decide +kernel
theorem dX12_saturday_1 : decode cX12_saturday 1 = .ok (.iconst 0, 1) := by decide +kernel
theorem dX12_saturday_2 : decode cX12_saturday 2 = .ok (.putfield 85, 3) := by decide +kernel
theorem dX12_saturday_5 : decode cX12_saturday 5 = .ok (.aload_n 0, 1) := by decide +kernel
theorem dX12_saturday_6 : decode cX12_saturday 6 = .ok (.iconst 1, 1) := by decide +kernel
theorem dX12_saturday_7 : decode cX12_saturday 7 = .ok (.invokevirtual 298, 3) := by decide +kernel
theorem dX12_saturday_10 : decode cX12_saturday 10 = .ok (.aload_n 0, 1) := by decide +kernel
theorem dX12_saturday_11 : decode cX12_saturday 11 = .ok (.getfield 261, 3) := by decide +kernel
theorem dX12_saturday_14 : decode cX12_saturday 14 = .ok (.aload_n 0, 1) := by decide +kernel
theorem dX12_saturday_15 : decode cX12_saturday 15 = .ok (.iconst 2, 1) := by decide +kernel
theorem dX12_saturday_16 : decode cX12_saturday 16 = .ok (.iconst 5, 1) := by decide +kernel
theorem dX12_saturday_17 : decode cX12_saturday 17 = .ok (.invokevirtual 248, 3) := by decide +kernel
theorem dX12_saturday_20 : decode cX12_saturday 20 = .ok (.imul, 1) := by decide +kernel
theorem dX12_saturday_21 : decode cX12_saturday 21 = .ok (.ireturn, 1) := by decide +kernel
theorem dX12_buysIn_0 : decode cX12_buysIn 0 = .ok (.iconst 0, 1) := by decide +kernel
theorem dX12_buysIn_1 : decode cX12_buysIn 1 = .ok (.istore_n 3, 1) := by decide +kernel
theorem dX12_buysIn_2 : decode cX12_buysIn 2 = .ok (.iconst 0, 1) := by decide +kernel
theorem dX12_buysIn_3 : decode cX12_buysIn 3 = .ok (.istore 4, 2) := by decide +kernel
theorem dX12_buysIn_5 : decode cX12_buysIn 5 = .ok (.iload 4, 2) := by decide +kernel
theorem dX12_buysIn_7 : decode cX12_buysIn 7 = .ok (.iload_n 2, 1) := by decide +kernel
theorem dX12_buysIn_8 : decode cX12_buysIn 8 = .ok (.if_icmp .ge 29, 3) := by decide +kernel
theorem dX12_buysIn_11 : decode cX12_buysIn 11 = .ok (.aload_n 0, 1) := by decide +kernel
theorem dX12_buysIn_12 : decode cX12_buysIn 12 = .ok (.iload_n 1, 1) := by decide +kernel
theorem dX12_buysIn_13 : decode cX12_buysIn 13 = .ok (.invokevirtual 255, 3) := by decide +kernel
theorem dX12_buysIn_16 : decode cX12_buysIn 16 = .ok (.ifCond .ne 21, 3) := by decide +kernel
theorem dX12_buysIn_19 : decode cX12_buysIn 19 = .ok (.aload_n 0, 1) := by decide +kernel
theorem dX12_buysIn_20 : decode cX12_buysIn 20 = .ok (.iload_n 1, 1) := by decide +kernel
theorem dX12_buysIn_21 : decode cX12_buysIn 21 = .ok (.invokevirtual 258, 3) := by decide +kernel
theorem dX12_buysIn_24 : decode cX12_buysIn 24 = .ok (.iload_n 3, 1) := by decide +kernel
theorem dX12_buysIn_25 : decode cX12_buysIn 25 = .ok (.aload_n 0, 1) := by decide +kernel
theorem dX12_buysIn_26 : decode cX12_buysIn 26 = .ok (.getfield 245, 3) := by decide +kernel
theorem dX12_buysIn_29 : decode cX12_buysIn 29 = .ok (.iadd, 1) := by decide +kernel
theorem dX12_buysIn_30 : decode cX12_buysIn 30 = .ok (.istore_n 3, 1) := by decide +kernel
theorem dX12_buysIn_31 : decode cX12_buysIn 31 = .ok (.iinc 4 1, 3) := by decide +kernel
theorem dX12_buysIn_34 : decode cX12_buysIn 34 = .ok (.goto (-29), 3) := by decide +kernel
theorem dX12_buysIn_37 : decode cX12_buysIn 37 = .ok (.iload_n 3, 1) := by decide +kernel
theorem dX12_buysIn_38 : decode cX12_buysIn 38 = .ok (.ireturn, 1) := by decide +kernel
theorem dX12_on_0 : decode cX12_on 0 = .ok (.aload_n 0, 1) := by decide +kernel
theorem dX12_on_1 : decode cX12_on 1 = .ok (.iconst 0, 1) := by decide +kernel
theorem dX12_on_2 : decode cX12_on 2 = .ok (.putfield 85, 3) := by decide +kernel
theorem dX12_on_5 : decode cX12_on 5 = .ok (.aload_n 0, 1) := by decide +kernel
theorem dX12_on_6 : decode cX12_on 6 = .ok (.iload_n 1, 1) := by decide +kernel
theorem dX12_on_7 : decode cX12_on 7 = .ok (.invokevirtual 281, 3) := by decide +kernel
theorem dX12_on_10 : decode cX12_on 10 = .ok (.ifCond .eq 15, 3) := by decide +kernel
theorem dX12_on_13 : decode cX12_on 13 = .ok (.iload_n 3, 1) := by decide +kernel
theorem dX12_on_14 : decode cX12_on 14 = .ok (.i2l, 1) := by decide +kernel
theorem dX12_on_15 : decode cX12_on 15 = .ok (.lconst 0, 1) := by decide +kernel
theorem dX12_on_16 : decode cX12_on 16 = .ok (.ldc2_w 301, 3) := by decide +kernel
theorem dX12_on_19 : decode cX12_on 19 = .ok (.invokestatic 91, 3) := by decide +kernel
theorem dX12_on_22 : decode cX12_on 22 = .ok (.ifCond .ne 5, 3) := by decide +kernel
theorem dX12_on_25 : decode cX12_on 25 = .ok (.iconst (-1), 1) := by decide +kernel
theorem dX12_on_26 : decode cX12_on 26 = .ok (.ireturn, 1) := by decide +kernel
theorem dX12_on_27 : decode cX12_on 27 = .ok (.iload_n 2, 1) := by decide +kernel
theorem dX12_on_28 : decode cX12_on 28 = .ok (.i2l, 1) := by decide +kernel
theorem dX12_on_29 : decode cX12_on 29 = .ok (.lconst 0, 1) := by decide +kernel
theorem dX12_on_30 : decode cX12_on 30 = .ok (.ldc2_w 303, 3) := by decide +kernel
theorem dX12_on_33 : decode cX12_on 33 = .ok (.invokestatic 91, 3) := by decide +kernel
theorem dX12_on_36 : decode cX12_on 36 = .ok (.ifCond .ne 6, 3) := by decide +kernel
theorem dX12_on_39 : decode cX12_on 39 = .ok (.bipush (-2), 2) := by decide +kernel
theorem dX12_on_41 : decode cX12_on 41 = .ok (.ireturn, 1) := by decide +kernel
theorem dX12_on_42 : decode cX12_on 42 = .ok (.aload_n 0, 1) := by decide +kernel
theorem dX12_on_43 : decode cX12_on 43 = .ok (.invokevirtual 305, 3) := by decide +kernel
theorem dX12_on_46 : decode cX12_on 46 = .ok (.aload_n 0, 1) := by decide +kernel
theorem dX12_on_47 : decode cX12_on 47 = .ok (.iload_n 1, 1) := by decide +kernel
theorem dX12_on_48 : decode cX12_on 48 = .ok (.iconst 5, 1) := by decide +kernel
theorem dX12_on_49 : decode cX12_on 49 = .ok (.invokevirtual 203, 3) := by decide +kernel
theorem dX12_on_52 : decode cX12_on 52 = .ok (.istore 4, 2) := by decide +kernel
theorem dX12_on_54 : decode cX12_on 54 = .ok (.aload_n 0, 1) := by decide +kernel
theorem dX12_on_55 : decode cX12_on 55 = .ok (.iload_n 1, 1) := by decide +kernel
theorem dX12_on_56 : decode cX12_on 56 = .ok (.iload_n 2, 1) := by decide +kernel
theorem dX12_on_57 : decode cX12_on 57 = .ok (.invokevirtual 308, 3) := by decide +kernel
theorem dX12_on_60 : decode cX12_on 60 = .ok (.istore 5, 2) := by decide +kernel
theorem dX12_on_62 : decode cX12_on 62 = .ok (.iload_n 3, 1) := by decide +kernel
theorem dX12_on_63 : decode cX12_on 63 = .ok (.ifCond .ne 8, 3) := by decide +kernel
theorem dX12_on_66 : decode cX12_on 66 = .ok (.iload 5, 2) := by decide +kernel
theorem dX12_on_68 : decode cX12_on 68 = .ok (.goto 52, 3) := by decide +kernel
theorem dX12_on_71 : decode cX12_on 71 = .ok (.iload_n 3, 1) := by decide +kernel
theorem dX12_on_72 : decode cX12_on 72 = .ok (.iconst 1, 1) := by decide +kernel
theorem dX12_on_73 : decode cX12_on 73 = .ok (.if_icmp .ne 15, 3) := by decide +kernel
theorem dX12_on_76 : decode cX12_on 76 = .ok (.iload 5, 2) := by decide +kernel
theorem dX12_on_78 : decode cX12_on 78 = .ok (.aload_n 0, 1) := by decide +kernel
theorem dX12_on_79 : decode cX12_on 79 = .ok (.iconst 2, 1) := by decide +kernel
theorem dX12_on_80 : decode cX12_on 80 = .ok (.iconst 5, 1) := by decide +kernel
theorem dX12_on_81 : decode cX12_on 81 = .ok (.invokevirtual 248, 3) := by decide +kernel
theorem dX12_on_84 : decode cX12_on 84 = .ok (.imul, 1) := by decide +kernel
theorem dX12_on_85 : decode cX12_on 85 = .ok (.goto 35, 3) := by decide +kernel
theorem dX12_on_88 : decode cX12_on 88 = .ok (.iload_n 3, 1) := by decide +kernel
theorem dX12_on_89 : decode cX12_on 89 = .ok (.iconst 2, 1) := by decide +kernel
theorem dX12_on_90 : decode cX12_on 90 = .ok (.if_icmp .ne 15, 3) := by decide +kernel
theorem dX12_on_93 : decode cX12_on 93 = .ok (.aload_n 0, 1) := by decide +kernel
theorem dX12_on_94 : decode cX12_on 94 = .ok (.iload_n 1, 1) := by decide +kernel
theorem dX12_on_95 : decode cX12_on 95 = .ok (.iconst 5, 1) := by decide +kernel
theorem dX12_on_96 : decode cX12_on 96 = .ok (.invokevirtual 203, 3) := by decide +kernel
theorem dX12_on_99 : decode cX12_on 99 = .ok (.iload 4, 2) := by decide +kernel
theorem dX12_on_101 : decode cX12_on 101 = .ok (.isub, 1) := by decide +kernel
theorem dX12_on_102 : decode cX12_on 102 = .ok (.goto 18, 3) := by decide +kernel
theorem dX12_on_105 : decode cX12_on 105 = .ok (.aload_n 0, 1) := by decide +kernel
theorem dX12_on_106 : decode cX12_on 106 = .ok (.iload_n 1, 1) := by decide +kernel
theorem dX12_on_107 : decode cX12_on 107 = .ok (.iload_n 3, 1) := by decide +kernel
theorem dX12_on_108 : decode cX12_on 108 = .ok (.iconst 3, 1) := by decide +kernel
theorem dX12_on_109 : decode cX12_on 109 = .ok (.if_icmp .ne 7, 3) := by decide +kernel
theorem dX12_on_112 : decode cX12_on 112 = .ok (.iconst 3, 1) := by decide +kernel
theorem dX12_on_113 : decode cX12_on 113 = .ok (.goto 4, 3) := by decide +kernel
theorem dX12_on_116 : decode cX12_on 116 = .ok (.iconst 4, 1) := by decide +kernel
theorem dX12_on_117 : decode cX12_on 117 = .ok (.invokevirtual 203, 3) := by decide +kernel
theorem dX12_on_120 : decode cX12_on 120 = .ok (.istore 6, 2) := by decide +kernel
theorem dX12_on_122 : decode cX12_on 122 = .ok (.aload_n 0, 1) := by decide +kernel
theorem dX12_on_123 : decode cX12_on 123 = .ok (.invokevirtual 311, 3) := by decide +kernel
theorem dX12_on_126 : decode cX12_on 126 = .ok (.iload 6, 2) := by decide +kernel
theorem dX12_on_128 : decode cX12_on 128 = .ok (.ireturn, 1) := by decide +kernel
theorem dX12_plainly_0 : decode cX12_plainly 0 = .ok (.iload_n 0, 1) := by decide +kernel
theorem dX12_plainly_1 : decode cX12_plainly 1 = .ok (.ifCond .ge 8, 3) := by decide +kernel
theorem dX12_plainly_4 : decode cX12_plainly 4 = .ok (.iload_n 0, 1) := by decide +kernel
theorem dX12_plainly_5 : decode cX12_plainly 5 = .ok (.ineg, 1) := by decide +kernel
theorem dX12_plainly_6 : decode cX12_plainly 6 = .ok (.goto 4, 3) := by decide +kernel
theorem dX12_plainly_9 : decode cX12_plainly 9 = .ok (.iload_n 0, 1) := by decide +kernel
theorem dX12_plainly_10 : decode cX12_plainly 10 = .ok (.ireturn, 1) := by decide +kernel
theorem dX12_asked_0 : decode cX12_asked 0 = .ok (.aload_n 0, 1) := by decide +kernel
theorem dX12_asked_1 : decode cX12_asked 1 = .ok (.iconst 0, 1) := by decide +kernel
theorem dX12_asked_2 : decode cX12_asked 2 = .ok (.putfield 85, 3) := by decide +kernel
theorem dX12_asked_5 : decode cX12_asked 5 = .ok (.aload_n 0, 1) := by decide +kernel
theorem dX12_asked_6 : decode cX12_asked 6 = .ok (.iload_n 1, 1) := by decide +kernel
theorem dX12_asked_7 : decode cX12_asked 7 = .ok (.invokevirtual 281, 3) := by decide +kernel
theorem dX12_asked_10 : decode cX12_asked 10 = .ok (.ifCond .eq 13, 3) := by decide +kernel
theorem dX12_asked_13 : decode cX12_asked 13 = .ok (.iload_n 2, 1) := by decide +kernel
theorem dX12_asked_14 : decode cX12_asked 14 = .ok (.i2l, 1) := by decide +kernel
theorem dX12_asked_15 : decode cX12_asked 15 = .ok (.lconst 0, 1) := by decide +kernel
theorem dX12_asked_16 : decode cX12_asked 16 = .ok (.lconst 1, 1) := by decide +kernel
theorem dX12_asked_17 : decode cX12_asked 17 = .ok (.invokestatic 91, 3) := by decide +kernel
theorem dX12_asked_20 : decode cX12_asked 20 = .ok (.ifCond .ne 5, 3) := by decide +kernel
theorem dX12_asked_23 : decode cX12_asked 23 = .ok (.iconst (-1), 1) := by decide +kernel
theorem dX12_asked_24 : decode cX12_asked 24 = .ok (.ireturn, 1) := by decide +kernel
theorem dX12_asked_25 : decode cX12_asked 25 = .ok (.aload_n 0, 1) := by decide +kernel
theorem dX12_asked_26 : decode cX12_asked 26 = .ok (.iload_n 1, 1) := by decide +kernel
theorem dX12_asked_27 : decode cX12_asked 27 = .ok (.invokevirtual 255, 3) := by decide +kernel
theorem dX12_asked_30 : decode cX12_asked 30 = .ok (.ifCond .eq 6, 3) := by decide +kernel
theorem dX12_asked_33 : decode cX12_asked 33 = .ok (.bipush (-5), 2) := by decide +kernel
theorem dX12_asked_35 : decode cX12_asked 35 = .ok (.ireturn, 1) := by decide +kernel
theorem dX12_asked_36 : decode cX12_asked 36 = .ok (.aload_n 0, 1) := by decide +kernel
theorem dX12_asked_37 : decode cX12_asked 37 = .ok (.iload_n 1, 1) := by decide +kernel
theorem dX12_asked_38 : decode cX12_asked 38 = .ok (.invokevirtual 233, 3) := by decide +kernel
theorem dX12_asked_41 : decode cX12_asked 41 = .ok (.ifCond .eq 13, 3) := by decide +kernel
theorem dX12_asked_44 : decode cX12_asked 44 = .ok (.aload_n 0, 1) := by decide +kernel
theorem dX12_asked_45 : decode cX12_asked 45 = .ok (.iload_n 1, 1) := by decide +kernel
theorem dX12_asked_46 : decode cX12_asked 46 = .ok (.invokevirtual 227, 3) := by decide +kernel
theorem dX12_asked_49 : decode cX12_asked 49 = .ok (.iconst 2, 1) := by decide +kernel
theorem dX12_asked_50 : decode cX12_asked 50 = .ok (.idiv, 1) := by decide +kernel
theorem dX12_asked_51 : decode cX12_asked 51 = .ok (.goto 8, 3) := by decide +kernel
theorem dX12_asked_54 : decode cX12_asked 54 = .ok (.aload_n 0, 1) := by decide +kernel
theorem dX12_asked_55 : decode cX12_asked 55 = .ok (.iload_n 1, 1) := by decide +kernel
theorem dX12_asked_56 : decode cX12_asked 56 = .ok (.invokevirtual 227, 3) := by decide +kernel
theorem dX12_asked_59 : decode cX12_asked 59 = .ok (.istore_n 3, 1) := by decide +kernel
theorem dX12_asked_60 : decode cX12_asked 60 = .ok (.iconst 1, 1) := by decide +kernel
theorem dX12_asked_61 : decode cX12_asked 61 = .ok (.istore 4, 2) := by decide +kernel
theorem dX12_asked_63 : decode cX12_asked 63 = .ok (.iconst 2, 1) := by decide +kernel
theorem dX12_asked_64 : decode cX12_asked 64 = .ok (.istore 5, 2) := by decide +kernel
theorem dX12_asked_66 : decode cX12_asked 66 = .ok (.iload 5, 2) := by decide +kernel
theorem dX12_asked_68 : decode cX12_asked 68 = .ok (.bipush 100, 2) := by decide +kernel
theorem dX12_asked_70 : decode cX12_asked 70 = .ok (.if_icmp .ge 49, 3) := by decide +kernel
theorem dX12_asked_73 : decode cX12_asked 73 = .ok (.iload 5, 2) := by decide +kernel
theorem dX12_asked_75 : decode cX12_asked 75 = .ok (.iload_n 3, 1) := by decide +kernel
theorem dX12_asked_76 : decode cX12_asked 76 = .ok (.iadd, 1) := by decide +kernel
theorem dX12_asked_77 : decode cX12_asked 77 = .ok (.aload_n 0, 1) := by decide +kernel
theorem dX12_asked_78 : decode cX12_asked 78 = .ok (.iload_n 1, 1) := by decide +kernel
theorem dX12_asked_79 : decode cX12_asked 79 = .ok (.iconst 2, 1) := by decide +kernel
theorem dX12_asked_80 : decode cX12_asked 80 = .ok (.invokevirtual 203, 3) := by decide +kernel
theorem dX12_asked_83 : decode cX12_asked 83 = .ok (.isub, 1) := by decide +kernel
theorem dX12_asked_84 : decode cX12_asked 84 = .ok (.invokestatic 314, 3) := by decide +kernel
theorem dX12_asked_87 : decode cX12_asked 87 = .ok (.iload 4, 2) := by decide +kernel
theorem dX12_asked_89 : decode cX12_asked 89 = .ok (.iload_n 3, 1) := by decide +kernel
theorem dX12_asked_90 : decode cX12_asked 90 = .ok (.iadd, 1) := by decide +kernel
theorem dX12_asked_91 : decode cX12_asked 91 = .ok (.aload_n 0, 1) := by decide +kernel
theorem dX12_asked_92 : decode cX12_asked 92 = .ok (.iload_n 1, 1) := by decide +kernel
theorem dX12_asked_93 : decode cX12_asked 93 = .ok (.iconst 2, 1) := by decide +kernel
theorem dX12_asked_94 : decode cX12_asked 94 = .ok (.invokevirtual 203, 3) := by decide +kernel
theorem dX12_asked_97 : decode cX12_asked 97 = .ok (.isub, 1) := by decide +kernel
theorem dX12_asked_98 : decode cX12_asked 98 = .ok (.invokestatic 314, 3) := by decide +kernel
theorem dX12_asked_101 : decode cX12_asked 101 = .ok (.if_icmp .ge 8, 3) := by decide +kernel
theorem dX12_asked_104 : decode cX12_asked 104 = .ok (.iload 5, 2) := by decide +kernel
theorem dX12_asked_106 : decode cX12_asked 106 = .ok (.goto 5, 3) := by decide +kernel
theorem dX12_asked_109 : decode cX12_asked 109 = .ok (.iload 4, 2) := by decide +kernel
theorem dX12_asked_111 : decode cX12_asked 111 = .ok (.istore 4, 2) := by decide +kernel
theorem dX12_asked_113 : decode cX12_asked 113 = .ok (.iinc 5 1, 3) := by decide +kernel
theorem dX12_asked_116 : decode cX12_asked 116 = .ok (.goto (-50), 3) := by decide +kernel
theorem dX12_asked_119 : decode cX12_asked 119 = .ok (.iload_n 2, 1) := by decide +kernel
theorem dX12_asked_120 : decode cX12_asked 120 = .ok (.ifCond .ne 8, 3) := by decide +kernel
theorem dX12_asked_123 : decode cX12_asked 123 = .ok (.iload 4, 2) := by decide +kernel
theorem dX12_asked_125 : decode cX12_asked 125 = .ok (.goto 7, 3) := by decide +kernel
theorem dX12_asked_128 : decode cX12_asked 128 = .ok (.iload 4, 2) := by decide +kernel
theorem dX12_asked_130 : decode cX12_asked 130 = .ok (.iload_n 3, 1) := by decide +kernel
theorem dX12_asked_131 : decode cX12_asked 131 = .ok (.iadd, 1) := by decide +kernel
theorem dX12_asked_132 : decode cX12_asked 132 = .ok (.ireturn, 1) := by decide +kernel
theorem dX12_dare_0 : decode cX12_dare 0 = .ok (.aload_n 0, 1) := by decide +kernel
theorem dX12_dare_1 : decode cX12_dare 1 = .ok (.iconst 0, 1) := by decide +kernel
theorem dX12_dare_2 : decode cX12_dare 2 = .ok (.putfield 85, 3) := by decide +kernel
theorem dX12_dare_5 : decode cX12_dare 5 = .ok (.iload_n 2, 1) := by decide +kernel
theorem dX12_dare_6 : decode cX12_dare 6 = .ok (.i2l, 1) := by decide +kernel
theorem dX12_dare_7 : decode cX12_dare 7 = .ok (.lconst 0, 1) := by decide +kernel
theorem dX12_dare_8 : decode cX12_dare 8 = .ok (.lconst 1, 1) := by decide +kernel
theorem dX12_dare_9 : decode cX12_dare 9 = .ok (.invokestatic 91, 3) := by decide +kernel
theorem dX12_dare_12 : decode cX12_dare 12 = .ok (.ifCond .ne 5, 3) := by decide +kernel
theorem dX12_dare_15 : decode cX12_dare 15 = .ok (.iconst (-1), 1) := by decide +kernel
theorem dX12_dare_16 : decode cX12_dare 16 = .ok (.ireturn, 1) := by decide +kernel
theorem dX12_dare_17 : decode cX12_dare 17 = .ok (.iload_n 1, 1) := by decide +kernel
theorem dX12_dare_18 : decode cX12_dare 18 = .ok (.i2l, 1) := by decide +kernel
theorem dX12_dare_19 : decode cX12_dare 19 = .ok (.lconst 1, 1) := by decide +kernel
theorem dX12_dare_20 : decode cX12_dare 20 = .ok (.ldc2_w 286, 3) := by decide +kernel
theorem dX12_dare_23 : decode cX12_dare 23 = .ok (.invokestatic 91, 3) := by decide +kernel
theorem dX12_dare_26 : decode cX12_dare 26 = .ok (.ifCond .ne 6, 3) := by decide +kernel
theorem dX12_dare_29 : decode cX12_dare 29 = .ok (.bipush (-2), 2) := by decide +kernel
theorem dX12_dare_31 : decode cX12_dare 31 = .ok (.ireturn, 1) := by decide +kernel
theorem dX12_dare_32 : decode cX12_dare 32 = .ok (.iconst 0, 1) := by decide +kernel
theorem dX12_dare_33 : decode cX12_dare 33 = .ok (.istore_n 3, 1) := by decide +kernel
theorem dX12_dare_34 : decode cX12_dare 34 = .ok (.iconst (-1), 1) := by decide +kernel
theorem dX12_dare_35 : decode cX12_dare 35 = .ok (.istore 4, 2) := by decide +kernel
theorem dX12_dare_37 : decode cX12_dare 37 = .ok (.aload_n 0, 1) := by decide +kernel
theorem dX12_dare_38 : decode cX12_dare 38 = .ok (.invokevirtual 305, 3) := by decide +kernel
theorem dX12_dare_41 : decode cX12_dare 41 = .ok (.iconst 0, 1) := by decide +kernel
theorem dX12_dare_42 : decode cX12_dare 42 = .ok (.istore 5, 2) := by decide +kernel
theorem dX12_dare_44 : decode cX12_dare 44 = .ok (.iload 5, 2) := by decide +kernel
theorem dX12_dare_46 : decode cX12_dare 46 = .ok (.bipush 30, 2) := by decide +kernel
theorem dX12_dare_48 : decode cX12_dare 48 = .ok (.if_icmp .gt 67, 3) := by decide +kernel
theorem dX12_dare_51 : decode cX12_dare 51 = .ok (.aload_n 0, 1) := by decide +kernel
theorem dX12_dare_52 : decode cX12_dare 52 = .ok (.invokevirtual 317, 3) := by decide +kernel
theorem dX12_dare_55 : decode cX12_dare 55 = .ok (.aload_n 0, 1) := by decide +kernel
theorem dX12_dare_56 : decode cX12_dare 56 = .ok (.iload 5, 2) := by decide +kernel
theorem dX12_dare_58 : decode cX12_dare 58 = .ok (.putfield 13, 3) := by decide +kernel
theorem dX12_dare_61 : decode cX12_dare 61 = .ok (.aload_n 0, 1) := by decide +kernel
theorem dX12_dare_62 : decode cX12_dare 62 = .ok (.iload_n 1, 1) := by decide +kernel
theorem dX12_dare_63 : decode cX12_dare 63 = .ok (.invokevirtual 298, 3) := by decide +kernel
theorem dX12_dare_66 : decode cX12_dare 66 = .ok (.aload_n 0, 1) := by decide +kernel
theorem dX12_dare_67 : decode cX12_dare 67 = .ok (.getfield 261, 3) := by decide +kernel
theorem dX12_dare_70 : decode cX12_dare 70 = .ok (.aload_n 0, 1) := by decide +kernel
theorem dX12_dare_71 : decode cX12_dare 71 = .ok (.iconst 2, 1) := by decide +kernel
theorem dX12_dare_72 : decode cX12_dare 72 = .ok (.iconst 5, 1) := by decide +kernel
theorem dX12_dare_73 : decode cX12_dare 73 = .ok (.invokevirtual 248, 3) := by decide +kernel
theorem dX12_dare_76 : decode cX12_dare 76 = .ok (.imul, 1) := by decide +kernel
theorem dX12_dare_77 : decode cX12_dare 77 = .ok (.istore 6, 2) := by decide +kernel
theorem dX12_dare_79 : decode cX12_dare 79 = .ok (.iload 6, 2) := by decide +kernel
theorem dX12_dare_81 : decode cX12_dare 81 = .ok (.iload 4, 2) := by decide +kernel
theorem dX12_dare_83 : decode cX12_dare 83 = .ok (.if_icmp .le 8, 3) := by decide +kernel
theorem dX12_dare_86 : decode cX12_dare 86 = .ok (.iload 5, 2) := by decide +kernel
theorem dX12_dare_88 : decode cX12_dare 88 = .ok (.goto 4, 3) := by decide +kernel
theorem dX12_dare_91 : decode cX12_dare 91 = .ok (.iload_n 3, 1) := by decide +kernel
theorem dX12_dare_92 : decode cX12_dare 92 = .ok (.istore_n 3, 1) := by decide +kernel
theorem dX12_dare_93 : decode cX12_dare 93 = .ok (.iload 6, 2) := by decide +kernel
theorem dX12_dare_95 : decode cX12_dare 95 = .ok (.iload 4, 2) := by decide +kernel
theorem dX12_dare_97 : decode cX12_dare 97 = .ok (.if_icmp .le 8, 3) := by decide +kernel
theorem dX12_dare_100 : decode cX12_dare 100 = .ok (.iload 6, 2) := by decide +kernel
theorem dX12_dare_102 : decode cX12_dare 102 = .ok (.goto 5, 3) := by decide +kernel
theorem dX12_dare_105 : decode cX12_dare 105 = .ok (.iload 4, 2) := by decide +kernel
theorem dX12_dare_107 : decode cX12_dare 107 = .ok (.istore 4, 2) := by decide +kernel
theorem dX12_dare_109 : decode cX12_dare 109 = .ok (.iinc 5 1, 3) := by decide +kernel
theorem dX12_dare_112 : decode cX12_dare 112 = .ok (.goto (-68), 3) := by decide +kernel
theorem dX12_dare_115 : decode cX12_dare 115 = .ok (.aload_n 0, 1) := by decide +kernel
theorem dX12_dare_116 : decode cX12_dare 116 = .ok (.invokevirtual 311, 3) := by decide +kernel
theorem dX12_dare_119 : decode cX12_dare 119 = .ok (.iload_n 2, 1) := by decide +kernel
theorem dX12_dare_120 : decode cX12_dare 120 = .ok (.ifCond .ne 7, 3) := by decide +kernel
theorem dX12_dare_123 : decode cX12_dare 123 = .ok (.iload_n 3, 1) := by decide +kernel
theorem dX12_dare_124 : decode cX12_dare 124 = .ok (.goto 5, 3) := by decide +kernel
theorem dX12_dare_127 : decode cX12_dare 127 = .ok (.iload 4, 2) := by decide +kernel
theorem dX12_dare_129 : decode cX12_dare 129 = .ok (.ireturn, 1) := by decide +kernel
theorem dX12_learnt_0 : decode cX12_learnt 0 = .ok (.aload_n 0, 1) := by decide +kernel
theorem dX12_learnt_1 : decode cX12_learnt 1 = .ok (.iconst 0, 1) := by decide +kernel
theorem dX12_learnt_2 : decode cX12_learnt 2 = .ok (.putfield 85, 3) := by decide +kernel
theorem dX12_learnt_5 : decode cX12_learnt 5 = .ok (.aload_n 0, 1) := by decide +kernel
theorem dX12_learnt_6 : decode cX12_learnt 6 = .ok (.iload_n 1, 1) := by decide +kernel
theorem dX12_learnt_7 : decode cX12_learnt 7 = .ok (.invokevirtual 281, 3) := by decide +kernel
theorem dX12_learnt_10 : decode cX12_learnt 10 = .ok (.ifCond .ne 5, 3) := by decide +kernel
theorem dX12_learnt_13 : decode cX12_learnt 13 = .ok (.iconst (-1), 1) := by decide +kernel
theorem dX12_learnt_14 : decode cX12_learnt 14 = .ok (.ireturn, 1) := by decide +kernel
theorem dX12_learnt_15 : decode cX12_learnt 15 = .ok (.iload_n 2, 1) := by decide +kernel
theorem dX12_learnt_16 : decode cX12_learnt 16 = .ok (.i2l, 1) := by decide +kernel
theorem dX12_learnt_17 : decode cX12_learnt 17 = .ok (.lconst 0, 1) := by decide +kernel
theorem dX12_learnt_18 : decode cX12_learnt 18 = .ok (.ldc2_w 279, 3) := by decide +kernel
theorem dX12_learnt_21 : decode cX12_learnt 21 = .ok (.invokestatic 91, 3) := by decide +kernel
theorem dX12_learnt_24 : decode cX12_learnt 24 = .ok (.ifCond .ne 6, 3) := by decide +kernel
theorem dX12_learnt_27 : decode cX12_learnt 27 = .ok (.bipush (-2), 2) := by decide +kernel
theorem dX12_learnt_29 : decode cX12_learnt 29 = .ok (.ireturn, 1) := by decide +kernel
theorem dX12_learnt_30 : decode cX12_learnt 30 = .ok (.bipush (-5), 2) := by decide +kernel
theorem dX12_learnt_32 : decode cX12_learnt 32 = .ok (.istore_n 3, 1) := by decide +kernel
theorem dX12_learnt_33 : decode cX12_learnt 33 = .ok (.iconst 1, 1) := by decide +kernel
theorem dX12_learnt_34 : decode cX12_learnt 34 = .ok (.istore 4, 2) := by decide +kernel
theorem dX12_learnt_36 : decode cX12_learnt 36 = .ok (.aload_n 0, 1) := by decide +kernel
theorem dX12_learnt_37 : decode cX12_learnt 37 = .ok (.invokevirtual 305, 3) := by decide +kernel
theorem dX12_learnt_40 : decode cX12_learnt 40 = .ok (.iconst 0, 1) := by decide +kernel
theorem dX12_learnt_41 : decode cX12_learnt 41 = .ok (.istore 5, 2) := by decide +kernel
theorem dX12_learnt_43 : decode cX12_learnt 43 = .ok (.iload 5, 2) := by decide +kernel
theorem dX12_learnt_45 : decode cX12_learnt 45 = .ok (.bipush 40, 2) := by decide +kernel
theorem dX12_learnt_47 : decode cX12_learnt 47 = .ok (.if_icmp .gt 60, 3) := by decide +kernel
theorem dX12_learnt_50 : decode cX12_learnt 50 = .ok (.iload_n 3, 1) := by decide +kernel
theorem dX12_learnt_51 : decode cX12_learnt 51 = .ok (.ifCond .ge 56, 3) := by decide +kernel
theorem dX12_learnt_54 : decode cX12_learnt 54 = .ok (.iload 4, 2) := by decide +kernel
theorem dX12_learnt_56 : decode cX12_learnt 56 = .ok (.ifCond .eq 51, 3) := by decide +kernel
theorem dX12_learnt_59 : decode cX12_learnt 59 = .ok (.aload_n 0, 1) := by decide +kernel
theorem dX12_learnt_60 : decode cX12_learnt 60 = .ok (.iload_n 1, 1) := by decide +kernel
theorem dX12_learnt_61 : decode cX12_learnt 61 = .ok (.invokevirtual 227, 3) := by decide +kernel
theorem dX12_learnt_64 : decode cX12_learnt 64 = .ok (.iload_n 2, 1) := by decide +kernel
theorem dX12_learnt_65 : decode cX12_learnt 65 = .ok (.if_icmp .gt 8, 3) := by decide +kernel
theorem dX12_learnt_68 : decode cX12_learnt 68 = .ok (.iload 5, 2) := by decide +kernel
theorem dX12_learnt_70 : decode cX12_learnt 70 = .ok (.goto 5, 3) := by decide +kernel
theorem dX12_learnt_73 : decode cX12_learnt 73 = .ok (.bipush (-5), 2) := by decide +kernel
theorem dX12_learnt_75 : decode cX12_learnt 75 = .ok (.istore_n 3, 1) := by decide +kernel
theorem dX12_learnt_76 : decode cX12_learnt 76 = .ok (.aload_n 0, 1) := by decide +kernel
theorem dX12_learnt_77 : decode cX12_learnt 77 = .ok (.iload_n 1, 1) := by decide +kernel
theorem dX12_learnt_78 : decode cX12_learnt 78 = .ok (.invokevirtual 255, 3) := by decide +kernel
theorem dX12_learnt_81 : decode cX12_learnt 81 = .ok (.ifCond .ne 7, 3) := by decide +kernel
theorem dX12_learnt_84 : decode cX12_learnt 84 = .ok (.iconst 1, 1) := by decide +kernel
theorem dX12_learnt_85 : decode cX12_learnt 85 = .ok (.goto 4, 3) := by decide +kernel
theorem dX12_learnt_88 : decode cX12_learnt 88 = .ok (.iconst 0, 1) := by decide +kernel
theorem dX12_learnt_89 : decode cX12_learnt 89 = .ok (.istore 4, 2) := by decide +kernel
theorem dX12_learnt_91 : decode cX12_learnt 91 = .ok (.iload 4, 2) := by decide +kernel
theorem dX12_learnt_93 : decode cX12_learnt 93 = .ok (.ifCond .eq 8, 3) := by decide +kernel
theorem dX12_learnt_96 : decode cX12_learnt 96 = .ok (.aload_n 0, 1) := by decide +kernel
theorem dX12_learnt_97 : decode cX12_learnt 97 = .ok (.iload_n 1, 1) := by decide +kernel
theorem dX12_learnt_98 : decode cX12_learnt 98 = .ok (.invokevirtual 258, 3) := by decide +kernel
theorem dX12_learnt_101 : decode cX12_learnt 101 = .ok (.iinc 5 1, 3) := by decide +kernel
theorem dX12_learnt_104 : decode cX12_learnt 104 = .ok (.goto (-61), 3) := by decide +kernel
theorem dX12_learnt_107 : decode cX12_learnt 107 = .ok (.aload_n 0, 1) := by decide +kernel
theorem dX12_learnt_108 : decode cX12_learnt 108 = .ok (.invokevirtual 311, 3) := by decide +kernel
theorem dX12_learnt_111 : decode cX12_learnt 111 = .ok (.iload_n 3, 1) := by decide +kernel
theorem dX12_learnt_112 : decode cX12_learnt 112 = .ok (.ireturn, 1) := by decide +kernel
theorem dX12_nobodySaysNo_0 : decode cX12_nobodySaysNo 0 = .ok (.iconst 1, 1) := by decide +kernel
theorem dX12_nobodySaysNo_1 : decode cX12_nobodySaysNo 1 = .ok (.istore_n 1, 1) := by decide +kernel
theorem dX12_nobodySaysNo_2 : decode cX12_nobodySaysNo 2 = .ok (.iconst 0, 1) := by decide +kernel
theorem dX12_nobodySaysNo_3 : decode cX12_nobodySaysNo 3 = .ok (.istore_n 2, 1) := by decide +kernel
theorem dX12_nobodySaysNo_4 : decode cX12_nobodySaysNo 4 = .ok (.iload_n 2, 1) := by decide +kernel
theorem dX12_nobodySaysNo_5 : decode cX12_nobodySaysNo 5 = .ok (.aload_n 0, 1) := by decide +kernel
theorem dX12_nobodySaysNo_6 : decode cX12_nobodySaysNo 6 = .ok (.getfield 88, 3) := by decide +kernel
theorem dX12_nobodySaysNo_9 : decode cX12_nobodySaysNo 9 = .ok (.if_icmp .ge 35, 3) := by decide +kernel
theorem dX12_nobodySaysNo_12 : decode cX12_nobodySaysNo 12 = .ok (.iload_n 1, 1) := by decide +kernel
theorem dX12_nobodySaysNo_13 : decode cX12_nobodySaysNo 13 = .ok (.ifCond .eq 23, 3) := by decide +kernel
theorem dX12_nobodySaysNo_16 : decode cX12_nobodySaysNo 16 = .ok (.aload_n 0, 1) := by decide +kernel
theorem dX12_nobodySaysNo_17 : decode cX12_nobodySaysNo 17 = .ok (.iload_n 2, 1) := by decide +kernel
theorem dX12_nobodySaysNo_18 : decode cX12_nobodySaysNo 18 = .ok (.invokevirtual 255, 3) := by decide +kernel
theorem dX12_nobodySaysNo_21 : decode cX12_nobodySaysNo 21 = .ok (.ifCond .ne 11, 3) := by decide +kernel
theorem dX12_nobodySaysNo_24 : decode cX12_nobodySaysNo 24 = .ok (.aload_n 0, 1) := by decide +kernel
theorem dX12_nobodySaysNo_25 : decode cX12_nobodySaysNo 25 = .ok (.iload_n 2, 1) := by decide +kernel
theorem dX12_nobodySaysNo_26 : decode cX12_nobodySaysNo 26 = .ok (.invokevirtual 233, 3) := by decide +kernel
theorem dX12_nobodySaysNo_29 : decode cX12_nobodySaysNo 29 = .ok (.ifCond .ne 7, 3) := by decide +kernel
theorem dX12_nobodySaysNo_32 : decode cX12_nobodySaysNo 32 = .ok (.iconst 1, 1) := by decide +kernel
theorem dX12_nobodySaysNo_33 : decode cX12_nobodySaysNo 33 = .ok (.goto 4, 3) := by decide +kernel
theorem dX12_nobodySaysNo_36 : decode cX12_nobodySaysNo 36 = .ok (.iconst 0, 1) := by decide +kernel
theorem dX12_nobodySaysNo_37 : decode cX12_nobodySaysNo 37 = .ok (.istore_n 1, 1) := by decide +kernel
theorem dX12_nobodySaysNo_38 : decode cX12_nobodySaysNo 38 = .ok (.iinc 2 1, 3) := by decide +kernel
theorem dX12_nobodySaysNo_41 : decode cX12_nobodySaysNo 41 = .ok (.goto (-37), 3) := by decide +kernel
theorem dX12_nobodySaysNo_44 : decode cX12_nobodySaysNo 44 = .ok (.iload_n 1, 1) := by decide +kernel
theorem dX12_nobodySaysNo_45 : decode cX12_nobodySaysNo 45 = .ok (.ireturn, 1) := by decide +kernel
theorem dX12_nobody_0 : decode cX12_nobody 0 = .ok (.aload_n 0, 1) := by decide +kernel
theorem dX12_nobody_1 : decode cX12_nobody 1 = .ok (.iconst 0, 1) := by decide +kernel
theorem dX12_nobody_2 : decode cX12_nobody 2 = .ok (.putfield 85, 3) := by decide +kernel
theorem dX12_nobody_5 : decode cX12_nobody 5 = .ok (.bipush (-5), 2) := by decide +kernel
theorem dX12_nobody_7 : decode cX12_nobody 7 = .ok (.istore_n 1, 1) := by decide +kernel
theorem dX12_nobody_8 : decode cX12_nobody 8 = .ok (.aload_n 0, 1) := by decide +kernel
theorem dX12_nobody_9 : decode cX12_nobody 9 = .ok (.invokevirtual 305, 3) := by decide +kernel
theorem dX12_nobody_12 : decode cX12_nobody 12 = .ok (.iconst 0, 1) := by decide +kernel
theorem dX12_nobody_13 : decode cX12_nobody 13 = .ok (.istore_n 2, 1) := by decide +kernel
theorem dX12_nobody_14 : decode cX12_nobody 14 = .ok (.iload_n 2, 1) := by decide +kernel
theorem dX12_nobody_15 : decode cX12_nobody 15 = .ok (.bipush 40, 2) := by decide +kernel
theorem dX12_nobody_17 : decode cX12_nobody 17 = .ok (.if_icmp .gt 32, 3) := by decide +kernel
theorem dX12_nobody_20 : decode cX12_nobody 20 = .ok (.iload_n 1, 1) := by decide +kernel
theorem dX12_nobody_21 : decode cX12_nobody 21 = .ok (.ifCond .ge 28, 3) := by decide +kernel
theorem dX12_nobody_24 : decode cX12_nobody 24 = .ok (.aload_n 0, 1) := by decide +kernel
theorem dX12_nobody_25 : decode cX12_nobody 25 = .ok (.invokevirtual 320, 3) := by decide +kernel
theorem dX12_nobody_28 : decode cX12_nobody 28 = .ok (.ifCond .eq 7, 3) := by decide +kernel
theorem dX12_nobody_31 : decode cX12_nobody 31 = .ok (.iload_n 2, 1) := by decide +kernel
theorem dX12_nobody_32 : decode cX12_nobody 32 = .ok (.goto 5, 3) := by decide +kernel
theorem dX12_nobody_35 : decode cX12_nobody 35 = .ok (.bipush (-5), 2) := by decide +kernel
theorem dX12_nobody_37 : decode cX12_nobody 37 = .ok (.istore_n 1, 1) := by decide +kernel
theorem dX12_nobody_38 : decode cX12_nobody 38 = .ok (.aload_n 0, 1) := by decide +kernel
theorem dX12_nobody_39 : decode cX12_nobody 39 = .ok (.iconst 1, 1) := by decide +kernel
theorem dX12_nobody_40 : decode cX12_nobody 40 = .ok (.invokevirtual 298, 3) := by decide +kernel
theorem dX12_nobody_43 : decode cX12_nobody 43 = .ok (.iinc 2 1, 3) := by decide +kernel
theorem dX12_nobody_46 : decode cX12_nobody 46 = .ok (.goto (-32), 3) := by decide +kernel
theorem dX12_nobody_49 : decode cX12_nobody 49 = .ok (.aload_n 0, 1) := by decide +kernel
theorem dX12_nobody_50 : decode cX12_nobody 50 = .ok (.invokevirtual 311, 3) := by decide +kernel
theorem dX12_nobody_53 : decode cX12_nobody 53 = .ok (.iload_n 1, 1) := by decide +kernel
theorem dX12_nobody_54 : decode cX12_nobody 54 = .ok (.ireturn, 1) := by decide +kernel
theorem dX12_lost_0 : decode cX12_lost 0 = .ok (.aload_n 0, 1) := by decide +kernel
theorem dX12_lost_1 : decode cX12_lost 1 = .ok (.iconst 0, 1) := by decide +kernel
theorem dX12_lost_2 : decode cX12_lost 2 = .ok (.putfield 85, 3) := by decide +kernel
theorem dX12_lost_5 : decode cX12_lost 5 = .ok (.iload_n 1, 1) := by decide +kernel
theorem dX12_lost_6 : decode cX12_lost 6 = .ok (.i2l, 1) := by decide +kernel
theorem dX12_lost_7 : decode cX12_lost 7 = .ok (.lconst 0, 1) := by decide +kernel
theorem dX12_lost_8 : decode cX12_lost 8 = .ok (.ldc2_w 303, 3) := by decide +kernel
theorem dX12_lost_11 : decode cX12_lost 11 = .ok (.invokestatic 91, 3) := by decide +kernel
theorem dX12_lost_14 : decode cX12_lost 14 = .ok (.ifCond .ne 6, 3) := by decide +kernel
theorem dX12_lost_17 : decode cX12_lost 17 = .ok (.bipush (-2), 2) := by decide +kernel
theorem dX12_lost_19 : decode cX12_lost 19 = .ok (.ireturn, 1) := by decide +kernel
theorem dX12_lost_20 : decode cX12_lost 20 = .ok (.aload_n 0, 1) := by decide +kernel
theorem dX12_lost_21 : decode cX12_lost 21 = .ok (.invokevirtual 305, 3) := by decide +kernel
theorem dX12_lost_24 : decode cX12_lost 24 = .ok (.aload_n 0, 1) := by decide +kernel
theorem dX12_lost_25 : decode cX12_lost 25 = .ok (.iload_n 1, 1) := by decide +kernel
theorem dX12_lost_26 : decode cX12_lost 26 = .ok (.invokevirtual 298, 3) := by decide +kernel
theorem dX12_lost_29 : decode cX12_lost 29 = .ok (.aload_n 0, 1) := by decide +kernel
theorem dX12_lost_30 : decode cX12_lost 30 = .ok (.invokevirtual 295, 3) := by decide +kernel
theorem dX12_lost_33 : decode cX12_lost 33 = .ok (.istore_n 2, 1) := by decide +kernel
theorem dX12_lost_34 : decode cX12_lost 34 = .ok (.aload_n 0, 1) := by decide +kernel
theorem dX12_lost_35 : decode cX12_lost 35 = .ok (.invokevirtual 311, 3) := by decide +kernel
theorem dX12_lost_38 : decode cX12_lost 38 = .ok (.iload_n 2, 1) := by decide +kernel
theorem dX12_lost_39 : decode cX12_lost 39 = .ok (.ireturn, 1) := by decide +kernel
theorem dX12_over_0 : decode cX12_over 0 = .ok (.aload_n 0, 1) := by decide +kernel
theorem dX12_over_1 : decode cX12_over 1 = .ok (.iconst 0, 1) := by decide +kernel
theorem dX12_over_2 : decode cX12_over 2 = .ok (.putfield 85, 3) := by decide +kernel
theorem dX12_over_5 : decode cX12_over 5 = .ok (.aload_n 0, 1) := by decide +kernel
theorem dX12_over_6 : decode cX12_over 6 = .ok (.iload_n 1, 1) := by decide +kernel
theorem dX12_over_7 : decode cX12_over 7 = .ok (.invokevirtual 281, 3) := by decide +kernel
theorem dX12_over_10 : decode cX12_over 10 = .ok (.ifCond .ne 7, 3) := by decide +kernel
theorem dX12_over_13 : decode cX12_over 13 = .ok (.ldc_w 324, 3) := by decide +kernel
theorem dX12_over_16 : decode cX12_over 16 = .ok (.ireturn, 1) := by decide +kernel
theorem dX12_over_17 : decode cX12_over 17 = .ok (.iload_n 2, 1) := by decide +kernel
theorem dX12_over_18 : decode cX12_over 18 = .ok (.i2l, 1) := by decide +kernel
theorem dX12_over_19 : decode cX12_over 19 = .ok (.lconst 1, 1) := by decide +kernel
theorem dX12_over_20 : decode cX12_over 20 = .ok (.ldc2_w 279, 3) := by decide +kernel
theorem dX12_over_23 : decode cX12_over 23 = .ok (.invokestatic 91, 3) := by decide +kernel
theorem dX12_over_26 : decode cX12_over 26 = .ok (.ifCond .eq 15, 3) := by decide +kernel
theorem dX12_over_29 : decode cX12_over 29 = .ok (.iload_n 3, 1) := by decide +kernel
theorem dX12_over_30 : decode cX12_over 30 = .ok (.i2l, 1) := by decide +kernel
theorem dX12_over_31 : decode cX12_over 31 = .ok (.lconst 1, 1) := by decide +kernel
theorem dX12_over_32 : decode cX12_over 32 = .ok (.ldc2_w 303, 3) := by decide +kernel
theorem dX12_over_35 : decode cX12_over 35 = .ok (.invokestatic 91, 3) := by decide +kernel
theorem dX12_over_38 : decode cX12_over 38 = .ok (.ifCond .ne 7, 3) := by decide +kernel
theorem dX12_over_41 : decode cX12_over 41 = .ok (.ldc_w 325, 3) := by decide +kernel
theorem dX12_over_44 : decode cX12_over 44 = .ok (.ireturn, 1) := by decide +kernel
theorem dX12_over_45 : decode cX12_over 45 = .ok (.aload_n 0, 1) := by decide +kernel
theorem dX12_over_46 : decode cX12_over 46 = .ok (.invokevirtual 305, 3) := by decide +kernel
theorem dX12_over_49 : decode cX12_over 49 = .ok (.aload_n 0, 1) := by decide +kernel
theorem dX12_over_50 : decode cX12_over 50 = .ok (.iload_n 1, 1) := by decide +kernel
theorem dX12_over_51 : decode cX12_over 51 = .ok (.iload_n 3, 1) := by decide +kernel
theorem dX12_over_52 : decode cX12_over 52 = .ok (.invokevirtual 308, 3) := by decide +kernel
theorem dX12_over_55 : decode cX12_over 55 = .ok (.aload_n 0, 1) := by decide +kernel
theorem dX12_over_56 : decode cX12_over 56 = .ok (.iconst 2, 1) := by decide +kernel
theorem dX12_over_57 : decode cX12_over 57 = .ok (.iconst 5, 1) := by decide +kernel
theorem dX12_over_58 : decode cX12_over 58 = .ok (.invokevirtual 248, 3) := by decide +kernel
theorem dX12_over_61 : decode cX12_over 61 = .ok (.imul, 1) := by decide +kernel
theorem dX12_over_62 : decode cX12_over 62 = .ok (.istore 4, 2) := by decide +kernel
theorem dX12_over_64 : decode cX12_over 64 = .ok (.aload_n 0, 1) := by decide +kernel
theorem dX12_over_65 : decode cX12_over 65 = .ok (.invokevirtual 311, 3) := by decide +kernel
theorem dX12_over_68 : decode cX12_over 68 = .ok (.iload 4, 2) := by decide +kernel
theorem dX12_over_70 : decode cX12_over 70 = .ok (.iload_n 3, 1) := by decide +kernel
theorem dX12_over_71 : decode cX12_over 71 = .ok (.aload_n 0, 1) := by decide +kernel
theorem dX12_over_72 : decode cX12_over 72 = .ok (.iload_n 1, 1) := by decide +kernel
theorem dX12_over_73 : decode cX12_over 73 = .ok (.iconst 2, 1) := by decide +kernel
theorem dX12_over_74 : decode cX12_over 74 = .ok (.invokevirtual 203, 3) := by decide +kernel
theorem dX12_over_77 : decode cX12_over 77 = .ok (.imul, 1) := by decide +kernel
theorem dX12_over_78 : decode cX12_over 78 = .ok (.iload_n 2, 1) := by decide +kernel
theorem dX12_over_79 : decode cX12_over 79 = .ok (.imul, 1) := by decide +kernel
theorem dX12_over_80 : decode cX12_over 80 = .ok (.isub, 1) := by decide +kernel
theorem dX12_over_81 : decode cX12_over 81 = .ok (.ireturn, 1) := by decide +kernel
theorem dX12_nearest_0 : decode cX12_nearest 0 = .ok (.aload_n 0, 1) := by decide +kernel
theorem dX12_nearest_1 : decode cX12_nearest 1 = .ok (.iconst 0, 1) := by decide +kernel
theorem dX12_nearest_2 : decode cX12_nearest 2 = .ok (.putfield 85, 3) := by decide +kernel
theorem dX12_nearest_5 : decode cX12_nearest 5 = .ok (.iload_n 1, 1) := by decide +kernel
theorem dX12_nearest_6 : decode cX12_nearest 6 = .ok (.i2l, 1) := by decide +kernel
theorem dX12_nearest_7 : decode cX12_nearest 7 = .ok (.lconst 1, 1) := by decide +kernel
theorem dX12_nearest_8 : decode cX12_nearest 8 = .ok (.ldc2_w 286, 3) := by decide +kernel
theorem dX12_nearest_11 : decode cX12_nearest 11 = .ok (.invokestatic 91, 3) := by decide +kernel
theorem dX12_nearest_14 : decode cX12_nearest 14 = .ok (.ifCond .ne 6, 3) := by decide +kernel
theorem dX12_nearest_17 : decode cX12_nearest 17 = .ok (.bipush (-2), 2) := by decide +kernel
theorem dX12_nearest_19 : decode cX12_nearest 19 = .ok (.ireturn, 1) := by decide +kernel
theorem dX12_nearest_20 : decode cX12_nearest 20 = .ok (.bipush (-5), 2) := by decide +kernel
theorem dX12_nearest_22 : decode cX12_nearest 22 = .ok (.istore_n 2, 1) := by decide +kernel
theorem dX12_nearest_23 : decode cX12_nearest 23 = .ok (.iconst 0, 1) := by decide +kernel
theorem dX12_nearest_24 : decode cX12_nearest 24 = .ok (.istore_n 3, 1) := by decide +kernel
theorem dX12_nearest_25 : decode cX12_nearest 25 = .ok (.aload_n 0, 1) := by decide +kernel
theorem dX12_nearest_26 : decode cX12_nearest 26 = .ok (.invokevirtual 305, 3) := by decide +kernel
theorem dX12_nearest_29 : decode cX12_nearest 29 = .ok (.iconst 0, 1) := by decide +kernel
theorem dX12_nearest_30 : decode cX12_nearest 30 = .ok (.istore 4, 2) := by decide +kernel
theorem dX12_nearest_32 : decode cX12_nearest 32 = .ok (.iload 4, 2) := by decide +kernel
theorem dX12_nearest_34 : decode cX12_nearest 34 = .ok (.aload_n 0, 1) := by decide +kernel
theorem dX12_nearest_35 : decode cX12_nearest 35 = .ok (.getfield 88, 3) := by decide +kernel
theorem dX12_nearest_38 : decode cX12_nearest 38 = .ok (.if_icmp .ge 72, 3) := by decide +kernel
theorem dX12_nearest_41 : decode cX12_nearest 41 = .ok (.aload_n 0, 1) := by decide +kernel
theorem dX12_nearest_42 : decode cX12_nearest 42 = .ok (.iload 4, 2) := by decide +kernel
theorem dX12_nearest_44 : decode cX12_nearest 44 = .ok (.iload_n 1, 1) := by decide +kernel
theorem dX12_nearest_45 : decode cX12_nearest 45 = .ok (.invokevirtual 308, 3) := by decide +kernel
theorem dX12_nearest_48 : decode cX12_nearest 48 = .ok (.iload_n 1, 1) := by decide +kernel
theorem dX12_nearest_49 : decode cX12_nearest 49 = .ok (.aload_n 0, 1) := by decide +kernel
theorem dX12_nearest_50 : decode cX12_nearest 50 = .ok (.iload 4, 2) := by decide +kernel
theorem dX12_nearest_52 : decode cX12_nearest 52 = .ok (.iconst 2, 1) := by decide +kernel
theorem dX12_nearest_53 : decode cX12_nearest 53 = .ok (.invokevirtual 203, 3) := by decide +kernel
theorem dX12_nearest_56 : decode cX12_nearest 56 = .ok (.imul, 1) := by decide +kernel
theorem dX12_nearest_57 : decode cX12_nearest 57 = .ok (.isub, 1) := by decide +kernel
theorem dX12_nearest_58 : decode cX12_nearest 58 = .ok (.invokestatic 314, 3) := by decide +kernel
theorem dX12_nearest_61 : decode cX12_nearest 61 = .ok (.istore 5, 2) := by decide +kernel
theorem dX12_nearest_63 : decode cX12_nearest 63 = .ok (.iload_n 2, 1) := by decide +kernel
theorem dX12_nearest_64 : decode cX12_nearest 64 = .ok (.ifCond .lt 9, 3) := by decide +kernel
theorem dX12_nearest_67 : decode cX12_nearest 67 = .ok (.iload 5, 2) := by decide +kernel
theorem dX12_nearest_69 : decode cX12_nearest 69 = .ok (.iload_n 3, 1) := by decide +kernel
theorem dX12_nearest_70 : decode cX12_nearest 70 = .ok (.if_icmp .ge 7, 3) := by decide +kernel
theorem dX12_nearest_73 : decode cX12_nearest 73 = .ok (.iconst 1, 1) := by decide +kernel
theorem dX12_nearest_74 : decode cX12_nearest 74 = .ok (.goto 4, 3) := by decide +kernel
theorem dX12_nearest_77 : decode cX12_nearest 77 = .ok (.iconst 0, 1) := by decide +kernel
theorem dX12_nearest_78 : decode cX12_nearest 78 = .ok (.istore 6, 2) := by decide +kernel
theorem dX12_nearest_80 : decode cX12_nearest 80 = .ok (.iload 6, 2) := by decide +kernel
theorem dX12_nearest_82 : decode cX12_nearest 82 = .ok (.ifCond .eq 8, 3) := by decide +kernel
theorem dX12_nearest_85 : decode cX12_nearest 85 = .ok (.iload 4, 2) := by decide +kernel
theorem dX12_nearest_87 : decode cX12_nearest 87 = .ok (.goto 4, 3) := by decide +kernel
theorem dX12_nearest_90 : decode cX12_nearest 90 = .ok (.iload_n 2, 1) := by decide +kernel
theorem dX12_nearest_91 : decode cX12_nearest 91 = .ok (.istore_n 2, 1) := by decide +kernel
theorem dX12_nearest_92 : decode cX12_nearest 92 = .ok (.iload 6, 2) := by decide +kernel
theorem dX12_nearest_94 : decode cX12_nearest 94 = .ok (.ifCond .eq 8, 3) := by decide +kernel
theorem dX12_nearest_97 : decode cX12_nearest 97 = .ok (.iload 5, 2) := by decide +kernel
theorem dX12_nearest_99 : decode cX12_nearest 99 = .ok (.goto 4, 3) := by decide +kernel
theorem dX12_nearest_102 : decode cX12_nearest 102 = .ok (.iload_n 3, 1) := by decide +kernel
theorem dX12_nearest_103 : decode cX12_nearest 103 = .ok (.istore_n 3, 1) := by decide +kernel
theorem dX12_nearest_104 : decode cX12_nearest 104 = .ok (.iinc 4 1, 3) := by decide +kernel
theorem dX12_nearest_107 : decode cX12_nearest 107 = .ok (.goto (-75), 3) := by decide +kernel
theorem dX12_nearest_110 : decode cX12_nearest 110 = .ok (.aload_n 0, 1) := by decide +kernel
theorem dX12_nearest_111 : decode cX12_nearest 111 = .ok (.invokevirtual 311, 3) := by decide +kernel
theorem dX12_nearest_114 : decode cX12_nearest 114 = .ok (.iload_n 2, 1) := by decide +kernel
theorem dX12_nearest_115 : decode cX12_nearest 115 = .ok (.ireturn, 1) := by decide +kernel
theorem dX12_see_0 : decode cX12_see 0 = .ok (.aload_n 0, 1) := by decide +kernel
theorem dX12_see_1 : decode cX12_see 1 = .ok (.iconst 0, 1) := by decide +kernel
theorem dX12_see_2 : decode cX12_see 2 = .ok (.putfield 85, 3) := by decide +kernel
theorem dX12_see_5 : decode cX12_see 5 = .ok (.iload_n 1, 1) := by decide +kernel
theorem dX12_see_6 : decode cX12_see 6 = .ok (.iconst (-1), 1) := by decide +kernel
theorem dX12_see_7 : decode cX12_see 7 = .ok (.if_icmp .ne 10, 3) := by decide +kernel
theorem dX12_see_10 : decode cX12_see 10 = .ok (.aload_n 0, 1) := by decide +kernel
theorem dX12_see_11 : decode cX12_see 11 = .ok (.iconst 0, 1) := by decide +kernel
theorem dX12_see_12 : decode cX12_see 12 = .ok (.putfield 109, 3) := by decide +kernel
theorem dX12_see_15 : decode cX12_see 15 = .ok (.iconst 0, 1) := by decide +kernel
theorem dX12_see_16 : decode cX12_see 16 = .ok (.ireturn, 1) := by decide +kernel
theorem dX12_see_17 : decode cX12_see 17 = .ok (.iload_n 1, 1) := by decide +kernel
theorem dX12_see_18 : decode cX12_see 18 = .ok (.i2l, 1) := by decide +kernel
theorem dX12_see_19 : decode cX12_see 19 = .ok (.lconst 0, 1) := by decide +kernel
theorem dX12_see_20 : decode cX12_see 20 = .ok (.ldc2_w 326, 3) := by decide +kernel
theorem dX12_see_23 : decode cX12_see 23 = .ok (.invokestatic 91, 3) := by decide +kernel
theorem dX12_see_26 : decode cX12_see 26 = .ok (.ifCond .ne 6, 3) := by decide +kernel
theorem dX12_see_29 : decode cX12_see 29 = .ok (.bipush (-2), 2) := by decide +kernel
theorem dX12_see_31 : decode cX12_see 31 = .ok (.ireturn, 1) := by decide +kernel
theorem dX12_see_32 : decode cX12_see 32 = .ok (.aload_n 0, 1) := by decide +kernel
theorem dX12_see_33 : decode cX12_see 33 = .ok (.getfield 109, 3) := by decide +kernel
theorem dX12_see_36 : decode cX12_see 36 = .ok (.iconst 4, 1) := by decide +kernel
theorem dX12_see_37 : decode cX12_see 37 = .ok (.if_icmp .ne 6, 3) := by decide +kernel
theorem dX12_see_40 : decode cX12_see 40 = .ok (.bipush (-4), 2) := by decide +kernel
theorem dX12_see_42 : decode cX12_see 42 = .ok (.ireturn, 1) := by decide +kernel
theorem dX12_see_43 : decode cX12_see 43 = .ok (.aload_n 0, 1) := by decide +kernel
theorem dX12_see_44 : decode cX12_see 44 = .ok (.getfield 20, 3) := by decide +kernel
theorem dX12_see_47 : decode cX12_see 47 = .ok (.aload_n 0, 1) := by decide +kernel
theorem dX12_see_48 : decode cX12_see 48 = .ok (.getfield 109, 3) := by decide +kernel
theorem dX12_see_51 : decode cX12_see 51 = .ok (.iload_n 1, 1) := by decide +kernel
theorem dX12_see_52 : decode cX12_see 52 = .ok (.iastore, 1) := by decide +kernel
theorem dX12_see_53 : decode cX12_see 53 = .ok (.aload_n 0, 1) := by decide +kernel
theorem dX12_see_54 : decode cX12_see 54 = .ok (.dup, 1) := by decide +kernel
theorem dX12_see_55 : decode cX12_see 55 = .ok (.getfield 109, 3) := by decide +kernel
theorem dX12_see_58 : decode cX12_see 58 = .ok (.iconst 1, 1) := by decide +kernel
theorem dX12_see_59 : decode cX12_see 59 = .ok (.iadd, 1) := by decide +kernel
theorem dX12_see_60 : decode cX12_see 60 = .ok (.putfield 109, 3) := by decide +kernel
theorem dX12_see_63 : decode cX12_see 63 = .ok (.aload_n 0, 1) := by decide +kernel
theorem dX12_see_64 : decode cX12_see 64 = .ok (.getfield 109, 3) := by decide +kernel
theorem dX12_see_67 : decode cX12_see 67 = .ok (.ireturn, 1) := by decide +kernel
theorem dX12_areSeen_0 : decode cX12_areSeen 0 = .ok (.iconst 1, 1) := by decide +kernel
theorem dX12_areSeen_1 : decode cX12_areSeen 1 = .ok (.istore_n 2, 1) := by decide +kernel
theorem dX12_areSeen_2 : decode cX12_areSeen 2 = .ok (.iconst 0, 1) := by decide +kernel
theorem dX12_areSeen_3 : decode cX12_areSeen 3 = .ok (.istore_n 3, 1) := by decide +kernel
theorem dX12_areSeen_4 : decode cX12_areSeen 4 = .ok (.iload_n 3, 1) := by decide +kernel
theorem dX12_areSeen_5 : decode cX12_areSeen 5 = .ok (.aload_n 0, 1) := by decide +kernel
theorem dX12_areSeen_6 : decode cX12_areSeen 6 = .ok (.getfield 109, 3) := by decide +kernel
theorem dX12_areSeen_9 : decode cX12_areSeen 9 = .ok (.if_icmp .ge 55, 3) := by decide +kernel
theorem dX12_areSeen_12 : decode cX12_areSeen 12 = .ok (.iload_n 2, 1) := by decide +kernel
theorem dX12_areSeen_13 : decode cX12_areSeen 13 = .ok (.ifCond .eq 51, 3) := by decide +kernel
theorem dX12_areSeen_16 : decode cX12_areSeen 16 = .ok (.aload_n 0, 1) := by decide +kernel
theorem dX12_areSeen_17 : decode cX12_areSeen 17 = .ok (.iload_n 1, 1) := by decide +kernel
theorem dX12_areSeen_18 : decode cX12_areSeen 18 = .ok (.invokevirtual 255, 3) := by decide +kernel
theorem dX12_areSeen_21 : decode cX12_areSeen 21 = .ok (.ifCond .ne 7, 3) := by decide +kernel
theorem dX12_areSeen_24 : decode cX12_areSeen 24 = .ok (.iconst 1, 1) := by decide +kernel
theorem dX12_areSeen_25 : decode cX12_areSeen 25 = .ok (.goto 4, 3) := by decide +kernel
theorem dX12_areSeen_28 : decode cX12_areSeen 28 = .ok (.iconst 0, 1) := by decide +kernel
theorem dX12_areSeen_29 : decode cX12_areSeen 29 = .ok (.istore_n 2, 1) := by decide +kernel
theorem dX12_areSeen_30 : decode cX12_areSeen 30 = .ok (.iload_n 2, 1) := by decide +kernel
theorem dX12_areSeen_31 : decode cX12_areSeen 31 = .ok (.ifCond .eq 27, 3) := by decide +kernel
theorem dX12_areSeen_34 : decode cX12_areSeen 34 = .ok (.aload_n 0, 1) := by decide +kernel
theorem dX12_areSeen_35 : decode cX12_areSeen 35 = .ok (.iload_n 1, 1) := by decide +kernel
theorem dX12_areSeen_36 : decode cX12_areSeen 36 = .ok (.invokevirtual 258, 3) := by decide +kernel
theorem dX12_areSeen_39 : decode cX12_areSeen 39 = .ok (.aload_n 0, 1) := by decide +kernel
theorem dX12_areSeen_40 : decode cX12_areSeen 40 = .ok (.getfield 242, 3) := by decide +kernel
theorem dX12_areSeen_43 : decode cX12_areSeen 43 = .ok (.aload_n 0, 1) := by decide +kernel
theorem dX12_areSeen_44 : decode cX12_areSeen 44 = .ok (.getfield 20, 3) := by decide +kernel
theorem dX12_areSeen_47 : decode cX12_areSeen 47 = .ok (.iload_n 3, 1) := by decide +kernel
theorem dX12_areSeen_48 : decode cX12_areSeen 48 = .ok (.iaload, 1) := by decide +kernel
theorem dX12_areSeen_49 : decode cX12_areSeen 49 = .ok (.if_icmp .ne 7, 3) := by decide +kernel
theorem dX12_areSeen_52 : decode cX12_areSeen 52 = .ok (.iconst 1, 1) := by decide +kernel
theorem dX12_areSeen_53 : decode cX12_areSeen 53 = .ok (.goto 4, 3) := by decide +kernel
theorem dX12_areSeen_56 : decode cX12_areSeen 56 = .ok (.iconst 0, 1) := by decide +kernel
theorem dX12_areSeen_57 : decode cX12_areSeen 57 = .ok (.istore_n 2, 1) := by decide +kernel
theorem dX12_areSeen_58 : decode cX12_areSeen 58 = .ok (.iinc 3 1, 3) := by decide +kernel
theorem dX12_areSeen_61 : decode cX12_areSeen 61 = .ok (.goto (-57), 3) := by decide +kernel
theorem dX12_areSeen_64 : decode cX12_areSeen 64 = .ok (.iload_n 2, 1) := by decide +kernel
theorem dX12_areSeen_65 : decode cX12_areSeen 65 = .ok (.ireturn, 1) := by decide +kernel
theorem dX12_who_0 : decode cX12_who 0 = .ok (.aload_n 0, 1) := by decide +kernel
theorem dX12_who_1 : decode cX12_who 1 = .ok (.iconst 0, 1) := by decide +kernel
theorem dX12_who_2 : decode cX12_who 2 = .ok (.putfield 85, 3) := by decide +kernel
theorem dX12_who_5 : decode cX12_who 5 = .ok (.iconst 0, 1) := by decide +kernel
theorem dX12_who_6 : decode cX12_who 6 = .ok (.istore_n 1, 1) := by decide +kernel
theorem dX12_who_7 : decode cX12_who 7 = .ok (.aload_n 0, 1) := by decide +kernel
theorem dX12_who_8 : decode cX12_who 8 = .ok (.invokevirtual 305, 3) := by decide +kernel
theorem dX12_who_11 : decode cX12_who 11 = .ok (.iconst 0, 1) := by decide +kernel
theorem dX12_who_12 : decode cX12_who 12 = .ok (.istore_n 2, 1) := by decide +kernel
theorem dX12_who_13 : decode cX12_who 13 = .ok (.iload_n 2, 1) := by decide +kernel
theorem dX12_who_14 : decode cX12_who 14 = .ok (.aload_n 0, 1) := by decide +kernel
theorem dX12_who_15 : decode cX12_who 15 = .ok (.getfield 88, 3) := by decide +kernel
theorem dX12_who_18 : decode cX12_who 18 = .ok (.if_icmp .ge 27, 3) := by decide +kernel
theorem dX12_who_21 : decode cX12_who 21 = .ok (.iload_n 1, 1) := by decide +kernel
theorem dX12_who_22 : decode cX12_who 22 = .ok (.aload_n 0, 1) := by decide +kernel
theorem dX12_who_23 : decode cX12_who 23 = .ok (.iload_n 2, 1) := by decide +kernel
theorem dX12_who_24 : decode cX12_who 24 = .ok (.invokevirtual 328, 3) := by decide +kernel
theorem dX12_who_27 : decode cX12_who 27 = .ok (.ifCond .eq 9, 3) := by decide +kernel
theorem dX12_who_30 : decode cX12_who 30 = .ok (.iconst 1, 1) := by decide +kernel
theorem dX12_who_31 : decode cX12_who 31 = .ok (.iload_n 2, 1) := by decide +kernel
theorem dX12_who_32 : decode cX12_who 32 = .ok (.ishl, 1) := by decide +kernel
theorem dX12_who_33 : decode cX12_who 33 = .ok (.goto 4, 3) := by decide +kernel
theorem dX12_who_36 : decode cX12_who 36 = .ok (.iconst 0, 1) := by decide +kernel
theorem dX12_who_37 : decode cX12_who 37 = .ok (.ior, 1) := by decide +kernel
theorem dX12_who_38 : decode cX12_who 38 = .ok (.istore_n 1, 1) := by decide +kernel
theorem dX12_who_39 : decode cX12_who 39 = .ok (.iinc 2 1, 3) := by decide +kernel
theorem dX12_who_42 : decode cX12_who 42 = .ok (.goto (-29), 3) := by decide +kernel
theorem dX12_who_45 : decode cX12_who 45 = .ok (.aload_n 0, 1) := by decide +kernel
theorem dX12_who_46 : decode cX12_who 46 = .ok (.invokevirtual 311, 3) := by decide +kernel
theorem dX12_who_49 : decode cX12_who 49 = .ok (.iload_n 1, 1) := by decide +kernel
theorem dX12_who_50 : decode cX12_who 50 = .ok (.ireturn, 1) := by decide +kernel
theorem dX12_offs_0 : decode cX12_offs 0 = .ok (.aload_n 0, 1) := by decide +kernel
theorem dX12_offs_1 : decode cX12_offs 1 = .ok (.iconst 0, 1) := by decide +kernel
theorem dX12_offs_2 : decode cX12_offs 2 = .ok (.putfield 85, 3) := by decide +kernel
theorem dX12_offs_5 : decode cX12_offs 5 = .ok (.aload_n 0, 1) := by decide +kernel
theorem dX12_offs_6 : decode cX12_offs 6 = .ok (.iload_n 1, 1) := by decide +kernel
theorem dX12_offs_7 : decode cX12_offs 7 = .ok (.invokevirtual 281, 3) := by decide +kernel
theorem dX12_offs_10 : decode cX12_offs 10 = .ok (.ifCond .eq 13, 3) := by decide +kernel
theorem dX12_offs_13 : decode cX12_offs 13 = .ok (.iload_n 2, 1) := by decide +kernel
theorem dX12_offs_14 : decode cX12_offs 14 = .ok (.i2l, 1) := by decide +kernel
theorem dX12_offs_15 : decode cX12_offs 15 = .ok (.lconst 0, 1) := by decide +kernel
theorem dX12_offs_16 : decode cX12_offs 16 = .ok (.lconst 1, 1) := by decide +kernel
theorem dX12_offs_17 : decode cX12_offs 17 = .ok (.invokestatic 91, 3) := by decide +kernel
theorem dX12_offs_20 : decode cX12_offs 20 = .ok (.ifCond .ne 5, 3) := by decide +kernel
theorem dX12_offs_23 : decode cX12_offs 23 = .ok (.iconst (-1), 1) := by decide +kernel
theorem dX12_offs_24 : decode cX12_offs 24 = .ok (.ireturn, 1) := by decide +kernel
theorem dX12_offs_25 : decode cX12_offs 25 = .ok (.iconst 0, 1) := by decide +kernel
theorem dX12_offs_26 : decode cX12_offs 26 = .ok (.istore_n 3, 1) := by decide +kernel
theorem dX12_offs_27 : decode cX12_offs 27 = .ok (.bipush (-5), 2) := by decide +kernel
theorem dX12_offs_29 : decode cX12_offs 29 = .ok (.istore 4, 2) := by decide +kernel
theorem dX12_offs_31 : decode cX12_offs 31 = .ok (.aload_n 0, 1) := by decide +kernel
theorem dX12_offs_32 : decode cX12_offs 32 = .ok (.invokevirtual 305, 3) := by decide +kernel
theorem dX12_offs_35 : decode cX12_offs 35 = .ok (.bipush 30, 2) := by decide +kernel
theorem dX12_offs_37 : decode cX12_offs 37 = .ok (.istore 5, 2) := by decide +kernel
theorem dX12_offs_39 : decode cX12_offs 39 = .ok (.iload 5, 2) := by decide +kernel
theorem dX12_offs_41 : decode cX12_offs 41 = .ok (.ifCond .lt 34, 3) := by decide +kernel
theorem dX12_offs_44 : decode cX12_offs 44 = .ok (.aload_n 0, 1) := by decide +kernel
theorem dX12_offs_45 : decode cX12_offs 45 = .ok (.invokevirtual 317, 3) := by decide +kernel
theorem dX12_offs_48 : decode cX12_offs 48 = .ok (.aload_n 0, 1) := by decide +kernel
theorem dX12_offs_49 : decode cX12_offs 49 = .ok (.iload 5, 2) := by decide +kernel
theorem dX12_offs_51 : decode cX12_offs 51 = .ok (.putfield 13, 3) := by decide +kernel
theorem dX12_offs_54 : decode cX12_offs 54 = .ok (.aload_n 0, 1) := by decide +kernel
theorem dX12_offs_55 : decode cX12_offs 55 = .ok (.iload_n 1, 1) := by decide +kernel
theorem dX12_offs_56 : decode cX12_offs 56 = .ok (.invokevirtual 328, 3) := by decide +kernel
theorem dX12_offs_59 : decode cX12_offs 59 = .ok (.ifCond .eq 10, 3) := by decide +kernel
theorem dX12_offs_62 : decode cX12_offs 62 = .ok (.iinc 3 1, 3) := by decide +kernel
theorem dX12_offs_65 : decode cX12_offs 65 = .ok (.iload 5, 2) := by decide +kernel
theorem dX12_offs_67 : decode cX12_offs 67 = .ok (.istore 4, 2) := by decide +kernel
theorem dX12_offs_69 : decode cX12_offs 69 = .ok (.iinc 5 (-1), 3) := by decide +kernel
theorem dX12_offs_72 : decode cX12_offs 72 = .ok (.goto (-33), 3) := by decide +kernel
theorem dX12_offs_75 : decode cX12_offs 75 = .ok (.aload_n 0, 1) := by decide +kernel
theorem dX12_offs_76 : decode cX12_offs 76 = .ok (.invokevirtual 311, 3) := by decide +kernel
theorem dX12_offs_79 : decode cX12_offs 79 = .ok (.iload_n 2, 1) := by decide +kernel
theorem dX12_offs_80 : decode cX12_offs 80 = .ok (.ifCond .ne 7, 3) := by decide +kernel
theorem dX12_offs_83 : decode cX12_offs 83 = .ok (.iload_n 3, 1) := by decide +kernel
theorem dX12_offs_84 : decode cX12_offs 84 = .ok (.goto 5, 3) := by decide +kernel
theorem dX12_offs_87 : decode cX12_offs 87 = .ok (.iload 4, 2) := by decide +kernel
theorem dX12_offs_89 : decode cX12_offs 89 = .ok (.ireturn, 1) := by decide +kernel
theorem dX12_divisor_0 : decode cX12_divisor 0 = .ok (.iload_n 0, 1) := by decide +kernel
theorem dX12_divisor_1 : decode cX12_divisor 1 = .ok (.istore_n 2, 1) := by decide +kernel
theorem dX12_divisor_2 : decode cX12_divisor 2 = .ok (.iload_n 1, 1) := by decide +kernel
theorem dX12_divisor_3 : decode cX12_divisor 3 = .ok (.istore_n 3, 1) := by decide +kernel
theorem dX12_divisor_4 : decode cX12_divisor 4 = .ok (.iload_n 3, 1) := by decide +kernel
theorem dX12_divisor_5 : decode cX12_divisor 5 = .ok (.ifCond .eq 16, 3) := by decide +kernel
theorem dX12_divisor_8 : decode cX12_divisor 8 = .ok (.iload_n 2, 1) := by decide +kernel
theorem dX12_divisor_9 : decode cX12_divisor 9 = .ok (.iload_n 3, 1) := by decide +kernel
theorem dX12_divisor_10 : decode cX12_divisor 10 = .ok (.irem, 1) := by decide +kernel
theorem dX12_divisor_11 : decode cX12_divisor 11 = .ok (.istore 4, 2) := by decide +kernel
theorem dX12_divisor_13 : decode cX12_divisor 13 = .ok (.iload_n 3, 1) := by decide +kernel
theorem dX12_divisor_14 : decode cX12_divisor 14 = .ok (.istore_n 2, 1) := by decide +kernel
theorem dX12_divisor_15 : decode cX12_divisor 15 = .ok (.iload 4, 2) := by decide +kernel
theorem dX12_divisor_17 : decode cX12_divisor 17 = .ok (.istore_n 3, 1) := by decide +kernel
theorem dX12_divisor_18 : decode cX12_divisor 18 = .ok (.goto (-14), 3) := by decide +kernel
theorem dX12_divisor_21 : decode cX12_divisor 21 = .ok (.iload_n 2, 1) := by decide +kernel
theorem dX12_divisor_22 : decode cX12_divisor 22 = .ok (.ireturn, 1) := by decide +kernel
theorem dX12_partOf_0 : decode cX12_partOf 0 = .ok (.iload_n 0, 1) := by decide +kernel
theorem dX12_partOf_1 : decode cX12_partOf 1 = .ok (.invokestatic 314, 3) := by decide +kernel
theorem dX12_partOf_4 : decode cX12_partOf 4 = .ok (.iload_n 1, 1) := by decide +kernel
theorem dX12_partOf_5 : decode cX12_partOf 5 = .ok (.invokestatic 331, 3) := by decide +kernel
theorem dX12_partOf_8 : decode cX12_partOf 8 = .ok (.istore_n 3, 1) := by decide +kernel
theorem dX12_partOf_9 : decode cX12_partOf 9 = .ok (.iload_n 2, 1) := by decide +kernel
theorem dX12_partOf_10 : decode cX12_partOf 10 = .ok (.ifCond .ne 10, 3) := by decide +kernel
theorem dX12_partOf_13 : decode cX12_partOf 13 = .ok (.iload_n 0, 1) := by decide +kernel
theorem dX12_partOf_14 : decode cX12_partOf 14 = .ok (.iload_n 3, 1) := by decide +kernel
theorem dX12_partOf_15 : decode cX12_partOf 15 = .ok (.idiv, 1) := by decide +kernel
theorem dX12_partOf_16 : decode cX12_partOf 16 = .ok (.i2l, 1) := by decide +kernel
theorem dX12_partOf_17 : decode cX12_partOf 17 = .ok (.goto 7, 3) := by decide +kernel
theorem dX12_partOf_20 : decode cX12_partOf 20 = .ok (.iload_n 1, 1) := by decide +kernel
theorem dX12_partOf_21 : decode cX12_partOf 21 = .ok (.iload_n 3, 1) := by decide +kernel
theorem dX12_partOf_22 : decode cX12_partOf 22 = .ok (.idiv, 1) := by decide +kernel
theorem dX12_partOf_23 : decode cX12_partOf 23 = .ok (.i2l, 1) := by decide +kernel
theorem dX12_partOf_24 : decode cX12_partOf 24 = .ok (.lreturn, 1) := by decide +kernel
theorem dX12_odds_0 : decode cX12_odds 0 = .ok (.aload_n 0, 1) := by decide +kernel
theorem dX12_odds_1 : decode cX12_odds 1 = .ok (.iconst 0, 1) := by decide +kernel
theorem dX12_odds_2 : decode cX12_odds 2 = .ok (.putfield 85, 3) := by decide +kernel
theorem dX12_odds_5 : decode cX12_odds 5 = .ok (.iload_n 1, 1) := by decide +kernel
theorem dX12_odds_6 : decode cX12_odds 6 = .ok (.i2l, 1) := by decide +kernel
theorem dX12_odds_7 : decode cX12_odds 7 = .ok (.lconst 0, 1) := by decide +kernel
theorem dX12_odds_8 : decode cX12_odds 8 = .ok (.ldc2_w 303, 3) := by decide +kernel
theorem dX12_odds_11 : decode cX12_odds 11 = .ok (.invokestatic 91, 3) := by decide +kernel
theorem dX12_odds_14 : decode cX12_odds 14 = .ok (.ifCond .eq 13, 3) := by decide +kernel
theorem dX12_odds_17 : decode cX12_odds 17 = .ok (.iload_n 2, 1) := by decide +kernel
theorem dX12_odds_18 : decode cX12_odds 18 = .ok (.i2l, 1) := by decide +kernel
theorem dX12_odds_19 : decode cX12_odds 19 = .ok (.lconst 0, 1) := by decide +kernel
theorem dX12_odds_20 : decode cX12_odds 20 = .ok (.lconst 1, 1) := by decide +kernel
theorem dX12_odds_21 : decode cX12_odds 21 = .ok (.invokestatic 91, 3) := by decide +kernel
theorem dX12_odds_24 : decode cX12_odds 24 = .ok (.ifCond .ne 7, 3) := by decide +kernel
theorem dX12_odds_27 : decode cX12_odds 27 = .ok (.ldc2_w 334, 3) := by decide +kernel
theorem dX12_odds_30 : decode cX12_odds 30 = .ok (.lreturn, 1) := by decide +kernel
theorem dX12_odds_31 : decode cX12_odds 31 = .ok (.iconst 0, 1) := by decide +kernel
theorem dX12_odds_32 : decode cX12_odds 32 = .ok (.istore_n 3, 1) := by decide +kernel
theorem dX12_odds_33 : decode cX12_odds 33 = .ok (.iconst 0, 1) := by decide +kernel
theorem dX12_odds_34 : decode cX12_odds 34 = .ok (.istore 4, 2) := by decide +kernel
theorem dX12_odds_36 : decode cX12_odds 36 = .ok (.aload_n 0, 1) := by decide +kernel
theorem dX12_odds_37 : decode cX12_odds 37 = .ok (.invokevirtual 305, 3) := by decide +kernel
theorem dX12_odds_40 : decode cX12_odds 40 = .ok (.aload_n 0, 1) := by decide +kernel
theorem dX12_odds_41 : decode cX12_odds 41 = .ok (.iload_n 1, 1) := by decide +kernel
theorem dX12_odds_42 : decode cX12_odds 42 = .ok (.invokevirtual 298, 3) := by decide +kernel
theorem dX12_odds_45 : decode cX12_odds 45 = .ok (.iconst 0, 1) := by decide +kernel
theorem dX12_odds_46 : decode cX12_odds 46 = .ok (.istore 5, 2) := by decide +kernel
theorem dX12_odds_48 : decode cX12_odds 48 = .ok (.iload 5, 2) := by decide +kernel
theorem dX12_odds_50 : decode cX12_odds 50 = .ok (.aload_n 0, 1) := by decide +kernel
theorem dX12_odds_51 : decode cX12_odds 51 = .ok (.getfield 88, 3) := by decide +kernel
theorem dX12_odds_54 : decode cX12_odds 54 = .ok (.if_icmp .ge 54, 3) := by decide +kernel
theorem dX12_odds_57 : decode cX12_odds 57 = .ok (.iload 4, 2) := by decide +kernel
theorem dX12_odds_59 : decode cX12_odds 59 = .ok (.aload_n 0, 1) := by decide +kernel
theorem dX12_odds_60 : decode cX12_odds 60 = .ok (.iload 5, 2) := by decide +kernel
theorem dX12_odds_62 : decode cX12_odds 62 = .ok (.invokevirtual 255, 3) := by decide +kernel
theorem dX12_odds_65 : decode cX12_odds 65 = .ok (.ifCond .eq 7, 3) := by decide +kernel
theorem dX12_odds_68 : decode cX12_odds 68 = .ok (.iconst 0, 1) := by decide +kernel
theorem dX12_odds_69 : decode cX12_odds 69 = .ok (.goto 4, 3) := by decide +kernel
theorem dX12_odds_72 : decode cX12_odds 72 = .ok (.iconst 1, 1) := by decide +kernel
theorem dX12_odds_73 : decode cX12_odds 73 = .ok (.iadd, 1) := by decide +kernel
theorem dX12_odds_74 : decode cX12_odds 74 = .ok (.istore 4, 2) := by decide +kernel
theorem dX12_odds_76 : decode cX12_odds 76 = .ok (.iload_n 3, 1) := by decide +kernel
theorem dX12_odds_77 : decode cX12_odds 77 = .ok (.aload_n 0, 1) := by decide +kernel
theorem dX12_odds_78 : decode cX12_odds 78 = .ok (.iload 5, 2) := by decide +kernel
theorem dX12_odds_80 : decode cX12_odds 80 = .ok (.invokevirtual 255, 3) := by decide +kernel
theorem dX12_odds_83 : decode cX12_odds 83 = .ok (.ifCond .ne 16, 3) := by decide +kernel
theorem dX12_odds_86 : decode cX12_odds 86 = .ok (.aload_n 0, 1) := by decide +kernel
theorem dX12_odds_87 : decode cX12_odds 87 = .ok (.iload 5, 2) := by decide +kernel
theorem dX12_odds_89 : decode cX12_odds 89 = .ok (.invokevirtual 233, 3) := by decide +kernel
theorem dX12_odds_92 : decode cX12_odds 92 = .ok (.ifCond .eq 7, 3) := by decide +kernel
theorem dX12_odds_95 : decode cX12_odds 95 = .ok (.iconst 1, 1) := by decide +kernel
theorem dX12_odds_96 : decode cX12_odds 96 = .ok (.goto 4, 3) := by decide +kernel
theorem dX12_odds_99 : decode cX12_odds 99 = .ok (.iconst 0, 1) := by decide +kernel
theorem dX12_odds_100 : decode cX12_odds 100 = .ok (.iadd, 1) := by decide +kernel
theorem dX12_odds_101 : decode cX12_odds 101 = .ok (.istore_n 3, 1) := by decide +kernel
theorem dX12_odds_102 : decode cX12_odds 102 = .ok (.iinc 5 1, 3) := by decide +kernel
theorem dX12_odds_105 : decode cX12_odds 105 = .ok (.goto (-57), 3) := by decide +kernel
theorem dX12_odds_108 : decode cX12_odds 108 = .ok (.aload_n 0, 1) := by decide +kernel
theorem dX12_odds_109 : decode cX12_odds 109 = .ok (.invokevirtual 311, 3) := by decide +kernel
theorem dX12_odds_112 : decode cX12_odds 112 = .ok (.iload 4, 2) := by decide +kernel
theorem dX12_odds_114 : decode cX12_odds 114 = .ok (.ifCond .ne 9, 3) := by decide +kernel
theorem dX12_odds_117 : decode cX12_odds 117 = .ok (.ldc2_w 334, 3) := by decide +kernel
theorem dX12_odds_120 : decode cX12_odds 120 = .ok (.goto 10, 3) := by decide +kernel
theorem dX12_odds_123 : decode cX12_odds 123 = .ok (.iload_n 3, 1) := by decide +kernel
theorem dX12_odds_124 : decode cX12_odds 124 = .ok (.iload 4, 2) := by decide +kernel
theorem dX12_odds_126 : decode cX12_odds 126 = .ok (.iload_n 2, 1) := by decide +kernel
theorem dX12_odds_127 : decode cX12_odds 127 = .ok (.invokestatic 336, 3) := by decide +kernel
theorem dX12_odds_130 : decode cX12_odds 130 = .ok (.lreturn, 1) := by decide +kernel
theorem dX12_mean_0 : decode cX12_mean 0 = .ok (.aload_n 0, 1) := by decide +kernel
theorem dX12_mean_1 : decode cX12_mean 1 = .ok (.iconst 0, 1) := by decide +kernel
theorem dX12_mean_2 : decode cX12_mean 2 = .ok (.putfield 85, 3) := by decide +kernel
theorem dX12_mean_5 : decode cX12_mean 5 = .ok (.iload_n 1, 1) := by decide +kernel
theorem dX12_mean_6 : decode cX12_mean 6 = .ok (.i2l, 1) := by decide +kernel
theorem dX12_mean_7 : decode cX12_mean 7 = .ok (.lconst 1, 1) := by decide +kernel
theorem dX12_mean_8 : decode cX12_mean 8 = .ok (.ldc2_w 303, 3) := by decide +kernel
theorem dX12_mean_11 : decode cX12_mean 11 = .ok (.invokestatic 91, 3) := by decide +kernel
theorem dX12_mean_14 : decode cX12_mean 14 = .ok (.ifCond .eq 13, 3) := by decide +kernel
theorem dX12_mean_17 : decode cX12_mean 17 = .ok (.iload_n 2, 1) := by decide +kernel
theorem dX12_mean_18 : decode cX12_mean 18 = .ok (.i2l, 1) := by decide +kernel
theorem dX12_mean_19 : decode cX12_mean 19 = .ok (.lconst 0, 1) := by decide +kernel
theorem dX12_mean_20 : decode cX12_mean 20 = .ok (.lconst 1, 1) := by decide +kernel
theorem dX12_mean_21 : decode cX12_mean 21 = .ok (.invokestatic 91, 3) := by decide +kernel
theorem dX12_mean_24 : decode cX12_mean 24 = .ok (.ifCond .ne 7, 3) := by decide +kernel
theorem dX12_mean_27 : decode cX12_mean 27 = .ok (.ldc2_w 334, 3) := by decide +kernel
theorem dX12_mean_30 : decode cX12_mean 30 = .ok (.lreturn, 1) := by decide +kernel
theorem dX12_mean_31 : decode cX12_mean 31 = .ok (.aload_n 0, 1) := by decide +kernel
theorem dX12_mean_32 : decode cX12_mean 32 = .ok (.invokevirtual 305, 3) := by decide +kernel
theorem dX12_mean_35 : decode cX12_mean 35 = .ok (.aload_n 0, 1) := by decide +kernel
theorem dX12_mean_36 : decode cX12_mean 36 = .ok (.iload_n 1, 1) := by decide +kernel
theorem dX12_mean_37 : decode cX12_mean 37 = .ok (.invokevirtual 298, 3) := by decide +kernel
theorem dX12_mean_40 : decode cX12_mean 40 = .ok (.aload_n 0, 1) := by decide +kernel
theorem dX12_mean_41 : decode cX12_mean 41 = .ok (.invokevirtual 311, 3) := by decide +kernel
theorem dX12_mean_44 : decode cX12_mean 44 = .ok (.aload_n 0, 1) := by decide +kernel
theorem dX12_mean_45 : decode cX12_mean 45 = .ok (.getfield 267, 3) := by decide +kernel
theorem dX12_mean_48 : decode cX12_mean 48 = .ok (.ifCond .ne 9, 3) := by decide +kernel
theorem dX12_mean_51 : decode cX12_mean 51 = .ok (.ldc2_w 334, 3) := by decide +kernel
theorem dX12_mean_54 : decode cX12_mean 54 = .ok (.goto 20, 3) := by decide +kernel
theorem dX12_mean_57 : decode cX12_mean 57 = .ok (.aload_n 0, 1) := by decide +kernel
theorem dX12_mean_58 : decode cX12_mean 58 = .ok (.getfield 261, 3) := by decide +kernel
theorem dX12_mean_61 : decode cX12_mean 61 = .ok (.aload_n 0, 1) := by decide +kernel
theorem dX12_mean_62 : decode cX12_mean 62 = .ok (.getfield 264, 3) := by decide +kernel
theorem dX12_mean_65 : decode cX12_mean 65 = .ok (.isub, 1) := by decide +kernel
theorem dX12_mean_66 : decode cX12_mean 66 = .ok (.aload_n 0, 1) := by decide +kernel
theorem dX12_mean_67 : decode cX12_mean 67 = .ok (.getfield 267, 3) := by decide +kernel
theorem dX12_mean_70 : decode cX12_mean 70 = .ok (.iload_n 2, 1) := by decide +kernel
theorem dX12_mean_71 : decode cX12_mean 71 = .ok (.invokestatic 336, 3) := by decide +kernel
theorem dX12_mean_74 : decode cX12_mean 74 = .ok (.lreturn, 1) := by decide +kernel
theorem dX12_book_0 : decode cX12_book 0 = .ok (.aload_n 0, 1) := by decide +kernel
theorem dX12_book_1 : decode cX12_book 1 = .ok (.iconst 0, 1) := by decide +kernel
theorem dX12_book_2 : decode cX12_book 2 = .ok (.putfield 85, 3) := by decide +kernel
theorem dX12_book_5 : decode cX12_book 5 = .ok (.iload_n 1, 1) := by decide +kernel
theorem dX12_book_6 : decode cX12_book 6 = .ok (.iconst (-1), 1) := by decide +kernel
theorem dX12_book_7 : decode cX12_book 7 = .ok (.if_icmp .ne 10, 3) := by decide +kernel
theorem dX12_book_10 : decode cX12_book 10 = .ok (.aload_n 0, 1) := by decide +kernel
theorem dX12_book_11 : decode cX12_book 11 = .ok (.iconst 0, 1) := by decide +kernel
theorem dX12_book_12 : decode cX12_book 12 = .ok (.putfield 112, 3) := by decide +kernel
theorem dX12_book_15 : decode cX12_book 15 = .ok (.iconst 0, 1) := by decide +kernel
theorem dX12_book_16 : decode cX12_book 16 = .ok (.ireturn, 1) := by decide +kernel
theorem dX12_book_17 : decode cX12_book 17 = .ok (.aload_n 0, 1) := by decide +kernel
theorem dX12_book_18 : decode cX12_book 18 = .ok (.iload_n 1, 1) := by decide +kernel
theorem dX12_book_19 : decode cX12_book 19 = .ok (.invokevirtual 281, 3) := by decide +kernel
theorem dX12_book_22 : decode cX12_book 22 = .ok (.ifCond .ne 5, 3) := by decide +kernel
theorem dX12_book_25 : decode cX12_book 25 = .ok (.iconst (-1), 1) := by decide +kernel
theorem dX12_book_26 : decode cX12_book 26 = .ok (.ireturn, 1) := by decide +kernel
theorem dX12_book_27 : decode cX12_book 27 = .ok (.aload_n 0, 1) := by decide +kernel
theorem dX12_book_28 : decode cX12_book 28 = .ok (.getfield 112, 3) := by decide +kernel
theorem dX12_book_31 : decode cX12_book 31 = .ok (.bipush 8, 2) := by decide +kernel
theorem dX12_book_33 : decode cX12_book 33 = .ok (.if_icmp .ne 6, 3) := by decide +kernel
theorem dX12_book_36 : decode cX12_book 36 = .ok (.bipush (-4), 2) := by decide +kernel
theorem dX12_book_38 : decode cX12_book 38 = .ok (.ireturn, 1) := by decide +kernel
theorem dX12_book_39 : decode cX12_book 39 = .ok (.aload_n 0, 1) := by decide +kernel
theorem dX12_book_40 : decode cX12_book 40 = .ok (.getfield 23, 3) := by decide +kernel
theorem dX12_book_43 : decode cX12_book 43 = .ok (.aload_n 0, 1) := by decide +kernel
theorem dX12_book_44 : decode cX12_book 44 = .ok (.getfield 112, 3) := by decide +kernel
theorem dX12_book_47 : decode cX12_book 47 = .ok (.iload_n 1, 1) := by decide +kernel
theorem dX12_book_48 : decode cX12_book 48 = .ok (.iastore, 1) := by decide +kernel
theorem dX12_book_49 : decode cX12_book 49 = .ok (.aload_n 0, 1) := by decide +kernel
theorem dX12_book_50 : decode cX12_book 50 = .ok (.dup, 1) := by decide +kernel
theorem dX12_book_51 : decode cX12_book 51 = .ok (.getfield 112, 3) := by decide +kernel
theorem dX12_book_54 : decode cX12_book 54 = .ok (.iconst 1, 1) := by decide +kernel
theorem dX12_book_55 : decode cX12_book 55 = .ok (.iadd, 1) := by decide +kernel
theorem dX12_book_56 : decode cX12_book 56 = .ok (.putfield 112, 3) := by decide +kernel
theorem dX12_book_59 : decode cX12_book 59 = .ok (.aload_n 0, 1) := by decide +kernel
theorem dX12_book_60 : decode cX12_book 60 = .ok (.getfield 112, 3) := by decide +kernel
theorem dX12_book_63 : decode cX12_book 63 = .ok (.ireturn, 1) := by decide +kernel
theorem dX12_looked_0 : decode cX12_looked 0 = .ok (.aload_n 0, 1) := by decide +kernel
theorem dX12_looked_1 : decode cX12_looked 1 = .ok (.iconst 0, 1) := by decide +kernel
theorem dX12_looked_2 : decode cX12_looked 2 = .ok (.putfield 85, 3) := by decide +kernel
theorem dX12_looked_5 : decode cX12_looked 5 = .ok (.bipush (-5), 2) := by decide +kernel
theorem dX12_looked_7 : decode cX12_looked 7 = .ok (.istore_n 1, 1) := by decide +kernel
theorem dX12_looked_8 : decode cX12_looked 8 = .ok (.aload_n 0, 1) := by decide +kernel
theorem dX12_looked_9 : decode cX12_looked 9 = .ok (.invokevirtual 305, 3) := by decide +kernel
theorem dX12_looked_12 : decode cX12_looked 12 = .ok (.iconst 0, 1) := by decide +kernel
theorem dX12_looked_13 : decode cX12_looked 13 = .ok (.istore_n 2, 1) := by decide +kernel
theorem dX12_looked_14 : decode cX12_looked 14 = .ok (.iload_n 2, 1) := by decide +kernel
theorem dX12_looked_15 : decode cX12_looked 15 = .ok (.aload_n 0, 1) := by decide +kernel
theorem dX12_looked_16 : decode cX12_looked 16 = .ok (.getfield 112, 3) := by decide +kernel
theorem dX12_looked_19 : decode cX12_looked 19 = .ok (.if_icmp .ge 48, 3) := by decide +kernel
theorem dX12_looked_22 : decode cX12_looked 22 = .ok (.iload_n 1, 1) := by decide +kernel
theorem dX12_looked_23 : decode cX12_looked 23 = .ok (.ifCond .ge 44, 3) := by decide +kernel
theorem dX12_looked_26 : decode cX12_looked 26 = .ok (.aload_n 0, 1) := by decide +kernel
theorem dX12_looked_27 : decode cX12_looked 27 = .ok (.getfield 23, 3) := by decide +kernel
theorem dX12_looked_30 : decode cX12_looked 30 = .ok (.iload_n 2, 1) := by decide +kernel
theorem dX12_looked_31 : decode cX12_looked 31 = .ok (.iaload, 1) := by decide +kernel
theorem dX12_looked_32 : decode cX12_looked 32 = .ok (.istore_n 3, 1) := by decide +kernel
theorem dX12_looked_33 : decode cX12_looked 33 = .ok (.aload_n 0, 1) := by decide +kernel
theorem dX12_looked_34 : decode cX12_looked 34 = .ok (.iload_n 3, 1) := by decide +kernel
theorem dX12_looked_35 : decode cX12_looked 35 = .ok (.invokevirtual 255, 3) := by decide +kernel
theorem dX12_looked_38 : decode cX12_looked 38 = .ok (.ifCond .ne 23, 3) := by decide +kernel
theorem dX12_looked_41 : decode cX12_looked 41 = .ok (.aload_n 0, 1) := by decide +kernel
theorem dX12_looked_42 : decode cX12_looked 42 = .ok (.iload_n 3, 1) := by decide +kernel
theorem dX12_looked_43 : decode cX12_looked 43 = .ok (.invokevirtual 233, 3) := by decide +kernel
theorem dX12_looked_46 : decode cX12_looked 46 = .ok (.ifCond .eq 7, 3) := by decide +kernel
theorem dX12_looked_49 : decode cX12_looked 49 = .ok (.iload_n 2, 1) := by decide +kernel
theorem dX12_looked_50 : decode cX12_looked 50 = .ok (.goto 5, 3) := by decide +kernel
theorem dX12_looked_53 : decode cX12_looked 53 = .ok (.bipush (-5), 2) := by decide +kernel
theorem dX12_looked_55 : decode cX12_looked 55 = .ok (.istore_n 1, 1) := by decide +kernel
theorem dX12_looked_56 : decode cX12_looked 56 = .ok (.aload_n 0, 1) := by decide +kernel
theorem dX12_looked_57 : decode cX12_looked 57 = .ok (.iload_n 3, 1) := by decide +kernel
theorem dX12_looked_58 : decode cX12_looked 58 = .ok (.invokevirtual 258, 3) := by decide +kernel
theorem dX12_looked_61 : decode cX12_looked 61 = .ok (.iinc 2 1, 3) := by decide +kernel
theorem dX12_looked_64 : decode cX12_looked 64 = .ok (.goto (-50), 3) := by decide +kernel
theorem dX12_looked_67 : decode cX12_looked 67 = .ok (.aload_n 0, 1) := by decide +kernel
theorem dX12_looked_68 : decode cX12_looked 68 = .ok (.invokevirtual 311, 3) := by decide +kernel
theorem dX12_looked_71 : decode cX12_looked 71 = .ok (.iload_n 1, 1) := by decide +kernel
theorem dX12_looked_72 : decode cX12_looked 72 = .ok (.ireturn, 1) := by decide +kernel
theorem dX12_note_0 : decode cX12_note 0 = .ok (.aload_n 0, 1) := by decide +kernel
theorem dX12_note_1 : decode cX12_note 1 = .ok (.getfield 340, 3) := by decide +kernel
theorem dX12_note_4 : decode cX12_note 4 = .ok (.bipush 20, 2) := by decide +kernel
theorem dX12_note_6 : decode cX12_note 6 = .ok (.if_icmp .ge 13, 3) := by decide +kernel
theorem dX12_note_9 : decode cX12_note 9 = .ok (.aload_n 0, 1) := by decide +kernel
theorem dX12_note_10 : decode cX12_note 10 = .ok (.getfield 66, 3) := by decide +kernel
theorem dX12_note_13 : decode cX12_note 13 = .ok (.aload_n 0, 1) := by decide +kernel
theorem dX12_note_14 : decode cX12_note 14 = .ok (.getfield 340, 3) := by decide +kernel
theorem dX12_note_17 : decode cX12_note 17 = .ok (.iload_n 1, 1) := by decide +kernel
theorem dX12_note_18 : decode cX12_note 18 = .ok (.iastore, 1) := by decide +kernel
theorem dX12_note_19 : decode cX12_note 19 = .ok (.aload_n 0, 1) := by decide +kernel
theorem dX12_note_20 : decode cX12_note 20 = .ok (.dup, 1) := by decide +kernel
theorem dX12_note_21 : decode cX12_note 21 = .ok (.getfield 340, 3) := by decide +kernel
theorem dX12_note_24 : decode cX12_note 24 = .ok (.iconst 1, 1) := by decide +kernel
theorem dX12_note_25 : decode cX12_note 25 = .ok (.iadd, 1) := by decide +kernel
theorem dX12_note_26 : decode cX12_note 26 = .ok (.putfield 340, 3) := by decide +kernel
theorem dX12_note_29 : decode cX12_note 29 = .ok (.return_, 1) := by decide +kernel
theorem dX12_asksPlain_0 : decode cX12_asksPlain 0 = .ok (.aload_n 0, 1) := by decide +kernel
theorem dX12_asksPlain_1 : decode cX12_asksPlain 1 = .ok (.bipush 10, 2) := by decide +kernel
theorem dX12_asksPlain_3 : decode cX12_asksPlain 3 = .ok (.invokevirtual 343, 3) := by decide +kernel
theorem dX12_asksPlain_6 : decode cX12_asksPlain 6 = .ok (.iload_n 1, 1) := by decide +kernel
theorem dX12_asksPlain_7 : decode cX12_asksPlain 7 = .ok (.aload_n 0, 1) := by decide +kernel
theorem dX12_asksPlain_8 : decode cX12_asksPlain 8 = .ok (.getfield 346, 3) := by decide +kernel
theorem dX12_asksPlain_11 : decode cX12_asksPlain 11 = .ok (.iadd, 1) := by decide +kernel
theorem dX12_asksPlain_12 : decode cX12_asksPlain 12 = .ok (.ireturn, 1) := by decide +kernel
theorem dX12_asksGentle_0 : decode cX12_asksGentle 0 = .ok (.aload_n 0, 1) := by decide +kernel
theorem dX12_asksGentle_1 : decode cX12_asksGentle 1 = .ok (.bipush 30, 2) := by decide +kernel
theorem dX12_asksGentle_3 : decode cX12_asksGentle 3 = .ok (.invokevirtual 343, 3) := by decide +kernel
theorem dX12_asksGentle_6 : decode cX12_asksGentle 6 = .ok (.aload_n 0, 1) := by decide +kernel
theorem dX12_asksGentle_7 : decode cX12_asksGentle 7 = .ok (.iload_n 1, 1) := by decide +kernel
theorem dX12_asksGentle_8 : decode cX12_asksGentle 8 = .ok (.iconst 3, 1) := by decide +kernel
theorem dX12_asksGentle_9 : decode cX12_asksGentle 9 = .ok (.imul, 1) := by decide +kernel
theorem dX12_asksGentle_10 : decode cX12_asksGentle 10 = .ok (.invokevirtual 349, 3) := by decide +kernel
theorem dX12_asksGentle_13 : decode cX12_asksGentle 13 = .ok (.ireturn, 1) := by decide +kernel
theorem dX12_asksCounting_0 : decode cX12_asksCounting 0 = .ok (.aload_n 0, 1) := by decide +kernel
theorem dX12_asksCounting_1 : decode cX12_asksCounting 1 = .ok (.bipush 50, 2) := by decide +kernel
theorem dX12_asksCounting_3 : decode cX12_asksCounting 3 = .ok (.invokevirtual 343, 3) := by decide +kernel
theorem dX12_asksCounting_6 : decode cX12_asksCounting 6 = .ok (.aload_n 0, 1) := by decide +kernel
theorem dX12_asksCounting_7 : decode cX12_asksCounting 7 = .ok (.iload_n 1, 1) := by decide +kernel
theorem dX12_asksCounting_8 : decode cX12_asksCounting 8 = .ok (.invokevirtual 349, 3) := by decide +kernel
theorem dX12_asksCounting_11 : decode cX12_asksCounting 11 = .ok (.ineg, 1) := by decide +kernel
theorem dX12_asksCounting_12 : decode cX12_asksCounting 12 = .ok (.ireturn, 1) := by decide +kernel
theorem dX12_asksTold_0 : decode cX12_asksTold 0 = .ok (.aload_n 0, 1) := by decide +kernel
theorem dX12_asksTold_1 : decode cX12_asksTold 1 = .ok (.bipush 71, 2) := by decide +kernel
theorem dX12_asksTold_3 : decode cX12_asksTold 3 = .ok (.invokevirtual 343, 3) := by decide +kernel
theorem dX12_asksTold_6 : decode cX12_asksTold 6 = .ok (.aload_n 0, 1) := by decide +kernel
theorem dX12_asksTold_7 : decode cX12_asksTold 7 = .ok (.iload_n 1, 1) := by decide +kernel
theorem dX12_asksTold_8 : decode cX12_asksTold 8 = .ok (.invokevirtual 349, 3) := by decide +kernel
theorem dX12_asksTold_11 : decode cX12_asksTold 11 = .ok (.aload_n 0, 1) := by decide +kernel
theorem dX12_asksTold_12 : decode cX12_asksTold 12 = .ok (.getfield 352, 3) := by decide +kernel
theorem dX12_asksTold_15 : decode cX12_asksTold 15 = .ok (.ixor, 1) := by decide +kernel
theorem dX12_asksTold_16 : decode cX12_asksTold 16 = .ok (.ireturn, 1) := by decide +kernel
theorem dX12_asksBy_0 : decode cX12_asksBy 0 = .ok (.aload_n 0, 1) := by decide +kernel
theorem dX12_asksBy_1 : decode cX12_asksBy 1 = .ok (.getfield 355, 3) := by decide +kernel
theorem dX12_asksBy_4 : decode cX12_asksBy 4 = .ok (.tableswitch 54 2 6 #[36, 54, 42, 36, 48], 36) := by decide +kernel
theorem dX12_asksBy_40 : decode cX12_asksBy 40 = .ok (.aload_n 0, 1) := by decide +kernel
theorem dX12_asksBy_41 : decode cX12_asksBy 41 = .ok (.iload_n 1, 1) := by decide +kernel
theorem dX12_asksBy_42 : decode cX12_asksBy 42 = .ok (.invokevirtual 358, 3) := by decide +kernel
theorem dX12_asksBy_45 : decode cX12_asksBy 45 = .ok (.ireturn, 1) := by decide +kernel
theorem dX12_asksBy_46 : decode cX12_asksBy 46 = .ok (.aload_n 0, 1) := by decide +kernel
theorem dX12_asksBy_47 : decode cX12_asksBy 47 = .ok (.iload_n 1, 1) := by decide +kernel
theorem dX12_asksBy_48 : decode cX12_asksBy 48 = .ok (.invokevirtual 361, 3) := by decide +kernel
theorem dX12_asksBy_51 : decode cX12_asksBy 51 = .ok (.ireturn, 1) := by decide +kernel
theorem dX12_asksBy_52 : decode cX12_asksBy 52 = .ok (.aload_n 0, 1) := by decide +kernel
theorem dX12_asksBy_53 : decode cX12_asksBy 53 = .ok (.iload_n 1, 1) := by decide +kernel
theorem dX12_asksBy_54 : decode cX12_asksBy 54 = .ok (.invokevirtual 364, 3) := by decide +kernel
theorem dX12_asksBy_57 : decode cX12_asksBy 57 = .ok (.ireturn, 1) := by decide +kernel
theorem dX12_asksBy_58 : decode cX12_asksBy 58 = .ok (.aload_n 0, 1) := by decide +kernel
theorem dX12_asksBy_59 : decode cX12_asksBy 59 = .ok (.iload_n 1, 1) := by decide +kernel
theorem dX12_asksBy_60 : decode cX12_asksBy 60 = .ok (.invokevirtual 349, 3) := by decide +kernel
theorem dX12_asksBy_63 : decode cX12_asksBy 63 = .ok (.ireturn, 1) := by decide +kernel
theorem dX12_buysPlain_0 : decode cX12_buysPlain 0 = .ok (.aload_n 0, 1) := by decide +kernel
theorem dX12_buysPlain_1 : decode cX12_buysPlain 1 = .ok (.bipush 11, 2) := by decide +kernel
theorem dX12_buysPlain_3 : decode cX12_buysPlain 3 = .ok (.invokevirtual 343, 3) := by decide +kernel
theorem dX12_buysPlain_6 : decode cX12_buysPlain 6 = .ok (.aload_n 0, 1) := by decide +kernel
theorem dX12_buysPlain_7 : decode cX12_buysPlain 7 = .ok (.iload_n 1, 1) := by decide +kernel
theorem dX12_buysPlain_8 : decode cX12_buysPlain 8 = .ok (.invokevirtual 367, 3) := by decide +kernel
theorem dX12_buysPlain_11 : decode cX12_buysPlain 11 = .ok (.aload_n 0, 1) := by decide +kernel
theorem dX12_buysPlain_12 : decode cX12_buysPlain 12 = .ok (.getfield 352, 3) := by decide +kernel
theorem dX12_buysPlain_15 : decode cX12_buysPlain 15 = .ok (.isub, 1) := by decide +kernel
theorem dX12_buysPlain_16 : decode cX12_buysPlain 16 = .ok (.ireturn, 1) := by decide +kernel
theorem dX12_buysStrict_0 : decode cX12_buysStrict 0 = .ok (.aload_n 0, 1) := by decide +kernel
theorem dX12_buysStrict_1 : decode cX12_buysStrict 1 = .ok (.bipush 20, 2) := by decide +kernel
theorem dX12_buysStrict_3 : decode cX12_buysStrict 3 = .ok (.invokevirtual 343, 3) := by decide +kernel
theorem dX12_buysStrict_6 : decode cX12_buysStrict 6 = .ok (.aload_n 0, 1) := by decide +kernel
theorem dX12_buysStrict_7 : decode cX12_buysStrict 7 = .ok (.iload_n 1, 1) := by decide +kernel
theorem dX12_buysStrict_8 : decode cX12_buysStrict 8 = .ok (.invokevirtual 370, 3) := by decide +kernel
theorem dX12_buysStrict_11 : decode cX12_buysStrict 11 = .ok (.bipush 6, 2) := by decide +kernel
theorem dX12_buysStrict_13 : decode cX12_buysStrict 13 = .ok (.ixor, 1) := by decide +kernel
theorem dX12_buysStrict_14 : decode cX12_buysStrict 14 = .ok (.ireturn, 1) := by decide +kernel
theorem dX12_buysCounting_0 : decode cX12_buysCounting 0 = .ok (.aload_n 0, 1) := by decide +kernel
theorem dX12_buysCounting_1 : decode cX12_buysCounting 1 = .ok (.bipush 51, 2) := by decide +kernel
theorem dX12_buysCounting_3 : decode cX12_buysCounting 3 = .ok (.invokevirtual 343, 3) := by decide +kernel
theorem dX12_buysCounting_6 : decode cX12_buysCounting 6 = .ok (.aload_n 0, 1) := by decide +kernel
theorem dX12_buysCounting_7 : decode cX12_buysCounting 7 = .ok (.iload_n 1, 1) := by decide +kernel
theorem dX12_buysCounting_8 : decode cX12_buysCounting 8 = .ok (.iconst 1, 1) := by decide +kernel
theorem dX12_buysCounting_9 : decode cX12_buysCounting 9 = .ok (.iadd, 1) := by decide +kernel
theorem dX12_buysCounting_10 : decode cX12_buysCounting 10 = .ok (.invokevirtual 373, 3) := by decide +kernel
theorem dX12_buysCounting_13 : decode cX12_buysCounting 13 = .ok (.ireturn, 1) := by decide +kernel
theorem dX12_buysTold_0 : decode cX12_buysTold 0 = .ok (.aload_n 0, 1) := by decide +kernel
theorem dX12_buysTold_1 : decode cX12_buysTold 1 = .ok (.bipush 70, 2) := by decide +kernel
theorem dX12_buysTold_3 : decode cX12_buysTold 3 = .ok (.invokevirtual 343, 3) := by decide +kernel
theorem dX12_buysTold_6 : decode cX12_buysTold 6 = .ok (.aload_n 0, 1) := by decide +kernel
theorem dX12_buysTold_7 : decode cX12_buysTold 7 = .ok (.iload_n 1, 1) := by decide +kernel
theorem dX12_buysTold_8 : decode cX12_buysTold 8 = .ok (.invokevirtual 370, 3) := by decide +kernel
theorem dX12_buysTold_11 : decode cX12_buysTold 11 = .ok (.istore_n 2, 1) := by decide +kernel
theorem dX12_buysTold_12 : decode cX12_buysTold 12 = .ok (.iload_n 2, 1) := by decide +kernel
theorem dX12_buysTold_13 : decode cX12_buysTold 13 = .ok (.aload_n 0, 1) := by decide +kernel
theorem dX12_buysTold_14 : decode cX12_buysTold 14 = .ok (.iconst 2, 1) := by decide +kernel
theorem dX12_buysTold_15 : decode cX12_buysTold 15 = .ok (.invokevirtual 349, 3) := by decide +kernel
theorem dX12_buysTold_18 : decode cX12_buysTold 18 = .ok (.iadd, 1) := by decide +kernel
theorem dX12_buysTold_19 : decode cX12_buysTold 19 = .ok (.ireturn, 1) := by decide +kernel
theorem dX12_buysBy_0 : decode cX12_buysBy 0 = .ok (.aload_n 0, 1) := by decide +kernel
theorem dX12_buysBy_1 : decode cX12_buysBy 1 = .ok (.getfield 355, 3) := by decide +kernel
theorem dX12_buysBy_4 : decode cX12_buysBy 4 = .ok (.lookupswitch 54 #[(1, 36), (4, 42), (6, 48)], 36) := by decide +kernel
theorem dX12_buysBy_40 : decode cX12_buysBy 40 = .ok (.aload_n 0, 1) := by decide +kernel
theorem dX12_buysBy_41 : decode cX12_buysBy 41 = .ok (.iload_n 1, 1) := by decide +kernel
theorem dX12_buysBy_42 : decode cX12_buysBy 42 = .ok (.invokevirtual 373, 3) := by decide +kernel
theorem dX12_buysBy_45 : decode cX12_buysBy 45 = .ok (.ireturn, 1) := by decide +kernel
theorem dX12_buysBy_46 : decode cX12_buysBy 46 = .ok (.aload_n 0, 1) := by decide +kernel
theorem dX12_buysBy_47 : decode cX12_buysBy 47 = .ok (.iload_n 1, 1) := by decide +kernel
theorem dX12_buysBy_48 : decode cX12_buysBy 48 = .ok (.invokevirtual 376, 3) := by decide +kernel
theorem dX12_buysBy_51 : decode cX12_buysBy 51 = .ok (.ireturn, 1) := by decide +kernel
theorem dX12_buysBy_52 : decode cX12_buysBy 52 = .ok (.aload_n 0, 1) := by decide +kernel
theorem dX12_buysBy_53 : decode cX12_buysBy 53 = .ok (.iload_n 1, 1) := by decide +kernel
theorem dX12_buysBy_54 : decode cX12_buysBy 54 = .ok (.invokevirtual 379, 3) := by decide +kernel
theorem dX12_buysBy_57 : decode cX12_buysBy 57 = .ok (.ireturn, 1) := by decide +kernel
theorem dX12_buysBy_58 : decode cX12_buysBy 58 = .ok (.aload_n 0, 1) := by decide +kernel
theorem dX12_buysBy_59 : decode cX12_buysBy 59 = .ok (.iload_n 1, 1) := by decide +kernel
theorem dX12_buysBy_60 : decode cX12_buysBy 60 = .ok (.invokevirtual 370, 3) := by decide +kernel
theorem dX12_buysBy_63 : decode cX12_buysBy 63 = .ok (.ireturn, 1) := by decide +kernel
theorem dX12_tellsPlain_0 : decode cX12_tellsPlain 0 = .ok (.aload_n 0, 1) := by decide +kernel
theorem dX12_tellsPlain_1 : decode cX12_tellsPlain 1 = .ok (.bipush 12, 2) := by decide +kernel
theorem dX12_tellsPlain_3 : decode cX12_tellsPlain 3 = .ok (.invokevirtual 343, 3) := by decide +kernel
theorem dX12_tellsPlain_6 : decode cX12_tellsPlain 6 = .ok (.aload_n 0, 1) := by decide +kernel
theorem dX12_tellsPlain_7 : decode cX12_tellsPlain 7 = .ok (.iload_n 1, 1) := by decide +kernel
theorem dX12_tellsPlain_8 : decode cX12_tellsPlain 8 = .ok (.invokevirtual 382, 3) := by decide +kernel
theorem dX12_tellsPlain_11 : decode cX12_tellsPlain 11 = .ok (.iconst 2, 1) := by decide +kernel
theorem dX12_tellsPlain_12 : decode cX12_tellsPlain 12 = .ok (.imul, 1) := by decide +kernel
theorem dX12_tellsPlain_13 : decode cX12_tellsPlain 13 = .ok (.ireturn, 1) := by decide +kernel
theorem dX12_tellsChild_0 : decode cX12_tellsChild 0 = .ok (.aload_n 0, 1) := by decide +kernel
theorem dX12_tellsChild_1 : decode cX12_tellsChild 1 = .ok (.bipush 40, 2) := by decide +kernel
theorem dX12_tellsChild_3 : decode cX12_tellsChild 3 = .ok (.invokevirtual 343, 3) := by decide +kernel
theorem dX12_tellsChild_6 : decode cX12_tellsChild 6 = .ok (.aload_n 0, 1) := by decide +kernel
theorem dX12_tellsChild_7 : decode cX12_tellsChild 7 = .ok (.iload_n 1, 1) := by decide +kernel
theorem dX12_tellsChild_8 : decode cX12_tellsChild 8 = .ok (.invokevirtual 385, 3) := by decide +kernel
theorem dX12_tellsChild_11 : decode cX12_tellsChild 11 = .ok (.istore_n 2, 1) := by decide +kernel
theorem dX12_tellsChild_12 : decode cX12_tellsChild 12 = .ok (.iload_n 2, 1) := by decide +kernel
theorem dX12_tellsChild_13 : decode cX12_tellsChild 13 = .ok (.aload_n 0, 1) := by decide +kernel
theorem dX12_tellsChild_14 : decode cX12_tellsChild 14 = .ok (.iconst 1, 1) := by decide +kernel
theorem dX12_tellsChild_15 : decode cX12_tellsChild 15 = .ok (.invokevirtual 382, 3) := by decide +kernel
theorem dX12_tellsChild_18 : decode cX12_tellsChild 18 = .ok (.iadd, 1) := by decide +kernel
theorem dX12_tellsChild_19 : decode cX12_tellsChild 19 = .ok (.ireturn, 1) := by decide +kernel
theorem dX12_tellsLeaving_0 : decode cX12_tellsLeaving 0 = .ok (.aload_n 0, 1) := by decide +kernel
theorem dX12_tellsLeaving_1 : decode cX12_tellsLeaving 1 = .ok (.bipush 60, 2) := by decide +kernel
theorem dX12_tellsLeaving_3 : decode cX12_tellsLeaving 3 = .ok (.invokevirtual 343, 3) := by decide +kernel
theorem dX12_tellsLeaving_6 : decode cX12_tellsLeaving 6 = .ok (.aload_n 0, 1) := by decide +kernel
theorem dX12_tellsLeaving_7 : decode cX12_tellsLeaving 7 = .ok (.iload_n 1, 1) := by decide +kernel
theorem dX12_tellsLeaving_8 : decode cX12_tellsLeaving 8 = .ok (.aload_n 0, 1) := by decide +kernel
theorem dX12_tellsLeaving_9 : decode cX12_tellsLeaving 9 = .ok (.getfield 346, 3) := by decide +kernel
theorem dX12_tellsLeaving_12 : decode cX12_tellsLeaving 12 = .ok (.isub, 1) := by decide +kernel
theorem dX12_tellsLeaving_13 : decode cX12_tellsLeaving 13 = .ok (.invokevirtual 385, 3) := by decide +kernel
theorem dX12_tellsLeaving_16 : decode cX12_tellsLeaving 16 = .ok (.ireturn, 1) := by decide +kernel
theorem dX12_tellsBy_0 : decode cX12_tellsBy 0 = .ok (.aload_n 0, 1) := by decide +kernel
theorem dX12_tellsBy_1 : decode cX12_tellsBy 1 = .ok (.getfield 355, 3) := by decide +kernel
theorem dX12_tellsBy_4 : decode cX12_tellsBy 4 = .ok (.tableswitch 44 3 6 #[32, 44, 38, 32], 32) := by decide +kernel
theorem dX12_tellsBy_36 : decode cX12_tellsBy 36 = .ok (.aload_n 0, 1) := by decide +kernel
theorem dX12_tellsBy_37 : decode cX12_tellsBy 37 = .ok (.iload_n 1, 1) := by decide +kernel
theorem dX12_tellsBy_38 : decode cX12_tellsBy 38 = .ok (.invokevirtual 388, 3) := by decide +kernel
theorem dX12_tellsBy_41 : decode cX12_tellsBy 41 = .ok (.ireturn, 1) := by decide +kernel
theorem dX12_tellsBy_42 : decode cX12_tellsBy 42 = .ok (.aload_n 0, 1) := by decide +kernel
theorem dX12_tellsBy_43 : decode cX12_tellsBy 43 = .ok (.iload_n 1, 1) := by decide +kernel
theorem dX12_tellsBy_44 : decode cX12_tellsBy 44 = .ok (.invokevirtual 391, 3) := by decide +kernel
theorem dX12_tellsBy_47 : decode cX12_tellsBy 47 = .ok (.ireturn, 1) := by decide +kernel
theorem dX12_tellsBy_48 : decode cX12_tellsBy 48 = .ok (.aload_n 0, 1) := by decide +kernel
theorem dX12_tellsBy_49 : decode cX12_tellsBy 49 = .ok (.iload_n 1, 1) := by decide +kernel
theorem dX12_tellsBy_50 : decode cX12_tellsBy 50 = .ok (.invokevirtual 385, 3) := by decide +kernel
theorem dX12_tellsBy_53 : decode cX12_tellsBy 53 = .ok (.ireturn, 1) := by decide +kernel
theorem dX12_act_0 : decode cX12_act 0 = .ok (.aload_n 0, 1) := by decide +kernel
theorem dX12_act_1 : decode cX12_act 1 = .ok (.iconst 0, 1) := by decide +kernel
theorem dX12_act_2 : decode cX12_act 2 = .ok (.putfield 85, 3) := by decide +kernel
theorem dX12_act_5 : decode cX12_act 5 = .ok (.aload_n 0, 1) := by decide +kernel
theorem dX12_act_6 : decode cX12_act 6 = .ok (.iconst 0, 1) := by decide +kernel
theorem dX12_act_7 : decode cX12_act 7 = .ok (.putfield 340, 3) := by decide +kernel
theorem dX12_act_10 : decode cX12_act 10 = .ok (.aload_n 0, 1) := by decide +kernel
theorem dX12_act_11 : decode cX12_act 11 = .ok (.iload_n 1, 1) := by decide +kernel
theorem dX12_act_12 : decode cX12_act 12 = .ok (.invokevirtual 281, 3) := by decide +kernel
theorem dX12_act_15 : decode cX12_act 15 = .ok (.ifCond .eq 15, 3) := by decide +kernel
theorem dX12_act_18 : decode cX12_act 18 = .ok (.iload_n 2, 1) := by decide +kernel
theorem dX12_act_19 : decode cX12_act 19 = .ok (.i2l, 1) := by decide +kernel
theorem dX12_act_20 : decode cX12_act 20 = .ok (.lconst 0, 1) := by decide +kernel
theorem dX12_act_21 : decode cX12_act 21 = .ok (.ldc2_w 394, 3) := by decide +kernel
theorem dX12_act_24 : decode cX12_act 24 = .ok (.invokestatic 91, 3) := by decide +kernel
theorem dX12_act_27 : decode cX12_act 27 = .ok (.ifCond .ne 5, 3) := by decide +kernel
theorem dX12_act_30 : decode cX12_act 30 = .ok (.iconst 0, 1) := by decide +kernel
theorem dX12_act_31 : decode cX12_act 31 = .ok (.ireturn, 1) := by decide +kernel
theorem dX12_act_32 : decode cX12_act 32 = .ok (.aload_n 0, 1) := by decide +kernel
theorem dX12_act_33 : decode cX12_act 33 = .ok (.aload_n 0, 1) := by decide +kernel
theorem dX12_act_34 : decode cX12_act 34 = .ok (.iload_n 1, 1) := by decide +kernel
theorem dX12_act_35 : decode cX12_act 35 = .ok (.iconst 0, 1) := by decide +kernel
theorem dX12_act_36 : decode cX12_act 36 = .ok (.invokevirtual 203, 3) := by decide +kernel
theorem dX12_act_39 : decode cX12_act 39 = .ok (.putfield 355, 3) := by decide +kernel
theorem dX12_act_42 : decode cX12_act 42 = .ok (.aload_n 0, 1) := by decide +kernel
theorem dX12_act_43 : decode cX12_act 43 = .ok (.aload_n 0, 1) := by decide +kernel
theorem dX12_act_44 : decode cX12_act 44 = .ok (.iload_n 1, 1) := by decide +kernel
theorem dX12_act_45 : decode cX12_act 45 = .ok (.iconst 1, 1) := by decide +kernel
theorem dX12_act_46 : decode cX12_act 46 = .ok (.invokevirtual 203, 3) := by decide +kernel
theorem dX12_act_49 : decode cX12_act 49 = .ok (.putfield 352, 3) := by decide +kernel
theorem dX12_act_52 : decode cX12_act 52 = .ok (.aload_n 0, 1) := by decide +kernel
theorem dX12_act_53 : decode cX12_act 53 = .ok (.iload_n 1, 1) := by decide +kernel
theorem dX12_act_54 : decode cX12_act 54 = .ok (.putfield 346, 3) := by decide +kernel
theorem dX12_act_57 : decode cX12_act 57 = .ok (.iload_n 2, 1) := by decide +kernel
theorem dX12_act_58 : decode cX12_act 58 = .ok (.ifCond .ne 11, 3) := by decide +kernel
theorem dX12_act_61 : decode cX12_act 61 = .ok (.aload_n 0, 1) := by decide +kernel
theorem dX12_act_62 : decode cX12_act 62 = .ok (.iload_n 3, 1) := by decide +kernel
theorem dX12_act_63 : decode cX12_act 63 = .ok (.invokevirtual 367, 3) := by decide +kernel
theorem dX12_act_66 : decode cX12_act 66 = .ok (.goto 21, 3) := by decide +kernel
theorem dX12_act_69 : decode cX12_act 69 = .ok (.iload_n 2, 1) := by decide +kernel
theorem dX12_act_70 : decode cX12_act 70 = .ok (.iconst 1, 1) := by decide +kernel
theorem dX12_act_71 : decode cX12_act 71 = .ok (.if_icmp .ne 11, 3) := by decide +kernel
theorem dX12_act_74 : decode cX12_act 74 = .ok (.aload_n 0, 1) := by decide +kernel
theorem dX12_act_75 : decode cX12_act 75 = .ok (.iload_n 3, 1) := by decide +kernel
theorem dX12_act_76 : decode cX12_act 76 = .ok (.invokevirtual 382, 3) := by decide +kernel
theorem dX12_act_79 : decode cX12_act 79 = .ok (.goto 8, 3) := by decide +kernel
theorem dX12_act_82 : decode cX12_act 82 = .ok (.aload_n 0, 1) := by decide +kernel
theorem dX12_act_83 : decode cX12_act 83 = .ok (.iload_n 3, 1) := by decide +kernel
theorem dX12_act_84 : decode cX12_act 84 = .ok (.invokevirtual 396, 3) := by decide +kernel
theorem dX12_act_87 : decode cX12_act 87 = .ok (.ireturn, 1) := by decide +kernel
theorem dX12_trace_0 : decode cX12_trace 0 = .ok (.aload_n 0, 1) := by decide +kernel
theorem dX12_trace_1 : decode cX12_trace 1 = .ok (.iconst 0, 1) := by decide +kernel
theorem dX12_trace_2 : decode cX12_trace 2 = .ok (.putfield 85, 3) := by decide +kernel
theorem dX12_trace_5 : decode cX12_trace 5 = .ok (.aload_n 0, 1) := by decide +kernel
theorem dX12_trace_6 : decode cX12_trace 6 = .ok (.getfield 340, 3) := by decide +kernel
theorem dX12_trace_9 : decode cX12_trace 9 = .ok (.bipush 20, 2) := by decide +kernel
theorem dX12_trace_11 : decode cX12_trace 11 = .ok (.if_icmp .ge 10, 3) := by decide +kernel
theorem dX12_trace_14 : decode cX12_trace 14 = .ok (.aload_n 0, 1) := by decide +kernel
theorem dX12_trace_15 : decode cX12_trace 15 = .ok (.getfield 340, 3) := by decide +kernel
theorem dX12_trace_18 : decode cX12_trace 18 = .ok (.goto 5, 3) := by decide +kernel
theorem dX12_trace_21 : decode cX12_trace 21 = .ok (.bipush 20, 2) := by decide +kernel
theorem dX12_trace_23 : decode cX12_trace 23 = .ok (.istore_n 2, 1) := by decide +kernel
theorem dX12_trace_24 : decode cX12_trace 24 = .ok (.iload_n 1, 1) := by decide +kernel
theorem dX12_trace_25 : decode cX12_trace 25 = .ok (.i2l, 1) := by decide +kernel
theorem dX12_trace_26 : decode cX12_trace 26 = .ok (.lconst 0, 1) := by decide +kernel
theorem dX12_trace_27 : decode cX12_trace 27 = .ok (.iload_n 2, 1) := by decide +kernel
theorem dX12_trace_28 : decode cX12_trace 28 = .ok (.iconst 1, 1) := by decide +kernel
theorem dX12_trace_29 : decode cX12_trace 29 = .ok (.isub, 1) := by decide +kernel
theorem dX12_trace_30 : decode cX12_trace 30 = .ok (.i2l, 1) := by decide +kernel
theorem dX12_trace_31 : decode cX12_trace 31 = .ok (.invokestatic 91, 3) := by decide +kernel
theorem dX12_trace_34 : decode cX12_trace 34 = .ok (.ifCond .eq 12, 3) := by decide +kernel
theorem dX12_trace_37 : decode cX12_trace 37 = .ok (.aload_n 0, 1) := by decide +kernel
theorem dX12_trace_38 : decode cX12_trace 38 = .ok (.getfield 66, 3) := by decide +kernel
theorem dX12_trace_41 : decode cX12_trace 41 = .ok (.iload_n 1, 1) := by decide +kernel
theorem dX12_trace_42 : decode cX12_trace 42 = .ok (.iaload, 1) := by decide +kernel
theorem dX12_trace_43 : decode cX12_trace 43 = .ok (.goto 4, 3) := by decide +kernel
theorem dX12_trace_46 : decode cX12_trace 46 = .ok (.iconst (-1), 1) := by decide +kernel
theorem dX12_trace_47 : decode cX12_trace 47 = .ok (.ireturn, 1) := by decide +kernel
theorem dX12_above_0 : decode cX12_above 0 = .ok (.iload_n 0, 1) := by decide +kernel
theorem dX12_above_1 : decode cX12_above 1 = .ok (.ifCond .ne 7, 3) := by decide +kernel
theorem dX12_above_4 : decode cX12_above 4 = .ok (.iconst (-1), 1) := by decide +kernel
theorem dX12_above_5 : decode cX12_above 5 = .ok (.goto 15, 3) := by decide +kernel
theorem dX12_above_8 : decode cX12_above 8 = .ok (.iload_n 0, 1) := by decide +kernel
theorem dX12_above_9 : decode cX12_above 9 = .ok (.iconst 4, 1) := by decide +kernel
theorem dX12_above_10 : decode cX12_above 10 = .ok (.if_icmp .ge 7, 3) := by decide +kernel
theorem dX12_above_13 : decode cX12_above 13 = .ok (.iconst 0, 1) := by decide +kernel
theorem dX12_above_14 : decode cX12_above 14 = .ok (.goto 6, 3) := by decide +kernel
theorem dX12_above_17 : decode cX12_above 17 = .ok (.iload_n 0, 1) := by decide +kernel
theorem dX12_above_18 : decode cX12_above 18 = .ok (.iconst 3, 1) := by decide +kernel
theorem dX12_above_19 : decode cX12_above 19 = .ok (.isub, 1) := by decide +kernel
theorem dX12_above_20 : decode cX12_above 20 = .ok (.ireturn, 1) := by decide +kernel
theorem dX12_taken_0 : decode cX12_taken 0 = .ok (.aload_n 0, 1) := by decide +kernel
theorem dX12_taken_1 : decode cX12_taken 1 = .ok (.iconst 0, 1) := by decide +kernel
theorem dX12_taken_2 : decode cX12_taken 2 = .ok (.putfield 85, 3) := by decide +kernel
theorem dX12_taken_5 : decode cX12_taken 5 = .ok (.iload_n 2, 1) := by decide +kernel
theorem dX12_taken_6 : decode cX12_taken 6 = .ok (.i2l, 1) := by decide +kernel
theorem dX12_taken_7 : decode cX12_taken 7 = .ok (.lconst 0, 1) := by decide +kernel
theorem dX12_taken_8 : decode cX12_taken 8 = .ok (.ldc2_w 273, 3) := by decide +kernel
theorem dX12_taken_11 : decode cX12_taken 11 = .ok (.invokestatic 91, 3) := by decide +kernel
theorem dX12_taken_14 : decode cX12_taken 14 = .ok (.ifCond .ne 6, 3) := by decide +kernel
theorem dX12_taken_17 : decode cX12_taken 17 = .ok (.bipush (-2), 2) := by decide +kernel
theorem dX12_taken_19 : decode cX12_taken 19 = .ok (.ireturn, 1) := by decide +kernel
theorem dX12_taken_20 : decode cX12_taken 20 = .ok (.aload_n 0, 1) := by decide +kernel
theorem dX12_taken_21 : decode cX12_taken 21 = .ok (.iload_n 1, 1) := by decide +kernel
theorem dX12_taken_22 : decode cX12_taken 22 = .ok (.invokevirtual 281, 3) := by decide +kernel
theorem dX12_taken_25 : decode cX12_taken 25 = .ok (.ifCond .ne 6, 3) := by decide +kernel
theorem dX12_taken_28 : decode cX12_taken 28 = .ok (.bipush (-11), 2) := by decide +kernel
theorem dX12_taken_30 : decode cX12_taken 30 = .ok (.ireturn, 1) := by decide +kernel
theorem dX12_taken_31 : decode cX12_taken 31 = .ok (.aload_n 0, 1) := by decide +kernel
theorem dX12_taken_32 : decode cX12_taken 32 = .ok (.iload_n 1, 1) := by decide +kernel
theorem dX12_taken_33 : decode cX12_taken 33 = .ok (.iconst 0, 1) := by decide +kernel
theorem dX12_taken_34 : decode cX12_taken 34 = .ok (.invokevirtual 203, 3) := by decide +kernel
theorem dX12_taken_37 : decode cX12_taken 37 = .ok (.istore_n 3, 1) := by decide +kernel
theorem dX12_taken_38 : decode cX12_taken 38 = .ok (.iload_n 3, 1) := by decide +kernel
theorem dX12_taken_39 : decode cX12_taken 39 = .ok (.iload_n 2, 1) := by decide +kernel
theorem dX12_taken_40 : decode cX12_taken 40 = .ok (.if_icmp .eq 29, 3) := by decide +kernel
theorem dX12_taken_43 : decode cX12_taken 43 = .ok (.iload_n 3, 1) := by decide +kernel
theorem dX12_taken_44 : decode cX12_taken 44 = .ok (.invokestatic 399, 3) := by decide +kernel
theorem dX12_taken_47 : decode cX12_taken 47 = .ok (.iload_n 2, 1) := by decide +kernel
theorem dX12_taken_48 : decode cX12_taken 48 = .ok (.if_icmp .eq 21, 3) := by decide +kernel
theorem dX12_taken_51 : decode cX12_taken 51 = .ok (.iload_n 3, 1) := by decide +kernel
theorem dX12_taken_52 : decode cX12_taken 52 = .ok (.invokestatic 399, 3) := by decide +kernel
theorem dX12_taken_55 : decode cX12_taken 55 = .ok (.ifCond .le 18, 3) := by decide +kernel
theorem dX12_taken_58 : decode cX12_taken 58 = .ok (.iload_n 3, 1) := by decide +kernel
theorem dX12_taken_59 : decode cX12_taken 59 = .ok (.invokestatic 399, 3) := by decide +kernel
theorem dX12_taken_62 : decode cX12_taken 62 = .ok (.invokestatic 399, 3) := by decide +kernel
theorem dX12_taken_65 : decode cX12_taken 65 = .ok (.iload_n 2, 1) := by decide +kernel
theorem dX12_taken_66 : decode cX12_taken 66 = .ok (.if_icmp .ne 7, 3) := by decide +kernel
theorem dX12_taken_69 : decode cX12_taken 69 = .ok (.iconst 1, 1) := by decide +kernel
theorem dX12_taken_70 : decode cX12_taken 70 = .ok (.goto 4, 3) := by decide +kernel
theorem dX12_taken_73 : decode cX12_taken 73 = .ok (.iconst 0, 1) := by decide +kernel
theorem dX12_taken_74 : decode cX12_taken 74 = .ok (.istore 4, 2) := by decide +kernel
theorem dX12_taken_76 : decode cX12_taken 76 = .ok (.iload 4, 2) := by decide +kernel
theorem dX12_taken_78 : decode cX12_taken 78 = .ok (.ifCond .eq 7, 3) := by decide +kernel
theorem dX12_taken_81 : decode cX12_taken 81 = .ok (.iload_n 3, 1) := by decide +kernel
theorem dX12_taken_82 : decode cX12_taken 82 = .ok (.goto 5, 3) := by decide +kernel
theorem dX12_taken_85 : decode cX12_taken 85 = .ok (.bipush (-12), 2) := by decide +kernel
theorem dX12_taken_87 : decode cX12_taken 87 = .ok (.ireturn, 1) := by decide +kernel
theorem dX12_count_0 : decode cX12_count 0 = .ok (.aload_n 0, 1) := by decide +kernel
theorem dX12_count_1 : decode cX12_count 1 = .ok (.iconst 0, 1) := by decide +kernel
theorem dX12_count_2 : decode cX12_count 2 = .ok (.putfield 85, 3) := by decide +kernel
theorem dX12_count_5 : decode cX12_count 5 = .ok (.iload_n 1, 1) := by decide +kernel
theorem dX12_count_6 : decode cX12_count 6 = .ok (.tableswitch 68 0 5 #[38, 43, 48, 53, 58, 63], 38) := by decide +kernel
theorem dX12_count_44 : decode cX12_count 44 = .ok (.aload_n 0, 1) := by decide +kernel
theorem dX12_count_45 : decode cX12_count 45 = .ok (.getfield 88, 3) := by decide +kernel
theorem dX12_count_48 : decode cX12_count 48 = .ok (.ireturn, 1) := by decide +kernel
theorem dX12_count_49 : decode cX12_count 49 = .ok (.aload_n 0, 1) := by decide +kernel
theorem dX12_count_50 : decode cX12_count 50 = .ok (.getfield 197, 3) := by decide +kernel
theorem dX12_count_53 : decode cX12_count 53 = .ok (.ireturn, 1) := by decide +kernel
theorem dX12_count_54 : decode cX12_count 54 = .ok (.aload_n 0, 1) := by decide +kernel
theorem dX12_count_55 : decode cX12_count 55 = .ok (.getfield 109, 3) := by decide +kernel
theorem dX12_count_58 : decode cX12_count 58 = .ok (.ireturn, 1) := by decide +kernel
theorem dX12_count_59 : decode cX12_count 59 = .ok (.aload_n 0, 1) := by decide +kernel
theorem dX12_count_60 : decode cX12_count 60 = .ok (.getfield 112, 3) := by decide +kernel
theorem dX12_count_63 : decode cX12_count 63 = .ok (.ireturn, 1) := by decide +kernel
theorem dX12_count_64 : decode cX12_count 64 = .ok (.aload_n 0, 1) := by decide +kernel
theorem dX12_count_65 : decode cX12_count 65 = .ok (.getfield 127, 3) := by decide +kernel
theorem dX12_count_68 : decode cX12_count 68 = .ok (.ireturn, 1) := by decide +kernel
theorem dX12_count_69 : decode cX12_count 69 = .ok (.aload_n 0, 1) := by decide +kernel
theorem dX12_count_70 : decode cX12_count 70 = .ok (.getfield 340, 3) := by decide +kernel
theorem dX12_count_73 : decode cX12_count 73 = .ok (.ireturn, 1) := by decide +kernel
theorem dX12_count_74 : decode cX12_count 74 = .ok (.bipush (-2), 2) := by decide +kernel
theorem dX12_count_76 : decode cX12_count 76 = .ok (.ireturn, 1) := by decide +kernel
theorem dX12_isTape_0 : decode cX12_isTape 0 = .ok (.iload_n 1, 1) := by decide +kernel
theorem dX12_isTape_1 : decode cX12_isTape 1 = .ok (.i2l, 1) := by decide +kernel
theorem dX12_isTape_2 : decode cX12_isTape 2 = .ok (.lconst 0, 1) := by decide +kernel
theorem dX12_isTape_3 : decode cX12_isTape 3 = .ok (.ldc2_w 402, 3) := by decide +kernel
theorem dX12_isTape_6 : decode cX12_isTape 6 = .ok (.invokestatic 91, 3) := by decide +kernel
theorem dX12_isTape_9 : decode cX12_isTape 9 = .ok (.ireturn, 1) := by decide +kernel
theorem dX12_tape_0 : decode cX12_tape 0 = .ok (.aload_n 0, 1) := by decide +kernel
theorem dX12_tape_1 : decode cX12_tape 1 = .ok (.iconst 0, 1) := by decide +kernel
theorem dX12_tape_2 : decode cX12_tape 2 = .ok (.putfield 85, 3) := by decide +kernel
theorem dX12_tape_5 : decode cX12_tape 5 = .ok (.aload_n 0, 1) := by decide +kernel
theorem dX12_tape_6 : decode cX12_tape 6 = .ok (.iload_n 1, 1) := by decide +kernel
theorem dX12_tape_7 : decode cX12_tape 7 = .ok (.invokevirtual 404, 3) := by decide +kernel
theorem dX12_tape_10 : decode cX12_tape 10 = .ok (.ifCond .ne 5, 3) := by decide +kernel
theorem dX12_tape_13 : decode cX12_tape 13 = .ok (.iconst (-1), 1) := by decide +kernel
theorem dX12_tape_14 : decode cX12_tape 14 = .ok (.ireturn, 1) := by decide +kernel
theorem dX12_tape_15 : decode cX12_tape 15 = .ok (.iload_n 2, 1) := by decide +kernel
theorem dX12_tape_16 : decode cX12_tape 16 = .ok (.i2l, 1) := by decide +kernel
theorem dX12_tape_17 : decode cX12_tape 17 = .ok (.ldc2_w 407, 3) := by decide +kernel
theorem dX12_tape_20 : decode cX12_tape 20 = .ok (.ldc2_w 301, 3) := by decide +kernel
theorem dX12_tape_23 : decode cX12_tape 23 = .ok (.invokestatic 91, 3) := by decide +kernel
theorem dX12_tape_26 : decode cX12_tape 26 = .ok (.ifCond .eq 13, 3) := by decide +kernel
theorem dX12_tape_29 : decode cX12_tape 29 = .ok (.iload_n 2, 1) := by decide +kernel
theorem dX12_tape_30 : decode cX12_tape 30 = .ok (.ifCond .lt 12, 3) := by decide +kernel
theorem dX12_tape_33 : decode cX12_tape 33 = .ok (.iload_n 3, 1) := by decide +kernel
theorem dX12_tape_34 : decode cX12_tape 34 = .ok (.bipush 60, 2) := by decide +kernel
theorem dX12_tape_36 : decode cX12_tape 36 = .ok (.if_icmp .le 6, 3) := by decide +kernel
theorem dX12_tape_39 : decode cX12_tape 39 = .ok (.bipush (-2), 2) := by decide +kernel
theorem dX12_tape_41 : decode cX12_tape 41 = .ok (.ireturn, 1) := by decide +kernel
theorem dX12_tape_42 : decode cX12_tape 42 = .ok (.iload_n 2, 1) := by decide +kernel
theorem dX12_tape_43 : decode cX12_tape 43 = .ok (.ifCond .lt 10, 3) := by decide +kernel
theorem dX12_tape_46 : decode cX12_tape 46 = .ok (.iload_n 3, 1) := by decide +kernel
theorem dX12_tape_47 : decode cX12_tape 47 = .ok (.ifCond .ge 6, 3) := by decide +kernel
theorem dX12_tape_50 : decode cX12_tape 50 = .ok (.bipush (-14), 2) := by decide +kernel
theorem dX12_tape_52 : decode cX12_tape 52 = .ok (.ireturn, 1) := by decide +kernel
theorem dX12_tape_53 : decode cX12_tape 53 = .ok (.aload_n 0, 1) := by decide +kernel
theorem dX12_tape_54 : decode cX12_tape 54 = .ok (.getfield 82, 3) := by decide +kernel
theorem dX12_tape_57 : decode cX12_tape 57 = .ok (.iload_n 1, 1) := by decide +kernel
theorem dX12_tape_58 : decode cX12_tape 58 = .ok (.iload_n 2, 1) := by decide +kernel
theorem dX12_tape_59 : decode cX12_tape 59 = .ok (.ifCond .lt 7, 3) := by decide +kernel
theorem dX12_tape_62 : decode cX12_tape 62 = .ok (.iconst 1, 1) := by decide +kernel
theorem dX12_tape_63 : decode cX12_tape 63 = .ok (.goto 4, 3) := by decide +kernel
theorem dX12_tape_66 : decode cX12_tape 66 = .ok (.iconst 0, 1) := by decide +kernel
theorem dX12_tape_67 : decode cX12_tape 67 = .ok (.bastore, 1) := by decide +kernel
theorem dX12_tape_68 : decode cX12_tape 68 = .ok (.aload_n 0, 1) := by decide +kernel
theorem dX12_tape_69 : decode cX12_tape 69 = .ok (.getfield 69, 3) := by decide +kernel
theorem dX12_tape_72 : decode cX12_tape 72 = .ok (.iload_n 1, 1) := by decide +kernel
theorem dX12_tape_73 : decode cX12_tape 73 = .ok (.iload_n 2, 1) := by decide +kernel
theorem dX12_tape_74 : decode cX12_tape 74 = .ok (.iastore, 1) := by decide +kernel
theorem dX12_tape_75 : decode cX12_tape 75 = .ok (.aload_n 0, 1) := by decide +kernel
theorem dX12_tape_76 : decode cX12_tape 76 = .ok (.getfield 72, 3) := by decide +kernel
theorem dX12_tape_79 : decode cX12_tape 79 = .ok (.iload_n 1, 1) := by decide +kernel
theorem dX12_tape_80 : decode cX12_tape 80 = .ok (.iload_n 2, 1) := by decide +kernel
theorem dX12_tape_81 : decode cX12_tape 81 = .ok (.ifCond .ge 7, 3) := by decide +kernel
theorem dX12_tape_84 : decode cX12_tape 84 = .ok (.iconst 0, 1) := by decide +kernel
theorem dX12_tape_85 : decode cX12_tape 85 = .ok (.goto 4, 3) := by decide +kernel
theorem dX12_tape_88 : decode cX12_tape 88 = .ok (.iload_n 3, 1) := by decide +kernel
theorem dX12_tape_89 : decode cX12_tape 89 = .ok (.iastore, 1) := by decide +kernel
theorem dX12_tape_90 : decode cX12_tape 90 = .ok (.iconst 0, 1) := by decide +kernel
theorem dX12_tape_91 : decode cX12_tape 91 = .ok (.istore 4, 2) := by decide +kernel
theorem dX12_tape_93 : decode cX12_tape 93 = .ok (.iload 4, 2) := by decide +kernel
theorem dX12_tape_95 : decode cX12_tape 95 = .ok (.bipush 60, 2) := by decide +kernel
theorem dX12_tape_97 : decode cX12_tape 97 = .ok (.if_icmp .ge 22, 3) := by decide +kernel
theorem dX12_tape_100 : decode cX12_tape 100 = .ok (.aload_n 0, 1) := by decide +kernel
theorem dX12_tape_101 : decode cX12_tape 101 = .ok (.getfield 75, 3) := by decide +kernel
theorem dX12_tape_104 : decode cX12_tape 104 = .ok (.bipush 60, 2) := by decide +kernel
theorem dX12_tape_106 : decode cX12_tape 106 = .ok (.iload_n 1, 1) := by decide +kernel
theorem dX12_tape_107 : decode cX12_tape 107 = .ok (.imul, 1) := by decide +kernel
theorem dX12_tape_108 : decode cX12_tape 108 = .ok (.iload 4, 2) := by decide +kernel
theorem dX12_tape_110 : decode cX12_tape 110 = .ok (.iadd, 1) := by decide +kernel
theorem dX12_tape_111 : decode cX12_tape 111 = .ok (.lconst 0, 1) := by decide +kernel
theorem dX12_tape_112 : decode cX12_tape 112 = .ok (.lastore, 1) := by decide +kernel
theorem dX12_tape_113 : decode cX12_tape 113 = .ok (.iinc 4 1, 3) := by decide +kernel
theorem dX12_tape_116 : decode cX12_tape 116 = .ok (.goto (-23), 3) := by decide +kernel
theorem dX12_tape_119 : decode cX12_tape 119 = .ok (.iconst 1, 1) := by decide +kernel
theorem dX12_tape_120 : decode cX12_tape 120 = .ok (.ireturn, 1) := by decide +kernel
theorem dX12_narrowed_0 : decode cX12_narrowed 0 = .ok (.iload_n 2, 1) := by decide +kernel
theorem dX12_narrowed_1 : decode cX12_narrowed 1 = .ok (.tableswitch 47 0 3 #[31, 36, 41, 45], 31) := by decide +kernel
theorem dX12_narrowed_32 : decode cX12_narrowed 32 = .ok (.lload_n 0, 1) := by decide +kernel
theorem dX12_narrowed_33 : decode cX12_narrowed 33 = .ok (.l2i, 1) := by decide +kernel
theorem dX12_narrowed_34 : decode cX12_narrowed 34 = .ok (.i2b, 1) := by decide +kernel
theorem dX12_narrowed_35 : decode cX12_narrowed 35 = .ok (.i2l, 1) := by decide +kernel
theorem dX12_narrowed_36 : decode cX12_narrowed 36 = .ok (.lreturn, 1) := by decide +kernel
theorem dX12_narrowed_37 : decode cX12_narrowed 37 = .ok (.lload_n 0, 1) := by decide +kernel
theorem dX12_narrowed_38 : decode cX12_narrowed 38 = .ok (.l2i, 1) := by decide +kernel
theorem dX12_narrowed_39 : decode cX12_narrowed 39 = .ok (.i2s, 1) := by decide +kernel
theorem dX12_narrowed_40 : decode cX12_narrowed 40 = .ok (.i2l, 1) := by decide +kernel
theorem dX12_narrowed_41 : decode cX12_narrowed 41 = .ok (.lreturn, 1) := by decide +kernel
theorem dX12_narrowed_42 : decode cX12_narrowed 42 = .ok (.lload_n 0, 1) := by decide +kernel
theorem dX12_narrowed_43 : decode cX12_narrowed 43 = .ok (.l2i, 1) := by decide +kernel
theorem dX12_narrowed_44 : decode cX12_narrowed 44 = .ok (.i2l, 1) := by decide +kernel
theorem dX12_narrowed_45 : decode cX12_narrowed 45 = .ok (.lreturn, 1) := by decide +kernel
theorem dX12_narrowed_46 : decode cX12_narrowed 46 = .ok (.lload_n 0, 1) := by decide +kernel
theorem dX12_narrowed_47 : decode cX12_narrowed 47 = .ok (.lreturn, 1) := by decide +kernel
theorem dX12_narrowed_48 : decode cX12_narrowed 48 = .ok (.lload_n 0, 1) := by decide +kernel
theorem dX12_narrowed_49 : decode cX12_narrowed 49 = .ok (.lconst 0, 1) := by decide +kernel
theorem dX12_narrowed_50 : decode cX12_narrowed 50 = .ok (.lcmp, 1) := by decide +kernel
theorem dX12_narrowed_51 : decode cX12_narrowed 51 = .ok (.ifCond .ne 7, 3) := by decide +kernel
theorem dX12_narrowed_54 : decode cX12_narrowed 54 = .ok (.lconst 0, 1) := by decide +kernel
theorem dX12_narrowed_55 : decode cX12_narrowed 55 = .ok (.goto 4, 3) := by decide +kernel
theorem dX12_narrowed_58 : decode cX12_narrowed 58 = .ok (.lconst 1, 1) := by decide +kernel
theorem dX12_narrowed_59 : decode cX12_narrowed 59 = .ok (.lreturn, 1) := by decide +kernel
theorem dX12_item_0 : decode cX12_item 0 = .ok (.aload_n 0, 1) := by decide +kernel
theorem dX12_item_1 : decode cX12_item 1 = .ok (.iconst 0, 1) := by decide +kernel
theorem dX12_item_2 : decode cX12_item 2 = .ok (.putfield 85, 3) := by decide +kernel
theorem dX12_item_5 : decode cX12_item 5 = .ok (.aload_n 0, 1) := by decide +kernel
theorem dX12_item_6 : decode cX12_item 6 = .ok (.iload_n 1, 1) := by decide +kernel
theorem dX12_item_7 : decode cX12_item 7 = .ok (.invokevirtual 404, 3) := by decide +kernel
theorem dX12_item_10 : decode cX12_item 10 = .ok (.ifCond .ne 5, 3) := by decide +kernel
theorem dX12_item_13 : decode cX12_item 13 = .ok (.iconst (-1), 1) := by decide +kernel
theorem dX12_item_14 : decode cX12_item 14 = .ok (.ireturn, 1) := by decide +kernel
theorem dX12_item_15 : decode cX12_item 15 = .ok (.aload_n 0, 1) := by decide +kernel
theorem dX12_item_16 : decode cX12_item 16 = .ok (.getfield 82, 3) := by decide +kernel
theorem dX12_item_19 : decode cX12_item 19 = .ok (.iload_n 1, 1) := by decide +kernel
theorem dX12_item_20 : decode cX12_item 20 = .ok (.baload, 1) := by decide +kernel
theorem dX12_item_21 : decode cX12_item 21 = .ok (.ifCond .ne 6, 3) := by decide +kernel
theorem dX12_item_24 : decode cX12_item 24 = .ok (.bipush (-11), 2) := by decide +kernel
theorem dX12_item_26 : decode cX12_item 26 = .ok (.ireturn, 1) := by decide +kernel
theorem dX12_item_27 : decode cX12_item 27 = .ok (.iload_n 2, 1) := by decide +kernel
theorem dX12_item_28 : decode cX12_item 28 = .ok (.i2l, 1) := by decide +kernel
theorem dX12_item_29 : decode cX12_item 29 = .ok (.lconst 0, 1) := by decide +kernel
theorem dX12_item_30 : decode cX12_item 30 = .ok (.aload_n 0, 1) := by decide +kernel
theorem dX12_item_31 : decode cX12_item 31 = .ok (.getfield 72, 3) := by decide +kernel
theorem dX12_item_34 : decode cX12_item 34 = .ok (.iload_n 1, 1) := by decide +kernel
theorem dX12_item_35 : decode cX12_item 35 = .ok (.iaload, 1) := by decide +kernel
theorem dX12_item_36 : decode cX12_item 36 = .ok (.iconst 1, 1) := by decide +kernel
theorem dX12_item_37 : decode cX12_item 37 = .ok (.isub, 1) := by decide +kernel
theorem dX12_item_38 : decode cX12_item 38 = .ok (.i2l, 1) := by decide +kernel
theorem dX12_item_39 : decode cX12_item 39 = .ok (.invokestatic 91, 3) := by decide +kernel
theorem dX12_item_42 : decode cX12_item 42 = .ok (.ifCond .ne 6, 3) := by decide +kernel
theorem dX12_item_45 : decode cX12_item 45 = .ok (.bipush (-13), 2) := by decide +kernel
theorem dX12_item_47 : decode cX12_item 47 = .ok (.ireturn, 1) := by decide +kernel
theorem dX12_item_48 : decode cX12_item 48 = .ok (.aload_n 0, 1) := by decide +kernel
theorem dX12_item_49 : decode cX12_item 49 = .ok (.getfield 75, 3) := by decide +kernel
theorem dX12_item_52 : decode cX12_item 52 = .ok (.bipush 60, 2) := by decide +kernel
theorem dX12_item_54 : decode cX12_item 54 = .ok (.iload_n 1, 1) := by decide +kernel
theorem dX12_item_55 : decode cX12_item 55 = .ok (.imul, 1) := by decide +kernel
theorem dX12_item_56 : decode cX12_item 56 = .ok (.iload_n 2, 1) := by decide +kernel
theorem dX12_item_57 : decode cX12_item 57 = .ok (.iadd, 1) := by decide +kernel
theorem dX12_item_58 : decode cX12_item 58 = .ok (.lload_n 3, 1) := by decide +kernel
theorem dX12_item_59 : decode cX12_item 59 = .ok (.aload_n 0, 1) := by decide +kernel
theorem dX12_item_60 : decode cX12_item 60 = .ok (.getfield 69, 3) := by decide +kernel
theorem dX12_item_63 : decode cX12_item 63 = .ok (.iload_n 1, 1) := by decide +kernel
theorem dX12_item_64 : decode cX12_item 64 = .ok (.iaload, 1) := by decide +kernel
theorem dX12_item_65 : decode cX12_item 65 = .ok (.invokestatic 409, 3) := by decide +kernel
theorem dX12_item_68 : decode cX12_item 68 = .ok (.lastore, 1) := by decide +kernel
theorem dX12_item_69 : decode cX12_item 69 = .ok (.iconst 1, 1) := by decide +kernel
theorem dX12_item_70 : decode cX12_item 70 = .ok (.ireturn, 1) := by decide +kernel
theorem dX12_read_0 : decode cX12_read 0 = .ok (.aload_n 0, 1) := by decide +kernel
theorem dX12_read_1 : decode cX12_read 1 = .ok (.iconst 0, 1) := by decide +kernel
theorem dX12_read_2 : decode cX12_read 2 = .ok (.putfield 85, 3) := by decide +kernel
theorem dX12_read_5 : decode cX12_read 5 = .ok (.aload_n 0, 1) := by decide +kernel
theorem dX12_read_6 : decode cX12_read 6 = .ok (.iload_n 1, 1) := by decide +kernel
theorem dX12_read_7 : decode cX12_read 7 = .ok (.invokevirtual 404, 3) := by decide +kernel
theorem dX12_read_10 : decode cX12_read 10 = .ok (.ifCond .eq 44, 3) := by decide +kernel
theorem dX12_read_13 : decode cX12_read 13 = .ok (.aload_n 0, 1) := by decide +kernel
theorem dX12_read_14 : decode cX12_read 14 = .ok (.getfield 82, 3) := by decide +kernel
theorem dX12_read_17 : decode cX12_read 17 = .ok (.iload_n 1, 1) := by decide +kernel
theorem dX12_read_18 : decode cX12_read 18 = .ok (.baload, 1) := by decide +kernel
theorem dX12_read_19 : decode cX12_read 19 = .ok (.ifCond .eq 35, 3) := by decide +kernel
theorem dX12_read_22 : decode cX12_read 22 = .ok (.iload_n 2, 1) := by decide +kernel
theorem dX12_read_23 : decode cX12_read 23 = .ok (.i2l, 1) := by decide +kernel
theorem dX12_read_24 : decode cX12_read 24 = .ok (.lconst 0, 1) := by decide +kernel
theorem dX12_read_25 : decode cX12_read 25 = .ok (.aload_n 0, 1) := by decide +kernel
theorem dX12_read_26 : decode cX12_read 26 = .ok (.getfield 72, 3) := by decide +kernel
theorem dX12_read_29 : decode cX12_read 29 = .ok (.iload_n 1, 1) := by decide +kernel
theorem dX12_read_30 : decode cX12_read 30 = .ok (.iaload, 1) := by decide +kernel
theorem dX12_read_31 : decode cX12_read 31 = .ok (.iconst 1, 1) := by decide +kernel
theorem dX12_read_32 : decode cX12_read 32 = .ok (.isub, 1) := by decide +kernel
theorem dX12_read_33 : decode cX12_read 33 = .ok (.i2l, 1) := by decide +kernel
theorem dX12_read_34 : decode cX12_read 34 = .ok (.invokestatic 91, 3) := by decide +kernel
theorem dX12_read_37 : decode cX12_read 37 = .ok (.ifCond .eq 17, 3) := by decide +kernel
theorem dX12_read_40 : decode cX12_read 40 = .ok (.aload_n 0, 1) := by decide +kernel
theorem dX12_read_41 : decode cX12_read 41 = .ok (.getfield 75, 3) := by decide +kernel
theorem dX12_read_44 : decode cX12_read 44 = .ok (.bipush 60, 2) := by decide +kernel
theorem dX12_read_46 : decode cX12_read 46 = .ok (.iload_n 1, 1) := by decide +kernel
theorem dX12_read_47 : decode cX12_read 47 = .ok (.imul, 1) := by decide +kernel
theorem dX12_read_48 : decode cX12_read 48 = .ok (.iload_n 2, 1) := by decide +kernel
theorem dX12_read_49 : decode cX12_read 49 = .ok (.iadd, 1) := by decide +kernel
theorem dX12_read_50 : decode cX12_read 50 = .ok (.laload, 1) := by decide +kernel
theorem dX12_read_51 : decode cX12_read 51 = .ok (.goto 6, 3) := by decide +kernel
theorem dX12_read_54 : decode cX12_read 54 = .ok (.ldc2_w 334, 3) := by decide +kernel
theorem dX12_read_57 : decode cX12_read 57 = .ok (.lreturn, 1) := by decide +kernel
theorem dX12_shift_0 : decode cX12_shift 0 = .ok (.aload_n 0, 1) := by decide +kernel
theorem dX12_shift_1 : decode cX12_shift 1 = .ok (.iconst 0, 1) := by decide +kernel
theorem dX12_shift_2 : decode cX12_shift 2 = .ok (.putfield 85, 3) := by decide +kernel
theorem dX12_shift_5 : decode cX12_shift 5 = .ok (.aload_n 0, 1) := by decide +kernel
theorem dX12_shift_6 : decode cX12_shift 6 = .ok (.iload_n 1, 1) := by decide +kernel
theorem dX12_shift_7 : decode cX12_shift 7 = .ok (.invokevirtual 404, 3) := by decide +kernel
theorem dX12_shift_10 : decode cX12_shift 10 = .ok (.ifCond .eq 11, 3) := by decide +kernel
theorem dX12_shift_13 : decode cX12_shift 13 = .ok (.aload_n 0, 1) := by decide +kernel
theorem dX12_shift_14 : decode cX12_shift 14 = .ok (.iload_n 3, 1) := by decide +kernel
theorem dX12_shift_15 : decode cX12_shift 15 = .ok (.invokevirtual 404, 3) := by decide +kernel
theorem dX12_shift_18 : decode cX12_shift 18 = .ok (.ifCond .ne 5, 3) := by decide +kernel
theorem dX12_shift_21 : decode cX12_shift 21 = .ok (.iconst (-1), 1) := by decide +kernel
theorem dX12_shift_22 : decode cX12_shift 22 = .ok (.ireturn, 1) := by decide +kernel
theorem dX12_shift_23 : decode cX12_shift 23 = .ok (.aload_n 0, 1) := by decide +kernel
theorem dX12_shift_24 : decode cX12_shift 24 = .ok (.getfield 82, 3) := by decide +kernel
theorem dX12_shift_27 : decode cX12_shift 27 = .ok (.iload_n 1, 1) := by decide +kernel
theorem dX12_shift_28 : decode cX12_shift 28 = .ok (.baload, 1) := by decide +kernel
theorem dX12_shift_29 : decode cX12_shift 29 = .ok (.ifCond .eq 12, 3) := by decide +kernel
theorem dX12_shift_32 : decode cX12_shift 32 = .ok (.aload_n 0, 1) := by decide +kernel
theorem dX12_shift_33 : decode cX12_shift 33 = .ok (.getfield 82, 3) := by decide +kernel
theorem dX12_shift_36 : decode cX12_shift 36 = .ok (.iload_n 3, 1) := by decide +kernel
theorem dX12_shift_37 : decode cX12_shift 37 = .ok (.baload, 1) := by decide +kernel
theorem dX12_shift_38 : decode cX12_shift 38 = .ok (.ifCond .ne 6, 3) := by decide +kernel
theorem dX12_shift_41 : decode cX12_shift 41 = .ok (.bipush (-11), 2) := by decide +kernel
theorem dX12_shift_43 : decode cX12_shift 43 = .ok (.ireturn, 1) := by decide +kernel
theorem dX12_shift_44 : decode cX12_shift 44 = .ok (.aload_n 0, 1) := by decide +kernel
theorem dX12_shift_45 : decode cX12_shift 45 = .ok (.getfield 69, 3) := by decide +kernel
theorem dX12_shift_48 : decode cX12_shift 48 = .ok (.iload_n 1, 1) := by decide +kernel
theorem dX12_shift_49 : decode cX12_shift 49 = .ok (.iaload, 1) := by decide +kernel
theorem dX12_shift_50 : decode cX12_shift 50 = .ok (.aload_n 0, 1) := by decide +kernel
theorem dX12_shift_51 : decode cX12_shift 51 = .ok (.getfield 69, 3) := by decide +kernel
theorem dX12_shift_54 : decode cX12_shift 54 = .ok (.iload_n 3, 1) := by decide +kernel
theorem dX12_shift_55 : decode cX12_shift 55 = .ok (.iaload, 1) := by decide +kernel
theorem dX12_shift_56 : decode cX12_shift 56 = .ok (.if_icmp .eq 6, 3) := by decide +kernel
theorem dX12_shift_59 : decode cX12_shift 59 = .ok (.bipush (-12), 2) := by decide +kernel
theorem dX12_shift_61 : decode cX12_shift 61 = .ok (.ireturn, 1) := by decide +kernel
theorem dX12_shift_62 : decode cX12_shift 62 = .ok (.iload 5, 2) := by decide +kernel
theorem dX12_shift_64 : decode cX12_shift 64 = .ok (.ifCond .lt 47, 3) := by decide +kernel
theorem dX12_shift_67 : decode cX12_shift 67 = .ok (.iload_n 2, 1) := by decide +kernel
theorem dX12_shift_68 : decode cX12_shift 68 = .ok (.ifCond .lt 43, 3) := by decide +kernel
theorem dX12_shift_71 : decode cX12_shift 71 = .ok (.iload 4, 2) := by decide +kernel
theorem dX12_shift_73 : decode cX12_shift 73 = .ok (.ifCond .lt 38, 3) := by decide +kernel
theorem dX12_shift_76 : decode cX12_shift 76 = .ok (.iload_n 2, 1) := by decide +kernel
theorem dX12_shift_77 : decode cX12_shift 77 = .ok (.i2l, 1) := by decide +kernel
theorem dX12_shift_78 : decode cX12_shift 78 = .ok (.iload 5, 2) := by decide +kernel
theorem dX12_shift_80 : decode cX12_shift 80 = .ok (.i2l, 1) := by decide +kernel
theorem dX12_shift_81 : decode cX12_shift 81 = .ok (.ladd, 1) := by decide +kernel
theorem dX12_shift_82 : decode cX12_shift 82 = .ok (.aload_n 0, 1) := by decide +kernel
theorem dX12_shift_83 : decode cX12_shift 83 = .ok (.getfield 72, 3) := by decide +kernel
theorem dX12_shift_86 : decode cX12_shift 86 = .ok (.iload_n 1, 1) := by decide +kernel
theorem dX12_shift_87 : decode cX12_shift 87 = .ok (.iaload, 1) := by decide +kernel
theorem dX12_shift_88 : decode cX12_shift 88 = .ok (.i2l, 1) := by decide +kernel
theorem dX12_shift_89 : decode cX12_shift 89 = .ok (.lcmp, 1) := by decide +kernel
theorem dX12_shift_90 : decode cX12_shift 90 = .ok (.ifCond .gt 21, 3) := by decide +kernel
theorem dX12_shift_93 : decode cX12_shift 93 = .ok (.iload 4, 2) := by decide +kernel
theorem dX12_shift_95 : decode cX12_shift 95 = .ok (.i2l, 1) := by decide +kernel
theorem dX12_shift_96 : decode cX12_shift 96 = .ok (.iload 5, 2) := by decide +kernel
theorem dX12_shift_98 : decode cX12_shift 98 = .ok (.i2l, 1) := by decide +kernel
theorem dX12_shift_99 : decode cX12_shift 99 = .ok (.ladd, 1) := by decide +kernel
theorem dX12_shift_100 : decode cX12_shift 100 = .ok (.aload_n 0, 1) := by decide +kernel
theorem dX12_shift_101 : decode cX12_shift 101 = .ok (.getfield 72, 3) := by decide +kernel
theorem dX12_shift_104 : decode cX12_shift 104 = .ok (.iload_n 3, 1) := by decide +kernel
theorem dX12_shift_105 : decode cX12_shift 105 = .ok (.iaload, 1) := by decide +kernel
theorem dX12_shift_106 : decode cX12_shift 106 = .ok (.i2l, 1) := by decide +kernel
theorem dX12_shift_107 : decode cX12_shift 107 = .ok (.lcmp, 1) := by decide +kernel
theorem dX12_shift_108 : decode cX12_shift 108 = .ok (.ifCond .le 6, 3) := by decide +kernel
theorem dX12_shift_111 : decode cX12_shift 111 = .ok (.bipush (-13), 2) := by decide +kernel
theorem dX12_shift_113 : decode cX12_shift 113 = .ok (.ireturn, 1) := by decide +kernel
theorem dX12_shift_114 : decode cX12_shift 114 = .ok (.iconst 0, 1) := by decide +kernel
theorem dX12_shift_115 : decode cX12_shift 115 = .ok (.istore 6, 2) := by decide +kernel
theorem dX12_shift_117 : decode cX12_shift 117 = .ok (.iload 6, 2) := by decide +kernel
theorem dX12_shift_119 : decode cX12_shift 119 = .ok (.iload 5, 2) := by decide +kernel
theorem dX12_shift_121 : decode cX12_shift 121 = .ok (.if_icmp .ge 30, 3) := by decide +kernel
theorem dX12_shift_124 : decode cX12_shift 124 = .ok (.aload_n 0, 1) := by decide +kernel
theorem dX12_shift_125 : decode cX12_shift 125 = .ok (.getfield 79, 3) := by decide +kernel
theorem dX12_shift_128 : decode cX12_shift 128 = .ok (.iload 6, 2) := by decide +kernel
theorem dX12_shift_130 : decode cX12_shift 130 = .ok (.aload_n 0, 1) := by decide +kernel
theorem dX12_shift_131 : decode cX12_shift 131 = .ok (.getfield 75, 3) := by decide +kernel
theorem dX12_shift_134 : decode cX12_shift 134 = .ok (.bipush 60, 2) := by decide +kernel
theorem dX12_shift_136 : decode cX12_shift 136 = .ok (.iload_n 1, 1) := by decide +kernel
theorem dX12_shift_137 : decode cX12_shift 137 = .ok (.imul, 1) := by decide +kernel
theorem dX12_shift_138 : decode cX12_shift 138 = .ok (.iload_n 2, 1) := by decide +kernel
theorem dX12_shift_139 : decode cX12_shift 139 = .ok (.iadd, 1) := by decide +kernel
theorem dX12_shift_140 : decode cX12_shift 140 = .ok (.iload 6, 2) := by decide +kernel
theorem dX12_shift_142 : decode cX12_shift 142 = .ok (.iadd, 1) := by decide +kernel
theorem dX12_shift_143 : decode cX12_shift 143 = .ok (.laload, 1) := by decide +kernel
theorem dX12_shift_144 : decode cX12_shift 144 = .ok (.lastore, 1) := by decide +kernel
theorem dX12_shift_145 : decode cX12_shift 145 = .ok (.iinc 6 1, 3) := by decide +kernel
theorem dX12_shift_148 : decode cX12_shift 148 = .ok (.goto (-31), 3) := by decide +kernel
theorem dX12_shift_151 : decode cX12_shift 151 = .ok (.iconst 0, 1) := by decide +kernel
theorem dX12_shift_152 : decode cX12_shift 152 = .ok (.istore 6, 2) := by decide +kernel
theorem dX12_shift_154 : decode cX12_shift 154 = .ok (.iload 6, 2) := by decide +kernel
theorem dX12_shift_156 : decode cX12_shift 156 = .ok (.iload 5, 2) := by decide +kernel
theorem dX12_shift_158 : decode cX12_shift 158 = .ok (.if_icmp .ge 31, 3) := by decide +kernel
theorem dX12_shift_161 : decode cX12_shift 161 = .ok (.aload_n 0, 1) := by decide +kernel
theorem dX12_shift_162 : decode cX12_shift 162 = .ok (.getfield 75, 3) := by decide +kernel
theorem dX12_shift_165 : decode cX12_shift 165 = .ok (.bipush 60, 2) := by decide +kernel
theorem dX12_shift_167 : decode cX12_shift 167 = .ok (.iload_n 3, 1) := by decide +kernel
theorem dX12_shift_168 : decode cX12_shift 168 = .ok (.imul, 1) := by decide +kernel
theorem dX12_shift_169 : decode cX12_shift 169 = .ok (.iload 4, 2) := by decide +kernel
theorem dX12_shift_171 : decode cX12_shift 171 = .ok (.iadd, 1) := by decide +kernel
theorem dX12_shift_172 : decode cX12_shift 172 = .ok (.iload 6, 2) := by decide +kernel
theorem dX12_shift_174 : decode cX12_shift 174 = .ok (.iadd, 1) := by decide +kernel
theorem dX12_shift_175 : decode cX12_shift 175 = .ok (.aload_n 0, 1) := by decide +kernel
theorem dX12_shift_176 : decode cX12_shift 176 = .ok (.getfield 79, 3) := by decide +kernel
theorem dX12_shift_179 : decode cX12_shift 179 = .ok (.iload 6, 2) := by decide +kernel
theorem dX12_shift_181 : decode cX12_shift 181 = .ok (.laload, 1) := by decide +kernel
theorem dX12_shift_182 : decode cX12_shift 182 = .ok (.lastore, 1) := by decide +kernel
theorem dX12_shift_183 : decode cX12_shift 183 = .ok (.iinc 6 1, 3) := by decide +kernel
theorem dX12_shift_186 : decode cX12_shift 186 = .ok (.goto (-32), 3) := by decide +kernel
theorem dX12_shift_189 : decode cX12_shift 189 = .ok (.iload 5, 2) := by decide +kernel
theorem dX12_shift_191 : decode cX12_shift 191 = .ok (.ireturn, 1) := by decide +kernel
theorem dX12_judge_0 : decode cX12_judge 0 = .ok (.aload_n 0, 1) := by decide +kernel
theorem dX12_judge_1 : decode cX12_judge 1 = .ok (.iconst 0, 1) := by decide +kernel
theorem dX12_judge_2 : decode cX12_judge 2 = .ok (.putfield 85, 3) := by decide +kernel
theorem dX12_judge_5 : decode cX12_judge 5 = .ok (.aload_n 0, 1) := by decide +kernel
theorem dX12_judge_6 : decode cX12_judge 6 = .ok (.iload_n 1, 1) := by decide +kernel
theorem dX12_judge_7 : decode cX12_judge 7 = .ok (.invokevirtual 404, 3) := by decide +kernel
theorem dX12_judge_10 : decode cX12_judge 10 = .ok (.ifCond .ne 5, 3) := by decide +kernel
theorem dX12_judge_13 : decode cX12_judge 13 = .ok (.iconst (-1), 1) := by decide +kernel
theorem dX12_judge_14 : decode cX12_judge 14 = .ok (.ireturn, 1) := by decide +kernel
theorem dX12_judge_15 : decode cX12_judge 15 = .ok (.aload_n 0, 1) := by decide +kernel
theorem dX12_judge_16 : decode cX12_judge 16 = .ok (.getfield 82, 3) := by decide +kernel
theorem dX12_judge_19 : decode cX12_judge 19 = .ok (.iload_n 1, 1) := by decide +kernel
theorem dX12_judge_20 : decode cX12_judge 20 = .ok (.baload, 1) := by decide +kernel
theorem dX12_judge_21 : decode cX12_judge 21 = .ok (.ifCond .eq 15, 3) := by decide +kernel
theorem dX12_judge_24 : decode cX12_judge 24 = .ok (.aload_n 0, 1) := by decide +kernel
theorem dX12_judge_25 : decode cX12_judge 25 = .ok (.getfield 69, 3) := by decide +kernel
theorem dX12_judge_28 : decode cX12_judge 28 = .ok (.iload_n 1, 1) := by decide +kernel
theorem dX12_judge_29 : decode cX12_judge 29 = .ok (.iaload, 1) := by decide +kernel
theorem dX12_judge_30 : decode cX12_judge 30 = .ok (.ifCond .eq 6, 3) := by decide +kernel
theorem dX12_judge_33 : decode cX12_judge 33 = .ok (.bipush (-12), 2) := by decide +kernel
theorem dX12_judge_35 : decode cX12_judge 35 = .ok (.ireturn, 1) := by decide +kernel
theorem dX12_judge_36 : decode cX12_judge 36 = .ok (.iconst 0, 1) := by decide +kernel
theorem dX12_judge_37 : decode cX12_judge 37 = .ok (.istore_n 3, 1) := by decide +kernel
theorem dX12_judge_38 : decode cX12_judge 38 = .ok (.iload_n 3, 1) := by decide +kernel
theorem dX12_judge_39 : decode cX12_judge 39 = .ok (.aload_n 0, 1) := by decide +kernel
theorem dX12_judge_40 : decode cX12_judge 40 = .ok (.getfield 88, 3) := by decide +kernel
theorem dX12_judge_43 : decode cX12_judge 43 = .ok (.if_icmp .ge 69, 3) := by decide +kernel
theorem dX12_judge_46 : decode cX12_judge 46 = .ok (.aload_n 0, 1) := by decide +kernel
theorem dX12_judge_47 : decode cX12_judge 47 = .ok (.getfield 82, 3) := by decide +kernel
theorem dX12_judge_50 : decode cX12_judge 50 = .ok (.iload_n 1, 1) := by decide +kernel
theorem dX12_judge_51 : decode cX12_judge 51 = .ok (.baload, 1) := by decide +kernel
theorem dX12_judge_52 : decode cX12_judge 52 = .ok (.ifCond .eq 23, 3) := by decide +kernel
theorem dX12_judge_55 : decode cX12_judge 55 = .ok (.iload_n 2, 1) := by decide +kernel
theorem dX12_judge_56 : decode cX12_judge 56 = .ok (.ifCond .lt 19, 3) := by decide +kernel
theorem dX12_judge_59 : decode cX12_judge 59 = .ok (.iload_n 2, 1) := by decide +kernel
theorem dX12_judge_60 : decode cX12_judge 60 = .ok (.i2l, 1) := by decide +kernel
theorem dX12_judge_61 : decode cX12_judge 61 = .ok (.iload_n 3, 1) := by decide +kernel
theorem dX12_judge_62 : decode cX12_judge 62 = .ok (.i2l, 1) := by decide +kernel
theorem dX12_judge_63 : decode cX12_judge 63 = .ok (.ladd, 1) := by decide +kernel
theorem dX12_judge_64 : decode cX12_judge 64 = .ok (.aload_n 0, 1) := by decide +kernel
theorem dX12_judge_65 : decode cX12_judge 65 = .ok (.getfield 72, 3) := by decide +kernel
theorem dX12_judge_68 : decode cX12_judge 68 = .ok (.iload_n 1, 1) := by decide +kernel
theorem dX12_judge_69 : decode cX12_judge 69 = .ok (.iaload, 1) := by decide +kernel
theorem dX12_judge_70 : decode cX12_judge 70 = .ok (.i2l, 1) := by decide +kernel
theorem dX12_judge_71 : decode cX12_judge 71 = .ok (.lcmp, 1) := by decide +kernel
theorem dX12_judge_72 : decode cX12_judge 72 = .ok (.ifCond .lt 8, 3) := by decide +kernel
theorem dX12_judge_75 : decode cX12_judge 75 = .ok (.bipush 100, 2) := by decide +kernel
theorem dX12_judge_77 : decode cX12_judge 77 = .ok (.iload_n 3, 1) := by decide +kernel
theorem dX12_judge_78 : decode cX12_judge 78 = .ok (.iadd, 1) := by decide +kernel
theorem dX12_judge_79 : decode cX12_judge 79 = .ok (.ireturn, 1) := by decide +kernel
theorem dX12_judge_80 : decode cX12_judge 80 = .ok (.aload_n 0, 1) := by decide +kernel
theorem dX12_judge_81 : decode cX12_judge 81 = .ok (.getfield 75, 3) := by decide +kernel
theorem dX12_judge_84 : decode cX12_judge 84 = .ok (.bipush 60, 2) := by decide +kernel
theorem dX12_judge_86 : decode cX12_judge 86 = .ok (.iload_n 1, 1) := by decide +kernel
theorem dX12_judge_87 : decode cX12_judge 87 = .ok (.imul, 1) := by decide +kernel
theorem dX12_judge_88 : decode cX12_judge 88 = .ok (.iload_n 2, 1) := by decide +kernel
theorem dX12_judge_89 : decode cX12_judge 89 = .ok (.iadd, 1) := by decide +kernel
theorem dX12_judge_90 : decode cX12_judge 90 = .ok (.iload_n 3, 1) := by decide +kernel
theorem dX12_judge_91 : decode cX12_judge 91 = .ok (.iadd, 1) := by decide +kernel
theorem dX12_judge_92 : decode cX12_judge 92 = .ok (.laload, 1) := by decide +kernel
theorem dX12_judge_93 : decode cX12_judge 93 = .ok (.aload_n 0, 1) := by decide +kernel
theorem dX12_judge_94 : decode cX12_judge 94 = .ok (.iload_n 3, 1) := by decide +kernel
theorem dX12_judge_95 : decode cX12_judge 95 = .ok (.iconst 3, 1) := by decide +kernel
theorem dX12_judge_96 : decode cX12_judge 96 = .ok (.invokevirtual 203, 3) := by decide +kernel
theorem dX12_judge_99 : decode cX12_judge 99 = .ok (.i2l, 1) := by decide +kernel
theorem dX12_judge_100 : decode cX12_judge 100 = .ok (.lcmp, 1) := by decide +kernel
theorem dX12_judge_101 : decode cX12_judge 101 = .ok (.ifCond .eq 5, 3) := by decide +kernel
theorem dX12_judge_104 : decode cX12_judge 104 = .ok (.iload_n 3, 1) := by decide +kernel
theorem dX12_judge_105 : decode cX12_judge 105 = .ok (.ireturn, 1) := by decide +kernel
theorem dX12_judge_106 : decode cX12_judge 106 = .ok (.iinc 3 1, 3) := by decide +kernel
theorem dX12_judge_109 : decode cX12_judge 109 = .ok (.goto (-71), 3) := by decide +kernel
theorem dX12_judge_112 : decode cX12_judge 112 = .ok (.bipush (-5), 2) := by decide +kernel
theorem dX12_judge_114 : decode cX12_judge 114 = .ok (.ireturn, 1) := by decide +kernel
