theorem dX0_init_0 : decode cX0_init 0 = .ok (.aload_n 0, 1) := by decide +kernel
theorem dX0_init_1 : decode cX0_init 1 = .ok (.iload_n 1, 1) := by decide +kernel
theorem dX0_init_2 : decode cX0_init 2 = .ok (.invokespecial 3, 3) := by decide +kernel
theorem dX0_init_5 : decode cX0_init 5 = .ok (.return_, 1) := by decide +kernel
theorem dX0_portion_0 : decode cX0_portion 0 = .ok (.aload_n 1, 1) := by decide +kernel
theorem dX0_portion_1 : decode cX0_portion 1 = .ok (.getfield 9, 3) := by decide +kernel
theorem dX0_portion_4 : decode cX0_portion 4 = .ok (.iconst 2, 1) := by decide +kernel
theorem dX0_portion_5 : decode cX0_portion 5 = .ok (.idiv, 1) := by decide +kernel
theorem dX0_portion_6 : decode cX0_portion 6 = .ok (.ireturn, 1) := by decide +kernel
theorem dX0_patience_0 : decode cX0_patience 0 = .ok (.bipush 99, 2) := by decide +kernel
theorem dX0_patience_2 : decode cX0_patience 2 = .ok (.ireturn, 1) := by decide +kernel
theorem dX0_tells_0 : decode cX0_tells 0 = .ok (.aload_n 3, 1) := by decide +kernel
theorem dX0_tells_1 : decode cX0_tells 1 = .ok (.bipush 40, 2) := by decide +kernel
theorem dX0_tells_3 : decode cX0_tells 3 = .ok (.invokestatic 15, 3) := by decide +kernel
theorem dX0_tells_6 : decode cX0_tells 6 = .ok (.invokevirtual 21, 3) := by decide +kernel
theorem dX0_tells_9 : decode cX0_tells 9 = .ok (.pop, 1) := by decide +kernel
theorem dX0_tells_10 : decode cX0_tells 10 = .ok (.aload_n 0, 1) := by decide +kernel
theorem dX0_tells_11 : decode cX0_tells 11 = .ok (.aload_n 1, 1) := by decide +kernel
theorem dX0_tells_12 : decode cX0_tells 12 = .ok (.iload_n 2, 1) := by decide +kernel
theorem dX0_tells_13 : decode cX0_tells 13 = .ok (.aload_n 3, 1) := by decide +kernel
theorem dX0_tells_14 : decode cX0_tells 14 = .ok (.invokespecial 27, 3) := by decide +kernel
theorem dX0_tells_17 : decode cX0_tells 17 = .ok (.aload_n 0, 1) := by decide +kernel
theorem dX0_tells_18 : decode cX0_tells 18 = .ok (.aload_n 1, 1) := by decide +kernel
theorem dX0_tells_19 : decode cX0_tells 19 = .ok (.iconst 1, 1) := by decide +kernel
theorem dX0_tells_20 : decode cX0_tells 20 = .ok (.aload_n 3, 1) := by decide +kernel
theorem dX0_tells_21 : decode cX0_tells 21 = .ok (.invokevirtual 31, 3) := by decide +kernel
theorem dX0_tells_24 : decode cX0_tells 24 = .ok (.iadd, 1) := by decide +kernel
theorem dX0_tells_25 : decode cX0_tells 25 = .ok (.ireturn, 1) := by decide +kernel
theorem dX1_init_0 : decode cX1_init 0 = .ok (.aload_n 0, 1) := by decide +kernel
theorem dX1_init_1 : decode cX1_init 1 = .ok (.invokespecial 3, 3) := by decide +kernel
theorem dX1_init_4 : decode cX1_init 4 = .ok (.aload_n 0, 1) := by decide +kernel
theorem dX1_init_5 : decode cX1_init 5 = .ok (.iconst 5, 1) := by decide +kernel
theorem dX1_init_6 : decode cX1_init 6 = .ok (.putfield 9, 3) := by decide +kernel
theorem dX1_init_9 : decode cX1_init 9 = .ok (.aload_n 0, 1) := by decide +kernel
theorem dX1_init_10 : decode cX1_init 10 = .ok (.iconst 1, 1) := by decide +kernel
theorem dX1_init_11 : decode cX1_init 11 = .ok (.putfield 15, 3) := by decide +kernel
theorem dX1_init_14 : decode cX1_init 14 = .ok (.aload_n 0, 1) := by decide +kernel
theorem dX1_init_15 : decode cX1_init 15 = .ok (.iconst 0, 1) := by decide +kernel
theorem dX1_init_16 : decode cX1_init 16 = .ok (.newarray .int, 2) := by decide +kernel
theorem dX1_init_18 : decode cX1_init 18 = .ok (.putfield 18, 3) := by decide +kernel
theorem dX1_init_21 : decode cX1_init 21 = .ok (.aload_n 0, 1) := by decide +kernel
theorem dX1_init_22 : decode cX1_init 22 = .ok (.iconst 0, 1) := by decide +kernel
theorem dX1_init_23 : decode cX1_init 23 = .ok (.newarray .int, 2) := by decide +kernel
theorem dX1_init_25 : decode cX1_init 25 = .ok (.putfield 22, 3) := by decide +kernel
theorem dX1_init_28 : decode cX1_init 28 = .ok (.return_, 1) := by decide +kernel
theorem dX1_init__0 : decode cX1_init_ 0 = .ok (.aload_n 0, 1) := by decide +kernel
theorem dX1_init__1 : decode cX1_init_ 1 = .ok (.invokespecial 3, 3) := by decide +kernel
theorem dX1_init__4 : decode cX1_init_ 4 = .ok (.aload_n 0, 1) := by decide +kernel
theorem dX1_init__5 : decode cX1_init_ 5 = .ok (.aload_n 1, 1) := by decide +kernel
theorem dX1_init__6 : decode cX1_init_ 6 = .ok (.getfield 25, 3) := by decide +kernel
theorem dX1_init__9 : decode cX1_init_ 9 = .ok (.putfield 9, 3) := by decide +kernel
theorem dX1_init__12 : decode cX1_init_ 12 = .ok (.aload_n 0, 1) := by decide +kernel
theorem dX1_init__13 : decode cX1_init_ 13 = .ok (.aload_n 1, 1) := by decide +kernel
theorem dX1_init__14 : decode cX1_init_ 14 = .ok (.getfield 28, 3) := by decide +kernel
theorem dX1_init__17 : decode cX1_init_ 17 = .ok (.putfield 15, 3) := by decide +kernel
theorem dX1_init__20 : decode cX1_init_ 20 = .ok (.aload_n 0, 1) := by decide +kernel
theorem dX1_init__21 : decode cX1_init_ 21 = .ok (.aload_n 1, 1) := by decide +kernel
theorem dX1_init__22 : decode cX1_init_ 22 = .ok (.getfield 29, 3) := by decide +kernel
theorem dX1_init__25 : decode cX1_init_ 25 = .ok (.aload_n 1, 1) := by decide +kernel
theorem dX1_init__26 : decode cX1_init_ 26 = .ok (.getfield 30, 3) := by decide +kernel
theorem dX1_init__29 : decode cX1_init_ 29 = .ok (.invokestatic 33, 3) := by decide +kernel
theorem dX1_init__32 : decode cX1_init_ 32 = .ok (.putfield 18, 3) := by decide +kernel
theorem dX1_init__35 : decode cX1_init_ 35 = .ok (.aload_n 0, 1) := by decide +kernel
theorem dX1_init__36 : decode cX1_init_ 36 = .ok (.aload_n 1, 1) := by decide +kernel
theorem dX1_init__37 : decode cX1_init_ 37 = .ok (.getfield 39, 3) := by decide +kernel
theorem dX1_init__40 : decode cX1_init_ 40 = .ok (.aload_n 1, 1) := by decide +kernel
theorem dX1_init__41 : decode cX1_init_ 41 = .ok (.getfield 30, 3) := by decide +kernel
theorem dX1_init__44 : decode cX1_init_ 44 = .ok (.invokestatic 33, 3) := by decide +kernel
theorem dX1_init__47 : decode cX1_init_ 47 = .ok (.putfield 22, 3) := by decide +kernel
theorem dX1_init__50 : decode cX1_init_ 50 = .ok (.return_, 1) := by decide +kernel
theorem dX1_addedByClauses_0 : decode cX1_addedByClauses 0 = .ok (.iconst 0, 1) := by decide +kernel
theorem dX1_addedByClauses_1 : decode cX1_addedByClauses 1 = .ok (.istore_n 2, 1) := by decide +kernel
theorem dX1_addedByClauses_2 : decode cX1_addedByClauses 2 = .ok (.iconst 0, 1) := by decide +kernel
theorem dX1_addedByClauses_3 : decode cX1_addedByClauses 3 = .ok (.istore_n 3, 1) := by decide +kernel
theorem dX1_addedByClauses_4 : decode cX1_addedByClauses 4 = .ok (.iconst 0, 1) := by decide +kernel
theorem dX1_addedByClauses_5 : decode cX1_addedByClauses 5 = .ok (.istore 4, 2) := by decide +kernel
theorem dX1_addedByClauses_7 : decode cX1_addedByClauses 7 = .ok (.iload 4, 2) := by decide +kernel
theorem dX1_addedByClauses_9 : decode cX1_addedByClauses 9 = .ok (.aload_n 0, 1) := by decide +kernel
theorem dX1_addedByClauses_10 : decode cX1_addedByClauses 10 = .ok (.getfield 18, 3) := by decide +kernel
theorem dX1_addedByClauses_13 : decode cX1_addedByClauses 13 = .ok (.arraylength, 1) := by decide +kernel
theorem dX1_addedByClauses_14 : decode cX1_addedByClauses 14 = .ok (.if_icmp .ge 143, 3) := by decide +kernel
theorem dX1_addedByClauses_17 : decode cX1_addedByClauses 17 = .ok (.aload_n 0, 1) := by decide +kernel
theorem dX1_addedByClauses_18 : decode cX1_addedByClauses 18 = .ok (.getfield 18, 3) := by decide +kernel
theorem dX1_addedByClauses_21 : decode cX1_addedByClauses 21 = .ok (.iload 4, 2) := by decide +kernel
theorem dX1_addedByClauses_23 : decode cX1_addedByClauses 23 = .ok (.iaload, 1) := by decide +kernel
theorem dX1_addedByClauses_24 : decode cX1_addedByClauses 24 = .ok (.istore 5, 2) := by decide +kernel
theorem dX1_addedByClauses_26 : decode cX1_addedByClauses 26 = .ok (.iload_n 3, 1) := by decide +kernel
theorem dX1_addedByClauses_27 : decode cX1_addedByClauses 27 = .ok (.iconst 1, 1) := by decide +kernel
theorem dX1_addedByClauses_28 : decode cX1_addedByClauses 28 = .ok (.iand, 1) := by decide +kernel
theorem dX1_addedByClauses_29 : decode cX1_addedByClauses 29 = .ok (.istore 6, 2) := by decide +kernel
theorem dX1_addedByClauses_31 : decode cX1_addedByClauses 31 = .ok (.iload 5, 2) := by decide +kernel
theorem dX1_addedByClauses_33 : decode cX1_addedByClauses 33 = .ok (.tableswitch 79 18 21 #[31, 38, 51, 61], 31) := by decide +kernel
theorem dX1_addedByClauses_64 : decode cX1_addedByClauses 64 = .ok (.iload_n 3, 1) := by decide +kernel
theorem dX1_addedByClauses_65 : decode cX1_addedByClauses 65 = .ok (.iconst 1, 1) := by decide +kernel
theorem dX1_addedByClauses_66 : decode cX1_addedByClauses 66 = .ok (.ixor, 1) := by decide +kernel
theorem dX1_addedByClauses_67 : decode cX1_addedByClauses 67 = .ok (.istore_n 3, 1) := by decide +kernel
theorem dX1_addedByClauses_68 : decode cX1_addedByClauses 68 = .ok (.goto 83, 3) := by decide +kernel
theorem dX1_addedByClauses_71 : decode cX1_addedByClauses 71 = .ok (.iload_n 3, 1) := by decide +kernel
theorem dX1_addedByClauses_72 : decode cX1_addedByClauses 72 = .ok (.iconst 1, 1) := by decide +kernel
theorem dX1_addedByClauses_73 : decode cX1_addedByClauses 73 = .ok (.ishr, 1) := by decide +kernel
theorem dX1_addedByClauses_74 : decode cX1_addedByClauses 74 = .ok (.iload 6, 2) := by decide +kernel
theorem dX1_addedByClauses_76 : decode cX1_addedByClauses 76 = .ok (.bipush (-2), 2) := by decide +kernel
theorem dX1_addedByClauses_78 : decode cX1_addedByClauses 78 = .ok (.ior, 1) := by decide +kernel
theorem dX1_addedByClauses_79 : decode cX1_addedByClauses 79 = .ok (.iand, 1) := by decide +kernel
theorem dX1_addedByClauses_80 : decode cX1_addedByClauses 80 = .ok (.istore_n 3, 1) := by decide +kernel
theorem dX1_addedByClauses_81 : decode cX1_addedByClauses 81 = .ok (.goto 70, 3) := by decide +kernel
theorem dX1_addedByClauses_84 : decode cX1_addedByClauses 84 = .ok (.iload_n 3, 1) := by decide +kernel
theorem dX1_addedByClauses_85 : decode cX1_addedByClauses 85 = .ok (.iconst 1, 1) := by decide +kernel
theorem dX1_addedByClauses_86 : decode cX1_addedByClauses 86 = .ok (.ishr, 1) := by decide +kernel
theorem dX1_addedByClauses_87 : decode cX1_addedByClauses 87 = .ok (.iload 6, 2) := by decide +kernel
theorem dX1_addedByClauses_89 : decode cX1_addedByClauses 89 = .ok (.ior, 1) := by decide +kernel
theorem dX1_addedByClauses_90 : decode cX1_addedByClauses 90 = .ok (.istore_n 3, 1) := by decide +kernel
theorem dX1_addedByClauses_91 : decode cX1_addedByClauses 91 = .ok (.goto 60, 3) := by decide +kernel
theorem dX1_addedByClauses_94 : decode cX1_addedByClauses 94 = .ok (.iload_n 2, 1) := by decide +kernel
theorem dX1_addedByClauses_95 : decode cX1_addedByClauses 95 = .ok (.iload 6, 2) := by decide +kernel
theorem dX1_addedByClauses_97 : decode cX1_addedByClauses 97 = .ok (.aload_n 0, 1) := by decide +kernel
theorem dX1_addedByClauses_98 : decode cX1_addedByClauses 98 = .ok (.getfield 22, 3) := by decide +kernel
theorem dX1_addedByClauses_101 : decode cX1_addedByClauses 101 = .ok (.iload 4, 2) := by decide +kernel
theorem dX1_addedByClauses_103 : decode cX1_addedByClauses 103 = .ok (.iaload, 1) := by decide +kernel
theorem dX1_addedByClauses_104 : decode cX1_addedByClauses 104 = .ok (.imul, 1) := by decide +kernel
theorem dX1_addedByClauses_105 : decode cX1_addedByClauses 105 = .ok (.iadd, 1) := by decide +kernel
theorem dX1_addedByClauses_106 : decode cX1_addedByClauses 106 = .ok (.istore_n 2, 1) := by decide +kernel
theorem dX1_addedByClauses_107 : decode cX1_addedByClauses 107 = .ok (.iconst 0, 1) := by decide +kernel
theorem dX1_addedByClauses_108 : decode cX1_addedByClauses 108 = .ok (.istore_n 3, 1) := by decide +kernel
theorem dX1_addedByClauses_109 : decode cX1_addedByClauses 109 = .ok (.goto 42, 3) := by decide +kernel
theorem dX1_addedByClauses_112 : decode cX1_addedByClauses 112 = .ok (.aload_n 1, 1) := by decide +kernel
theorem dX1_addedByClauses_113 : decode cX1_addedByClauses 113 = .ok (.iload 5, 2) := by decide +kernel
theorem dX1_addedByClauses_115 : decode cX1_addedByClauses 115 = .ok (.iconst 3, 1) := by decide +kernel
theorem dX1_addedByClauses_116 : decode cX1_addedByClauses 116 = .ok (.idiv, 1) := by decide +kernel
theorem dX1_addedByClauses_117 : decode cX1_addedByClauses 117 = .ok (.invokestatic 40, 3) := by decide +kernel
theorem dX1_addedByClauses_120 : decode cX1_addedByClauses 120 = .ok (.istore 7, 2) := by decide +kernel
theorem dX1_addedByClauses_122 : decode cX1_addedByClauses 122 = .ok (.iload_n 3, 1) := by decide +kernel
theorem dX1_addedByClauses_123 : decode cX1_addedByClauses 123 = .ok (.iconst 1, 1) := by decide +kernel
theorem dX1_addedByClauses_124 : decode cX1_addedByClauses 124 = .ok (.ishl, 1) := by decide +kernel
theorem dX1_addedByClauses_125 : decode cX1_addedByClauses 125 = .ok (.iload 7, 2) := by decide +kernel
theorem dX1_addedByClauses_127 : decode cX1_addedByClauses 127 = .ok (.iload 5, 2) := by decide +kernel
theorem dX1_addedByClauses_129 : decode cX1_addedByClauses 129 = .ok (.iconst 3, 1) := by decide +kernel
theorem dX1_addedByClauses_130 : decode cX1_addedByClauses 130 = .ok (.irem, 1) := by decide +kernel
theorem dX1_addedByClauses_131 : decode cX1_addedByClauses 131 = .ok (.aload_n 0, 1) := by decide +kernel
theorem dX1_addedByClauses_132 : decode cX1_addedByClauses 132 = .ok (.getfield 22, 3) := by decide +kernel
theorem dX1_addedByClauses_135 : decode cX1_addedByClauses 135 = .ok (.iload 4, 2) := by decide +kernel
theorem dX1_addedByClauses_137 : decode cX1_addedByClauses 137 = .ok (.iaload, 1) := by decide +kernel
theorem dX1_addedByClauses_138 : decode cX1_addedByClauses 138 = .ok (.invokestatic 44, 3) := by decide +kernel
theorem dX1_addedByClauses_141 : decode cX1_addedByClauses 141 = .ok (.ifCond .eq 7, 3) := by decide +kernel
theorem dX1_addedByClauses_144 : decode cX1_addedByClauses 144 = .ok (.iconst 1, 1) := by decide +kernel
theorem dX1_addedByClauses_145 : decode cX1_addedByClauses 145 = .ok (.goto 4, 3) := by decide +kernel
theorem dX1_addedByClauses_148 : decode cX1_addedByClauses 148 = .ok (.iconst 0, 1) := by decide +kernel
theorem dX1_addedByClauses_149 : decode cX1_addedByClauses 149 = .ok (.ior, 1) := by decide +kernel
theorem dX1_addedByClauses_150 : decode cX1_addedByClauses 150 = .ok (.istore_n 3, 1) := by decide +kernel
theorem dX1_addedByClauses_151 : decode cX1_addedByClauses 151 = .ok (.iinc 4 1, 3) := by decide +kernel
theorem dX1_addedByClauses_154 : decode cX1_addedByClauses 154 = .ok (.goto (-147), 3) := by decide +kernel
theorem dX1_addedByClauses_157 : decode cX1_addedByClauses 157 = .ok (.iload_n 2, 1) := by decide +kernel
theorem dX1_addedByClauses_158 : decode cX1_addedByClauses 158 = .ok (.ireturn, 1) := by decide +kernel
theorem dX1_valueOf_0 : decode cX1_valueOf 0 = .ok (.iload_n 1, 1) := by decide +kernel
theorem dX1_valueOf_1 : decode cX1_valueOf 1 = .ok (.tableswitch 63 0 4 #[35, 40, 48, 53, 58], 35) := by decide +kernel
theorem dX1_valueOf_36 : decode cX1_valueOf 36 = .ok (.aload_n 0, 1) := by decide +kernel
theorem dX1_valueOf_37 : decode cX1_valueOf 37 = .ok (.getfield 48, 3) := by decide +kernel
theorem dX1_valueOf_40 : decode cX1_valueOf 40 = .ok (.ireturn, 1) := by decide +kernel
theorem dX1_valueOf_41 : decode cX1_valueOf 41 = .ok (.aload_n 0, 1) := by decide +kernel
theorem dX1_valueOf_42 : decode cX1_valueOf 42 = .ok (.getfield 53, 3) := by decide +kernel
theorem dX1_valueOf_45 : decode cX1_valueOf 45 = .ok (.getfield 57, 3) := by decide +kernel
theorem dX1_valueOf_48 : decode cX1_valueOf 48 = .ok (.ireturn, 1) := by decide +kernel
theorem dX1_valueOf_49 : decode cX1_valueOf 49 = .ok (.aload_n 0, 1) := by decide +kernel
theorem dX1_valueOf_50 : decode cX1_valueOf 50 = .ok (.getfield 60, 3) := by decide +kernel
theorem dX1_valueOf_53 : decode cX1_valueOf 53 = .ok (.ireturn, 1) := by decide +kernel
theorem dX1_valueOf_54 : decode cX1_valueOf 54 = .ok (.aload_n 0, 1) := by decide +kernel
theorem dX1_valueOf_55 : decode cX1_valueOf 55 = .ok (.getfield 63, 3) := by decide +kernel
theorem dX1_valueOf_58 : decode cX1_valueOf 58 = .ok (.ireturn, 1) := by decide +kernel
theorem dX1_valueOf_59 : decode cX1_valueOf 59 = .ok (.aload_n 0, 1) := by decide +kernel
theorem dX1_valueOf_60 : decode cX1_valueOf 60 = .ok (.getfield 66, 3) := by decide +kernel
theorem dX1_valueOf_63 : decode cX1_valueOf 63 = .ok (.ireturn, 1) := by decide +kernel
theorem dX1_valueOf_64 : decode cX1_valueOf 64 = .ok (.aload_n 0, 1) := by decide +kernel
theorem dX1_valueOf_65 : decode cX1_valueOf 65 = .ok (.getfield 69, 3) := by decide +kernel
theorem dX1_valueOf_68 : decode cX1_valueOf 68 = .ok (.bipush 7, 2) := by decide +kernel
theorem dX1_valueOf_70 : decode cX1_valueOf 70 = .ok (.irem, 1) := by decide +kernel
theorem dX1_valueOf_71 : decode cX1_valueOf 71 = .ok (.ireturn, 1) := by decide +kernel
theorem dX1_compares_0 : decode cX1_compares 0 = .ok (.iload_n 1, 1) := by decide +kernel
theorem dX1_compares_1 : decode cX1_compares 1 = .ok (.lookupswitch 49 #[(0, 27), (1, 38)], 27) := by decide +kernel
theorem dX1_compares_28 : decode cX1_compares 28 = .ok (.iload_n 0, 1) := by decide +kernel
theorem dX1_compares_29 : decode cX1_compares 29 = .ok (.iload_n 2, 1) := by decide +kernel
theorem dX1_compares_30 : decode cX1_compares 30 = .ok (.if_icmp .ge 7, 3) := by decide +kernel
theorem dX1_compares_33 : decode cX1_compares 33 = .ok (.iconst 1, 1) := by decide +kernel
theorem dX1_compares_34 : decode cX1_compares 34 = .ok (.goto 4, 3) := by decide +kernel
theorem dX1_compares_37 : decode cX1_compares 37 = .ok (.iconst 0, 1) := by decide +kernel
theorem dX1_compares_38 : decode cX1_compares 38 = .ok (.ireturn, 1) := by decide +kernel
theorem dX1_compares_39 : decode cX1_compares 39 = .ok (.iload_n 0, 1) := by decide +kernel
theorem dX1_compares_40 : decode cX1_compares 40 = .ok (.iload_n 2, 1) := by decide +kernel
theorem dX1_compares_41 : decode cX1_compares 41 = .ok (.if_icmp .ne 7, 3) := by decide +kernel
theorem dX1_compares_44 : decode cX1_compares 44 = .ok (.iconst 1, 1) := by decide +kernel
theorem dX1_compares_45 : decode cX1_compares 45 = .ok (.goto 4, 3) := by decide +kernel
theorem dX1_compares_48 : decode cX1_compares 48 = .ok (.iconst 0, 1) := by decide +kernel
theorem dX1_compares_49 : decode cX1_compares 49 = .ok (.ireturn, 1) := by decide +kernel
theorem dX1_compares_50 : decode cX1_compares 50 = .ok (.iload_n 0, 1) := by decide +kernel
theorem dX1_compares_51 : decode cX1_compares 51 = .ok (.iload_n 2, 1) := by decide +kernel
theorem dX1_compares_52 : decode cX1_compares 52 = .ok (.if_icmp .le 7, 3) := by decide +kernel
theorem dX1_compares_55 : decode cX1_compares 55 = .ok (.iconst 1, 1) := by decide +kernel
theorem dX1_compares_56 : decode cX1_compares 56 = .ok (.goto 4, 3) := by decide +kernel
theorem dX1_compares_59 : decode cX1_compares 59 = .ok (.iconst 0, 1) := by decide +kernel
theorem dX1_compares_60 : decode cX1_compares 60 = .ok (.ireturn, 1) := by decide +kernel
theorem dX2_init_0 : decode cX2_init 0 = .ok (.aload_n 0, 1) := by decide +kernel
theorem dX2_init_1 : decode cX2_init 1 = .ok (.iload_n 1, 1) := by decide +kernel
theorem dX2_init_2 : decode cX2_init 2 = .ok (.invokespecial 1, 3) := by decide +kernel
theorem dX2_init_5 : decode cX2_init 5 = .ok (.return_, 1) := by decide +kernel
theorem dX2_portion_0 : decode cX2_portion 0 = .ok (.iconst 1, 1) := by decide +kernel
theorem dX2_portion_1 : decode cX2_portion 1 = .ok (.aload_n 0, 1) := by decide +kernel
theorem dX2_portion_2 : decode cX2_portion 2 = .ok (.aload_n 1, 1) := by decide +kernel
theorem dX2_portion_3 : decode cX2_portion 3 = .ok (.invokespecial 7, 3) := by decide +kernel
theorem dX2_portion_6 : decode cX2_portion 6 = .ok (.iconst 2, 1) := by decide +kernel
theorem dX2_portion_7 : decode cX2_portion 7 = .ok (.isub, 1) := by decide +kernel
theorem dX2_portion_8 : decode cX2_portion 8 = .ok (.invokestatic 11, 3) := by decide +kernel
theorem dX2_portion_11 : decode cX2_portion 11 = .ok (.ireturn, 1) := by decide +kernel
theorem dX2_patience_0 : decode cX2_patience 0 = .ok (.iconst 0, 1) := by decide +kernel
theorem dX2_patience_1 : decode cX2_patience 1 = .ok (.aload_n 0, 1) := by decide +kernel
theorem dX2_patience_2 : decode cX2_patience 2 = .ok (.aload_n 1, 1) := by decide +kernel
theorem dX2_patience_3 : decode cX2_patience 3 = .ok (.invokespecial 17, 3) := by decide +kernel
theorem dX2_patience_6 : decode cX2_patience 6 = .ok (.aload_n 1, 1) := by decide +kernel
theorem dX2_patience_7 : decode cX2_patience 7 = .ok (.getfield 20, 3) := by decide +kernel
theorem dX2_patience_10 : decode cX2_patience 10 = .ok (.isub, 1) := by decide +kernel
theorem dX2_patience_11 : decode cX2_patience 11 = .ok (.invokestatic 11, 3) := by decide +kernel
theorem dX2_patience_14 : decode cX2_patience 14 = .ok (.ireturn, 1) := by decide +kernel
theorem dX2_asks_0 : decode cX2_asks 0 = .ok (.aload_n 3, 1) := by decide +kernel
theorem dX2_asks_1 : decode cX2_asks 1 = .ok (.bipush 50, 2) := by decide +kernel
theorem dX2_asks_3 : decode cX2_asks 3 = .ok (.invokestatic 26, 3) := by decide +kernel
theorem dX2_asks_6 : decode cX2_asks 6 = .ok (.invokevirtual 32, 3) := by decide +kernel
theorem dX2_asks_9 : decode cX2_asks 9 = .ok (.pop, 1) := by decide +kernel
theorem dX2_asks_10 : decode cX2_asks 10 = .ok (.aload_n 0, 1) := by decide +kernel
theorem dX2_asks_11 : decode cX2_asks 11 = .ok (.aload_n 1, 1) := by decide +kernel
theorem dX2_asks_12 : decode cX2_asks 12 = .ok (.iload_n 2, 1) := by decide +kernel
theorem dX2_asks_13 : decode cX2_asks 13 = .ok (.aload_n 3, 1) := by decide +kernel
theorem dX2_asks_14 : decode cX2_asks 14 = .ok (.invokespecial 38, 3) := by decide +kernel
theorem dX2_asks_17 : decode cX2_asks 17 = .ok (.ineg, 1) := by decide +kernel
theorem dX2_asks_18 : decode cX2_asks 18 = .ok (.ireturn, 1) := by decide +kernel
theorem dX2_buys_0 : decode cX2_buys 0 = .ok (.aload_n 3, 1) := by decide +kernel
theorem dX2_buys_1 : decode cX2_buys 1 = .ok (.bipush 51, 2) := by decide +kernel
theorem dX2_buys_3 : decode cX2_buys 3 = .ok (.invokestatic 26, 3) := by decide +kernel
theorem dX2_buys_6 : decode cX2_buys 6 = .ok (.invokevirtual 32, 3) := by decide +kernel
theorem dX2_buys_9 : decode cX2_buys 9 = .ok (.pop, 1) := by decide +kernel
theorem dX2_buys_10 : decode cX2_buys 10 = .ok (.aload_n 0, 1) := by decide +kernel
theorem dX2_buys_11 : decode cX2_buys 11 = .ok (.aload_n 1, 1) := by decide +kernel
theorem dX2_buys_12 : decode cX2_buys 12 = .ok (.iload_n 2, 1) := by decide +kernel
theorem dX2_buys_13 : decode cX2_buys 13 = .ok (.iconst 1, 1) := by decide +kernel
theorem dX2_buys_14 : decode cX2_buys 14 = .ok (.iadd, 1) := by decide +kernel
theorem dX2_buys_15 : decode cX2_buys 15 = .ok (.aload_n 3, 1) := by decide +kernel
theorem dX2_buys_16 : decode cX2_buys 16 = .ok (.invokespecial 42, 3) := by decide +kernel
theorem dX2_buys_19 : decode cX2_buys 19 = .ok (.ireturn, 1) := by decide +kernel
theorem dX3_init_0 : decode cX3_init 0 = .ok (.aload_n 0, 1) := by decide +kernel
theorem dX3_init_1 : decode cX3_init 1 = .ok (.invokespecial 3, 3) := by decide +kernel
theorem dX3_init_4 : decode cX3_init 4 = .ok (.aload_n 0, 1) := by decide +kernel
theorem dX3_init_5 : decode cX3_init 5 = .ok (.iconst 4, 1) := by decide +kernel
theorem dX3_init_6 : decode cX3_init 6 = .ok (.newarray .int, 2) := by decide +kernel
theorem dX3_init_8 : decode cX3_init 8 = .ok (.putfield 9, 3) := by decide +kernel
theorem dX3_init_11 : decode cX3_init 11 = .ok (.aload_n 0, 1) := by decide +kernel
theorem dX3_init_12 : decode cX3_init 12 = .ok (.iconst 0, 1) := by decide +kernel
theorem dX3_init_13 : decode cX3_init 13 = .ok (.putfield 15, 3) := by decide +kernel
theorem dX3_init_16 : decode cX3_init 16 = .ok (.aload_n 0, 1) := by decide +kernel
theorem dX3_init_17 : decode cX3_init 17 = .ok (.iconst 0, 1) := by decide +kernel
theorem dX3_init_18 : decode cX3_init 18 = .ok (.putfield 19, 3) := by decide +kernel
theorem dX3_init_21 : decode cX3_init 21 = .ok (.aload_n 0, 1) := by decide +kernel
theorem dX3_init_22 : decode cX3_init 22 = .ok (.iconst 0, 1) := by decide +kernel
theorem dX3_init_23 : decode cX3_init 23 = .ok (.putfield 22, 3) := by decide +kernel
theorem dX3_init_26 : decode cX3_init 26 = .ok (.aload_n 0, 1) := by decide +kernel
theorem dX3_init_27 : decode cX3_init 27 = .ok (.iconst 0, 1) := by decide +kernel
theorem dX3_init_28 : decode cX3_init 28 = .ok (.putfield 25, 3) := by decide +kernel
theorem dX3_init_31 : decode cX3_init 31 = .ok (.aload_n 0, 1) := by decide +kernel
theorem dX3_init_32 : decode cX3_init 32 = .ok (.iconst 0, 1) := by decide +kernel
theorem dX3_init_33 : decode cX3_init 33 = .ok (.putfield 28, 3) := by decide +kernel
theorem dX3_init_36 : decode cX3_init 36 = .ok (.aload_n 0, 1) := by decide +kernel
theorem dX3_init_37 : decode cX3_init 37 = .ok (.iconst 0, 1) := by decide +kernel
theorem dX3_init_38 : decode cX3_init 38 = .ok (.putfield 31, 3) := by decide +kernel
theorem dX3_init_41 : decode cX3_init 41 = .ok (.aload_n 0, 1) := by decide +kernel
theorem dX3_init_42 : decode cX3_init 42 = .ok (.iconst 0, 1) := by decide +kernel
theorem dX3_init_43 : decode cX3_init 43 = .ok (.putfield 34, 3) := by decide +kernel
theorem dX3_init_46 : decode cX3_init 46 = .ok (.aload_n 0, 1) := by decide +kernel
theorem dX3_init_47 : decode cX3_init 47 = .ok (.iload_n 1, 1) := by decide +kernel
theorem dX3_init_48 : decode cX3_init 48 = .ok (.putfield 38, 3) := by decide +kernel
theorem dX3_init_51 : decode cX3_init 51 = .ok (.aload_n 0, 1) := by decide +kernel
theorem dX3_init_52 : decode cX3_init 52 = .ok (.aload_n 2, 1) := by decide +kernel
theorem dX3_init_53 : decode cX3_init 53 = .ok (.putfield 41, 3) := by decide +kernel
theorem dX3_init_56 : decode cX3_init 56 = .ok (.return_, 1) := by decide +kernel
theorem dX3_begin_0 : decode cX3_begin 0 = .ok (.aload_n 0, 1) := by decide +kernel
theorem dX3_begin_1 : decode cX3_begin 1 = .ok (.aload_n 1, 1) := by decide +kernel
theorem dX3_begin_2 : decode cX3_begin 2 = .ok (.putfield 41, 3) := by decide +kernel
theorem dX3_begin_5 : decode cX3_begin 5 = .ok (.aload_n 0, 1) := by decide +kernel
theorem dX3_begin_6 : decode cX3_begin 6 = .ok (.iload_n 2, 1) := by decide +kernel
theorem dX3_begin_7 : decode cX3_begin 7 = .ok (.putfield 15, 3) := by decide +kernel
theorem dX3_begin_10 : decode cX3_begin 10 = .ok (.aload_n 0, 1) := by decide +kernel
theorem dX3_begin_11 : decode cX3_begin 11 = .ok (.iload_n 3, 1) := by decide +kernel
theorem dX3_begin_12 : decode cX3_begin 12 = .ok (.putfield 19, 3) := by decide +kernel
theorem dX3_begin_15 : decode cX3_begin 15 = .ok (.aload_n 0, 1) := by decide +kernel
theorem dX3_begin_16 : decode cX3_begin 16 = .ok (.iconst 3, 1) := by decide +kernel
theorem dX3_begin_17 : decode cX3_begin 17 = .ok (.putfield 22, 3) := by decide +kernel
theorem dX3_begin_20 : decode cX3_begin 20 = .ok (.aload_n 0, 1) := by decide +kernel
theorem dX3_begin_21 : decode cX3_begin 21 = .ok (.iconst 0, 1) := by decide +kernel
theorem dX3_begin_22 : decode cX3_begin 22 = .ok (.putfield 25, 3) := by decide +kernel
theorem dX3_begin_25 : decode cX3_begin 25 = .ok (.aload_n 0, 1) := by decide +kernel
theorem dX3_begin_26 : decode cX3_begin 26 = .ok (.iconst 0, 1) := by decide +kernel
theorem dX3_begin_27 : decode cX3_begin 27 = .ok (.putfield 28, 3) := by decide +kernel
theorem dX3_begin_30 : decode cX3_begin 30 = .ok (.aload_n 0, 1) := by decide +kernel
theorem dX3_begin_31 : decode cX3_begin 31 = .ok (.iconst 0, 1) := by decide +kernel
theorem dX3_begin_32 : decode cX3_begin 32 = .ok (.putfield 31, 3) := by decide +kernel
theorem dX3_begin_35 : decode cX3_begin 35 = .ok (.aload_n 0, 1) := by decide +kernel
theorem dX3_begin_36 : decode cX3_begin 36 = .ok (.iconst 0, 1) := by decide +kernel
theorem dX3_begin_37 : decode cX3_begin 37 = .ok (.putfield 34, 3) := by decide +kernel
theorem dX3_begin_40 : decode cX3_begin 40 = .ok (.aload_n 0, 1) := by decide +kernel
theorem dX3_begin_41 : decode cX3_begin 41 = .ok (.getfield 9, 3) := by decide +kernel
theorem dX3_begin_44 : decode cX3_begin 44 = .ok (.iconst 0, 1) := by decide +kernel
theorem dX3_begin_45 : decode cX3_begin 45 = .ok (.invokestatic 45, 3) := by decide +kernel
theorem dX3_begin_48 : decode cX3_begin 48 = .ok (.return_, 1) := by decide +kernel
theorem dX3_become_0 : decode cX3_become 0 = .ok (.aload_n 0, 1) := by decide +kernel
theorem dX3_become_1 : decode cX3_become 1 = .ok (.aload_n 1, 1) := by decide +kernel
theorem dX3_become_2 : decode cX3_become 2 = .ok (.getfield 41, 3) := by decide +kernel
theorem dX3_become_5 : decode cX3_become 5 = .ok (.putfield 41, 3) := by decide +kernel
theorem dX3_become_8 : decode cX3_become 8 = .ok (.aload_n 0, 1) := by decide +kernel
theorem dX3_become_9 : decode cX3_become 9 = .ok (.aload_n 1, 1) := by decide +kernel
theorem dX3_become_10 : decode cX3_become 10 = .ok (.getfield 15, 3) := by decide +kernel
theorem dX3_become_13 : decode cX3_become 13 = .ok (.putfield 15, 3) := by decide +kernel
theorem dX3_become_16 : decode cX3_become 16 = .ok (.aload_n 0, 1) := by decide +kernel
theorem dX3_become_17 : decode cX3_become 17 = .ok (.aload_n 1, 1) := by decide +kernel
theorem dX3_become_18 : decode cX3_become 18 = .ok (.getfield 19, 3) := by decide +kernel
theorem dX3_become_21 : decode cX3_become 21 = .ok (.putfield 19, 3) := by decide +kernel
theorem dX3_become_24 : decode cX3_become 24 = .ok (.aload_n 0, 1) := by decide +kernel
theorem dX3_become_25 : decode cX3_become 25 = .ok (.aload_n 1, 1) := by decide +kernel
theorem dX3_become_26 : decode cX3_become 26 = .ok (.getfield 22, 3) := by decide +kernel
theorem dX3_become_29 : decode cX3_become 29 = .ok (.putfield 22, 3) := by decide +kernel
theorem dX3_become_32 : decode cX3_become 32 = .ok (.aload_n 0, 1) := by decide +kernel
theorem dX3_become_33 : decode cX3_become 33 = .ok (.aload_n 1, 1) := by decide +kernel
theorem dX3_become_34 : decode cX3_become 34 = .ok (.getfield 25, 3) := by decide +kernel
theorem dX3_become_37 : decode cX3_become 37 = .ok (.putfield 25, 3) := by decide +kernel
theorem dX3_become_40 : decode cX3_become 40 = .ok (.aload_n 0, 1) := by decide +kernel
theorem dX3_become_41 : decode cX3_become 41 = .ok (.aload_n 1, 1) := by decide +kernel
theorem dX3_become_42 : decode cX3_become 42 = .ok (.getfield 28, 3) := by decide +kernel
theorem dX3_become_45 : decode cX3_become 45 = .ok (.putfield 28, 3) := by decide +kernel
theorem dX3_become_48 : decode cX3_become 48 = .ok (.aload_n 0, 1) := by decide +kernel
theorem dX3_become_49 : decode cX3_become 49 = .ok (.aload_n 1, 1) := by decide +kernel
theorem dX3_become_50 : decode cX3_become 50 = .ok (.getfield 31, 3) := by decide +kernel
theorem dX3_become_53 : decode cX3_become 53 = .ok (.putfield 31, 3) := by decide +kernel
theorem dX3_become_56 : decode cX3_become 56 = .ok (.aload_n 0, 1) := by decide +kernel
theorem dX3_become_57 : decode cX3_become 57 = .ok (.aload_n 1, 1) := by decide +kernel
theorem dX3_become_58 : decode cX3_become 58 = .ok (.getfield 34, 3) := by decide +kernel
theorem dX3_become_61 : decode cX3_become 61 = .ok (.putfield 34, 3) := by decide +kernel
theorem dX3_become_64 : decode cX3_become 64 = .ok (.aload_n 1, 1) := by decide +kernel
theorem dX3_become_65 : decode cX3_become 65 = .ok (.getfield 9, 3) := by decide +kernel
theorem dX3_become_68 : decode cX3_become 68 = .ok (.iconst 0, 1) := by decide +kernel
theorem dX3_become_69 : decode cX3_become 69 = .ok (.aload_n 0, 1) := by decide +kernel
theorem dX3_become_70 : decode cX3_become 70 = .ok (.getfield 9, 3) := by decide +kernel
theorem dX3_become_73 : decode cX3_become 73 = .ok (.iconst 0, 1) := by decide +kernel
theorem dX3_become_74 : decode cX3_become 74 = .ok (.iconst 4, 1) := by decide +kernel
theorem dX3_become_75 : decode cX3_become 75 = .ok (.invokestatic 51, 3) := by decide +kernel
theorem dX3_become_78 : decode cX3_become 78 = .ok (.return_, 1) := by decide +kernel
theorem dX3_saysNo_0 : decode cX3_saysNo 0 = .ok (.aload_n 0, 1) := by decide +kernel
theorem dX3_saysNo_1 : decode cX3_saysNo 1 = .ok (.bipush 99, 2) := by decide +kernel
theorem dX3_saysNo_3 : decode cX3_saysNo 3 = .ok (.aload_n 0, 1) := by decide +kernel
theorem dX3_saysNo_4 : decode cX3_saysNo 4 = .ok (.getfield 28, 3) := by decide +kernel
theorem dX3_saysNo_7 : decode cX3_saysNo 7 = .ok (.iconst 1, 1) := by decide +kernel
theorem dX3_saysNo_8 : decode cX3_saysNo 8 = .ok (.iadd, 1) := by decide +kernel
theorem dX3_saysNo_9 : decode cX3_saysNo 9 = .ok (.invokestatic 57, 3) := by decide +kernel
theorem dX3_saysNo_12 : decode cX3_saysNo 12 = .ok (.putfield 28, 3) := by decide +kernel
theorem dX3_saysNo_15 : decode cX3_saysNo 15 = .ok (.aload_n 0, 1) := by decide +kernel
theorem dX3_saysNo_16 : decode cX3_saysNo 16 = .ok (.iconst 0, 1) := by decide +kernel
theorem dX3_saysNo_17 : decode cX3_saysNo 17 = .ok (.aload_n 0, 1) := by decide +kernel
theorem dX3_saysNo_18 : decode cX3_saysNo 18 = .ok (.getfield 22, 3) := by decide +kernel
theorem dX3_saysNo_21 : decode cX3_saysNo 21 = .ok (.iconst 2, 1) := by decide +kernel
theorem dX3_saysNo_22 : decode cX3_saysNo 22 = .ok (.isub, 1) := by decide +kernel
theorem dX3_saysNo_23 : decode cX3_saysNo 23 = .ok (.invokestatic 63, 3) := by decide +kernel
theorem dX3_saysNo_26 : decode cX3_saysNo 26 = .ok (.putfield 22, 3) := by decide +kernel
theorem dX3_saysNo_29 : decode cX3_saysNo 29 = .ok (.aload_n 0, 1) := by decide +kernel
theorem dX3_saysNo_30 : decode cX3_saysNo 30 = .ok (.getfield 41, 3) := by decide +kernel
theorem dX3_saysNo_33 : decode cX3_saysNo 33 = .ok (.aload_n 0, 1) := by decide +kernel
theorem dX3_saysNo_34 : decode cX3_saysNo 34 = .ok (.invokevirtual 66, 3) := by decide +kernel
theorem dX3_saysNo_37 : decode cX3_saysNo 37 = .ok (.ifCond .eq 8, 3) := by decide +kernel
theorem dX3_saysNo_40 : decode cX3_saysNo 40 = .ok (.aload_n 0, 1) := by decide +kernel
theorem dX3_saysNo_41 : decode cX3_saysNo 41 = .ok (.iconst 1, 1) := by decide +kernel
theorem dX3_saysNo_42 : decode cX3_saysNo 42 = .ok (.putfield 34, 3) := by decide +kernel
theorem dX3_saysNo_45 : decode cX3_saysNo 45 = .ok (.return_, 1) := by decide +kernel
theorem dX4_init_0 : decode cX4_init 0 = .ok (.aload_n 0, 1) := by decide +kernel
theorem dX4_init_1 : decode cX4_init 1 = .ok (.iload_n 1, 1) := by decide +kernel
theorem dX4_init_2 : decode cX4_init 2 = .ok (.invokespecial 1, 3) := by decide +kernel
theorem dX4_init_5 : decode cX4_init 5 = .ok (.return_, 1) := by decide +kernel
theorem dX4_patience_0 : decode cX4_patience 0 = .ok (.aload_n 1, 1) := by decide +kernel
theorem dX4_patience_1 : decode cX4_patience 1 = .ok (.getfield 7, 3) := by decide +kernel
theorem dX4_patience_4 : decode cX4_patience 4 = .ok (.iconst 2, 1) := by decide +kernel
theorem dX4_patience_5 : decode cX4_patience 5 = .ok (.imul, 1) := by decide +kernel
theorem dX4_patience_6 : decode cX4_patience 6 = .ok (.ireturn, 1) := by decide +kernel
theorem dX4_asks_0 : decode cX4_asks 0 = .ok (.aload_n 3, 1) := by decide +kernel
theorem dX4_asks_1 : decode cX4_asks 1 = .ok (.bipush 30, 2) := by decide +kernel
theorem dX4_asks_3 : decode cX4_asks 3 = .ok (.invokestatic 13, 3) := by decide +kernel
theorem dX4_asks_6 : decode cX4_asks 6 = .ok (.invokevirtual 19, 3) := by decide +kernel
theorem dX4_asks_9 : decode cX4_asks 9 = .ok (.pop, 1) := by decide +kernel
theorem dX4_asks_10 : decode cX4_asks 10 = .ok (.aload_n 0, 1) := by decide +kernel
theorem dX4_asks_11 : decode cX4_asks 11 = .ok (.aload_n 1, 1) := by decide +kernel
theorem dX4_asks_12 : decode cX4_asks 12 = .ok (.iload_n 2, 1) := by decide +kernel
theorem dX4_asks_13 : decode cX4_asks 13 = .ok (.iconst 3, 1) := by decide +kernel
theorem dX4_asks_14 : decode cX4_asks 14 = .ok (.imul, 1) := by decide +kernel
theorem dX4_asks_15 : decode cX4_asks 15 = .ok (.aload_n 3, 1) := by decide +kernel
theorem dX4_asks_16 : decode cX4_asks 16 = .ok (.invokespecial 25, 3) := by decide +kernel
theorem dX4_asks_19 : decode cX4_asks 19 = .ok (.ireturn, 1) := by decide +kernel
theorem dX5_init_0 : decode cX5_init 0 = .ok (.aload_n 0, 1) := by decide +kernel
theorem dX5_init_1 : decode cX5_init 1 = .ok (.invokespecial 1, 3) := by decide +kernel
theorem dX5_init_4 : decode cX5_init 4 = .ok (.aload_n 0, 1) := by decide +kernel
theorem dX5_init_5 : decode cX5_init 5 = .ok (.iload_n 1, 1) := by decide +kernel
theorem dX5_init_6 : decode cX5_init 6 = .ok (.putfield 7, 3) := by decide +kernel
theorem dX5_init_9 : decode cX5_init 9 = .ok (.return_, 1) := by decide +kernel
theorem dX5_portion_0 : decode cX5_portion 0 = .ok (.aload_n 1, 1) := by decide +kernel
theorem dX5_portion_1 : decode cX5_portion 1 = .ok (.getfield 13, 3) := by decide +kernel
theorem dX5_portion_4 : decode cX5_portion 4 = .ok (.ireturn, 1) := by decide +kernel
theorem dX5_patience_0 : decode cX5_patience 0 = .ok (.aload_n 1, 1) := by decide +kernel
theorem dX5_patience_1 : decode cX5_patience 1 = .ok (.getfield 18, 3) := by decide +kernel
theorem dX5_patience_4 : decode cX5_patience 4 = .ok (.ireturn, 1) := by decide +kernel
theorem dX5_leaves_0 : decode cX5_leaves 0 = .ok (.iconst 0, 1) := by decide +kernel
theorem dX5_leaves_1 : decode cX5_leaves 1 = .ok (.ireturn, 1) := by decide +kernel
theorem dX5_asks_0 : decode cX5_asks 0 = .ok (.aload_n 3, 1) := by decide +kernel
theorem dX5_asks_1 : decode cX5_asks 1 = .ok (.bipush 10, 2) := by decide +kernel
theorem dX5_asks_3 : decode cX5_asks 3 = .ok (.invokestatic 21, 3) := by decide +kernel
theorem dX5_asks_6 : decode cX5_asks 6 = .ok (.invokevirtual 27, 3) := by decide +kernel
theorem dX5_asks_9 : decode cX5_asks 9 = .ok (.pop, 1) := by decide +kernel
theorem dX5_asks_10 : decode cX5_asks 10 = .ok (.iload_n 2, 1) := by decide +kernel
theorem dX5_asks_11 : decode cX5_asks 11 = .ok (.aload_n 1, 1) := by decide +kernel
theorem dX5_asks_12 : decode cX5_asks 12 = .ok (.getfield 33, 3) := by decide +kernel
theorem dX5_asks_15 : decode cX5_asks 15 = .ok (.iadd, 1) := by decide +kernel
theorem dX5_asks_16 : decode cX5_asks 16 = .ok (.ireturn, 1) := by decide +kernel
theorem dX5_buys_0 : decode cX5_buys 0 = .ok (.aload_n 3, 1) := by decide +kernel
theorem dX5_buys_1 : decode cX5_buys 1 = .ok (.bipush 11, 2) := by decide +kernel
theorem dX5_buys_3 : decode cX5_buys 3 = .ok (.invokestatic 21, 3) := by decide +kernel
theorem dX5_buys_6 : decode cX5_buys 6 = .ok (.invokevirtual 27, 3) := by decide +kernel
theorem dX5_buys_9 : decode cX5_buys 9 = .ok (.pop, 1) := by decide +kernel
theorem dX5_buys_10 : decode cX5_buys 10 = .ok (.aload_n 0, 1) := by decide +kernel
theorem dX5_buys_11 : decode cX5_buys 11 = .ok (.aload_n 1, 1) := by decide +kernel
theorem dX5_buys_12 : decode cX5_buys 12 = .ok (.iload_n 2, 1) := by decide +kernel
theorem dX5_buys_13 : decode cX5_buys 13 = .ok (.aload_n 3, 1) := by decide +kernel
theorem dX5_buys_14 : decode cX5_buys 14 = .ok (.invokevirtual 34, 3) := by decide +kernel
theorem dX5_buys_17 : decode cX5_buys 17 = .ok (.aload_n 1, 1) := by decide +kernel
theorem dX5_buys_18 : decode cX5_buys 18 = .ok (.getfield 18, 3) := by decide +kernel
theorem dX5_buys_21 : decode cX5_buys 21 = .ok (.isub, 1) := by decide +kernel
theorem dX5_buys_22 : decode cX5_buys 22 = .ok (.ireturn, 1) := by decide +kernel
theorem dX5_tells_0 : decode cX5_tells 0 = .ok (.aload_n 3, 1) := by decide +kernel
theorem dX5_tells_1 : decode cX5_tells 1 = .ok (.bipush 12, 2) := by decide +kernel
theorem dX5_tells_3 : decode cX5_tells 3 = .ok (.invokestatic 21, 3) := by decide +kernel
theorem dX5_tells_6 : decode cX5_tells 6 = .ok (.invokevirtual 27, 3) := by decide +kernel
theorem dX5_tells_9 : decode cX5_tells 9 = .ok (.pop, 1) := by decide +kernel
theorem dX5_tells_10 : decode cX5_tells 10 = .ok (.aload_n 0, 1) := by decide +kernel
theorem dX5_tells_11 : decode cX5_tells 11 = .ok (.aload_n 1, 1) := by decide +kernel
theorem dX5_tells_12 : decode cX5_tells 12 = .ok (.iload_n 2, 1) := by decide +kernel
theorem dX5_tells_13 : decode cX5_tells 13 = .ok (.aload_n 3, 1) := by decide +kernel
theorem dX5_tells_14 : decode cX5_tells 14 = .ok (.invokevirtual 38, 3) := by decide +kernel
theorem dX5_tells_17 : decode cX5_tells 17 = .ok (.iconst 2, 1) := by decide +kernel
theorem dX5_tells_18 : decode cX5_tells 18 = .ok (.imul, 1) := by decide +kernel
theorem dX5_tells_19 : decode cX5_tells 19 = .ok (.ireturn, 1) := by decide +kernel
theorem dX6_init_0 : decode cX6_init 0 = .ok (.aload_n 0, 1) := by decide +kernel
theorem dX6_init_1 : decode cX6_init 1 = .ok (.iload_n 1, 1) := by decide +kernel
theorem dX6_init_2 : decode cX6_init 2 = .ok (.invokespecial 3, 3) := by decide +kernel
theorem dX6_init_5 : decode cX6_init 5 = .ok (.return_, 1) := by decide +kernel
theorem dX6_leaves_0 : decode cX6_leaves 0 = .ok (.aload_n 1, 1) := by decide +kernel
theorem dX6_leaves_1 : decode cX6_leaves 1 = .ok (.getfield 9, 3) := by decide +kernel
theorem dX6_leaves_4 : decode cX6_leaves 4 = .ok (.iconst 3, 1) := by decide +kernel
theorem dX6_leaves_5 : decode cX6_leaves 5 = .ok (.if_icmp .lt 7, 3) := by decide +kernel
theorem dX6_leaves_8 : decode cX6_leaves 8 = .ok (.iconst 1, 1) := by decide +kernel
theorem dX6_leaves_9 : decode cX6_leaves 9 = .ok (.goto 4, 3) := by decide +kernel
theorem dX6_leaves_12 : decode cX6_leaves 12 = .ok (.iconst 0, 1) := by decide +kernel
theorem dX6_leaves_13 : decode cX6_leaves 13 = .ok (.ireturn, 1) := by decide +kernel
theorem dX6_tells_0 : decode cX6_tells 0 = .ok (.aload_n 3, 1) := by decide +kernel
theorem dX6_tells_1 : decode cX6_tells 1 = .ok (.bipush 60, 2) := by decide +kernel
theorem dX6_tells_3 : decode cX6_tells 3 = .ok (.invokestatic 15, 3) := by decide +kernel
theorem dX6_tells_6 : decode cX6_tells 6 = .ok (.invokevirtual 21, 3) := by decide +kernel
theorem dX6_tells_9 : decode cX6_tells 9 = .ok (.pop, 1) := by decide +kernel
theorem dX6_tells_10 : decode cX6_tells 10 = .ok (.aload_n 0, 1) := by decide +kernel
theorem dX6_tells_11 : decode cX6_tells 11 = .ok (.aload_n 1, 1) := by decide +kernel
theorem dX6_tells_12 : decode cX6_tells 12 = .ok (.iload_n 2, 1) := by decide +kernel
theorem dX6_tells_13 : decode cX6_tells 13 = .ok (.aload_n 1, 1) := by decide +kernel
theorem dX6_tells_14 : decode cX6_tells 14 = .ok (.getfield 27, 3) := by decide +kernel
theorem dX6_tells_17 : decode cX6_tells 17 = .ok (.isub, 1) := by decide +kernel
theorem dX6_tells_18 : decode cX6_tells 18 = .ok (.aload_n 3, 1) := by decide +kernel
theorem dX6_tells_19 : decode cX6_tells 19 = .ok (.invokespecial 30, 3) := by decide +kernel
theorem dX6_tells_22 : decode cX6_tells 22 = .ok (.ireturn, 1) := by decide +kernel
theorem dX7_init_0 : decode cX7_init 0 = .ok (.aload_n 0, 1) := by decide +kernel
theorem dX7_init_1 : decode cX7_init 1 = .ok (.invokespecial 3, 3) := by decide +kernel
theorem dX7_init_4 : decode cX7_init 4 = .ok (.aload_n 0, 1) := by decide +kernel
theorem dX7_init_5 : decode cX7_init 5 = .ok (.bipush 6, 2) := by decide +kernel
theorem dX7_init_7 : decode cX7_init 7 = .ok (.anewarray 9, 3) := by decide +kernel
theorem dX7_init_10 : decode cX7_init 10 = .ok (.putfield 11, 3) := by decide +kernel
theorem dX7_init_13 : decode cX7_init 13 = .ok (.aload_n 0, 1) := by decide +kernel
theorem dX7_init_14 : decode cX7_init 14 = .ok (.iconst 4, 1) := by decide +kernel
theorem dX7_init_15 : decode cX7_init 15 = .ok (.newarray .int, 2) := by decide +kernel
theorem dX7_init_17 : decode cX7_init 17 = .ok (.putfield 17, 3) := by decide +kernel
theorem dX7_init_20 : decode cX7_init 20 = .ok (.aload_n 0, 1) := by decide +kernel
theorem dX7_init_21 : decode cX7_init 21 = .ok (.bipush 8, 2) := by decide +kernel
theorem dX7_init_23 : decode cX7_init 23 = .ok (.newarray .int, 2) := by decide +kernel
theorem dX7_init_25 : decode cX7_init 25 = .ok (.putfield 21, 3) := by decide +kernel
theorem dX7_init_28 : decode cX7_init 28 = .ok (.aload_n 0, 1) := by decide +kernel
theorem dX7_init_29 : decode cX7_init 29 = .ok (.iconst 0, 1) := by decide +kernel
theorem dX7_init_30 : decode cX7_init 30 = .ok (.putfield 24, 3) := by decide +kernel
theorem dX7_init_33 : decode cX7_init 33 = .ok (.aload_n 0, 1) := by decide +kernel
theorem dX7_init_34 : decode cX7_init 34 = .ok (.iconst 0, 1) := by decide +kernel
theorem dX7_init_35 : decode cX7_init 35 = .ok (.putfield 28, 3) := by decide +kernel
theorem dX7_init_38 : decode cX7_init 38 = .ok (.aload_n 0, 1) := by decide +kernel
theorem dX7_init_39 : decode cX7_init 39 = .ok (.iconst 0, 1) := by decide +kernel
theorem dX7_init_40 : decode cX7_init 40 = .ok (.putfield 31, 3) := by decide +kernel
theorem dX7_init_43 : decode cX7_init 43 = .ok (.aload_n 0, 1) := by decide +kernel
theorem dX7_init_44 : decode cX7_init 44 = .ok (.iconst 2, 1) := by decide +kernel
theorem dX7_init_45 : decode cX7_init 45 = .ok (.putfield 34, 3) := by decide +kernel
theorem dX7_init_48 : decode cX7_init 48 = .ok (.aload_n 0, 1) := by decide +kernel
theorem dX7_init_49 : decode cX7_init 49 = .ok (.new 37, 3) := by decide +kernel
theorem dX7_init_52 : decode cX7_init 52 = .ok (.dup, 1) := by decide +kernel
theorem dX7_init_53 : decode cX7_init 53 = .ok (.invokespecial 39, 3) := by decide +kernel
theorem dX7_init_56 : decode cX7_init 56 = .ok (.putfield 40, 3) := by decide +kernel
theorem dX7_init_59 : decode cX7_init 59 = .ok (.iconst 0, 1) := by decide +kernel
theorem dX7_init_60 : decode cX7_init 60 = .ok (.istore_n 2, 1) := by decide +kernel
theorem dX7_init_61 : decode cX7_init 61 = .ok (.iload_n 2, 1) := by decide +kernel
theorem dX7_init_62 : decode cX7_init 62 = .ok (.bipush 6, 2) := by decide +kernel
theorem dX7_init_64 : decode cX7_init 64 = .ok (.if_icmp .ge 24, 3) := by decide +kernel
theorem dX7_init_67 : decode cX7_init 67 = .ok (.aload_n 0, 1) := by decide +kernel
theorem dX7_init_68 : decode cX7_init 68 = .ok (.getfield 11, 3) := by decide +kernel
theorem dX7_init_71 : decode cX7_init 71 = .ok (.iload_n 2, 1) := by decide +kernel
theorem dX7_init_72 : decode cX7_init 72 = .ok (.new 9, 3) := by decide +kernel
theorem dX7_init_75 : decode cX7_init 75 = .ok (.dup, 1) := by decide +kernel
theorem dX7_init_76 : decode cX7_init 76 = .ok (.iload_n 2, 1) := by decide +kernel
theorem dX7_init_77 : decode cX7_init 77 = .ok (.aload_n 1, 1) := by decide +kernel
theorem dX7_init_78 : decode cX7_init 78 = .ok (.invokespecial 44, 3) := by decide +kernel
theorem dX7_init_81 : decode cX7_init 81 = .ok (.aastore, 1) := by decide +kernel
theorem dX7_init_82 : decode cX7_init 82 = .ok (.iinc 2 1, 3) := by decide +kernel
theorem dX7_init_85 : decode cX7_init 85 = .ok (.goto (-24), 3) := by decide +kernel
theorem dX7_init_88 : decode cX7_init 88 = .ok (.return_, 1) := by decide +kernel
theorem dX7_become_0 : decode cX7_become 0 = .ok (.iconst 0, 1) := by decide +kernel
theorem dX7_become_1 : decode cX7_become 1 = .ok (.istore_n 2, 1) := by decide +kernel
theorem dX7_become_2 : decode cX7_become 2 = .ok (.iload_n 2, 1) := by decide +kernel
theorem dX7_become_3 : decode cX7_become 3 = .ok (.aload_n 1, 1) := by decide +kernel
theorem dX7_become_4 : decode cX7_become 4 = .ok (.getfield 24, 3) := by decide +kernel
theorem dX7_become_7 : decode cX7_become 7 = .ok (.if_icmp .ge 24, 3) := by decide +kernel
theorem dX7_become_10 : decode cX7_become 10 = .ok (.aload_n 0, 1) := by decide +kernel
theorem dX7_become_11 : decode cX7_become 11 = .ok (.getfield 11, 3) := by decide +kernel
theorem dX7_become_14 : decode cX7_become 14 = .ok (.iload_n 2, 1) := by decide +kernel
theorem dX7_become_15 : decode cX7_become 15 = .ok (.aaload, 1) := by decide +kernel
theorem dX7_become_16 : decode cX7_become 16 = .ok (.aload_n 1, 1) := by decide +kernel
theorem dX7_become_17 : decode cX7_become 17 = .ok (.getfield 11, 3) := by decide +kernel
theorem dX7_become_20 : decode cX7_become 20 = .ok (.iload_n 2, 1) := by decide +kernel
theorem dX7_become_21 : decode cX7_become 21 = .ok (.aaload, 1) := by decide +kernel
theorem dX7_become_22 : decode cX7_become 22 = .ok (.invokevirtual 47, 3) := by decide +kernel
theorem dX7_become_25 : decode cX7_become 25 = .ok (.iinc 2 1, 3) := by decide +kernel
theorem dX7_become_28 : decode cX7_become 28 = .ok (.goto (-26), 3) := by decide +kernel
theorem dX7_become_31 : decode cX7_become 31 = .ok (.aload_n 1, 1) := by decide +kernel
theorem dX7_become_32 : decode cX7_become 32 = .ok (.getfield 17, 3) := by decide +kernel
theorem dX7_become_35 : decode cX7_become 35 = .ok (.iconst 0, 1) := by decide +kernel
theorem dX7_become_36 : decode cX7_become 36 = .ok (.aload_n 0, 1) := by decide +kernel
theorem dX7_become_37 : decode cX7_become 37 = .ok (.getfield 17, 3) := by decide +kernel
theorem dX7_become_40 : decode cX7_become 40 = .ok (.iconst 0, 1) := by decide +kernel
theorem dX7_become_41 : decode cX7_become 41 = .ok (.iconst 4, 1) := by decide +kernel
theorem dX7_become_42 : decode cX7_become 42 = .ok (.invokestatic 51, 3) := by decide +kernel
theorem dX7_become_45 : decode cX7_become 45 = .ok (.aload_n 1, 1) := by decide +kernel
theorem dX7_become_46 : decode cX7_become 46 = .ok (.getfield 21, 3) := by decide +kernel
theorem dX7_become_49 : decode cX7_become 49 = .ok (.iconst 0, 1) := by decide +kernel
theorem dX7_become_50 : decode cX7_become 50 = .ok (.aload_n 0, 1) := by decide +kernel
theorem dX7_become_51 : decode cX7_become 51 = .ok (.getfield 21, 3) := by decide +kernel
theorem dX7_become_54 : decode cX7_become 54 = .ok (.iconst 0, 1) := by decide +kernel
theorem dX7_become_55 : decode cX7_become 55 = .ok (.bipush 8, 2) := by decide +kernel
theorem dX7_become_57 : decode cX7_become 57 = .ok (.invokestatic 51, 3) := by decide +kernel
theorem dX7_become_60 : decode cX7_become 60 = .ok (.aload_n 0, 1) := by decide +kernel
theorem dX7_become_61 : decode cX7_become 61 = .ok (.aload_n 1, 1) := by decide +kernel
theorem dX7_become_62 : decode cX7_become 62 = .ok (.getfield 24, 3) := by decide +kernel
theorem dX7_become_65 : decode cX7_become 65 = .ok (.putfield 24, 3) := by decide +kernel
theorem dX7_become_68 : decode cX7_become 68 = .ok (.aload_n 0, 1) := by decide +kernel
theorem dX7_become_69 : decode cX7_become 69 = .ok (.aload_n 1, 1) := by decide +kernel
theorem dX7_become_70 : decode cX7_become 70 = .ok (.getfield 28, 3) := by decide +kernel
theorem dX7_become_73 : decode cX7_become 73 = .ok (.putfield 28, 3) := by decide +kernel
theorem dX7_become_76 : decode cX7_become 76 = .ok (.aload_n 0, 1) := by decide +kernel
theorem dX7_become_77 : decode cX7_become 77 = .ok (.aload_n 1, 1) := by decide +kernel
theorem dX7_become_78 : decode cX7_become 78 = .ok (.getfield 31, 3) := by decide +kernel
theorem dX7_become_81 : decode cX7_become 81 = .ok (.putfield 31, 3) := by decide +kernel
theorem dX7_become_84 : decode cX7_become 84 = .ok (.aload_n 0, 1) := by decide +kernel
theorem dX7_become_85 : decode cX7_become 85 = .ok (.aload_n 1, 1) := by decide +kernel
theorem dX7_become_86 : decode cX7_become 86 = .ok (.getfield 34, 3) := by decide +kernel
theorem dX7_become_89 : decode cX7_become 89 = .ok (.putfield 34, 3) := by decide +kernel
theorem dX7_become_92 : decode cX7_become 92 = .ok (.aload_n 0, 1) := by decide +kernel
theorem dX7_become_93 : decode cX7_become 93 = .ok (.aload_n 1, 1) := by decide +kernel
theorem dX7_become_94 : decode cX7_become 94 = .ok (.getfield 40, 3) := by decide +kernel
theorem dX7_become_97 : decode cX7_become 97 = .ok (.putfield 40, 3) := by decide +kernel
theorem dX7_become_100 : decode cX7_become 100 = .ok (.return_, 1) := by decide +kernel
theorem dX7_at_0 : decode cX7_at 0 = .ok (.iload_n 1, 1) := by decide +kernel
theorem dX7_at_1 : decode cX7_at 1 = .ok (.ifCond .lt 11, 3) := by decide +kernel
theorem dX7_at_4 : decode cX7_at 4 = .ok (.iload_n 1, 1) := by decide +kernel
theorem dX7_at_5 : decode cX7_at 5 = .ok (.aload_n 0, 1) := by decide +kernel
theorem dX7_at_6 : decode cX7_at 6 = .ok (.getfield 24, 3) := by decide +kernel
theorem dX7_at_9 : decode cX7_at 9 = .ok (.if_icmp .lt 7, 3) := by decide +kernel
theorem dX7_at_12 : decode cX7_at 12 = .ok (.aconst_null, 1) := by decide +kernel
theorem dX7_at_13 : decode cX7_at 13 = .ok (.goto 9, 3) := by decide +kernel
theorem dX7_at_16 : decode cX7_at 16 = .ok (.aload_n 0, 1) := by decide +kernel
theorem dX7_at_17 : decode cX7_at 17 = .ok (.getfield 11, 3) := by decide +kernel
theorem dX7_at_20 : decode cX7_at 20 = .ok (.iload_n 1, 1) := by decide +kernel
theorem dX7_at_21 : decode cX7_at 21 = .ok (.aaload, 1) := by decide +kernel
theorem dX7_at_22 : decode cX7_at 22 = .ok (.areturn, 1) := by decide +kernel
theorem dX7_moreFor_0 : decode cX7_moreFor 0 = .ok (.iconst 0, 1) := by decide +kernel
theorem dX7_moreFor_1 : decode cX7_moreFor 1 = .ok (.aload_n 0, 1) := by decide +kernel
theorem dX7_moreFor_2 : decode cX7_moreFor 2 = .ok (.getfield 34, 3) := by decide +kernel
theorem dX7_moreFor_5 : decode cX7_moreFor 5 = .ok (.aload_n 1, 1) := by decide +kernel
theorem dX7_moreFor_6 : decode cX7_moreFor 6 = .ok (.getfield 57, 3) := by decide +kernel
theorem dX7_moreFor_9 : decode cX7_moreFor 9 = .ok (.iadd, 1) := by decide +kernel
theorem dX7_moreFor_10 : decode cX7_moreFor 10 = .ok (.aload_n 0, 1) := by decide +kernel
theorem dX7_moreFor_11 : decode cX7_moreFor 11 = .ok (.getfield 40, 3) := by decide +kernel
theorem dX7_moreFor_14 : decode cX7_moreFor 14 = .ok (.aload_n 1, 1) := by decide +kernel
theorem dX7_moreFor_15 : decode cX7_moreFor 15 = .ok (.invokevirtual 60, 3) := by decide +kernel
theorem dX7_moreFor_18 : decode cX7_moreFor 18 = .ok (.iadd, 1) := by decide +kernel
theorem dX7_moreFor_19 : decode cX7_moreFor 19 = .ok (.invokestatic 64, 3) := by decide +kernel
theorem dX7_moreFor_22 : decode cX7_moreFor 22 = .ok (.ireturn, 1) := by decide +kernel
theorem dX7_refuses_0 : decode cX7_refuses 0 = .ok (.aload_n 0, 1) := by decide +kernel
theorem dX7_refuses_1 : decode cX7_refuses 1 = .ok (.aload_n 1, 1) := by decide +kernel
theorem dX7_refuses_2 : decode cX7_refuses 2 = .ok (.invokevirtual 70, 3) := by decide +kernel
theorem dX7_refuses_5 : decode cX7_refuses 5 = .ok (.aload_n 1, 1) := by decide +kernel
theorem dX7_refuses_6 : decode cX7_refuses 6 = .ok (.getfield 73, 3) := by decide +kernel
theorem dX7_refuses_9 : decode cX7_refuses 9 = .ok (.aload_n 1, 1) := by decide +kernel
theorem dX7_refuses_10 : decode cX7_refuses 10 = .ok (.invokevirtual 77, 3) := by decide +kernel
theorem dX7_refuses_13 : decode cX7_refuses 13 = .ok (.if_icmp .le 7, 3) := by decide +kernel
theorem dX7_refuses_16 : decode cX7_refuses 16 = .ok (.iconst 1, 1) := by decide +kernel
theorem dX7_refuses_17 : decode cX7_refuses 17 = .ok (.goto 4, 3) := by decide +kernel
theorem dX7_refuses_20 : decode cX7_refuses 20 = .ok (.iconst 0, 1) := by decide +kernel
theorem dX7_refuses_21 : decode cX7_refuses 21 = .ok (.ireturn, 1) := by decide +kernel
theorem dX7_boughtBeyondAsked_0 : decode cX7_boughtBeyondAsked 0 = .ok (.aload_n 0, 1) := by decide +kernel
theorem dX7_boughtBeyondAsked_1 : decode cX7_boughtBeyondAsked 1 = .ok (.aload_n 1, 1) := by decide +kernel
theorem dX7_boughtBeyondAsked_2 : decode cX7_boughtBeyondAsked 2 = .ok (.invokevirtual 70, 3) := by decide +kernel
theorem dX7_boughtBeyondAsked_5 : decode cX7_boughtBeyondAsked 5 = .ok (.istore_n 2, 1) := by decide +kernel
theorem dX7_boughtBeyondAsked_6 : decode cX7_boughtBeyondAsked 6 = .ok (.iload_n 2, 1) := by decide +kernel
theorem dX7_boughtBeyondAsked_7 : decode cX7_boughtBeyondAsked 7 = .ok (.aload_n 1, 1) := by decide +kernel
theorem dX7_boughtBeyondAsked_8 : decode cX7_boughtBeyondAsked 8 = .ok (.getfield 73, 3) := by decide +kernel
theorem dX7_boughtBeyondAsked_11 : decode cX7_boughtBeyondAsked 11 = .ok (.aload_n 1, 1) := by decide +kernel
theorem dX7_boughtBeyondAsked_12 : decode cX7_boughtBeyondAsked 12 = .ok (.invokevirtual 77, 3) := by decide +kernel
theorem dX7_boughtBeyondAsked_15 : decode cX7_boughtBeyondAsked 15 = .ok (.if_icmp .le 9, 3) := by decide +kernel
theorem dX7_boughtBeyondAsked_18 : decode cX7_boughtBeyondAsked 18 = .ok (.iload_n 2, 1) := by decide +kernel
theorem dX7_boughtBeyondAsked_19 : decode cX7_boughtBeyondAsked 19 = .ok (.iconst 2, 1) := by decide +kernel
theorem dX7_boughtBeyondAsked_20 : decode cX7_boughtBeyondAsked 20 = .ok (.idiv, 1) := by decide +kernel
theorem dX7_boughtBeyondAsked_21 : decode cX7_boughtBeyondAsked 21 = .ok (.goto 4, 3) := by decide +kernel
theorem dX7_boughtBeyondAsked_24 : decode cX7_boughtBeyondAsked 24 = .ok (.iload_n 2, 1) := by decide +kernel
theorem dX7_boughtBeyondAsked_25 : decode cX7_boughtBeyondAsked 25 = .ok (.ireturn, 1) := by decide +kernel
theorem dX7_makeVisit_0 : decode cX7_makeVisit 0 = .ok (.aload_n 0, 1) := by decide +kernel
theorem dX7_makeVisit_1 : decode cX7_makeVisit 1 = .ok (.aload_n 1, 1) := by decide +kernel
theorem dX7_makeVisit_2 : decode cX7_makeVisit 2 = .ok (.invokevirtual 70, 3) := by decide +kernel
theorem dX7_makeVisit_5 : decode cX7_makeVisit 5 = .ok (.istore_n 2, 1) := by decide +kernel
theorem dX7_makeVisit_6 : decode cX7_makeVisit 6 = .ok (.iload_n 2, 1) := by decide +kernel
theorem dX7_makeVisit_7 : decode cX7_makeVisit 7 = .ok (.aload_n 1, 1) := by decide +kernel
theorem dX7_makeVisit_8 : decode cX7_makeVisit 8 = .ok (.getfield 73, 3) := by decide +kernel
theorem dX7_makeVisit_11 : decode cX7_makeVisit 11 = .ok (.aload_n 1, 1) := by decide +kernel
theorem dX7_makeVisit_12 : decode cX7_makeVisit 12 = .ok (.invokevirtual 77, 3) := by decide +kernel
theorem dX7_makeVisit_15 : decode cX7_makeVisit 15 = .ok (.if_icmp .le 7, 3) := by decide +kernel
theorem dX7_makeVisit_18 : decode cX7_makeVisit 18 = .ok (.iconst 1, 1) := by decide +kernel
theorem dX7_makeVisit_19 : decode cX7_makeVisit 19 = .ok (.goto 4, 3) := by decide +kernel
theorem dX7_makeVisit_22 : decode cX7_makeVisit 22 = .ok (.iconst 0, 1) := by decide +kernel
theorem dX7_makeVisit_23 : decode cX7_makeVisit 23 = .ok (.istore_n 3, 1) := by decide +kernel
theorem dX7_makeVisit_24 : decode cX7_makeVisit 24 = .ok (.aload_n 1, 1) := by decide +kernel
theorem dX7_makeVisit_25 : decode cX7_makeVisit 25 = .ok (.getfield 73, 3) := by decide +kernel
theorem dX7_makeVisit_28 : decode cX7_makeVisit 28 = .ok (.aload_n 1, 1) := by decide +kernel
theorem dX7_makeVisit_29 : decode cX7_makeVisit 29 = .ok (.invokevirtual 82, 3) := by decide +kernel
theorem dX7_makeVisit_32 : decode cX7_makeVisit 32 = .ok (.iload_n 3, 1) := by decide +kernel
theorem dX7_makeVisit_33 : decode cX7_makeVisit 33 = .ok (.ifCond .eq 9, 3) := by decide +kernel
theorem dX7_makeVisit_36 : decode cX7_makeVisit 36 = .ok (.iload_n 2, 1) := by decide +kernel
theorem dX7_makeVisit_37 : decode cX7_makeVisit 37 = .ok (.iconst 2, 1) := by decide +kernel
theorem dX7_makeVisit_38 : decode cX7_makeVisit 38 = .ok (.idiv, 1) := by decide +kernel
theorem dX7_makeVisit_39 : decode cX7_makeVisit 39 = .ok (.goto 4, 3) := by decide +kernel
theorem dX7_makeVisit_42 : decode cX7_makeVisit 42 = .ok (.iload_n 2, 1) := by decide +kernel
theorem dX7_makeVisit_43 : decode cX7_makeVisit 43 = .ok (.iadd, 1) := by decide +kernel
theorem dX7_makeVisit_44 : decode cX7_makeVisit 44 = .ok (.istore 4, 2) := by decide +kernel
theorem dX7_makeVisit_46 : decode cX7_makeVisit 46 = .ok (.iload_n 3, 1) := by decide +kernel
theorem dX7_makeVisit_47 : decode cX7_makeVisit 47 = .ok (.ifCond .eq 10, 3) := by decide +kernel
theorem dX7_makeVisit_50 : decode cX7_makeVisit 50 = .ok (.aload_n 1, 1) := by decide +kernel
theorem dX7_makeVisit_51 : decode cX7_makeVisit 51 = .ok (.invokevirtual 85, 3) := by decide +kernel
theorem dX7_makeVisit_54 : decode cX7_makeVisit 54 = .ok (.goto 24, 3) := by decide +kernel
theorem dX7_makeVisit_57 : decode cX7_makeVisit 57 = .ok (.aload_n 1, 1) := by decide +kernel
theorem dX7_makeVisit_58 : decode cX7_makeVisit 58 = .ok (.bipush 20, 2) := by decide +kernel
theorem dX7_makeVisit_60 : decode cX7_makeVisit 60 = .ok (.aload_n 1, 1) := by decide +kernel
theorem dX7_makeVisit_61 : decode cX7_makeVisit 61 = .ok (.getfield 57, 3) := by decide +kernel
theorem dX7_makeVisit_64 : decode cX7_makeVisit 64 = .ok (.aload_n 0, 1) := by decide +kernel
theorem dX7_makeVisit_65 : decode cX7_makeVisit 65 = .ok (.getfield 40, 3) := by decide +kernel
theorem dX7_makeVisit_68 : decode cX7_makeVisit 68 = .ok (.getfield 88, 3) := by decide +kernel
theorem dX7_makeVisit_71 : decode cX7_makeVisit 71 = .ok (.iadd, 1) := by decide +kernel
theorem dX7_makeVisit_72 : decode cX7_makeVisit 72 = .ok (.invokestatic 91, 3) := by decide +kernel
theorem dX7_makeVisit_75 : decode cX7_makeVisit 75 = .ok (.putfield 57, 3) := by decide +kernel
theorem dX7_makeVisit_78 : decode cX7_makeVisit 78 = .ok (.aload_n 1, 1) := by decide +kernel
theorem dX7_makeVisit_79 : decode cX7_makeVisit 79 = .ok (.bipush 99, 2) := by decide +kernel
theorem dX7_makeVisit_81 : decode cX7_makeVisit 81 = .ok (.iconst 0, 1) := by decide +kernel
theorem dX7_makeVisit_82 : decode cX7_makeVisit 82 = .ok (.iload 4, 2) := by decide +kernel
theorem dX7_makeVisit_84 : decode cX7_makeVisit 84 = .ok (.aload_n 1, 1) := by decide +kernel
theorem dX7_makeVisit_85 : decode cX7_makeVisit 85 = .ok (.getfield 94, 3) := by decide +kernel
theorem dX7_makeVisit_88 : decode cX7_makeVisit 88 = .ok (.isub, 1) := by decide +kernel
theorem dX7_makeVisit_89 : decode cX7_makeVisit 89 = .ok (.invokestatic 64, 3) := by decide +kernel
theorem dX7_makeVisit_92 : decode cX7_makeVisit 92 = .ok (.invokestatic 91, 3) := by decide +kernel
theorem dX7_makeVisit_95 : decode cX7_makeVisit 95 = .ok (.putfield 97, 3) := by decide +kernel
theorem dX7_makeVisit_98 : decode cX7_makeVisit 98 = .ok (.aload_n 1, 1) := by decide +kernel
theorem dX7_makeVisit_99 : decode cX7_makeVisit 99 = .ok (.dup, 1) := by decide +kernel
theorem dX7_makeVisit_100 : decode cX7_makeVisit 100 = .ok (.getfield 100, 3) := by decide +kernel
theorem dX7_makeVisit_103 : decode cX7_makeVisit 103 = .ok (.iconst 1, 1) := by decide +kernel
theorem dX7_makeVisit_104 : decode cX7_makeVisit 104 = .ok (.iadd, 1) := by decide +kernel
theorem dX7_makeVisit_105 : decode cX7_makeVisit 105 = .ok (.putfield 100, 3) := by decide +kernel
theorem dX7_makeVisit_108 : decode cX7_makeVisit 108 = .ok (.iload 4, 2) := by decide +kernel
theorem dX7_makeVisit_110 : decode cX7_makeVisit 110 = .ok (.ireturn, 1) := by decide +kernel
theorem dX7_makeVisitsAlone_0 : decode cX7_makeVisitsAlone 0 = .ok (.iconst 0, 1) := by decide +kernel
theorem dX7_makeVisitsAlone_1 : decode cX7_makeVisitsAlone 1 = .ok (.istore_n 3, 1) := by decide +kernel
theorem dX7_makeVisitsAlone_2 : decode cX7_makeVisitsAlone 2 = .ok (.iconst 0, 1) := by decide +kernel
theorem dX7_makeVisitsAlone_3 : decode cX7_makeVisitsAlone 3 = .ok (.istore 4, 2) := by decide +kernel
theorem dX7_makeVisitsAlone_5 : decode cX7_makeVisitsAlone 5 = .ok (.iload 4, 2) := by decide +kernel
theorem dX7_makeVisitsAlone_7 : decode cX7_makeVisitsAlone 7 = .ok (.iload_n 2, 1) := by decide +kernel
theorem dX7_makeVisitsAlone_8 : decode cX7_makeVisitsAlone 8 = .ok (.if_icmp .ge 24, 3) := by decide +kernel
theorem dX7_makeVisitsAlone_11 : decode cX7_makeVisitsAlone 11 = .ok (.aload_n 1, 1) := by decide +kernel
theorem dX7_makeVisitsAlone_12 : decode cX7_makeVisitsAlone 12 = .ok (.getfield 103, 3) := by decide +kernel
theorem dX7_makeVisitsAlone_15 : decode cX7_makeVisitsAlone 15 = .ok (.ifCond .ne 17, 3) := by decide +kernel
theorem dX7_makeVisitsAlone_18 : decode cX7_makeVisitsAlone 18 = .ok (.iload_n 3, 1) := by decide +kernel
theorem dX7_makeVisitsAlone_19 : decode cX7_makeVisitsAlone 19 = .ok (.aload_n 0, 1) := by decide +kernel
theorem dX7_makeVisitsAlone_20 : decode cX7_makeVisitsAlone 20 = .ok (.aload_n 1, 1) := by decide +kernel
theorem dX7_makeVisitsAlone_21 : decode cX7_makeVisitsAlone 21 = .ok (.invokevirtual 107, 3) := by decide +kernel
theorem dX7_makeVisitsAlone_24 : decode cX7_makeVisitsAlone 24 = .ok (.iadd, 1) := by decide +kernel
theorem dX7_makeVisitsAlone_25 : decode cX7_makeVisitsAlone 25 = .ok (.istore_n 3, 1) := by decide +kernel
theorem dX7_makeVisitsAlone_26 : decode cX7_makeVisitsAlone 26 = .ok (.iinc 4 1, 3) := by decide +kernel
theorem dX7_makeVisitsAlone_29 : decode cX7_makeVisitsAlone 29 = .ok (.goto (-24), 3) := by decide +kernel
theorem dX7_makeVisitsAlone_32 : decode cX7_makeVisitsAlone 32 = .ok (.iload_n 3, 1) := by decide +kernel
theorem dX7_makeVisitsAlone_33 : decode cX7_makeVisitsAlone 33 = .ok (.ireturn, 1) := by decide +kernel
theorem dX7_makeSaturday_0 : decode cX7_makeSaturday 0 = .ok (.iconst 0, 1) := by decide +kernel
theorem dX7_makeSaturday_1 : decode cX7_makeSaturday 1 = .ok (.istore_n 1, 1) := by decide +kernel
theorem dX7_makeSaturday_2 : decode cX7_makeSaturday 2 = .ok (.iconst 0, 1) := by decide +kernel
theorem dX7_makeSaturday_3 : decode cX7_makeSaturday 3 = .ok (.istore_n 2, 1) := by decide +kernel
theorem dX7_makeSaturday_4 : decode cX7_makeSaturday 4 = .ok (.iload_n 2, 1) := by decide +kernel
theorem dX7_makeSaturday_5 : decode cX7_makeSaturday 5 = .ok (.aload_n 0, 1) := by decide +kernel
theorem dX7_makeSaturday_6 : decode cX7_makeSaturday 6 = .ok (.getfield 24, 3) := by decide +kernel
theorem dX7_makeSaturday_9 : decode cX7_makeSaturday 9 = .ok (.if_icmp .ge 34, 3) := by decide +kernel
theorem dX7_makeSaturday_12 : decode cX7_makeSaturday 12 = .ok (.aload_n 0, 1) := by decide +kernel
theorem dX7_makeSaturday_13 : decode cX7_makeSaturday 13 = .ok (.getfield 11, 3) := by decide +kernel
theorem dX7_makeSaturday_16 : decode cX7_makeSaturday 16 = .ok (.iload_n 2, 1) := by decide +kernel
theorem dX7_makeSaturday_17 : decode cX7_makeSaturday 17 = .ok (.aaload, 1) := by decide +kernel
theorem dX7_makeSaturday_18 : decode cX7_makeSaturday 18 = .ok (.getfield 103, 3) := by decide +kernel
theorem dX7_makeSaturday_21 : decode cX7_makeSaturday 21 = .ok (.ifCond .ne 16, 3) := by decide +kernel
theorem dX7_makeSaturday_24 : decode cX7_makeSaturday 24 = .ok (.iload_n 1, 1) := by decide +kernel
theorem dX7_makeSaturday_25 : decode cX7_makeSaturday 25 = .ok (.aload_n 0, 1) := by decide +kernel
theorem dX7_makeSaturday_26 : decode cX7_makeSaturday 26 = .ok (.aload_n 0, 1) := by decide +kernel
theorem dX7_makeSaturday_27 : decode cX7_makeSaturday 27 = .ok (.getfield 11, 3) := by decide +kernel
theorem dX7_makeSaturday_30 : decode cX7_makeSaturday 30 = .ok (.iload_n 2, 1) := by decide +kernel
theorem dX7_makeSaturday_31 : decode cX7_makeSaturday 31 = .ok (.aaload, 1) := by decide +kernel
theorem dX7_makeSaturday_32 : decode cX7_makeSaturday 32 = .ok (.invokevirtual 107, 3) := by decide +kernel
theorem dX7_makeSaturday_35 : decode cX7_makeSaturday 35 = .ok (.iadd, 1) := by decide +kernel
theorem dX7_makeSaturday_36 : decode cX7_makeSaturday 36 = .ok (.istore_n 1, 1) := by decide +kernel
theorem dX7_makeSaturday_37 : decode cX7_makeSaturday 37 = .ok (.iinc 2 1, 3) := by decide +kernel
theorem dX7_makeSaturday_40 : decode cX7_makeSaturday 40 = .ok (.goto (-36), 3) := by decide +kernel
theorem dX7_makeSaturday_43 : decode cX7_makeSaturday 43 = .ok (.iload_n 1, 1) := by decide +kernel
theorem dX7_makeSaturday_44 : decode cX7_makeSaturday 44 = .ok (.ireturn, 1) := by decide +kernel
theorem dX7_boundVisits_0 : decode cX7_boundVisits 0 = .ok (.iconst 0, 1) := by decide +kernel
theorem dX7_boundVisits_1 : decode cX7_boundVisits 1 = .ok (.istore_n 1, 1) := by decide +kernel
theorem dX7_boundVisits_2 : decode cX7_boundVisits 2 = .ok (.iload_n 1, 1) := by decide +kernel
theorem dX7_boundVisits_3 : decode cX7_boundVisits 3 = .ok (.aload_n 0, 1) := by decide +kernel
theorem dX7_boundVisits_4 : decode cX7_boundVisits 4 = .ok (.getfield 24, 3) := by decide +kernel
theorem dX7_boundVisits_7 : decode cX7_boundVisits 7 = .ok (.if_icmp .ge 33, 3) := by decide +kernel
theorem dX7_boundVisits_10 : decode cX7_boundVisits 10 = .ok (.aload_n 0, 1) := by decide +kernel
theorem dX7_boundVisits_11 : decode cX7_boundVisits 11 = .ok (.getfield 11, 3) := by decide +kernel
theorem dX7_boundVisits_14 : decode cX7_boundVisits 14 = .ok (.iload_n 1, 1) := by decide +kernel
theorem dX7_boundVisits_15 : decode cX7_boundVisits 15 = .ok (.aaload, 1) := by decide +kernel
theorem dX7_boundVisits_16 : decode cX7_boundVisits 16 = .ok (.sipush 9999, 3) := by decide +kernel
theorem dX7_boundVisits_19 : decode cX7_boundVisits 19 = .ok (.aload_n 0, 1) := by decide +kernel
theorem dX7_boundVisits_20 : decode cX7_boundVisits 20 = .ok (.getfield 11, 3) := by decide +kernel
theorem dX7_boundVisits_23 : decode cX7_boundVisits 23 = .ok (.iload_n 1, 1) := by decide +kernel
theorem dX7_boundVisits_24 : decode cX7_boundVisits 24 = .ok (.aaload, 1) := by decide +kernel
theorem dX7_boundVisits_25 : decode cX7_boundVisits 25 = .ok (.getfield 100, 3) := by decide +kernel
theorem dX7_boundVisits_28 : decode cX7_boundVisits 28 = .ok (.invokestatic 91, 3) := by decide +kernel
theorem dX7_boundVisits_31 : decode cX7_boundVisits 31 = .ok (.putfield 100, 3) := by decide +kernel
theorem dX7_boundVisits_34 : decode cX7_boundVisits 34 = .ok (.iinc 1 1, 3) := by decide +kernel
theorem dX7_boundVisits_37 : decode cX7_boundVisits 37 = .ok (.goto (-35), 3) := by decide +kernel
theorem dX7_boundVisits_40 : decode cX7_boundVisits 40 = .ok (.return_, 1) := by decide +kernel
theorem dX7_goneBits_0 : decode cX7_goneBits 0 = .ok (.iconst 0, 1) := by decide +kernel
theorem dX7_goneBits_1 : decode cX7_goneBits 1 = .ok (.istore_n 1, 1) := by decide +kernel
theorem dX7_goneBits_2 : decode cX7_goneBits 2 = .ok (.iconst 0, 1) := by decide +kernel
theorem dX7_goneBits_3 : decode cX7_goneBits 3 = .ok (.istore_n 2, 1) := by decide +kernel
theorem dX7_goneBits_4 : decode cX7_goneBits 4 = .ok (.iload_n 2, 1) := by decide +kernel
theorem dX7_goneBits_5 : decode cX7_goneBits 5 = .ok (.aload_n 0, 1) := by decide +kernel
theorem dX7_goneBits_6 : decode cX7_goneBits 6 = .ok (.getfield 24, 3) := by decide +kernel
theorem dX7_goneBits_9 : decode cX7_goneBits 9 = .ok (.if_icmp .ge 27, 3) := by decide +kernel
theorem dX7_goneBits_12 : decode cX7_goneBits 12 = .ok (.aload_n 0, 1) := by decide +kernel
theorem dX7_goneBits_13 : decode cX7_goneBits 13 = .ok (.getfield 11, 3) := by decide +kernel
theorem dX7_goneBits_16 : decode cX7_goneBits 16 = .ok (.iload_n 2, 1) := by decide +kernel
theorem dX7_goneBits_17 : decode cX7_goneBits 17 = .ok (.aaload, 1) := by decide +kernel
theorem dX7_goneBits_18 : decode cX7_goneBits 18 = .ok (.getfield 103, 3) := by decide +kernel
theorem dX7_goneBits_21 : decode cX7_goneBits 21 = .ok (.ifCond .eq 9, 3) := by decide +kernel
theorem dX7_goneBits_24 : decode cX7_goneBits 24 = .ok (.iload_n 1, 1) := by decide +kernel
theorem dX7_goneBits_25 : decode cX7_goneBits 25 = .ok (.iconst 1, 1) := by decide +kernel
theorem dX7_goneBits_26 : decode cX7_goneBits 26 = .ok (.iload_n 2, 1) := by decide +kernel
theorem dX7_goneBits_27 : decode cX7_goneBits 27 = .ok (.ishl, 1) := by decide +kernel
theorem dX7_goneBits_28 : decode cX7_goneBits 28 = .ok (.ior, 1) := by decide +kernel
theorem dX7_goneBits_29 : decode cX7_goneBits 29 = .ok (.istore_n 1, 1) := by decide +kernel
theorem dX7_goneBits_30 : decode cX7_goneBits 30 = .ok (.iinc 2 1, 3) := by decide +kernel
theorem dX7_goneBits_33 : decode cX7_goneBits 33 = .ok (.goto (-29), 3) := by decide +kernel
theorem dX7_goneBits_36 : decode cX7_goneBits 36 = .ok (.iload_n 1, 1) := by decide +kernel
theorem dX7_goneBits_37 : decode cX7_goneBits 37 = .ok (.ireturn, 1) := by decide +kernel
theorem dX7_howManyStay_0 : decode cX7_howManyStay 0 = .ok (.aload_n 0, 1) := by decide +kernel
theorem dX7_howManyStay_1 : decode cX7_howManyStay 1 = .ok (.getfield 24, 3) := by decide +kernel
theorem dX7_howManyStay_4 : decode cX7_howManyStay 4 = .ok (.aload_n 0, 1) := by decide +kernel
theorem dX7_howManyStay_5 : decode cX7_howManyStay 5 = .ok (.invokevirtual 110, 3) := by decide +kernel
theorem dX7_howManyStay_8 : decode cX7_howManyStay 8 = .ok (.invokestatic 114, 3) := by decide +kernel
theorem dX7_howManyStay_11 : decode cX7_howManyStay 11 = .ok (.isub, 1) := by decide +kernel
theorem dX7_howManyStay_12 : decode cX7_howManyStay 12 = .ok (.ireturn, 1) := by decide +kernel
theorem dX7_howManyRefuse_0 : decode cX7_howManyRefuse 0 = .ok (.iconst 0, 1) := by decide +kernel
theorem dX7_howManyRefuse_1 : decode cX7_howManyRefuse 1 = .ok (.istore_n 1, 1) := by decide +kernel
theorem dX7_howManyRefuse_2 : decode cX7_howManyRefuse 2 = .ok (.iconst 0, 1) := by decide +kernel
theorem dX7_howManyRefuse_3 : decode cX7_howManyRefuse 3 = .ok (.istore_n 2, 1) := by decide +kernel
theorem dX7_howManyRefuse_4 : decode cX7_howManyRefuse 4 = .ok (.iload_n 2, 1) := by decide +kernel
theorem dX7_howManyRefuse_5 : decode cX7_howManyRefuse 5 = .ok (.aload_n 0, 1) := by decide +kernel
theorem dX7_howManyRefuse_6 : decode cX7_howManyRefuse 6 = .ok (.getfield 24, 3) := by decide +kernel
theorem dX7_howManyRefuse_9 : decode cX7_howManyRefuse 9 = .ok (.if_icmp .ge 37, 3) := by decide +kernel
theorem dX7_howManyRefuse_12 : decode cX7_howManyRefuse 12 = .ok (.aload_n 0, 1) := by decide +kernel
theorem dX7_howManyRefuse_13 : decode cX7_howManyRefuse 13 = .ok (.getfield 11, 3) := by decide +kernel
theorem dX7_howManyRefuse_16 : decode cX7_howManyRefuse 16 = .ok (.iload_n 2, 1) := by decide +kernel
theorem dX7_howManyRefuse_17 : decode cX7_howManyRefuse 17 = .ok (.aaload, 1) := by decide +kernel
theorem dX7_howManyRefuse_18 : decode cX7_howManyRefuse 18 = .ok (.getfield 103, 3) := by decide +kernel
theorem dX7_howManyRefuse_21 : decode cX7_howManyRefuse 21 = .ok (.ifCond .ne 19, 3) := by decide +kernel
theorem dX7_howManyRefuse_24 : decode cX7_howManyRefuse 24 = .ok (.aload_n 0, 1) := by decide +kernel
theorem dX7_howManyRefuse_25 : decode cX7_howManyRefuse 25 = .ok (.aload_n 0, 1) := by decide +kernel
theorem dX7_howManyRefuse_26 : decode cX7_howManyRefuse 26 = .ok (.getfield 11, 3) := by decide +kernel
theorem dX7_howManyRefuse_29 : decode cX7_howManyRefuse 29 = .ok (.iload_n 2, 1) := by decide +kernel
theorem dX7_howManyRefuse_30 : decode cX7_howManyRefuse 30 = .ok (.aaload, 1) := by decide +kernel
theorem dX7_howManyRefuse_31 : decode cX7_howManyRefuse 31 = .ok (.invokevirtual 120, 3) := by decide +kernel
theorem dX7_howManyRefuse_34 : decode cX7_howManyRefuse 34 = .ok (.ifCond .eq 6, 3) := by decide +kernel
theorem dX7_howManyRefuse_37 : decode cX7_howManyRefuse 37 = .ok (.iinc 1 1, 3) := by decide +kernel
theorem dX7_howManyRefuse_40 : decode cX7_howManyRefuse 40 = .ok (.iinc 2 1, 3) := by decide +kernel
theorem dX7_howManyRefuse_43 : decode cX7_howManyRefuse 43 = .ok (.goto (-39), 3) := by decide +kernel
theorem dX7_howManyRefuse_46 : decode cX7_howManyRefuse 46 = .ok (.iload_n 1, 1) := by decide +kernel
theorem dX7_howManyRefuse_47 : decode cX7_howManyRefuse 47 = .ok (.ireturn, 1) := by decide +kernel
theorem dX7_askedTogether_0 : decode cX7_askedTogether 0 = .ok (.iconst 0, 1) := by decide +kernel
theorem dX7_askedTogether_1 : decode cX7_askedTogether 1 = .ok (.istore_n 1, 1) := by decide +kernel
theorem dX7_askedTogether_2 : decode cX7_askedTogether 2 = .ok (.iconst 0, 1) := by decide +kernel
theorem dX7_askedTogether_3 : decode cX7_askedTogether 3 = .ok (.istore_n 2, 1) := by decide +kernel
theorem dX7_askedTogether_4 : decode cX7_askedTogether 4 = .ok (.iload_n 2, 1) := by decide +kernel
theorem dX7_askedTogether_5 : decode cX7_askedTogether 5 = .ok (.aload_n 0, 1) := by decide +kernel
theorem dX7_askedTogether_6 : decode cX7_askedTogether 6 = .ok (.getfield 24, 3) := by decide +kernel
theorem dX7_askedTogether_9 : decode cX7_askedTogether 9 = .ok (.if_icmp .ge 42, 3) := by decide +kernel
theorem dX7_askedTogether_12 : decode cX7_askedTogether 12 = .ok (.aload_n 0, 1) := by decide +kernel
theorem dX7_askedTogether_13 : decode cX7_askedTogether 13 = .ok (.getfield 11, 3) := by decide +kernel
theorem dX7_askedTogether_16 : decode cX7_askedTogether 16 = .ok (.iload_n 2, 1) := by decide +kernel
theorem dX7_askedTogether_17 : decode cX7_askedTogether 17 = .ok (.aaload, 1) := by decide +kernel
theorem dX7_askedTogether_18 : decode cX7_askedTogether 18 = .ok (.getfield 103, 3) := by decide +kernel
theorem dX7_askedTogether_21 : decode cX7_askedTogether 21 = .ok (.ifCond .ne 24, 3) := by decide +kernel
theorem dX7_askedTogether_24 : decode cX7_askedTogether 24 = .ok (.iload_n 1, 1) := by decide +kernel
theorem dX7_askedTogether_25 : decode cX7_askedTogether 25 = .ok (.aload_n 0, 1) := by decide +kernel
theorem dX7_askedTogether_26 : decode cX7_askedTogether 26 = .ok (.getfield 11, 3) := by decide +kernel
theorem dX7_askedTogether_29 : decode cX7_askedTogether 29 = .ok (.iload_n 2, 1) := by decide +kernel
theorem dX7_askedTogether_30 : decode cX7_askedTogether 30 = .ok (.aaload, 1) := by decide +kernel
theorem dX7_askedTogether_31 : decode cX7_askedTogether 31 = .ok (.getfield 73, 3) := by decide +kernel
theorem dX7_askedTogether_34 : decode cX7_askedTogether 34 = .ok (.aload_n 0, 1) := by decide +kernel
theorem dX7_askedTogether_35 : decode cX7_askedTogether 35 = .ok (.getfield 11, 3) := by decide +kernel
theorem dX7_askedTogether_38 : decode cX7_askedTogether 38 = .ok (.iload_n 2, 1) := by decide +kernel
theorem dX7_askedTogether_39 : decode cX7_askedTogether 39 = .ok (.aaload, 1) := by decide +kernel
theorem dX7_askedTogether_40 : decode cX7_askedTogether 40 = .ok (.invokevirtual 82, 3) := by decide +kernel
theorem dX7_askedTogether_43 : decode cX7_askedTogether 43 = .ok (.iadd, 1) := by decide +kernel
theorem dX7_askedTogether_44 : decode cX7_askedTogether 44 = .ok (.istore_n 1, 1) := by decide +kernel
theorem dX7_askedTogether_45 : decode cX7_askedTogether 45 = .ok (.iinc 2 1, 3) := by decide +kernel
theorem dX7_askedTogether_48 : decode cX7_askedTogether 48 = .ok (.goto (-44), 3) := by decide +kernel
theorem dX7_askedTogether_51 : decode cX7_askedTogether 51 = .ok (.iload_n 1, 1) := by decide +kernel
theorem dX7_askedTogether_52 : decode cX7_askedTogether 52 = .ok (.ireturn, 1) := by decide +kernel
theorem dX7_cutsAreSeen_0 : decode cX7_cutsAreSeen 0 = .ok (.iconst 0, 1) := by decide +kernel
theorem dX7_cutsAreSeen_1 : decode cX7_cutsAreSeen 1 = .ok (.istore_n 2, 1) := by decide +kernel
theorem dX7_cutsAreSeen_2 : decode cX7_cutsAreSeen 2 = .ok (.iload_n 2, 1) := by decide +kernel
theorem dX7_cutsAreSeen_3 : decode cX7_cutsAreSeen 3 = .ok (.aload_n 0, 1) := by decide +kernel
theorem dX7_cutsAreSeen_4 : decode cX7_cutsAreSeen 4 = .ok (.getfield 28, 3) := by decide +kernel
theorem dX7_cutsAreSeen_7 : decode cX7_cutsAreSeen 7 = .ok (.if_icmp .ge 47, 3) := by decide +kernel
theorem dX7_cutsAreSeen_10 : decode cX7_cutsAreSeen 10 = .ok (.aload_n 1, 1) := by decide +kernel
theorem dX7_cutsAreSeen_11 : decode cX7_cutsAreSeen 11 = .ok (.getfield 103, 3) := by decide +kernel
theorem dX7_cutsAreSeen_14 : decode cX7_cutsAreSeen 14 = .ok (.ifCond .ne 26, 3) := by decide +kernel
theorem dX7_cutsAreSeen_17 : decode cX7_cutsAreSeen 17 = .ok (.aload_n 1, 1) := by decide +kernel
theorem dX7_cutsAreSeen_18 : decode cX7_cutsAreSeen 18 = .ok (.getfield 73, 3) := by decide +kernel
theorem dX7_cutsAreSeen_21 : decode cX7_cutsAreSeen 21 = .ok (.aload_n 1, 1) := by decide +kernel
theorem dX7_cutsAreSeen_22 : decode cX7_cutsAreSeen 22 = .ok (.invokevirtual 82, 3) := by decide +kernel
theorem dX7_cutsAreSeen_25 : decode cX7_cutsAreSeen 25 = .ok (.aload_n 0, 1) := by decide +kernel
theorem dX7_cutsAreSeen_26 : decode cX7_cutsAreSeen 26 = .ok (.aload_n 1, 1) := by decide +kernel
theorem dX7_cutsAreSeen_27 : decode cX7_cutsAreSeen 27 = .ok (.invokevirtual 70, 3) := by decide +kernel
theorem dX7_cutsAreSeen_30 : decode cX7_cutsAreSeen 30 = .ok (.iadd, 1) := by decide +kernel
theorem dX7_cutsAreSeen_31 : decode cX7_cutsAreSeen 31 = .ok (.aload_n 0, 1) := by decide +kernel
theorem dX7_cutsAreSeen_32 : decode cX7_cutsAreSeen 32 = .ok (.getfield 17, 3) := by decide +kernel
theorem dX7_cutsAreSeen_35 : decode cX7_cutsAreSeen 35 = .ok (.iload_n 2, 1) := by decide +kernel
theorem dX7_cutsAreSeen_36 : decode cX7_cutsAreSeen 36 = .ok (.iaload, 1) := by decide +kernel
theorem dX7_cutsAreSeen_37 : decode cX7_cutsAreSeen 37 = .ok (.if_icmp .eq 5, 3) := by decide +kernel
theorem dX7_cutsAreSeen_40 : decode cX7_cutsAreSeen 40 = .ok (.iconst 0, 1) := by decide +kernel
theorem dX7_cutsAreSeen_41 : decode cX7_cutsAreSeen 41 = .ok (.ireturn, 1) := by decide +kernel
theorem dX7_cutsAreSeen_42 : decode cX7_cutsAreSeen 42 = .ok (.aload_n 0, 1) := by decide +kernel
theorem dX7_cutsAreSeen_43 : decode cX7_cutsAreSeen 43 = .ok (.aload_n 1, 1) := by decide +kernel
theorem dX7_cutsAreSeen_44 : decode cX7_cutsAreSeen 44 = .ok (.invokevirtual 107, 3) := by decide +kernel
theorem dX7_cutsAreSeen_47 : decode cX7_cutsAreSeen 47 = .ok (.pop, 1) := by decide +kernel
theorem dX7_cutsAreSeen_48 : decode cX7_cutsAreSeen 48 = .ok (.iinc 2 1, 3) := by decide +kernel
theorem dX7_cutsAreSeen_51 : decode cX7_cutsAreSeen 51 = .ok (.goto (-49), 3) := by decide +kernel
theorem dX7_cutsAreSeen_54 : decode cX7_cutsAreSeen 54 = .ok (.iconst 1, 1) := by decide +kernel
theorem dX7_cutsAreSeen_55 : decode cX7_cutsAreSeen 55 = .ok (.ireturn, 1) := by decide +kernel
theorem dX8_init_0 : decode cX8_init 0 = .ok (.aload_n 0, 1) := by decide +kernel
theorem dX8_init_1 : decode cX8_init 1 = .ok (.iload_n 1, 1) := by decide +kernel
theorem dX8_init_2 : decode cX8_init 2 = .ok (.invokespecial 1, 3) := by decide +kernel
theorem dX8_init_5 : decode cX8_init 5 = .ok (.return_, 1) := by decide +kernel
theorem dX8_portion_0 : decode cX8_portion 0 = .ok (.iconst 1, 1) := by decide +kernel
theorem dX8_portion_1 : decode cX8_portion 1 = .ok (.aload_n 1, 1) := by decide +kernel
theorem dX8_portion_2 : decode cX8_portion 2 = .ok (.getfield 7, 3) := by decide +kernel
theorem dX8_portion_5 : decode cX8_portion 5 = .ok (.aload_n 1, 1) := by decide +kernel
theorem dX8_portion_6 : decode cX8_portion 6 = .ok (.getfield 13, 3) := by decide +kernel
theorem dX8_portion_9 : decode cX8_portion 9 = .ok (.isub, 1) := by decide +kernel
theorem dX8_portion_10 : decode cX8_portion 10 = .ok (.invokestatic 16, 3) := by decide +kernel
theorem dX8_portion_13 : decode cX8_portion 13 = .ok (.ireturn, 1) := by decide +kernel
theorem dX8_patience_0 : decode cX8_patience 0 = .ok (.aload_n 1, 1) := by decide +kernel
theorem dX8_patience_1 : decode cX8_patience 1 = .ok (.getfield 22, 3) := by decide +kernel
theorem dX8_patience_4 : decode cX8_patience 4 = .ok (.iconst 2, 1) := by decide +kernel
theorem dX8_patience_5 : decode cX8_patience 5 = .ok (.idiv, 1) := by decide +kernel
theorem dX8_patience_6 : decode cX8_patience 6 = .ok (.ireturn, 1) := by decide +kernel
theorem dX8_buys_0 : decode cX8_buys 0 = .ok (.aload_n 3, 1) := by decide +kernel
theorem dX8_buys_1 : decode cX8_buys 1 = .ok (.bipush 20, 2) := by decide +kernel
theorem dX8_buys_3 : decode cX8_buys 3 = .ok (.invokestatic 25, 3) := by decide +kernel
theorem dX8_buys_6 : decode cX8_buys 6 = .ok (.invokevirtual 31, 3) := by decide +kernel
theorem dX8_buys_9 : decode cX8_buys 9 = .ok (.pop, 1) := by decide +kernel
theorem dX8_buys_10 : decode cX8_buys 10 = .ok (.aload_n 0, 1) := by decide +kernel
theorem dX8_buys_11 : decode cX8_buys 11 = .ok (.aload_n 1, 1) := by decide +kernel
theorem dX8_buys_12 : decode cX8_buys 12 = .ok (.iload_n 2, 1) := by decide +kernel
theorem dX8_buys_13 : decode cX8_buys 13 = .ok (.aload_n 3, 1) := by decide +kernel
theorem dX8_buys_14 : decode cX8_buys 14 = .ok (.invokespecial 37, 3) := by decide +kernel
theorem dX8_buys_17 : decode cX8_buys 17 = .ok (.bipush 6, 2) := by decide +kernel
theorem dX8_buys_19 : decode cX8_buys 19 = .ok (.ixor, 1) := by decide +kernel
theorem dX8_buys_20 : decode cX8_buys 20 = .ok (.ireturn, 1) := by decide +kernel
theorem dX9_init_0 : decode cX9_init 0 = .ok (.aload_n 0, 1) := by decide +kernel
theorem dX9_init_1 : decode cX9_init 1 = .ok (.invokespecial 3, 3) := by decide +kernel
theorem dX9_init_4 : decode cX9_init 4 = .ok (.aload_n 0, 1) := by decide +kernel
theorem dX9_init_5 : decode cX9_init 5 = .ok (.bipush 100, 2) := by decide +kernel
theorem dX9_init_7 : decode cX9_init 7 = .ok (.newarray .byte, 2) := by decide +kernel
theorem dX9_init_9 : decode cX9_init 9 = .ok (.putfield 9, 3) := by decide +kernel
theorem dX9_init_12 : decode cX9_init 12 = .ok (.aload_n 0, 1) := by decide +kernel
theorem dX9_init_13 : decode cX9_init 13 = .ok (.iconst 0, 1) := by decide +kernel
theorem dX9_init_14 : decode cX9_init 14 = .ok (.putfield 15, 3) := by decide +kernel
theorem dX9_init_17 : decode cX9_init 17 = .ok (.aload_n 0, 1) := by decide +kernel
theorem dX9_init_18 : decode cX9_init 18 = .ok (.iconst 0, 1) := by decide +kernel
theorem dX9_init_19 : decode cX9_init 19 = .ok (.putfield 19, 3) := by decide +kernel
theorem dX9_init_22 : decode cX9_init 22 = .ok (.aload_n 0, 1) := by decide +kernel
theorem dX9_init_23 : decode cX9_init 23 = .ok (.iconst 5, 1) := by decide +kernel
theorem dX9_init_24 : decode cX9_init 24 = .ok (.putfield 22, 3) := by decide +kernel
theorem dX9_init_27 : decode cX9_init 27 = .ok (.aload_n 0, 1) := by decide +kernel
theorem dX9_init_28 : decode cX9_init 28 = .ok (.iconst 1, 1) := by decide +kernel
theorem dX9_init_29 : decode cX9_init 29 = .ok (.putfield 25, 3) := by decide +kernel
theorem dX9_init_32 : decode cX9_init 32 = .ok (.aload_n 0, 1) := by decide +kernel
theorem dX9_init_33 : decode cX9_init 33 = .ok (.bipush 100, 2) := by decide +kernel
theorem dX9_init_35 : decode cX9_init 35 = .ok (.newarray .int, 2) := by decide +kernel
theorem dX9_init_37 : decode cX9_init 37 = .ok (.putfield 28, 3) := by decide +kernel
theorem dX9_init_40 : decode cX9_init 40 = .ok (.aload_n 0, 1) := by decide +kernel
theorem dX9_init_41 : decode cX9_init 41 = .ok (.bipush 100, 2) := by decide +kernel
theorem dX9_init_43 : decode cX9_init 43 = .ok (.newarray .int, 2) := by decide +kernel
theorem dX9_init_45 : decode cX9_init 45 = .ok (.putfield 32, 3) := by decide +kernel
theorem dX9_init_48 : decode cX9_init 48 = .ok (.aload_n 0, 1) := by decide +kernel
theorem dX9_init_49 : decode cX9_init 49 = .ok (.iconst 0, 1) := by decide +kernel
theorem dX9_init_50 : decode cX9_init 50 = .ok (.putfield 35, 3) := by decide +kernel
theorem dX9_init_53 : decode cX9_init 53 = .ok (.aload_n 0, 1) := by decide +kernel
theorem dX9_init_54 : decode cX9_init 54 = .ok (.iconst 0, 1) := by decide +kernel
theorem dX9_init_55 : decode cX9_init 55 = .ok (.putfield 38, 3) := by decide +kernel
theorem dX9_init_58 : decode cX9_init 58 = .ok (.return_, 1) := by decide +kernel
theorem dX9_toCounter_0 : decode cX9_toCounter 0 = .ok (.aload_n 0, 1) := by decide +kernel
theorem dX9_toCounter_1 : decode cX9_toCounter 1 = .ok (.iconst 0, 1) := by decide +kernel
theorem dX9_toCounter_2 : decode cX9_toCounter 2 = .ok (.putfield 19, 3) := by decide +kernel
theorem dX9_toCounter_5 : decode cX9_toCounter 5 = .ok (.aload_n 0, 1) := by decide +kernel
theorem dX9_toCounter_6 : decode cX9_toCounter 6 = .ok (.iconst 5, 1) := by decide +kernel
theorem dX9_toCounter_7 : decode cX9_toCounter 7 = .ok (.putfield 22, 3) := by decide +kernel
theorem dX9_toCounter_10 : decode cX9_toCounter 10 = .ok (.aload_n 0, 1) := by decide +kernel
theorem dX9_toCounter_11 : decode cX9_toCounter 11 = .ok (.iconst 1, 1) := by decide +kernel
theorem dX9_toCounter_12 : decode cX9_toCounter 12 = .ok (.putfield 25, 3) := by decide +kernel
theorem dX9_toCounter_15 : decode cX9_toCounter 15 = .ok (.aload_n 0, 1) := by decide +kernel
theorem dX9_toCounter_16 : decode cX9_toCounter 16 = .ok (.iconst 0, 1) := by decide +kernel
theorem dX9_toCounter_17 : decode cX9_toCounter 17 = .ok (.putfield 35, 3) := by decide +kernel
theorem dX9_toCounter_20 : decode cX9_toCounter 20 = .ok (.iconst 0, 1) := by decide +kernel
theorem dX9_toCounter_21 : decode cX9_toCounter 21 = .ok (.istore_n 1, 1) := by decide +kernel
theorem dX9_toCounter_22 : decode cX9_toCounter 22 = .ok (.iload_n 1, 1) := by decide +kernel
theorem dX9_toCounter_23 : decode cX9_toCounter 23 = .ok (.bipush 10, 2) := by decide +kernel
theorem dX9_toCounter_25 : decode cX9_toCounter 25 = .ok (.if_icmp .ge 61, 3) := by decide +kernel
theorem dX9_toCounter_28 : decode cX9_toCounter 28 = .ok (.iload_n 1, 1) := by decide +kernel
theorem dX9_toCounter_29 : decode cX9_toCounter 29 = .ok (.ifCond .eq 12, 3) := by decide +kernel
theorem dX9_toCounter_32 : decode cX9_toCounter 32 = .ok (.aload_n 0, 1) := by decide +kernel
theorem dX9_toCounter_33 : decode cX9_toCounter 33 = .ok (.bipush 59, 2) := by decide +kernel
theorem dX9_toCounter_35 : decode cX9_toCounter 35 = .ok (.invokevirtual 41, 3) := by decide +kernel
theorem dX9_toCounter_38 : decode cX9_toCounter 38 = .ok (.ifCond .eq 7, 3) := by decide +kernel
theorem dX9_toCounter_41 : decode cX9_toCounter 41 = .ok (.iconst 1, 1) := by decide +kernel
theorem dX9_toCounter_42 : decode cX9_toCounter 42 = .ok (.goto 4, 3) := by decide +kernel
theorem dX9_toCounter_45 : decode cX9_toCounter 45 = .ok (.iconst 0, 1) := by decide +kernel
theorem dX9_toCounter_46 : decode cX9_toCounter 46 = .ok (.istore_n 2, 1) := by decide +kernel
theorem dX9_toCounter_47 : decode cX9_toCounter 47 = .ok (.iload_n 2, 1) := by decide +kernel
theorem dX9_toCounter_48 : decode cX9_toCounter 48 = .ok (.ifCond .eq 10, 3) := by decide +kernel
theorem dX9_toCounter_51 : decode cX9_toCounter 51 = .ok (.aload_n 0, 1) := by decide +kernel
theorem dX9_toCounter_52 : decode cX9_toCounter 52 = .ok (.invokevirtual 45, 3) := by decide +kernel
theorem dX9_toCounter_55 : decode cX9_toCounter 55 = .ok (.ifCond .ne 5, 3) := by decide +kernel
theorem dX9_toCounter_58 : decode cX9_toCounter 58 = .ok (.aconst_null, 1) := by decide +kernel
theorem dX9_toCounter_59 : decode cX9_toCounter 59 = .ok (.areturn, 1) := by decide +kernel
theorem dX9_toCounter_60 : decode cX9_toCounter 60 = .ok (.aload_n 0, 1) := by decide +kernel
theorem dX9_toCounter_61 : decode cX9_toCounter 61 = .ok (.getfield 19, 3) := by decide +kernel
theorem dX9_toCounter_64 : decode cX9_toCounter 64 = .ok (.aload_n 0, 1) := by decide +kernel
theorem dX9_toCounter_65 : decode cX9_toCounter 65 = .ok (.getfield 15, 3) := by decide +kernel
theorem dX9_toCounter_68 : decode cX9_toCounter 68 = .ok (.if_icmp .ne 12, 3) := by decide +kernel
theorem dX9_toCounter_71 : decode cX9_toCounter 71 = .ok (.new 49, 3) := by decide +kernel
theorem dX9_toCounter_74 : decode cX9_toCounter 74 = .ok (.dup, 1) := by decide +kernel
theorem dX9_toCounter_75 : decode cX9_toCounter 75 = .ok (.aload_n 0, 1) := by decide +kernel
theorem dX9_toCounter_76 : decode cX9_toCounter 76 = .ok (.invokespecial 51, 3) := by decide +kernel
theorem dX9_toCounter_79 : decode cX9_toCounter 79 = .ok (.areturn, 1) := by decide +kernel
theorem dX9_toCounter_80 : decode cX9_toCounter 80 = .ok (.iinc 1 1, 3) := by decide +kernel
theorem dX9_toCounter_83 : decode cX9_toCounter 83 = .ok (.goto (-61), 3) := by decide +kernel
theorem dX9_toCounter_86 : decode cX9_toCounter 86 = .ok (.aconst_null, 1) := by decide +kernel
theorem dX9_toCounter_87 : decode cX9_toCounter 87 = .ok (.areturn, 1) := by decide +kernel
theorem dX9_readClause_0 : decode cX9_readClause 0 = .ok (.aload_n 0, 1) := by decide +kernel
theorem dX9_readClause_1 : decode cX9_readClause 1 = .ok (.invokevirtual 54, 3) := by decide +kernel
theorem dX9_readClause_4 : decode cX9_readClause 4 = .ok (.istore_n 1, 1) := by decide +kernel
theorem dX9_readClause_5 : decode cX9_readClause 5 = .ok (.iload_n 1, 1) := by decide +kernel
theorem dX9_readClause_6 : decode cX9_readClause 6 = .ok (.iconst (-1), 1) := by decide +kernel
theorem dX9_readClause_7 : decode cX9_readClause 7 = .ok (.if_icmp .eq 19, 3) := by decide +kernel
theorem dX9_readClause_10 : decode cX9_readClause 10 = .ok (.aload_n 0, 1) := by decide +kernel
theorem dX9_readClause_11 : decode cX9_readClause 11 = .ok (.bipush 32, 2) := by decide +kernel
theorem dX9_readClause_13 : decode cX9_readClause 13 = .ok (.invokevirtual 41, 3) := by decide +kernel
theorem dX9_readClause_16 : decode cX9_readClause 16 = .ok (.ifCond .eq 10, 3) := by decide +kernel
theorem dX9_readClause_19 : decode cX9_readClause 19 = .ok (.aload_n 0, 1) := by decide +kernel
theorem dX9_readClause_20 : decode cX9_readClause 20 = .ok (.invokevirtual 58, 3) := by decide +kernel
theorem dX9_readClause_23 : decode cX9_readClause 23 = .ok (.ifCond .ne 5, 3) := by decide +kernel
theorem dX9_readClause_26 : decode cX9_readClause 26 = .ok (.iconst 0, 1) := by decide +kernel
theorem dX9_readClause_27 : decode cX9_readClause 27 = .ok (.ireturn, 1) := by decide +kernel
theorem dX9_readClause_28 : decode cX9_readClause 28 = .ok (.aload_n 0, 1) := by decide +kernel
theorem dX9_readClause_29 : decode cX9_readClause 29 = .ok (.getfield 38, 3) := by decide +kernel
theorem dX9_readClause_32 : decode cX9_readClause 32 = .ok (.istore_n 2, 1) := by decide +kernel
theorem dX9_readClause_33 : decode cX9_readClause 33 = .ok (.iload_n 1, 1) := by decide +kernel
theorem dX9_readClause_34 : decode cX9_readClause 34 = .ok (.lookupswitch 40 #[(2, 26), (3, 33)], 26) := by decide +kernel
theorem dX9_readClause_60 : decode cX9_readClause 60 = .ok (.aload_n 0, 1) := by decide +kernel
theorem dX9_readClause_61 : decode cX9_readClause 61 = .ok (.iload_n 2, 1) := by decide +kernel
theorem dX9_readClause_62 : decode cX9_readClause 62 = .ok (.putfield 22, 3) := by decide +kernel
theorem dX9_readClause_65 : decode cX9_readClause 65 = .ok (.iconst 1, 1) := by decide +kernel
theorem dX9_readClause_66 : decode cX9_readClause 66 = .ok (.ireturn, 1) := by decide +kernel
theorem dX9_readClause_67 : decode cX9_readClause 67 = .ok (.aload_n 0, 1) := by decide +kernel
theorem dX9_readClause_68 : decode cX9_readClause 68 = .ok (.iload_n 2, 1) := by decide +kernel
theorem dX9_readClause_69 : decode cX9_readClause 69 = .ok (.putfield 25, 3) := by decide +kernel
theorem dX9_readClause_72 : decode cX9_readClause 72 = .ok (.iconst 1, 1) := by decide +kernel
theorem dX9_readClause_73 : decode cX9_readClause 73 = .ok (.ireturn, 1) := by decide +kernel
theorem dX9_readClause_74 : decode cX9_readClause 74 = .ok (.aload_n 0, 1) := by decide +kernel
theorem dX9_readClause_75 : decode cX9_readClause 75 = .ok (.bipush 32, 2) := by decide +kernel
theorem dX9_readClause_77 : decode cX9_readClause 77 = .ok (.invokevirtual 41, 3) := by decide +kernel
theorem dX9_readClause_80 : decode cX9_readClause 80 = .ok (.ifCond .eq 34, 3) := by decide +kernel
theorem dX9_readClause_83 : decode cX9_readClause 83 = .ok (.aload_n 0, 1) := by decide +kernel
theorem dX9_readClause_84 : decode cX9_readClause 84 = .ok (.iconst 0, 1) := by decide +kernel
theorem dX9_readClause_85 : decode cX9_readClause 85 = .ok (.invokevirtual 61, 3) := by decide +kernel
theorem dX9_readClause_88 : decode cX9_readClause 88 = .ok (.ifCond .eq 26, 3) := by decide +kernel
theorem dX9_readClause_91 : decode cX9_readClause 91 = .ok (.aload_n 0, 1) := by decide +kernel
theorem dX9_readClause_92 : decode cX9_readClause 92 = .ok (.bipush 21, 2) := by decide +kernel
theorem dX9_readClause_94 : decode cX9_readClause 94 = .ok (.iload_n 1, 1) := by decide +kernel
theorem dX9_readClause_95 : decode cX9_readClause 95 = .ok (.ifCond .ne 7, 3) := by decide +kernel
theorem dX9_readClause_98 : decode cX9_readClause 98 = .ok (.iload_n 2, 1) := by decide +kernel
theorem dX9_readClause_99 : decode cX9_readClause 99 = .ok (.goto 5, 3) := by decide +kernel
theorem dX9_readClause_102 : decode cX9_readClause 102 = .ok (.iload_n 2, 1) := by decide +kernel
theorem dX9_readClause_103 : decode cX9_readClause 103 = .ok (.ineg, 1) := by decide +kernel
theorem dX9_readClause_104 : decode cX9_readClause 104 = .ok (.invokevirtual 65, 3) := by decide +kernel
theorem dX9_readClause_107 : decode cX9_readClause 107 = .ok (.ifCond .eq 7, 3) := by decide +kernel
theorem dX9_readClause_110 : decode cX9_readClause 110 = .ok (.iconst 1, 1) := by decide +kernel
theorem dX9_readClause_111 : decode cX9_readClause 111 = .ok (.goto 4, 3) := by decide +kernel
theorem dX9_readClause_114 : decode cX9_readClause 114 = .ok (.iconst 0, 1) := by decide +kernel
theorem dX9_readClause_115 : decode cX9_readClause 115 = .ok (.ireturn, 1) := by decide +kernel
theorem dX9_readWord_0 : decode cX9_readWord 0 = .ok (.iconst 0, 1) := by decide +kernel
theorem dX9_readWord_1 : decode cX9_readWord 1 = .ok (.istore_n 1, 1) := by decide +kernel
theorem dX9_readWord_2 : decode cX9_readWord 2 = .ok (.iconst 0, 1) := by decide +kernel
theorem dX9_readWord_3 : decode cX9_readWord 3 = .ok (.istore_n 2, 1) := by decide +kernel
theorem dX9_readWord_4 : decode cX9_readWord 4 = .ok (.iload_n 2, 1) := by decide +kernel
theorem dX9_readWord_5 : decode cX9_readWord 5 = .ok (.iconst 4, 1) := by decide +kernel
theorem dX9_readWord_6 : decode cX9_readWord 6 = .ok (.if_icmp .ge 50, 3) := by decide +kernel
theorem dX9_readWord_9 : decode cX9_readWord 9 = .ok (.iload_n 2, 1) := by decide +kernel
theorem dX9_readWord_10 : decode cX9_readWord 10 = .ok (.invokestatic 69, 3) := by decide +kernel
theorem dX9_readWord_13 : decode cX9_readWord 13 = .ok (.astore_n 3, 1) := by decide +kernel
theorem dX9_readWord_14 : decode cX9_readWord 14 = .ok (.aload_n 0, 1) := by decide +kernel
theorem dX9_readWord_15 : decode cX9_readWord 15 = .ok (.aload_n 3, 1) := by decide +kernel
theorem dX9_readWord_16 : decode cX9_readWord 16 = .ok (.invokevirtual 73, 3) := by decide +kernel
theorem dX9_readWord_19 : decode cX9_readWord 19 = .ok (.istore 4, 2) := by decide +kernel
theorem dX9_readWord_21 : decode cX9_readWord 21 = .ok (.iload 4, 2) := by decide +kernel
theorem dX9_readWord_23 : decode cX9_readWord 23 = .ok (.aload_n 3, 1) := by decide +kernel
theorem dX9_readWord_24 : decode cX9_readWord 24 = .ok (.invokevirtual 77, 3) := by decide +kernel
theorem dX9_readWord_27 : decode cX9_readWord 27 = .ok (.if_icmp .ne 16, 3) := by decide +kernel
theorem dX9_readWord_30 : decode cX9_readWord 30 = .ok (.aload_n 0, 1) := by decide +kernel
theorem dX9_readWord_31 : decode cX9_readWord 31 = .ok (.dup, 1) := by decide +kernel
theorem dX9_readWord_32 : decode cX9_readWord 32 = .ok (.getfield 19, 3) := by decide +kernel
theorem dX9_readWord_35 : decode cX9_readWord 35 = .ok (.iload 4, 2) := by decide +kernel
theorem dX9_readWord_37 : decode cX9_readWord 37 = .ok (.iadd, 1) := by decide +kernel
theorem dX9_readWord_38 : decode cX9_readWord 38 = .ok (.putfield 19, 3) := by decide +kernel
theorem dX9_readWord_41 : decode cX9_readWord 41 = .ok (.iload_n 2, 1) := by decide +kernel
theorem dX9_readWord_42 : decode cX9_readWord 42 = .ok (.ireturn, 1) := by decide +kernel
theorem dX9_readWord_43 : decode cX9_readWord 43 = .ok (.iload_n 1, 1) := by decide +kernel
theorem dX9_readWord_44 : decode cX9_readWord 44 = .ok (.iload 4, 2) := by decide +kernel
theorem dX9_readWord_46 : decode cX9_readWord 46 = .ok (.invokestatic 81, 3) := by decide +kernel
theorem dX9_readWord_49 : decode cX9_readWord 49 = .ok (.istore_n 1, 1) := by decide +kernel
theorem dX9_readWord_50 : decode cX9_readWord 50 = .ok (.iinc 2 1, 3) := by decide +kernel
theorem dX9_readWord_53 : decode cX9_readWord 53 = .ok (.goto (-49), 3) := by decide +kernel
theorem dX9_readWord_56 : decode cX9_readWord 56 = .ok (.aload_n 0, 1) := by decide +kernel
theorem dX9_readWord_57 : decode cX9_readWord 57 = .ok (.dup, 1) := by decide +kernel
theorem dX9_readWord_58 : decode cX9_readWord 58 = .ok (.getfield 19, 3) := by decide +kernel
theorem dX9_readWord_61 : decode cX9_readWord 61 = .ok (.iload_n 1, 1) := by decide +kernel
theorem dX9_readWord_62 : decode cX9_readWord 62 = .ok (.iadd, 1) := by decide +kernel
theorem dX9_readWord_63 : decode cX9_readWord 63 = .ok (.putfield 19, 3) := by decide +kernel
theorem dX9_readWord_66 : decode cX9_readWord 66 = .ok (.iconst (-1), 1) := by decide +kernel
theorem dX9_readWord_67 : decode cX9_readWord 67 = .ok (.ireturn, 1) := by decide +kernel
theorem dX9_nameOf_0 : decode cX9_nameOf 0 = .ok (.iload_n 0, 1) := by decide +kernel
theorem dX9_nameOf_1 : decode cX9_nameOf 1 = .ok (.tableswitch 36 0 2 #[27, 30, 33], 27) := by decide +kernel
theorem dX9_nameOf_28 : decode cX9_nameOf 28 = .ok (.ldc 87, 2) := by decide +kernel
theorem dX9_nameOf_30 : decode cX9_nameOf 30 = .ok (.areturn, 1) := by decide +kernel
theorem dX9_nameOf_31 : decode cX9_nameOf 31 = .ok (.ldc 89, 2) := by decide +kernel
theorem dX9_nameOf_33 : decode cX9_nameOf 33 = .ok (.areturn, 1) := by decide +kernel
theorem dX9_nameOf_34 : decode cX9_nameOf 34 = .ok (.ldc 91, 2) := by decide +kernel
theorem dX9_nameOf_36 : decode cX9_nameOf 36 = .ok (.areturn, 1) := by decide +kernel
theorem dX9_nameOf_37 : decode cX9_nameOf 37 = .ok (.ldc 92, 2) := by decide +kernel
theorem dX9_nameOf_39 : decode cX9_nameOf 39 = .ok (.areturn, 1) := by decide +kernel
theorem dX9_howManyAlike_0 : decode cX9_howManyAlike 0 = .ok (.iconst 0, 1) := by decide +kernel
theorem dX9_howManyAlike_1 : decode cX9_howManyAlike 1 = .ok (.istore_n 2, 1) := by decide +kernel
theorem dX9_howManyAlike_2 : decode cX9_howManyAlike 2 = .ok (.iload_n 2, 1) := by decide +kernel
theorem dX9_howManyAlike_3 : decode cX9_howManyAlike 3 = .ok (.aload_n 1, 1) := by decide +kernel
theorem dX9_howManyAlike_4 : decode cX9_howManyAlike 4 = .ok (.invokevirtual 77, 3) := by decide +kernel
theorem dX9_howManyAlike_7 : decode cX9_howManyAlike 7 = .ok (.if_icmp .ge 29, 3) := by decide +kernel
theorem dX9_howManyAlike_10 : decode cX9_howManyAlike 10 = .ok (.aload_n 0, 1) := by decide +kernel
theorem dX9_howManyAlike_11 : decode cX9_howManyAlike 11 = .ok (.aload_n 0, 1) := by decide +kernel
theorem dX9_howManyAlike_12 : decode cX9_howManyAlike 12 = .ok (.getfield 19, 3) := by decide +kernel
theorem dX9_howManyAlike_15 : decode cX9_howManyAlike 15 = .ok (.iload_n 2, 1) := by decide +kernel
theorem dX9_howManyAlike_16 : decode cX9_howManyAlike 16 = .ok (.iadd, 1) := by decide +kernel
theorem dX9_howManyAlike_17 : decode cX9_howManyAlike 17 = .ok (.invokevirtual 93, 3) := by decide +kernel
theorem dX9_howManyAlike_20 : decode cX9_howManyAlike 20 = .ok (.aload_n 1, 1) := by decide +kernel
theorem dX9_howManyAlike_21 : decode cX9_howManyAlike 21 = .ok (.iload_n 2, 1) := by decide +kernel
theorem dX9_howManyAlike_22 : decode cX9_howManyAlike 22 = .ok (.invokevirtual 97, 3) := by decide +kernel
theorem dX9_howManyAlike_25 : decode cX9_howManyAlike 25 = .ok (.if_icmp .eq 5, 3) := by decide +kernel
theorem dX9_howManyAlike_28 : decode cX9_howManyAlike 28 = .ok (.iload_n 2, 1) := by decide +kernel
theorem dX9_howManyAlike_29 : decode cX9_howManyAlike 29 = .ok (.ireturn, 1) := by decide +kernel
theorem dX9_howManyAlike_30 : decode cX9_howManyAlike 30 = .ok (.iinc 2 1, 3) := by decide +kernel
theorem dX9_howManyAlike_33 : decode cX9_howManyAlike 33 = .ok (.goto (-31), 3) := by decide +kernel
theorem dX9_howManyAlike_36 : decode cX9_howManyAlike 36 = .ok (.aload_n 1, 1) := by decide +kernel
theorem dX9_howManyAlike_37 : decode cX9_howManyAlike 37 = .ok (.invokevirtual 77, 3) := by decide +kernel
theorem dX9_howManyAlike_40 : decode cX9_howManyAlike 40 = .ok (.ireturn, 1) := by decide +kernel
theorem dX9_readAny_0 : decode cX9_readAny 0 = .ok (.aload_n 0, 1) := by decide +kernel
theorem dX9_readAny_1 : decode cX9_readAny 1 = .ok (.iload_n 1, 1) := by decide +kernel
theorem dX9_readAny_2 : decode cX9_readAny 2 = .ok (.invokevirtual 101, 3) := by decide +kernel
theorem dX9_readAny_5 : decode cX9_readAny 5 = .ok (.ifCond .ne 5, 3) := by decide +kernel
theorem dX9_readAny_8 : decode cX9_readAny 8 = .ok (.iconst 0, 1) := by decide +kernel
theorem dX9_readAny_9 : decode cX9_readAny 9 = .ok (.ireturn, 1) := by decide +kernel
theorem dX9_readAny_10 : decode cX9_readAny 10 = .ok (.iconst 0, 1) := by decide +kernel
theorem dX9_readAny_11 : decode cX9_readAny 11 = .ok (.istore_n 2, 1) := by decide +kernel
theorem dX9_readAny_12 : decode cX9_readAny 12 = .ok (.iload_n 2, 1) := by decide +kernel
theorem dX9_readAny_13 : decode cX9_readAny 13 = .ok (.bipush 100, 2) := by decide +kernel
theorem dX9_readAny_15 : decode cX9_readAny 15 = .ok (.if_icmp .ge 38, 3) := by decide +kernel
theorem dX9_readAny_18 : decode cX9_readAny 18 = .ok (.aload_n 0, 1) := by decide +kernel
theorem dX9_readAny_19 : decode cX9_readAny 19 = .ok (.bipush 124, 2) := by decide +kernel
theorem dX9_readAny_21 : decode cX9_readAny 21 = .ok (.invokevirtual 41, 3) := by decide +kernel
theorem dX9_readAny_24 : decode cX9_readAny 24 = .ok (.ifCond .eq 29, 3) := by decide +kernel
theorem dX9_readAny_27 : decode cX9_readAny 27 = .ok (.aload_n 0, 1) := by decide +kernel
theorem dX9_readAny_28 : decode cX9_readAny 28 = .ok (.iload_n 1, 1) := by decide +kernel
theorem dX9_readAny_29 : decode cX9_readAny 29 = .ok (.invokevirtual 101, 3) := by decide +kernel
theorem dX9_readAny_32 : decode cX9_readAny 32 = .ok (.ifCond .eq 13, 3) := by decide +kernel
theorem dX9_readAny_35 : decode cX9_readAny 35 = .ok (.aload_n 0, 1) := by decide +kernel
theorem dX9_readAny_36 : decode cX9_readAny 36 = .ok (.bipush 20, 2) := by decide +kernel
theorem dX9_readAny_38 : decode cX9_readAny 38 = .ok (.iconst 0, 1) := by decide +kernel
theorem dX9_readAny_39 : decode cX9_readAny 39 = .ok (.invokevirtual 65, 3) := by decide +kernel
theorem dX9_readAny_42 : decode cX9_readAny 42 = .ok (.ifCond .ne 5, 3) := by decide +kernel
theorem dX9_readAny_45 : decode cX9_readAny 45 = .ok (.iconst 0, 1) := by decide +kernel
theorem dX9_readAny_46 : decode cX9_readAny 46 = .ok (.ireturn, 1) := by decide +kernel
theorem dX9_readAny_47 : decode cX9_readAny 47 = .ok (.iinc 2 1, 3) := by decide +kernel
theorem dX9_readAny_50 : decode cX9_readAny 50 = .ok (.goto (-38), 3) := by decide +kernel
theorem dX9_readAny_53 : decode cX9_readAny 53 = .ok (.iconst 1, 1) := by decide +kernel
theorem dX9_readAny_54 : decode cX9_readAny 54 = .ok (.ireturn, 1) := by decide +kernel
theorem dX9_readAll_0 : decode cX9_readAll 0 = .ok (.aload_n 0, 1) := by decide +kernel
theorem dX9_readAll_1 : decode cX9_readAll 1 = .ok (.iload_n 1, 1) := by decide +kernel
theorem dX9_readAll_2 : decode cX9_readAll 2 = .ok (.invokevirtual 104, 3) := by decide +kernel
theorem dX9_readAll_5 : decode cX9_readAll 5 = .ok (.ifCond .ne 5, 3) := by decide +kernel
theorem dX9_readAll_8 : decode cX9_readAll 8 = .ok (.iconst 0, 1) := by decide +kernel
theorem dX9_readAll_9 : decode cX9_readAll 9 = .ok (.ireturn, 1) := by decide +kernel
theorem dX9_readAll_10 : decode cX9_readAll 10 = .ok (.iconst 0, 1) := by decide +kernel
theorem dX9_readAll_11 : decode cX9_readAll 11 = .ok (.istore_n 2, 1) := by decide +kernel
theorem dX9_readAll_12 : decode cX9_readAll 12 = .ok (.iload_n 2, 1) := by decide +kernel
theorem dX9_readAll_13 : decode cX9_readAll 13 = .ok (.bipush 100, 2) := by decide +kernel
theorem dX9_readAll_15 : decode cX9_readAll 15 = .ok (.if_icmp .ge 38, 3) := by decide +kernel
theorem dX9_readAll_18 : decode cX9_readAll 18 = .ok (.aload_n 0, 1) := by decide +kernel
theorem dX9_readAll_19 : decode cX9_readAll 19 = .ok (.bipush 38, 2) := by decide +kernel
theorem dX9_readAll_21 : decode cX9_readAll 21 = .ok (.invokevirtual 41, 3) := by decide +kernel
theorem dX9_readAll_24 : decode cX9_readAll 24 = .ok (.ifCond .eq 29, 3) := by decide +kernel
theorem dX9_readAll_27 : decode cX9_readAll 27 = .ok (.aload_n 0, 1) := by decide +kernel
theorem dX9_readAll_28 : decode cX9_readAll 28 = .ok (.iload_n 1, 1) := by decide +kernel
theorem dX9_readAll_29 : decode cX9_readAll 29 = .ok (.invokevirtual 104, 3) := by decide +kernel
theorem dX9_readAll_32 : decode cX9_readAll 32 = .ok (.ifCond .eq 13, 3) := by decide +kernel
theorem dX9_readAll_35 : decode cX9_readAll 35 = .ok (.aload_n 0, 1) := by decide +kernel
theorem dX9_readAll_36 : decode cX9_readAll 36 = .ok (.bipush 19, 2) := by decide +kernel
theorem dX9_readAll_38 : decode cX9_readAll 38 = .ok (.iconst 0, 1) := by decide +kernel
theorem dX9_readAll_39 : decode cX9_readAll 39 = .ok (.invokevirtual 65, 3) := by decide +kernel
theorem dX9_readAll_42 : decode cX9_readAll 42 = .ok (.ifCond .ne 5, 3) := by decide +kernel
theorem dX9_readAll_45 : decode cX9_readAll 45 = .ok (.iconst 0, 1) := by decide +kernel
theorem dX9_readAll_46 : decode cX9_readAll 46 = .ok (.ireturn, 1) := by decide +kernel
theorem dX9_readAll_47 : decode cX9_readAll 47 = .ok (.iinc 2 1, 3) := by decide +kernel
theorem dX9_readAll_50 : decode cX9_readAll 50 = .ok (.goto (-38), 3) := by decide +kernel
theorem dX9_readAll_53 : decode cX9_readAll 53 = .ok (.iconst 1, 1) := by decide +kernel
theorem dX9_readAll_54 : decode cX9_readAll 54 = .ok (.ireturn, 1) := by decide +kernel
theorem dX9_readOne_0 : decode cX9_readOne 0 = .ok (.iload_n 1, 1) := by decide +kernel
theorem dX9_readOne_1 : decode cX9_readOne 1 = .ok (.iconst 4, 1) := by decide +kernel
theorem dX9_readOne_2 : decode cX9_readOne 2 = .ok (.if_icmp .ge 38, 3) := by decide +kernel
theorem dX9_readOne_5 : decode cX9_readOne 5 = .ok (.aload_n 0, 1) := by decide +kernel
theorem dX9_readOne_6 : decode cX9_readOne 6 = .ok (.bipush 33, 2) := by decide +kernel
theorem dX9_readOne_8 : decode cX9_readOne 8 = .ok (.invokevirtual 41, 3) := by decide +kernel
theorem dX9_readOne_11 : decode cX9_readOne 11 = .ok (.ifCond .eq 29, 3) := by decide +kernel
theorem dX9_readOne_14 : decode cX9_readOne 14 = .ok (.aload_n 0, 1) := by decide +kernel
theorem dX9_readOne_15 : decode cX9_readOne 15 = .ok (.iload_n 1, 1) := by decide +kernel
theorem dX9_readOne_16 : decode cX9_readOne 16 = .ok (.iconst 1, 1) := by decide +kernel
theorem dX9_readOne_17 : decode cX9_readOne 17 = .ok (.iadd, 1) := by decide +kernel
theorem dX9_readOne_18 : decode cX9_readOne 18 = .ok (.invokevirtual 104, 3) := by decide +kernel
theorem dX9_readOne_21 : decode cX9_readOne 21 = .ok (.ifCond .eq 17, 3) := by decide +kernel
theorem dX9_readOne_24 : decode cX9_readOne 24 = .ok (.aload_n 0, 1) := by decide +kernel
theorem dX9_readOne_25 : decode cX9_readOne 25 = .ok (.bipush 18, 2) := by decide +kernel
theorem dX9_readOne_27 : decode cX9_readOne 27 = .ok (.iconst 0, 1) := by decide +kernel
theorem dX9_readOne_28 : decode cX9_readOne 28 = .ok (.invokevirtual 65, 3) := by decide +kernel
theorem dX9_readOne_31 : decode cX9_readOne 31 = .ok (.ifCond .eq 7, 3) := by decide +kernel
theorem dX9_readOne_34 : decode cX9_readOne 34 = .ok (.iconst 1, 1) := by decide +kernel
theorem dX9_readOne_35 : decode cX9_readOne 35 = .ok (.goto 4, 3) := by decide +kernel
theorem dX9_readOne_38 : decode cX9_readOne 38 = .ok (.iconst 0, 1) := by decide +kernel
theorem dX9_readOne_39 : decode cX9_readOne 39 = .ok (.ireturn, 1) := by decide +kernel
theorem dX9_readOne_40 : decode cX9_readOne 40 = .ok (.iload_n 1, 1) := by decide +kernel
theorem dX9_readOne_41 : decode cX9_readOne 41 = .ok (.iconst 4, 1) := by decide +kernel
theorem dX9_readOne_42 : decode cX9_readOne 42 = .ok (.if_icmp .ge 37, 3) := by decide +kernel
theorem dX9_readOne_45 : decode cX9_readOne 45 = .ok (.aload_n 0, 1) := by decide +kernel
theorem dX9_readOne_46 : decode cX9_readOne 46 = .ok (.bipush 40, 2) := by decide +kernel
theorem dX9_readOne_48 : decode cX9_readOne 48 = .ok (.invokevirtual 41, 3) := by decide +kernel
theorem dX9_readOne_51 : decode cX9_readOne 51 = .ok (.ifCond .eq 28, 3) := by decide +kernel
theorem dX9_readOne_54 : decode cX9_readOne 54 = .ok (.aload_n 0, 1) := by decide +kernel
theorem dX9_readOne_55 : decode cX9_readOne 55 = .ok (.iload_n 1, 1) := by decide +kernel
theorem dX9_readOne_56 : decode cX9_readOne 56 = .ok (.iconst 1, 1) := by decide +kernel
theorem dX9_readOne_57 : decode cX9_readOne 57 = .ok (.iadd, 1) := by decide +kernel
theorem dX9_readOne_58 : decode cX9_readOne 58 = .ok (.invokevirtual 61, 3) := by decide +kernel
theorem dX9_readOne_61 : decode cX9_readOne 61 = .ok (.ifCond .eq 16, 3) := by decide +kernel
theorem dX9_readOne_64 : decode cX9_readOne 64 = .ok (.aload_n 0, 1) := by decide +kernel
theorem dX9_readOne_65 : decode cX9_readOne 65 = .ok (.bipush 41, 2) := by decide +kernel
theorem dX9_readOne_67 : decode cX9_readOne 67 = .ok (.invokevirtual 41, 3) := by decide +kernel
theorem dX9_readOne_70 : decode cX9_readOne 70 = .ok (.ifCond .eq 7, 3) := by decide +kernel
theorem dX9_readOne_73 : decode cX9_readOne 73 = .ok (.iconst 1, 1) := by decide +kernel
theorem dX9_readOne_74 : decode cX9_readOne 74 = .ok (.goto 4, 3) := by decide +kernel
theorem dX9_readOne_77 : decode cX9_readOne 77 = .ok (.iconst 0, 1) := by decide +kernel
theorem dX9_readOne_78 : decode cX9_readOne 78 = .ok (.ireturn, 1) := by decide +kernel
theorem dX9_readOne_79 : decode cX9_readOne 79 = .ok (.aload_n 0, 1) := by decide +kernel
theorem dX9_readOne_80 : decode cX9_readOne 80 = .ok (.ldc 107, 2) := by decide +kernel
theorem dX9_readOne_82 : decode cX9_readOne 82 = .ok (.invokevirtual 109, 3) := by decide +kernel
theorem dX9_readOne_85 : decode cX9_readOne 85 = .ok (.istore_n 2, 1) := by decide +kernel
theorem dX9_readOne_86 : decode cX9_readOne 86 = .ok (.iload_n 2, 1) := by decide +kernel
theorem dX9_readOne_87 : decode cX9_readOne 87 = .ok (.ifCond .ge 7, 3) := by decide +kernel
theorem dX9_readOne_90 : decode cX9_readOne 90 = .ok (.iload_n 2, 1) := by decide +kernel
theorem dX9_readOne_91 : decode cX9_readOne 91 = .ok (.goto 9, 3) := by decide +kernel
theorem dX9_readOne_94 : decode cX9_readOne 94 = .ok (.aload_n 0, 1) := by decide +kernel
theorem dX9_readOne_95 : decode cX9_readOne 95 = .ok (.ldc 112, 2) := by decide +kernel
theorem dX9_readOne_97 : decode cX9_readOne 97 = .ok (.invokevirtual 109, 3) := by decide +kernel
theorem dX9_readOne_100 : decode cX9_readOne 100 = .ok (.istore_n 3, 1) := by decide +kernel
theorem dX9_readOne_101 : decode cX9_readOne 101 = .ok (.iload_n 3, 1) := by decide +kernel
theorem dX9_readOne_102 : decode cX9_readOne 102 = .ok (.ifCond .lt 30, 3) := by decide +kernel
theorem dX9_readOne_105 : decode cX9_readOne 105 = .ok (.aload_n 0, 1) := by decide +kernel
theorem dX9_readOne_106 : decode cX9_readOne 106 = .ok (.invokevirtual 58, 3) := by decide +kernel
theorem dX9_readOne_109 : decode cX9_readOne 109 = .ok (.ifCond .eq 23, 3) := by decide +kernel
theorem dX9_readOne_112 : decode cX9_readOne 112 = .ok (.aload_n 0, 1) := by decide +kernel
theorem dX9_readOne_113 : decode cX9_readOne 113 = .ok (.iload_n 2, 1) := by decide +kernel
theorem dX9_readOne_114 : decode cX9_readOne 114 = .ok (.iconst 3, 1) := by decide +kernel
theorem dX9_readOne_115 : decode cX9_readOne 115 = .ok (.imul, 1) := by decide +kernel
theorem dX9_readOne_116 : decode cX9_readOne 116 = .ok (.iload_n 3, 1) := by decide +kernel
theorem dX9_readOne_117 : decode cX9_readOne 117 = .ok (.iadd, 1) := by decide +kernel
theorem dX9_readOne_118 : decode cX9_readOne 118 = .ok (.aload_n 0, 1) := by decide +kernel
theorem dX9_readOne_119 : decode cX9_readOne 119 = .ok (.getfield 38, 3) := by decide +kernel
theorem dX9_readOne_122 : decode cX9_readOne 122 = .ok (.invokevirtual 65, 3) := by decide +kernel
theorem dX9_readOne_125 : decode cX9_readOne 125 = .ok (.ifCond .eq 7, 3) := by decide +kernel
theorem dX9_readOne_128 : decode cX9_readOne 128 = .ok (.iconst 1, 1) := by decide +kernel
theorem dX9_readOne_129 : decode cX9_readOne 129 = .ok (.goto 4, 3) := by decide +kernel
theorem dX9_readOne_132 : decode cX9_readOne 132 = .ok (.iconst 0, 1) := by decide +kernel
theorem dX9_readOne_133 : decode cX9_readOne 133 = .ok (.ireturn, 1) := by decide +kernel
theorem dX9_readNumber_0 : decode cX9_readNumber 0 = .ok (.aload_n 0, 1) := by decide +kernel
theorem dX9_readNumber_1 : decode cX9_readNumber 1 = .ok (.aload_n 0, 1) := by decide +kernel
theorem dX9_readNumber_2 : decode cX9_readNumber 2 = .ok (.getfield 19, 3) := by decide +kernel
theorem dX9_readNumber_5 : decode cX9_readNumber 5 = .ok (.invokevirtual 93, 3) := by decide +kernel
theorem dX9_readNumber_8 : decode cX9_readNumber 8 = .ok (.invokestatic 114, 3) := by decide +kernel
theorem dX9_readNumber_11 : decode cX9_readNumber 11 = .ok (.ifCond .ne 5, 3) := by decide +kernel
theorem dX9_readNumber_14 : decode cX9_readNumber 14 = .ok (.iconst 0, 1) := by decide +kernel
theorem dX9_readNumber_15 : decode cX9_readNumber 15 = .ok (.ireturn, 1) := by decide +kernel
theorem dX9_readNumber_16 : decode cX9_readNumber 16 = .ok (.aload_n 0, 1) := by decide +kernel
theorem dX9_readNumber_17 : decode cX9_readNumber 17 = .ok (.aload_n 0, 1) := by decide +kernel
theorem dX9_readNumber_18 : decode cX9_readNumber 18 = .ok (.aload_n 0, 1) := by decide +kernel
theorem dX9_readNumber_19 : decode cX9_readNumber 19 = .ok (.getfield 19, 3) := by decide +kernel
theorem dX9_readNumber_22 : decode cX9_readNumber 22 = .ok (.invokevirtual 93, 3) := by decide +kernel
theorem dX9_readNumber_25 : decode cX9_readNumber 25 = .ok (.bipush 48, 2) := by decide +kernel
theorem dX9_readNumber_27 : decode cX9_readNumber 27 = .ok (.isub, 1) := by decide +kernel
theorem dX9_readNumber_28 : decode cX9_readNumber 28 = .ok (.putfield 38, 3) := by decide +kernel
theorem dX9_readNumber_31 : decode cX9_readNumber 31 = .ok (.aload_n 0, 1) := by decide +kernel
theorem dX9_readNumber_32 : decode cX9_readNumber 32 = .ok (.dup, 1) := by decide +kernel
theorem dX9_readNumber_33 : decode cX9_readNumber 33 = .ok (.getfield 19, 3) := by decide +kernel
theorem dX9_readNumber_36 : decode cX9_readNumber 36 = .ok (.iconst 1, 1) := by decide +kernel
theorem dX9_readNumber_37 : decode cX9_readNumber 37 = .ok (.iadd, 1) := by decide +kernel
theorem dX9_readNumber_38 : decode cX9_readNumber 38 = .ok (.putfield 19, 3) := by decide +kernel
theorem dX9_readNumber_41 : decode cX9_readNumber 41 = .ok (.aload_n 0, 1) := by decide +kernel
theorem dX9_readNumber_42 : decode cX9_readNumber 42 = .ok (.aload_n 0, 1) := by decide +kernel
theorem dX9_readNumber_43 : decode cX9_readNumber 43 = .ok (.getfield 19, 3) := by decide +kernel
theorem dX9_readNumber_46 : decode cX9_readNumber 46 = .ok (.invokevirtual 93, 3) := by decide +kernel
theorem dX9_readNumber_49 : decode cX9_readNumber 49 = .ok (.invokestatic 114, 3) := by decide +kernel
theorem dX9_readNumber_52 : decode cX9_readNumber 52 = .ok (.ifCond .eq 36, 3) := by decide +kernel
theorem dX9_readNumber_55 : decode cX9_readNumber 55 = .ok (.aload_n 0, 1) := by decide +kernel
theorem dX9_readNumber_56 : decode cX9_readNumber 56 = .ok (.aload_n 0, 1) := by decide +kernel
theorem dX9_readNumber_57 : decode cX9_readNumber 57 = .ok (.getfield 38, 3) := by decide +kernel
theorem dX9_readNumber_60 : decode cX9_readNumber 60 = .ok (.bipush 10, 2) := by decide +kernel
theorem dX9_readNumber_62 : decode cX9_readNumber 62 = .ok (.imul, 1) := by decide +kernel
theorem dX9_readNumber_63 : decode cX9_readNumber 63 = .ok (.aload_n 0, 1) := by decide +kernel
theorem dX9_readNumber_64 : decode cX9_readNumber 64 = .ok (.aload_n 0, 1) := by decide +kernel
theorem dX9_readNumber_65 : decode cX9_readNumber 65 = .ok (.getfield 19, 3) := by decide +kernel
theorem dX9_readNumber_68 : decode cX9_readNumber 68 = .ok (.invokevirtual 93, 3) := by decide +kernel
theorem dX9_readNumber_71 : decode cX9_readNumber 71 = .ok (.iadd, 1) := by decide +kernel
theorem dX9_readNumber_72 : decode cX9_readNumber 72 = .ok (.bipush 48, 2) := by decide +kernel
theorem dX9_readNumber_74 : decode cX9_readNumber 74 = .ok (.isub, 1) := by decide +kernel
theorem dX9_readNumber_75 : decode cX9_readNumber 75 = .ok (.putfield 38, 3) := by decide +kernel
theorem dX9_readNumber_78 : decode cX9_readNumber 78 = .ok (.aload_n 0, 1) := by decide +kernel
theorem dX9_readNumber_79 : decode cX9_readNumber 79 = .ok (.dup, 1) := by decide +kernel
theorem dX9_readNumber_80 : decode cX9_readNumber 80 = .ok (.getfield 19, 3) := by decide +kernel
theorem dX9_readNumber_83 : decode cX9_readNumber 83 = .ok (.iconst 1, 1) := by decide +kernel
theorem dX9_readNumber_84 : decode cX9_readNumber 84 = .ok (.iadd, 1) := by decide +kernel
theorem dX9_readNumber_85 : decode cX9_readNumber 85 = .ok (.putfield 19, 3) := by decide +kernel
theorem dX9_readNumber_88 : decode cX9_readNumber 88 = .ok (.iconst 1, 1) := by decide +kernel
theorem dX9_readNumber_89 : decode cX9_readNumber 89 = .ok (.ireturn, 1) := by decide +kernel
theorem dX9_isDigit_0 : decode cX9_isDigit 0 = .ok (.iload_n 0, 1) := by decide +kernel
theorem dX9_isDigit_1 : decode cX9_isDigit 1 = .ok (.bipush 48, 2) := by decide +kernel
theorem dX9_isDigit_3 : decode cX9_isDigit 3 = .ok (.if_icmp .lt 13, 3) := by decide +kernel
theorem dX9_isDigit_6 : decode cX9_isDigit 6 = .ok (.iload_n 0, 1) := by decide +kernel
theorem dX9_isDigit_7 : decode cX9_isDigit 7 = .ok (.bipush 57, 2) := by decide +kernel
theorem dX9_isDigit_9 : decode cX9_isDigit 9 = .ok (.if_icmp .gt 7, 3) := by decide +kernel
theorem dX9_isDigit_12 : decode cX9_isDigit 12 = .ok (.iconst 1, 1) := by decide +kernel
theorem dX9_isDigit_13 : decode cX9_isDigit 13 = .ok (.goto 4, 3) := by decide +kernel
theorem dX9_isDigit_16 : decode cX9_isDigit 16 = .ok (.iconst 0, 1) := by decide +kernel
theorem dX9_isDigit_17 : decode cX9_isDigit 17 = .ok (.ireturn, 1) := by decide +kernel
theorem dX9_signAt_0 : decode cX9_signAt 0 = .ok (.iload_n 1, 1) := by decide +kernel
theorem dX9_signAt_1 : decode cX9_signAt 1 = .ok (.ifCond .lt 20, 3) := by decide +kernel
theorem dX9_signAt_4 : decode cX9_signAt 4 = .ok (.iload_n 1, 1) := by decide +kernel
theorem dX9_signAt_5 : decode cX9_signAt 5 = .ok (.aload_n 0, 1) := by decide +kernel
theorem dX9_signAt_6 : decode cX9_signAt 6 = .ok (.getfield 15, 3) := by decide +kernel
theorem dX9_signAt_9 : decode cX9_signAt 9 = .ok (.if_icmp .ge 12, 3) := by decide +kernel
theorem dX9_signAt_12 : decode cX9_signAt 12 = .ok (.aload_n 0, 1) := by decide +kernel
theorem dX9_signAt_13 : decode cX9_signAt 13 = .ok (.getfield 9, 3) := by decide +kernel
theorem dX9_signAt_16 : decode cX9_signAt 16 = .ok (.iload_n 1, 1) := by decide +kernel
theorem dX9_signAt_17 : decode cX9_signAt 17 = .ok (.baload, 1) := by decide +kernel
theorem dX9_signAt_18 : decode cX9_signAt 18 = .ok (.goto 4, 3) := by decide +kernel
theorem dX9_signAt_21 : decode cX9_signAt 21 = .ok (.iconst (-1), 1) := by decide +kernel
theorem dX9_signAt_22 : decode cX9_signAt 22 = .ok (.ireturn, 1) := by decide +kernel
theorem dX9_takes_0 : decode cX9_takes 0 = .ok (.aload_n 0, 1) := by decide +kernel
theorem dX9_takes_1 : decode cX9_takes 1 = .ok (.aload_n 0, 1) := by decide +kernel
theorem dX9_takes_2 : decode cX9_takes 2 = .ok (.getfield 19, 3) := by decide +kernel
theorem dX9_takes_5 : decode cX9_takes 5 = .ok (.invokevirtual 93, 3) := by decide +kernel
theorem dX9_takes_8 : decode cX9_takes 8 = .ok (.iload_n 1, 1) := by decide +kernel
theorem dX9_takes_9 : decode cX9_takes 9 = .ok (.if_icmp .eq 5, 3) := by decide +kernel
theorem dX9_takes_12 : decode cX9_takes 12 = .ok (.iconst 0, 1) := by decide +kernel
theorem dX9_takes_13 : decode cX9_takes 13 = .ok (.ireturn, 1) := by decide +kernel
theorem dX9_takes_14 : decode cX9_takes 14 = .ok (.aload_n 0, 1) := by decide +kernel
theorem dX9_takes_15 : decode cX9_takes 15 = .ok (.dup, 1) := by decide +kernel
theorem dX9_takes_16 : decode cX9_takes 16 = .ok (.getfield 19, 3) := by decide +kernel
theorem dX9_takes_19 : decode cX9_takes 19 = .ok (.iconst 1, 1) := by decide +kernel
theorem dX9_takes_20 : decode cX9_takes 20 = .ok (.iadd, 1) := by decide +kernel
theorem dX9_takes_21 : decode cX9_takes 21 = .ok (.putfield 19, 3) := by decide +kernel
theorem dX9_takes_24 : decode cX9_takes 24 = .ok (.iconst 1, 1) := by decide +kernel
theorem dX9_takes_25 : decode cX9_takes 25 = .ok (.ireturn, 1) := by decide +kernel
theorem dX9_takesOneOf_0 : decode cX9_takesOneOf 0 = .ok (.aload_n 0, 1) := by decide +kernel
theorem dX9_takesOneOf_1 : decode cX9_takesOneOf 1 = .ok (.aload_n 0, 1) := by decide +kernel
theorem dX9_takesOneOf_2 : decode cX9_takesOneOf 2 = .ok (.getfield 19, 3) := by decide +kernel
theorem dX9_takesOneOf_5 : decode cX9_takesOneOf 5 = .ok (.invokevirtual 93, 3) := by decide +kernel
theorem dX9_takesOneOf_8 : decode cX9_takesOneOf 8 = .ok (.istore_n 2, 1) := by decide +kernel
theorem dX9_takesOneOf_9 : decode cX9_takesOneOf 9 = .ok (.iload_n 2, 1) := by decide +kernel
theorem dX9_takesOneOf_10 : decode cX9_takesOneOf 10 = .ok (.iconst (-1), 1) := by decide +kernel
theorem dX9_takesOneOf_11 : decode cX9_takesOneOf 11 = .ok (.if_icmp .ne 5, 3) := by decide +kernel
theorem dX9_takesOneOf_14 : decode cX9_takesOneOf 14 = .ok (.iconst (-1), 1) := by decide +kernel
theorem dX9_takesOneOf_15 : decode cX9_takesOneOf 15 = .ok (.ireturn, 1) := by decide +kernel
theorem dX9_takesOneOf_16 : decode cX9_takesOneOf 16 = .ok (.aload_n 1, 1) := by decide +kernel
theorem dX9_takesOneOf_17 : decode cX9_takesOneOf 17 = .ok (.iload_n 2, 1) := by decide +kernel
theorem dX9_takesOneOf_18 : decode cX9_takesOneOf 18 = .ok (.i2c, 1) := by decide +kernel
theorem dX9_takesOneOf_19 : decode cX9_takesOneOf 19 = .ok (.invokevirtual 117, 3) := by decide +kernel
theorem dX9_takesOneOf_22 : decode cX9_takesOneOf 22 = .ok (.istore_n 3, 1) := by decide +kernel
theorem dX9_takesOneOf_23 : decode cX9_takesOneOf 23 = .ok (.iload_n 3, 1) := by decide +kernel
theorem dX9_takesOneOf_24 : decode cX9_takesOneOf 24 = .ok (.ifCond .lt 13, 3) := by decide +kernel
theorem dX9_takesOneOf_27 : decode cX9_takesOneOf 27 = .ok (.aload_n 0, 1) := by decide +kernel
theorem dX9_takesOneOf_28 : decode cX9_takesOneOf 28 = .ok (.dup, 1) := by decide +kernel
theorem dX9_takesOneOf_29 : decode cX9_takesOneOf 29 = .ok (.getfield 19, 3) := by decide +kernel
theorem dX9_takesOneOf_32 : decode cX9_takesOneOf 32 = .ok (.iconst 1, 1) := by decide +kernel
theorem dX9_takesOneOf_33 : decode cX9_takesOneOf 33 = .ok (.iadd, 1) := by decide +kernel
theorem dX9_takesOneOf_34 : decode cX9_takesOneOf 34 = .ok (.putfield 19, 3) := by decide +kernel
theorem dX9_takesOneOf_37 : decode cX9_takesOneOf 37 = .ok (.iload_n 3, 1) := by decide +kernel
theorem dX9_takesOneOf_38 : decode cX9_takesOneOf 38 = .ok (.ireturn, 1) := by decide +kernel
theorem dX9_putCode_0 : decode cX9_putCode 0 = .ok (.aload_n 0, 1) := by decide +kernel
theorem dX9_putCode_1 : decode cX9_putCode 1 = .ok (.getfield 35, 3) := by decide +kernel
theorem dX9_putCode_4 : decode cX9_putCode 4 = .ok (.bipush 100, 2) := by decide +kernel
theorem dX9_putCode_6 : decode cX9_putCode 6 = .ok (.if_icmp .lt 5, 3) := by decide +kernel
theorem dX9_putCode_9 : decode cX9_putCode 9 = .ok (.iconst 0, 1) := by decide +kernel
theorem dX9_putCode_10 : decode cX9_putCode 10 = .ok (.ireturn, 1) := by decide +kernel
theorem dX9_putCode_11 : decode cX9_putCode 11 = .ok (.aload_n 0, 1) := by decide +kernel
theorem dX9_putCode_12 : decode cX9_putCode 12 = .ok (.getfield 28, 3) := by decide +kernel
theorem dX9_putCode_15 : decode cX9_putCode 15 = .ok (.aload_n 0, 1) := by decide +kernel
theorem dX9_putCode_16 : decode cX9_putCode 16 = .ok (.getfield 35, 3) := by decide +kernel
theorem dX9_putCode_19 : decode cX9_putCode 19 = .ok (.iload_n 1, 1) := by decide +kernel
theorem dX9_putCode_20 : decode cX9_putCode 20 = .ok (.iastore, 1) := by decide +kernel
theorem dX9_putCode_21 : decode cX9_putCode 21 = .ok (.aload_n 0, 1) := by decide +kernel
theorem dX9_putCode_22 : decode cX9_putCode 22 = .ok (.getfield 32, 3) := by decide +kernel
theorem dX9_putCode_25 : decode cX9_putCode 25 = .ok (.aload_n 0, 1) := by decide +kernel
theorem dX9_putCode_26 : decode cX9_putCode 26 = .ok (.getfield 35, 3) := by decide +kernel
theorem dX9_putCode_29 : decode cX9_putCode 29 = .ok (.iload_n 2, 1) := by decide +kernel
theorem dX9_putCode_30 : decode cX9_putCode 30 = .ok (.iastore, 1) := by decide +kernel
theorem dX9_putCode_31 : decode cX9_putCode 31 = .ok (.aload_n 0, 1) := by decide +kernel
theorem dX9_putCode_32 : decode cX9_putCode 32 = .ok (.dup, 1) := by decide +kernel
theorem dX9_putCode_33 : decode cX9_putCode 33 = .ok (.getfield 35, 3) := by decide +kernel
theorem dX9_putCode_36 : decode cX9_putCode 36 = .ok (.iconst 1, 1) := by decide +kernel
theorem dX9_putCode_37 : decode cX9_putCode 37 = .ok (.iadd, 1) := by decide +kernel
theorem dX9_putCode_38 : decode cX9_putCode 38 = .ok (.putfield 35, 3) := by decide +kernel
theorem dX9_putCode_41 : decode cX9_putCode 41 = .ok (.iconst 1, 1) := by decide +kernel
theorem dX9_putCode_42 : decode cX9_putCode 42 = .ok (.ireturn, 1) := by decide +kernel
theorem dX10_init_0 : decode cX10_init 0 = .ok (.aload_n 0, 1) := by decide +kernel
theorem dX10_init_1 : decode cX10_init 1 = .ok (.iload_n 1, 1) := by decide +kernel
theorem dX10_init_2 : decode cX10_init 2 = .ok (.invokespecial 3, 3) := by decide +kernel
theorem dX10_init_5 : decode cX10_init 5 = .ok (.return_, 1) := by decide +kernel
theorem dX10_portion_0 : decode cX10_portion 0 = .ok (.aload_n 0, 1) := by decide +kernel
theorem dX10_portion_1 : decode cX10_portion 1 = .ok (.aload_n 1, 1) := by decide +kernel
theorem dX10_portion_2 : decode cX10_portion 2 = .ok (.invokespecial 9, 3) := by decide +kernel
theorem dX10_portion_5 : decode cX10_portion 5 = .ok (.aload_n 1, 1) := by decide +kernel
theorem dX10_portion_6 : decode cX10_portion 6 = .ok (.getfield 13, 3) := by decide +kernel
theorem dX10_portion_9 : decode cX10_portion 9 = .ok (.aload_n 1, 1) := by decide +kernel
theorem dX10_portion_10 : decode cX10_portion 10 = .ok (.getfield 19, 3) := by decide +kernel
theorem dX10_portion_13 : decode cX10_portion 13 = .ok (.iconst 4, 1) := by decide +kernel
theorem dX10_portion_14 : decode cX10_portion 14 = .ok (.invokestatic 23, 3) := by decide +kernel
theorem dX10_portion_17 : decode cX10_portion 17 = .ok (.iaload, 1) := by decide +kernel
theorem dX10_portion_18 : decode cX10_portion 18 = .ok (.iadd, 1) := by decide +kernel
theorem dX10_portion_19 : decode cX10_portion 19 = .ok (.ireturn, 1) := by decide +kernel
theorem dX10_buys_0 : decode cX10_buys 0 = .ok (.aload_n 3, 1) := by decide +kernel
theorem dX10_buys_1 : decode cX10_buys 1 = .ok (.bipush 70, 2) := by decide +kernel
theorem dX10_buys_3 : decode cX10_buys 3 = .ok (.invokestatic 29, 3) := by decide +kernel
theorem dX10_buys_6 : decode cX10_buys 6 = .ok (.invokevirtual 35, 3) := by decide +kernel
theorem dX10_buys_9 : decode cX10_buys 9 = .ok (.pop, 1) := by decide +kernel
theorem dX10_buys_10 : decode cX10_buys 10 = .ok (.aload_n 0, 1) := by decide +kernel
theorem dX10_buys_11 : decode cX10_buys 11 = .ok (.aload_n 1, 1) := by decide +kernel
theorem dX10_buys_12 : decode cX10_buys 12 = .ok (.iload_n 2, 1) := by decide +kernel
theorem dX10_buys_13 : decode cX10_buys 13 = .ok (.aload_n 3, 1) := by decide +kernel
theorem dX10_buys_14 : decode cX10_buys 14 = .ok (.invokespecial 41, 3) := by decide +kernel
theorem dX10_buys_17 : decode cX10_buys 17 = .ok (.aload_n 0, 1) := by decide +kernel
theorem dX10_buys_18 : decode cX10_buys 18 = .ok (.aload_n 1, 1) := by decide +kernel
theorem dX10_buys_19 : decode cX10_buys 19 = .ok (.iconst 2, 1) := by decide +kernel
theorem dX10_buys_20 : decode cX10_buys 20 = .ok (.aload_n 3, 1) := by decide +kernel
theorem dX10_buys_21 : decode cX10_buys 21 = .ok (.invokespecial 45, 3) := by decide +kernel
theorem dX10_buys_24 : decode cX10_buys 24 = .ok (.iadd, 1) := by decide +kernel
theorem dX10_buys_25 : decode cX10_buys 25 = .ok (.ireturn, 1) := by decide +kernel
theorem dX10_asks_0 : decode cX10_asks 0 = .ok (.aload_n 3, 1) := by decide +kernel
theorem dX10_asks_1 : decode cX10_asks 1 = .ok (.bipush 71, 2) := by decide +kernel
theorem dX10_asks_3 : decode cX10_asks 3 = .ok (.invokestatic 29, 3) := by decide +kernel
theorem dX10_asks_6 : decode cX10_asks 6 = .ok (.invokevirtual 35, 3) := by decide +kernel
theorem dX10_asks_9 : decode cX10_asks 9 = .ok (.pop, 1) := by decide +kernel
theorem dX10_asks_10 : decode cX10_asks 10 = .ok (.aload_n 0, 1) := by decide +kernel
theorem dX10_asks_11 : decode cX10_asks 11 = .ok (.aload_n 1, 1) := by decide +kernel
theorem dX10_asks_12 : decode cX10_asks 12 = .ok (.iload_n 2, 1) := by decide +kernel
theorem dX10_asks_13 : decode cX10_asks 13 = .ok (.aload_n 3, 1) := by decide +kernel
theorem dX10_asks_14 : decode cX10_asks 14 = .ok (.invokespecial 45, 3) := by decide +kernel
theorem dX10_asks_17 : decode cX10_asks 17 = .ok (.aload_n 1, 1) := by decide +kernel
theorem dX10_asks_18 : decode cX10_asks 18 = .ok (.getfield 48, 3) := by decide +kernel
theorem dX10_asks_21 : decode cX10_asks 21 = .ok (.ixor, 1) := by decide +kernel
theorem dX10_asks_22 : decode cX10_asks 22 = .ok (.ireturn, 1) := by decide +kernel
theorem dX11_init_0 : decode cX11_init 0 = .ok (.aload_n 0, 1) := by decide +kernel
theorem dX11_init_1 : decode cX11_init 1 = .ok (.invokespecial 3, 3) := by decide +kernel
theorem dX11_init_4 : decode cX11_init 4 = .ok (.aload_n 0, 1) := by decide +kernel
theorem dX11_init_5 : decode cX11_init 5 = .ok (.bipush 7, 2) := by decide +kernel
theorem dX11_init_7 : decode cX11_init 7 = .ok (.anewarray 9, 3) := by decide +kernel
theorem dX11_init_10 : decode cX11_init 10 = .ok (.dup, 1) := by decide +kernel
theorem dX11_init_11 : decode cX11_init 11 = .ok (.iconst 0, 1) := by decide +kernel
theorem dX11_init_12 : decode cX11_init 12 = .ok (.new 9, 3) := by decide +kernel
theorem dX11_init_15 : decode cX11_init 15 = .ok (.dup, 1) := by decide +kernel
theorem dX11_init_16 : decode cX11_init 16 = .ok (.iconst 0, 1) := by decide +kernel
theorem dX11_init_17 : decode cX11_init 17 = .ok (.invokespecial 11, 3) := by decide +kernel
theorem dX11_init_20 : decode cX11_init 20 = .ok (.aastore, 1) := by decide +kernel
theorem dX11_init_21 : decode cX11_init 21 = .ok (.dup, 1) := by decide +kernel
theorem dX11_init_22 : decode cX11_init 22 = .ok (.iconst 1, 1) := by decide +kernel
theorem dX11_init_23 : decode cX11_init 23 = .ok (.new 14, 3) := by decide +kernel
theorem dX11_init_26 : decode cX11_init 26 = .ok (.dup, 1) := by decide +kernel
theorem dX11_init_27 : decode cX11_init 27 = .ok (.iconst 1, 1) := by decide +kernel
theorem dX11_init_28 : decode cX11_init 28 = .ok (.invokespecial 16, 3) := by decide +kernel
theorem dX11_init_31 : decode cX11_init 31 = .ok (.aastore, 1) := by decide +kernel
theorem dX11_init_32 : decode cX11_init 32 = .ok (.dup, 1) := by decide +kernel
theorem dX11_init_33 : decode cX11_init 33 = .ok (.iconst 2, 1) := by decide +kernel
theorem dX11_init_34 : decode cX11_init 34 = .ok (.new 17, 3) := by decide +kernel
theorem dX11_init_37 : decode cX11_init 37 = .ok (.dup, 1) := by decide +kernel
theorem dX11_init_38 : decode cX11_init 38 = .ok (.iconst 2, 1) := by decide +kernel
theorem dX11_init_39 : decode cX11_init 39 = .ok (.invokespecial 19, 3) := by decide +kernel
theorem dX11_init_42 : decode cX11_init 42 = .ok (.aastore, 1) := by decide +kernel
theorem dX11_init_43 : decode cX11_init 43 = .ok (.dup, 1) := by decide +kernel
theorem dX11_init_44 : decode cX11_init 44 = .ok (.iconst 3, 1) := by decide +kernel
theorem dX11_init_45 : decode cX11_init 45 = .ok (.new 20, 3) := by decide +kernel
theorem dX11_init_48 : decode cX11_init 48 = .ok (.dup, 1) := by decide +kernel
theorem dX11_init_49 : decode cX11_init 49 = .ok (.iconst 3, 1) := by decide +kernel
theorem dX11_init_50 : decode cX11_init 50 = .ok (.invokespecial 22, 3) := by decide +kernel
theorem dX11_init_53 : decode cX11_init 53 = .ok (.aastore, 1) := by decide +kernel
theorem dX11_init_54 : decode cX11_init 54 = .ok (.dup, 1) := by decide +kernel
theorem dX11_init_55 : decode cX11_init 55 = .ok (.iconst 4, 1) := by decide +kernel
theorem dX11_init_56 : decode cX11_init 56 = .ok (.new 23, 3) := by decide +kernel
theorem dX11_init_59 : decode cX11_init 59 = .ok (.dup, 1) := by decide +kernel
theorem dX11_init_60 : decode cX11_init 60 = .ok (.iconst 4, 1) := by decide +kernel
theorem dX11_init_61 : decode cX11_init 61 = .ok (.invokespecial 25, 3) := by decide +kernel
theorem dX11_init_64 : decode cX11_init 64 = .ok (.aastore, 1) := by decide +kernel
theorem dX11_init_65 : decode cX11_init 65 = .ok (.dup, 1) := by decide +kernel
theorem dX11_init_66 : decode cX11_init 66 = .ok (.iconst 5, 1) := by decide +kernel
theorem dX11_init_67 : decode cX11_init 67 = .ok (.new 26, 3) := by decide +kernel
theorem dX11_init_70 : decode cX11_init 70 = .ok (.dup, 1) := by decide +kernel
theorem dX11_init_71 : decode cX11_init 71 = .ok (.iconst 5, 1) := by decide +kernel
theorem dX11_init_72 : decode cX11_init 72 = .ok (.invokespecial 28, 3) := by decide +kernel
theorem dX11_init_75 : decode cX11_init 75 = .ok (.aastore, 1) := by decide +kernel
theorem dX11_init_76 : decode cX11_init 76 = .ok (.dup, 1) := by decide +kernel
theorem dX11_init_77 : decode cX11_init 77 = .ok (.bipush 6, 2) := by decide +kernel
theorem dX11_init_79 : decode cX11_init 79 = .ok (.new 29, 3) := by decide +kernel
theorem dX11_init_82 : decode cX11_init 82 = .ok (.dup, 1) := by decide +kernel
theorem dX11_init_83 : decode cX11_init 83 = .ok (.bipush 6, 2) := by decide +kernel
theorem dX11_init_85 : decode cX11_init 85 = .ok (.invokespecial 31, 3) := by decide +kernel
theorem dX11_init_88 : decode cX11_init 88 = .ok (.aastore, 1) := by decide +kernel
theorem dX11_init_89 : decode cX11_init 89 = .ok (.putfield 32, 3) := by decide +kernel
theorem dX11_init_92 : decode cX11_init 92 = .ok (.aload_n 0, 1) := by decide +kernel
theorem dX11_init_93 : decode cX11_init 93 = .ok (.new 38, 3) := by decide +kernel
theorem dX11_init_96 : decode cX11_init 96 = .ok (.dup, 1) := by decide +kernel
theorem dX11_init_97 : decode cX11_init 97 = .ok (.aload_n 0, 1) := by decide +kernel
theorem dX11_init_98 : decode cX11_init 98 = .ok (.getfield 32, 3) := by decide +kernel
theorem dX11_init_101 : decode cX11_init 101 = .ok (.iconst 0, 1) := by decide +kernel
theorem dX11_init_102 : decode cX11_init 102 = .ok (.aaload, 1) := by decide +kernel
theorem dX11_init_103 : decode cX11_init 103 = .ok (.invokespecial 40, 3) := by decide +kernel
theorem dX11_init_106 : decode cX11_init 106 = .ok (.putfield 43, 3) := by decide +kernel
theorem dX11_init_109 : decode cX11_init 109 = .ok (.aload_n 0, 1) := by decide +kernel
theorem dX11_init_110 : decode cX11_init 110 = .ok (.new 38, 3) := by decide +kernel
theorem dX11_init_113 : decode cX11_init 113 = .ok (.dup, 1) := by decide +kernel
theorem dX11_init_114 : decode cX11_init 114 = .ok (.aload_n 0, 1) := by decide +kernel
theorem dX11_init_115 : decode cX11_init 115 = .ok (.getfield 32, 3) := by decide +kernel
theorem dX11_init_118 : decode cX11_init 118 = .ok (.iconst 0, 1) := by decide +kernel
theorem dX11_init_119 : decode cX11_init 119 = .ok (.aaload, 1) := by decide +kernel
theorem dX11_init_120 : decode cX11_init 120 = .ok (.invokespecial 40, 3) := by decide +kernel
theorem dX11_init_123 : decode cX11_init 123 = .ok (.putfield 47, 3) := by decide +kernel
theorem dX11_init_126 : decode cX11_init 126 = .ok (.aload_n 0, 1) := by decide +kernel
theorem dX11_init_127 : decode cX11_init 127 = .ok (.new 38, 3) := by decide +kernel
theorem dX11_init_130 : decode cX11_init 130 = .ok (.dup, 1) := by decide +kernel
theorem dX11_init_131 : decode cX11_init 131 = .ok (.aload_n 0, 1) := by decide +kernel
theorem dX11_init_132 : decode cX11_init 132 = .ok (.getfield 32, 3) := by decide +kernel
theorem dX11_init_135 : decode cX11_init 135 = .ok (.iconst 0, 1) := by decide +kernel
theorem dX11_init_136 : decode cX11_init 136 = .ok (.aaload, 1) := by decide +kernel
theorem dX11_init_137 : decode cX11_init 137 = .ok (.invokespecial 40, 3) := by decide +kernel
theorem dX11_init_140 : decode cX11_init 140 = .ok (.putfield 50, 3) := by decide +kernel
theorem dX11_init_143 : decode cX11_init 143 = .ok (.aload_n 0, 1) := by decide +kernel
theorem dX11_init_144 : decode cX11_init 144 = .ok (.new 53, 3) := by decide +kernel
theorem dX11_init_147 : decode cX11_init 147 = .ok (.dup, 1) := by decide +kernel
theorem dX11_init_148 : decode cX11_init 148 = .ok (.invokespecial 55, 3) := by decide +kernel
theorem dX11_init_151 : decode cX11_init 151 = .ok (.putfield 56, 3) := by decide +kernel
theorem dX11_init_154 : decode cX11_init 154 = .ok (.aload_n 0, 1) := by decide +kernel
theorem dX11_init_155 : decode cX11_init 155 = .ok (.new 60, 3) := by decide +kernel
theorem dX11_init_158 : decode cX11_init 158 = .ok (.dup, 1) := by decide +kernel
theorem dX11_init_159 : decode cX11_init 159 = .ok (.invokespecial 62, 3) := by decide +kernel
theorem dX11_init_162 : decode cX11_init 162 = .ok (.putfield 63, 3) := by decide +kernel
theorem dX11_init_165 : decode cX11_init 165 = .ok (.aload_n 0, 1) := by decide +kernel
theorem dX11_init_166 : decode cX11_init 166 = .ok (.bipush 6, 2) := by decide +kernel
theorem dX11_init_168 : decode cX11_init 168 = .ok (.newarray .int, 2) := by decide +kernel
theorem dX11_init_170 : decode cX11_init 170 = .ok (.putfield 67, 3) := by decide +kernel
theorem dX11_init_173 : decode cX11_init 173 = .ok (.aload_n 0, 1) := by decide +kernel
theorem dX11_init_174 : decode cX11_init 174 = .ok (.bipush 6, 2) := by decide +kernel
theorem dX11_init_176 : decode cX11_init 176 = .ok (.newarray .int, 2) := by decide +kernel
theorem dX11_init_178 : decode cX11_init 178 = .ok (.putfield 71, 3) := by decide +kernel
theorem dX11_init_181 : decode cX11_init 181 = .ok (.aload_n 0, 1) := by decide +kernel
theorem dX11_init_182 : decode cX11_init 182 = .ok (.bipush 6, 2) := by decide +kernel
theorem dX11_init_184 : decode cX11_init 184 = .ok (.bipush 60, 2) := by decide +kernel
theorem dX11_init_186 : decode cX11_init 186 = .ok (.multianewarray 74 2, 4) := by decide +kernel
theorem dX11_init_190 : decode cX11_init 190 = .ok (.putfield 76, 3) := by decide +kernel
theorem dX11_init_193 : decode cX11_init 193 = .ok (.aload_n 0, 1) := by decide +kernel
theorem dX11_init_194 : decode cX11_init 194 = .ok (.iconst 0, 1) := by decide +kernel
theorem dX11_init_195 : decode cX11_init 195 = .ok (.putfield 79, 3) := by decide +kernel
theorem dX11_init_198 : decode cX11_init 198 = .ok (.aload_n 0, 1) := by decide +kernel
theorem dX11_init_199 : decode cX11_init 199 = .ok (.iconst 0, 1) := by decide +kernel
theorem dX11_init_200 : decode cX11_init 200 = .ok (.putfield 83, 3) := by decide +kernel
theorem dX11_init_203 : decode cX11_init 203 = .ok (.aload_n 0, 1) := by decide +kernel
theorem dX11_init_204 : decode cX11_init 204 = .ok (.getfield 67, 3) := by decide +kernel
theorem dX11_init_207 : decode cX11_init 207 = .ok (.iconst (-1), 1) := by decide +kernel
theorem dX11_init_208 : decode cX11_init 208 = .ok (.invokestatic 87, 3) := by decide +kernel
theorem dX11_init_211 : decode cX11_init 211 = .ok (.return_, 1) := by decide +kernel
theorem dX11_customer_0 : decode cX11_customer 0 = .ok (.iload_n 1, 1) := by decide +kernel
theorem dX11_customer_1 : decode cX11_customer 1 = .ok (.iconst 0, 1) := by decide +kernel
theorem dX11_customer_2 : decode cX11_customer 2 = .ok (.bipush 6, 2) := by decide +kernel
theorem dX11_customer_4 : decode cX11_customer 4 = .ok (.invokestatic 93, 3) := by decide +kernel
theorem dX11_customer_7 : decode cX11_customer 7 = .ok (.ifCond .eq 5, 3) := by decide +kernel
theorem dX11_customer_10 : decode cX11_customer 10 = .ok (.iconst (-1), 1) := by decide +kernel
theorem dX11_customer_11 : decode cX11_customer 11 = .ok (.ireturn, 1) := by decide +kernel
theorem dX11_customer_12 : decode cX11_customer 12 = .ok (.iload_n 2, 1) := by decide +kernel
theorem dX11_customer_13 : decode cX11_customer 13 = .ok (.iconst 0, 1) := by decide +kernel
theorem dX11_customer_14 : decode cX11_customer 14 = .ok (.bipush 9, 2) := by decide +kernel
theorem dX11_customer_16 : decode cX11_customer 16 = .ok (.invokestatic 93, 3) := by decide +kernel
theorem dX11_customer_19 : decode cX11_customer 19 = .ok (.ifCond .ne 14, 3) := by decide +kernel
theorem dX11_customer_22 : decode cX11_customer 22 = .ok (.iload_n 3, 1) := by decide +kernel
theorem dX11_customer_23 : decode cX11_customer 23 = .ok (.bipush 10, 2) := by decide +kernel
theorem dX11_customer_25 : decode cX11_customer 25 = .ok (.bipush 99, 2) := by decide +kernel
theorem dX11_customer_27 : decode cX11_customer 27 = .ok (.invokestatic 93, 3) := by decide +kernel
theorem dX11_customer_30 : decode cX11_customer 30 = .ok (.ifCond .eq 6, 3) := by decide +kernel
theorem dX11_customer_33 : decode cX11_customer 33 = .ok (.bipush (-2), 2) := by decide +kernel
theorem dX11_customer_35 : decode cX11_customer 35 = .ok (.ireturn, 1) := by decide +kernel
theorem dX11_customer_36 : decode cX11_customer 36 = .ok (.aload_n 0, 1) := by decide +kernel
theorem dX11_customer_37 : decode cX11_customer 37 = .ok (.getfield 43, 3) := by decide +kernel
theorem dX11_customer_40 : decode cX11_customer 40 = .ok (.getfield 97, 3) := by decide +kernel
theorem dX11_customer_43 : decode cX11_customer 43 = .ok (.bipush 6, 2) := by decide +kernel
theorem dX11_customer_45 : decode cX11_customer 45 = .ok (.if_icmp .lt 6, 3) := by decide +kernel
theorem dX11_customer_48 : decode cX11_customer 48 = .ok (.bipush (-4), 2) := by decide +kernel
theorem dX11_customer_50 : decode cX11_customer 50 = .ok (.ireturn, 1) := by decide +kernel
theorem dX11_customer_51 : decode cX11_customer 51 = .ok (.aload_n 0, 1) := by decide +kernel
theorem dX11_customer_52 : decode cX11_customer 52 = .ok (.getfield 43, 3) := by decide +kernel
theorem dX11_customer_55 : decode cX11_customer 55 = .ok (.getfield 100, 3) := by decide +kernel
theorem dX11_customer_58 : decode cX11_customer 58 = .ok (.aload_n 0, 1) := by decide +kernel
theorem dX11_customer_59 : decode cX11_customer 59 = .ok (.getfield 43, 3) := by decide +kernel
theorem dX11_customer_62 : decode cX11_customer 62 = .ok (.getfield 97, 3) := by decide +kernel
theorem dX11_customer_65 : decode cX11_customer 65 = .ok (.aaload, 1) := by decide +kernel
theorem dX11_customer_66 : decode cX11_customer 66 = .ok (.aload_n 0, 1) := by decide +kernel
theorem dX11_customer_67 : decode cX11_customer 67 = .ok (.getfield 32, 3) := by decide +kernel
theorem dX11_customer_70 : decode cX11_customer 70 = .ok (.iload_n 1, 1) := by decide +kernel
theorem dX11_customer_71 : decode cX11_customer 71 = .ok (.aaload, 1) := by decide +kernel
theorem dX11_customer_72 : decode cX11_customer 72 = .ok (.iload_n 2, 1) := by decide +kernel
theorem dX11_customer_73 : decode cX11_customer 73 = .ok (.iload_n 3, 1) := by decide +kernel
theorem dX11_customer_74 : decode cX11_customer 74 = .ok (.invokevirtual 104, 3) := by decide +kernel
theorem dX11_customer_77 : decode cX11_customer 77 = .ok (.aload_n 0, 1) := by decide +kernel
theorem dX11_customer_78 : decode cX11_customer 78 = .ok (.getfield 43, 3) := by decide +kernel
theorem dX11_customer_81 : decode cX11_customer 81 = .ok (.dup, 1) := by decide +kernel
theorem dX11_customer_82 : decode cX11_customer 82 = .ok (.getfield 97, 3) := by decide +kernel
theorem dX11_customer_85 : decode cX11_customer 85 = .ok (.iconst 1, 1) := by decide +kernel
theorem dX11_customer_86 : decode cX11_customer 86 = .ok (.iadd, 1) := by decide +kernel
theorem dX11_customer_87 : decode cX11_customer 87 = .ok (.putfield 97, 3) := by decide +kernel
theorem dX11_customer_90 : decode cX11_customer 90 = .ok (.aload_n 0, 1) := by decide +kernel
theorem dX11_customer_91 : decode cX11_customer 91 = .ok (.getfield 43, 3) := by decide +kernel
theorem dX11_customer_94 : decode cX11_customer 94 = .ok (.getfield 97, 3) := by decide +kernel
theorem dX11_customer_97 : decode cX11_customer 97 = .ok (.iconst 1, 1) := by decide +kernel
theorem dX11_customer_98 : decode cX11_customer 98 = .ok (.isub, 1) := by decide +kernel
theorem dX11_customer_99 : decode cX11_customer 99 = .ok (.ireturn, 1) := by decide +kernel
theorem dX11_of_0 : decode cX11_of 0 = .ok (.aload_n 0, 1) := by decide +kernel
theorem dX11_of_1 : decode cX11_of 1 = .ok (.getfield 43, 3) := by decide +kernel
theorem dX11_of_4 : decode cX11_of 4 = .ok (.iload_n 1, 1) := by decide +kernel
theorem dX11_of_5 : decode cX11_of 5 = .ok (.invokevirtual 110, 3) := by decide +kernel
theorem dX11_of_8 : decode cX11_of 8 = .ok (.astore_n 3, 1) := by decide +kernel
theorem dX11_of_9 : decode cX11_of 9 = .ok (.aload_n 3, 1) := by decide +kernel
theorem dX11_of_10 : decode cX11_of 10 = .ok (.ifnonnull 5, 3) := by decide +kernel
theorem dX11_of_13 : decode cX11_of 13 = .ok (.iconst (-1), 1) := by decide +kernel
theorem dX11_of_14 : decode cX11_of 14 = .ok (.ireturn, 1) := by decide +kernel
theorem dX11_of_15 : decode cX11_of 15 = .ok (.iload_n 2, 1) := by decide +kernel
theorem dX11_of_16 : decode cX11_of 16 = .ok (.tableswitch 159 0 11 #[64, 72, 77, 82, 87, 92, 97, 102, 115, 124, 133, 142], 64) := by decide +kernel
theorem dX11_of_80 : decode cX11_of 80 = .ok (.aload_n 3, 1) := by decide +kernel
theorem dX11_of_81 : decode cX11_of 81 = .ok (.getfield 114, 3) := by decide +kernel
theorem dX11_of_84 : decode cX11_of 84 = .ok (.getfield 118, 3) := by decide +kernel
theorem dX11_of_87 : decode cX11_of 87 = .ok (.ireturn, 1) := by decide +kernel
theorem dX11_of_88 : decode cX11_of 88 = .ok (.aload_n 3, 1) := by decide +kernel
theorem dX11_of_89 : decode cX11_of 89 = .ok (.getfield 121, 3) := by decide +kernel
theorem dX11_of_92 : decode cX11_of 92 = .ok (.ireturn, 1) := by decide +kernel
theorem dX11_of_93 : decode cX11_of 93 = .ok (.aload_n 3, 1) := by decide +kernel
theorem dX11_of_94 : decode cX11_of 94 = .ok (.getfield 124, 3) := by decide +kernel
theorem dX11_of_97 : decode cX11_of 97 = .ok (.ireturn, 1) := by decide +kernel
theorem dX11_of_98 : decode cX11_of 98 = .ok (.aload_n 3, 1) := by decide +kernel
theorem dX11_of_99 : decode cX11_of 99 = .ok (.getfield 127, 3) := by decide +kernel
theorem dX11_of_102 : decode cX11_of 102 = .ok (.ireturn, 1) := by decide +kernel
theorem dX11_of_103 : decode cX11_of 103 = .ok (.aload_n 3, 1) := by decide +kernel
theorem dX11_of_104 : decode cX11_of 104 = .ok (.getfield 130, 3) := by decide +kernel
theorem dX11_of_107 : decode cX11_of 107 = .ok (.ireturn, 1) := by decide +kernel
theorem dX11_of_108 : decode cX11_of 108 = .ok (.aload_n 3, 1) := by decide +kernel
theorem dX11_of_109 : decode cX11_of 109 = .ok (.getfield 133, 3) := by decide +kernel
theorem dX11_of_112 : decode cX11_of 112 = .ok (.ireturn, 1) := by decide +kernel
theorem dX11_of_113 : decode cX11_of 113 = .ok (.aload_n 3, 1) := by decide +kernel
theorem dX11_of_114 : decode cX11_of 114 = .ok (.getfield 136, 3) := by decide +kernel
theorem dX11_of_117 : decode cX11_of 117 = .ok (.ireturn, 1) := by decide +kernel
theorem dX11_of_118 : decode cX11_of 118 = .ok (.aload_n 3, 1) := by decide +kernel
theorem dX11_of_119 : decode cX11_of 119 = .ok (.getfield 139, 3) := by decide +kernel
theorem dX11_of_122 : decode cX11_of 122 = .ok (.ifCond .eq 7, 3) := by decide +kernel
theorem dX11_of_125 : decode cX11_of 125 = .ok (.iconst 1, 1) := by decide +kernel
theorem dX11_of_126 : decode cX11_of 126 = .ok (.goto 4, 3) := by decide +kernel
theorem dX11_of_129 : decode cX11_of 129 = .ok (.iconst 0, 1) := by decide +kernel
theorem dX11_of_130 : decode cX11_of 130 = .ok (.ireturn, 1) := by decide +kernel
theorem dX11_of_131 : decode cX11_of 131 = .ok (.aload_n 0, 1) := by decide +kernel
theorem dX11_of_132 : decode cX11_of 132 = .ok (.getfield 43, 3) := by decide +kernel
theorem dX11_of_135 : decode cX11_of 135 = .ok (.aload_n 3, 1) := by decide +kernel
theorem dX11_of_136 : decode cX11_of 136 = .ok (.invokevirtual 142, 3) := by decide +kernel
theorem dX11_of_139 : decode cX11_of 139 = .ok (.ireturn, 1) := by decide +kernel
theorem dX11_of_140 : decode cX11_of 140 = .ok (.aload_n 3, 1) := by decide +kernel
theorem dX11_of_141 : decode cX11_of 141 = .ok (.getfield 114, 3) := by decide +kernel
theorem dX11_of_144 : decode cX11_of 144 = .ok (.aload_n 3, 1) := by decide +kernel
theorem dX11_of_145 : decode cX11_of 145 = .ok (.invokevirtual 146, 3) := by decide +kernel
theorem dX11_of_148 : decode cX11_of 148 = .ok (.ireturn, 1) := by decide +kernel
theorem dX11_of_149 : decode cX11_of 149 = .ok (.aload_n 3, 1) := by decide +kernel
theorem dX11_of_150 : decode cX11_of 150 = .ok (.getfield 114, 3) := by decide +kernel
theorem dX11_of_153 : decode cX11_of 153 = .ok (.aload_n 3, 1) := by decide +kernel
theorem dX11_of_154 : decode cX11_of 154 = .ok (.invokevirtual 149, 3) := by decide +kernel
theorem dX11_of_157 : decode cX11_of 157 = .ok (.ireturn, 1) := by decide +kernel
theorem dX11_of_158 : decode cX11_of 158 = .ok (.aload_n 0, 1) := by decide +kernel
theorem dX11_of_159 : decode cX11_of 159 = .ok (.getfield 43, 3) := by decide +kernel
theorem dX11_of_162 : decode cX11_of 162 = .ok (.aload_n 3, 1) := by decide +kernel
theorem dX11_of_163 : decode cX11_of 163 = .ok (.invokevirtual 152, 3) := by decide +kernel
theorem dX11_of_166 : decode cX11_of 166 = .ok (.ifCond .eq 7, 3) := by decide +kernel
theorem dX11_of_169 : decode cX11_of 169 = .ok (.iconst 1, 1) := by decide +kernel
theorem dX11_of_170 : decode cX11_of 170 = .ok (.goto 4, 3) := by decide +kernel
theorem dX11_of_173 : decode cX11_of 173 = .ok (.iconst 0, 1) := by decide +kernel
theorem dX11_of_174 : decode cX11_of 174 = .ok (.ireturn, 1) := by decide +kernel
theorem dX11_of_175 : decode cX11_of 175 = .ok (.iconst (-1), 1) := by decide +kernel
theorem dX11_of_176 : decode cX11_of 176 = .ok (.ireturn, 1) := by decide +kernel
theorem dX11_set_0 : decode cX11_set 0 = .ok (.aload_n 0, 1) := by decide +kernel
theorem dX11_set_1 : decode cX11_set 1 = .ok (.getfield 43, 3) := by decide +kernel
theorem dX11_set_4 : decode cX11_set 4 = .ok (.iload_n 1, 1) := by decide +kernel
theorem dX11_set_5 : decode cX11_set 5 = .ok (.invokevirtual 110, 3) := by decide +kernel
theorem dX11_set_8 : decode cX11_set 8 = .ok (.astore 4, 2) := by decide +kernel
theorem dX11_set_10 : decode cX11_set 10 = .ok (.aload 4, 2) := by decide +kernel
theorem dX11_set_12 : decode cX11_set 12 = .ok (.ifnull 12, 3) := by decide +kernel
theorem dX11_set_15 : decode cX11_set 15 = .ok (.iload_n 2, 1) := by decide +kernel
theorem dX11_set_16 : decode cX11_set 16 = .ok (.iconst 0, 1) := by decide +kernel
theorem dX11_set_17 : decode cX11_set 17 = .ok (.iconst 3, 1) := by decide +kernel
theorem dX11_set_18 : decode cX11_set 18 = .ok (.invokestatic 93, 3) := by decide +kernel
theorem dX11_set_21 : decode cX11_set 21 = .ok (.ifCond .eq 5, 3) := by decide +kernel
theorem dX11_set_24 : decode cX11_set 24 = .ok (.iconst (-1), 1) := by decide +kernel
theorem dX11_set_25 : decode cX11_set 25 = .ok (.ireturn, 1) := by decide +kernel
theorem dX11_set_26 : decode cX11_set 26 = .ok (.iload_n 2, 1) := by decide +kernel
theorem dX11_set_27 : decode cX11_set 27 = .ok (.tableswitch 113 0 2 #[25, 55, 84], 25) := by decide +kernel
theorem dX11_set_52 : decode cX11_set 52 = .ok (.iload_n 3, 1) := by decide +kernel
theorem dX11_set_53 : decode cX11_set 53 = .ok (.bipush 10, 2) := by decide +kernel
theorem dX11_set_55 : decode cX11_set 55 = .ok (.bipush 99, 2) := by decide +kernel
theorem dX11_set_57 : decode cX11_set 57 = .ok (.invokestatic 93, 3) := by decide +kernel
theorem dX11_set_60 : decode cX11_set 60 = .ok (.ifCond .eq 6, 3) := by decide +kernel
theorem dX11_set_63 : decode cX11_set 63 = .ok (.bipush (-2), 2) := by decide +kernel
theorem dX11_set_65 : decode cX11_set 65 = .ok (.ireturn, 1) := by decide +kernel
theorem dX11_set_66 : decode cX11_set 66 = .ok (.aload 4, 2) := by decide +kernel
theorem dX11_set_68 : decode cX11_set 68 = .ok (.getfield 124, 3) := by decide +kernel
theorem dX11_set_71 : decode cX11_set 71 = .ok (.istore 5, 2) := by decide +kernel
theorem dX11_set_73 : decode cX11_set 73 = .ok (.aload 4, 2) := by decide +kernel
theorem dX11_set_75 : decode cX11_set 75 = .ok (.iload_n 3, 1) := by decide +kernel
theorem dX11_set_76 : decode cX11_set 76 = .ok (.putfield 124, 3) := by decide +kernel
theorem dX11_set_79 : decode cX11_set 79 = .ok (.iload 5, 2) := by decide +kernel
theorem dX11_set_81 : decode cX11_set 81 = .ok (.ireturn, 1) := by decide +kernel
theorem dX11_set_82 : decode cX11_set 82 = .ok (.iload_n 3, 1) := by decide +kernel
theorem dX11_set_83 : decode cX11_set 83 = .ok (.iconst 0, 1) := by decide +kernel
theorem dX11_set_84 : decode cX11_set 84 = .ok (.bipush 20, 2) := by decide +kernel
theorem dX11_set_86 : decode cX11_set 86 = .ok (.invokestatic 93, 3) := by decide +kernel
theorem dX11_set_89 : decode cX11_set 89 = .ok (.ifCond .eq 6, 3) := by decide +kernel
theorem dX11_set_92 : decode cX11_set 92 = .ok (.bipush (-2), 2) := by decide +kernel
theorem dX11_set_94 : decode cX11_set 94 = .ok (.ireturn, 1) := by decide +kernel
theorem dX11_set_95 : decode cX11_set 95 = .ok (.aload 4, 2) := by decide +kernel
theorem dX11_set_97 : decode cX11_set 97 = .ok (.getfield 127, 3) := by decide +kernel
theorem dX11_set_100 : decode cX11_set 100 = .ok (.istore 5, 2) := by decide +kernel
theorem dX11_set_102 : decode cX11_set 102 = .ok (.aload 4, 2) := by decide +kernel
theorem dX11_set_104 : decode cX11_set 104 = .ok (.iload_n 3, 1) := by decide +kernel
theorem dX11_set_105 : decode cX11_set 105 = .ok (.putfield 127, 3) := by decide +kernel
theorem dX11_set_108 : decode cX11_set 108 = .ok (.iload 5, 2) := by decide +kernel
theorem dX11_set_110 : decode cX11_set 110 = .ok (.ireturn, 1) := by decide +kernel
theorem dX11_set_111 : decode cX11_set 111 = .ok (.iload_n 3, 1) := by decide +kernel
theorem dX11_set_112 : decode cX11_set 112 = .ok (.iconst 0, 1) := by decide +kernel
theorem dX11_set_113 : decode cX11_set 113 = .ok (.bipush 99, 2) := by decide +kernel
theorem dX11_set_115 : decode cX11_set 115 = .ok (.invokestatic 93, 3) := by decide +kernel
theorem dX11_set_118 : decode cX11_set 118 = .ok (.ifCond .eq 6, 3) := by decide +kernel
theorem dX11_set_121 : decode cX11_set 121 = .ok (.bipush (-2), 2) := by decide +kernel
theorem dX11_set_123 : decode cX11_set 123 = .ok (.ireturn, 1) := by decide +kernel
theorem dX11_set_124 : decode cX11_set 124 = .ok (.aload 4, 2) := by decide +kernel
theorem dX11_set_126 : decode cX11_set 126 = .ok (.getfield 130, 3) := by decide +kernel
theorem dX11_set_129 : decode cX11_set 129 = .ok (.istore 5, 2) := by decide +kernel
theorem dX11_set_131 : decode cX11_set 131 = .ok (.aload 4, 2) := by decide +kernel
theorem dX11_set_133 : decode cX11_set 133 = .ok (.iload_n 3, 1) := by decide +kernel
theorem dX11_set_134 : decode cX11_set 134 = .ok (.putfield 130, 3) := by decide +kernel
theorem dX11_set_137 : decode cX11_set 137 = .ok (.iload 5, 2) := by decide +kernel
theorem dX11_set_139 : decode cX11_set 139 = .ok (.ireturn, 1) := by decide +kernel
theorem dX11_set_140 : decode cX11_set 140 = .ok (.iload_n 3, 1) := by decide +kernel
theorem dX11_set_141 : decode cX11_set 141 = .ok (.iconst 0, 1) := by decide +kernel
theorem dX11_set_142 : decode cX11_set 142 = .ok (.iconst 1, 1) := by decide +kernel
theorem dX11_set_143 : decode cX11_set 143 = .ok (.invokestatic 93, 3) := by decide +kernel
theorem dX11_set_146 : decode cX11_set 146 = .ok (.ifCond .eq 6, 3) := by decide +kernel
theorem dX11_set_149 : decode cX11_set 149 = .ok (.bipush (-2), 2) := by decide +kernel
theorem dX11_set_151 : decode cX11_set 151 = .ok (.ireturn, 1) := by decide +kernel
theorem dX11_set_152 : decode cX11_set 152 = .ok (.aload 4, 2) := by decide +kernel
theorem dX11_set_154 : decode cX11_set 154 = .ok (.getfield 139, 3) := by decide +kernel
theorem dX11_set_157 : decode cX11_set 157 = .ok (.ifCond .eq 7, 3) := by decide +kernel
theorem dX11_set_160 : decode cX11_set 160 = .ok (.iconst 1, 1) := by decide +kernel
theorem dX11_set_161 : decode cX11_set 161 = .ok (.goto 4, 3) := by decide +kernel
theorem dX11_set_164 : decode cX11_set 164 = .ok (.iconst 0, 1) := by decide +kernel
theorem dX11_set_165 : decode cX11_set 165 = .ok (.istore 5, 2) := by decide +kernel
theorem dX11_set_167 : decode cX11_set 167 = .ok (.aload 4, 2) := by decide +kernel
theorem dX11_set_169 : decode cX11_set 169 = .ok (.iload_n 3, 1) := by decide +kernel
theorem dX11_set_170 : decode cX11_set 170 = .ok (.iconst 1, 1) := by decide +kernel
theorem dX11_set_171 : decode cX11_set 171 = .ok (.if_icmp .ne 7, 3) := by decide +kernel
theorem dX11_set_174 : decode cX11_set 174 = .ok (.iconst 1, 1) := by decide +kernel
theorem dX11_set_175 : decode cX11_set 175 = .ok (.goto 4, 3) := by decide +kernel
theorem dX11_set_178 : decode cX11_set 178 = .ok (.iconst 0, 1) := by decide +kernel
theorem dX11_set_179 : decode cX11_set 179 = .ok (.putfield 139, 3) := by decide +kernel
theorem dX11_set_182 : decode cX11_set 182 = .ok (.iload 5, 2) := by decide +kernel
theorem dX11_set_184 : decode cX11_set 184 = .ok (.ireturn, 1) := by decide +kernel
theorem dX11_row_0 : decode cX11_row 0 = .ok (.aload_n 0, 1) := by decide +kernel
theorem dX11_row_1 : decode cX11_row 1 = .ok (.getfield 43, 3) := by decide +kernel
theorem dX11_row_4 : decode cX11_row 4 = .ok (.iload_n 1, 1) := by decide +kernel
theorem dX11_row_5 : decode cX11_row 5 = .ok (.invokevirtual 110, 3) := by decide +kernel
theorem dX11_row_8 : decode cX11_row 8 = .ok (.astore 4, 2) := by decide +kernel
theorem dX11_row_10 : decode cX11_row 10 = .ok (.aload 4, 2) := by decide +kernel
theorem dX11_row_12 : decode cX11_row 12 = .ok (.ifnull 12, 3) := by decide +kernel
theorem dX11_row_15 : decode cX11_row 15 = .ok (.iload_n 2, 1) := by decide +kernel
theorem dX11_row_16 : decode cX11_row 16 = .ok (.iconst 0, 1) := by decide +kernel
theorem dX11_row_17 : decode cX11_row 17 = .ok (.iconst 3, 1) := by decide +kernel
theorem dX11_row_18 : decode cX11_row 18 = .ok (.invokestatic 93, 3) := by decide +kernel
theorem dX11_row_21 : decode cX11_row 21 = .ok (.ifCond .eq 5, 3) := by decide +kernel
theorem dX11_row_24 : decode cX11_row 24 = .ok (.iconst (-1), 1) := by decide +kernel
theorem dX11_row_25 : decode cX11_row 25 = .ok (.ireturn, 1) := by decide +kernel
theorem dX11_row_26 : decode cX11_row 26 = .ok (.iload_n 3, 1) := by decide +kernel
theorem dX11_row_27 : decode cX11_row 27 = .ok (.iconst 0, 1) := by decide +kernel
theorem dX11_row_28 : decode cX11_row 28 = .ok (.bipush 9, 2) := by decide +kernel
theorem dX11_row_30 : decode cX11_row 30 = .ok (.invokestatic 93, 3) := by decide +kernel
theorem dX11_row_33 : decode cX11_row 33 = .ok (.ifCond .eq 6, 3) := by decide +kernel
theorem dX11_row_36 : decode cX11_row 36 = .ok (.bipush (-2), 2) := by decide +kernel
theorem dX11_row_38 : decode cX11_row 38 = .ok (.ireturn, 1) := by decide +kernel
theorem dX11_row_39 : decode cX11_row 39 = .ok (.aload 4, 2) := by decide +kernel
theorem dX11_row_41 : decode cX11_row 41 = .ok (.getfield 114, 3) := by decide +kernel
theorem dX11_row_44 : decode cX11_row 44 = .ok (.instanceof 29, 3) := by decide +kernel
theorem dX11_row_47 : decode cX11_row 47 = .ok (.ifCond .ne 6, 3) := by decide +kernel
theorem dX11_row_50 : decode cX11_row 50 = .ok (.bipush (-3), 2) := by decide +kernel
theorem dX11_row_52 : decode cX11_row 52 = .ok (.ireturn, 1) := by decide +kernel
theorem dX11_row_53 : decode cX11_row 53 = .ok (.aload 4, 2) := by decide +kernel
theorem dX11_row_55 : decode cX11_row 55 = .ok (.getfield 156, 3) := by decide +kernel
theorem dX11_row_58 : decode cX11_row 58 = .ok (.iload_n 2, 1) := by decide +kernel
theorem dX11_row_59 : decode cX11_row 59 = .ok (.iaload, 1) := by decide +kernel
theorem dX11_row_60 : decode cX11_row 60 = .ok (.istore 5, 2) := by decide +kernel
theorem dX11_row_62 : decode cX11_row 62 = .ok (.aload 4, 2) := by decide +kernel
theorem dX11_row_64 : decode cX11_row 64 = .ok (.getfield 156, 3) := by decide +kernel
theorem dX11_row_67 : decode cX11_row 67 = .ok (.iload_n 2, 1) := by decide +kernel
theorem dX11_row_68 : decode cX11_row 68 = .ok (.iload_n 3, 1) := by decide +kernel
theorem dX11_row_69 : decode cX11_row 69 = .ok (.iastore, 1) := by decide +kernel
theorem dX11_row_70 : decode cX11_row 70 = .ok (.iload 5, 2) := by decide +kernel
theorem dX11_row_72 : decode cX11_row 72 = .ok (.ireturn, 1) := by decide +kernel
theorem dX11_feed_0 : decode cX11_feed 0 = .ok (.iload_n 1, 1) := by decide +kernel
theorem dX11_feed_1 : decode cX11_feed 1 = .ok (.iconst 0, 1) := by decide +kernel
theorem dX11_feed_2 : decode cX11_feed 2 = .ok (.bipush 127, 2) := by decide +kernel
theorem dX11_feed_4 : decode cX11_feed 4 = .ok (.invokestatic 93, 3) := by decide +kernel
theorem dX11_feed_7 : decode cX11_feed 7 = .ok (.ifCond .eq 6, 3) := by decide +kernel
theorem dX11_feed_10 : decode cX11_feed 10 = .ok (.bipush (-2), 2) := by decide +kernel
theorem dX11_feed_12 : decode cX11_feed 12 = .ok (.ireturn, 1) := by decide +kernel
theorem dX11_feed_13 : decode cX11_feed 13 = .ok (.aload_n 0, 1) := by decide +kernel
theorem dX11_feed_14 : decode cX11_feed 14 = .ok (.getfield 56, 3) := by decide +kernel
theorem dX11_feed_17 : decode cX11_feed 17 = .ok (.getfield 159, 3) := by decide +kernel
theorem dX11_feed_20 : decode cX11_feed 20 = .ok (.bipush 100, 2) := by decide +kernel
theorem dX11_feed_22 : decode cX11_feed 22 = .ok (.if_icmp .lt 6, 3) := by decide +kernel
theorem dX11_feed_25 : decode cX11_feed 25 = .ok (.bipush (-4), 2) := by decide +kernel
theorem dX11_feed_27 : decode cX11_feed 27 = .ok (.ireturn, 1) := by decide +kernel
theorem dX11_feed_28 : decode cX11_feed 28 = .ok (.aload_n 0, 1) := by decide +kernel
theorem dX11_feed_29 : decode cX11_feed 29 = .ok (.getfield 56, 3) := by decide +kernel
theorem dX11_feed_32 : decode cX11_feed 32 = .ok (.getfield 162, 3) := by decide +kernel
theorem dX11_feed_35 : decode cX11_feed 35 = .ok (.aload_n 0, 1) := by decide +kernel
theorem dX11_feed_36 : decode cX11_feed 36 = .ok (.getfield 56, 3) := by decide +kernel
theorem dX11_feed_39 : decode cX11_feed 39 = .ok (.getfield 159, 3) := by decide +kernel
theorem dX11_feed_42 : decode cX11_feed 42 = .ok (.iload_n 1, 1) := by decide +kernel
theorem dX11_feed_43 : decode cX11_feed 43 = .ok (.i2b, 1) := by decide +kernel
theorem dX11_feed_44 : decode cX11_feed 44 = .ok (.bastore, 1) := by decide +kernel
theorem dX11_feed_45 : decode cX11_feed 45 = .ok (.aload_n 0, 1) := by decide +kernel
theorem dX11_feed_46 : decode cX11_feed 46 = .ok (.getfield 56, 3) := by decide +kernel
theorem dX11_feed_49 : decode cX11_feed 49 = .ok (.dup, 1) := by decide +kernel
theorem dX11_feed_50 : decode cX11_feed 50 = .ok (.getfield 159, 3) := by decide +kernel
theorem dX11_feed_53 : decode cX11_feed 53 = .ok (.iconst 1, 1) := by decide +kernel
theorem dX11_feed_54 : decode cX11_feed 54 = .ok (.iadd, 1) := by decide +kernel
theorem dX11_feed_55 : decode cX11_feed 55 = .ok (.putfield 159, 3) := by decide +kernel
theorem dX11_feed_58 : decode cX11_feed 58 = .ok (.aload_n 0, 1) := by decide +kernel
theorem dX11_feed_59 : decode cX11_feed 59 = .ok (.getfield 56, 3) := by decide +kernel
theorem dX11_feed_62 : decode cX11_feed 62 = .ok (.getfield 159, 3) := by decide +kernel
theorem dX11_feed_65 : decode cX11_feed 65 = .ok (.ireturn, 1) := by decide +kernel
theorem dX11_counter_0 : decode cX11_counter 0 = .ok (.aload_n 0, 1) := by decide +kernel
theorem dX11_counter_1 : decode cX11_counter 1 = .ok (.getfield 79, 3) := by decide +kernel
theorem dX11_counter_4 : decode cX11_counter 4 = .ok (.bipush 6, 2) := by decide +kernel
theorem dX11_counter_6 : decode cX11_counter 6 = .ok (.if_icmp .lt 6, 3) := by decide +kernel
theorem dX11_counter_9 : decode cX11_counter 9 = .ok (.bipush (-4), 2) := by decide +kernel
theorem dX11_counter_11 : decode cX11_counter 11 = .ok (.ireturn, 1) := by decide +kernel
theorem dX11_counter_12 : decode cX11_counter 12 = .ok (.aload_n 0, 1) := by decide +kernel
theorem dX11_counter_13 : decode cX11_counter 13 = .ok (.getfield 56, 3) := by decide +kernel
theorem dX11_counter_16 : decode cX11_counter 16 = .ok (.invokevirtual 166, 3) := by decide +kernel
theorem dX11_counter_19 : decode cX11_counter 19 = .ok (.astore_n 1, 1) := by decide +kernel
theorem dX11_counter_20 : decode cX11_counter 20 = .ok (.aload_n 0, 1) := by decide +kernel
theorem dX11_counter_21 : decode cX11_counter 21 = .ok (.getfield 56, 3) := by decide +kernel
theorem dX11_counter_24 : decode cX11_counter 24 = .ok (.iconst 0, 1) := by decide +kernel
theorem dX11_counter_25 : decode cX11_counter 25 = .ok (.putfield 159, 3) := by decide +kernel
theorem dX11_counter_28 : decode cX11_counter 28 = .ok (.aload_n 1, 1) := by decide +kernel
theorem dX11_counter_29 : decode cX11_counter 29 = .ok (.ifnonnull 14, 3) := by decide +kernel
theorem dX11_counter_32 : decode cX11_counter 32 = .ok (.bipush (-10), 2) := by decide +kernel
theorem dX11_counter_34 : decode cX11_counter 34 = .ok (.aload_n 0, 1) := by decide +kernel
theorem dX11_counter_35 : decode cX11_counter 35 = .ok (.getfield 56, 3) := by decide +kernel
theorem dX11_counter_38 : decode cX11_counter 38 = .ok (.getfield 170, 3) := by decide +kernel
theorem dX11_counter_41 : decode cX11_counter 41 = .ok (.isub, 1) := by decide +kernel
theorem dX11_counter_42 : decode cX11_counter 42 = .ok (.ireturn, 1) := by decide +kernel
theorem dX11_counter_43 : decode cX11_counter 43 = .ok (.aload_n 0, 1) := by decide +kernel
theorem dX11_counter_44 : decode cX11_counter 44 = .ok (.getfield 43, 3) := by decide +kernel
theorem dX11_counter_47 : decode cX11_counter 47 = .ok (.aload_n 1, 1) := by decide +kernel
theorem dX11_counter_48 : decode cX11_counter 48 = .ok (.putfield 173, 3) := by decide +kernel
theorem dX11_counter_51 : decode cX11_counter 51 = .ok (.aload_n 0, 1) := by decide +kernel
theorem dX11_counter_52 : decode cX11_counter 52 = .ok (.dup, 1) := by decide +kernel
theorem dX11_counter_53 : decode cX11_counter 53 = .ok (.getfield 79, 3) := by decide +kernel
theorem dX11_counter_56 : decode cX11_counter 56 = .ok (.iconst 1, 1) := by decide +kernel
theorem dX11_counter_57 : decode cX11_counter 57 = .ok (.iadd, 1) := by decide +kernel
theorem dX11_counter_58 : decode cX11_counter 58 = .ok (.putfield 79, 3) := by decide +kernel
theorem dX11_counter_61 : decode cX11_counter 61 = .ok (.aload_n 0, 1) := by decide +kernel
theorem dX11_counter_62 : decode cX11_counter 62 = .ok (.getfield 79, 3) := by decide +kernel
theorem dX11_counter_65 : decode cX11_counter 65 = .ok (.iconst 1, 1) := by decide +kernel
theorem dX11_counter_66 : decode cX11_counter 66 = .ok (.isub, 1) := by decide +kernel
theorem dX11_counter_67 : decode cX11_counter 67 = .ok (.ireturn, 1) := by decide +kernel
theorem dX11_knife_0 : decode cX11_knife 0 = .ok (.iload_n 1, 1) := by decide +kernel
theorem dX11_knife_1 : decode cX11_knife 1 = .ok (.iconst 0, 1) := by decide +kernel
theorem dX11_knife_2 : decode cX11_knife 2 = .ok (.bipush 30, 2) := by decide +kernel
theorem dX11_knife_4 : decode cX11_knife 4 = .ok (.invokestatic 93, 3) := by decide +kernel
theorem dX11_knife_7 : decode cX11_knife 7 = .ok (.ifCond .eq 6, 3) := by decide +kernel
theorem dX11_knife_10 : decode cX11_knife 10 = .ok (.bipush (-2), 2) := by decide +kernel
theorem dX11_knife_12 : decode cX11_knife 12 = .ok (.ireturn, 1) := by decide +kernel
theorem dX11_knife_13 : decode cX11_knife 13 = .ok (.aload_n 0, 1) := by decide +kernel
theorem dX11_knife_14 : decode cX11_knife 14 = .ok (.getfield 43, 3) := by decide +kernel
theorem dX11_knife_17 : decode cX11_knife 17 = .ok (.getfield 177, 3) := by decide +kernel
theorem dX11_knife_20 : decode cX11_knife 20 = .ok (.istore_n 2, 1) := by decide +kernel
theorem dX11_knife_21 : decode cX11_knife 21 = .ok (.aload_n 0, 1) := by decide +kernel
theorem dX11_knife_22 : decode cX11_knife 22 = .ok (.getfield 43, 3) := by decide +kernel
theorem dX11_knife_25 : decode cX11_knife 25 = .ok (.iload_n 1, 1) := by decide +kernel
theorem dX11_knife_26 : decode cX11_knife 26 = .ok (.putfield 177, 3) := by decide +kernel
theorem dX11_knife_29 : decode cX11_knife 29 = .ok (.iload_n 2, 1) := by decide +kernel
theorem dX11_knife_30 : decode cX11_knife 30 = .ok (.ireturn, 1) := by decide +kernel
theorem dX11_told_0 : decode cX11_told 0 = .ok (.iload_n 1, 1) := by decide +kernel
theorem dX11_told_1 : decode cX11_told 1 = .ok (.tableswitch 69 0 3 #[31, 39, 50, 61], 31) := by decide +kernel
theorem dX11_told_32 : decode cX11_told 32 = .ok (.aload_n 0, 1) := by decide +kernel
theorem dX11_told_33 : decode cX11_told 33 = .ok (.getfield 43, 3) := by decide +kernel
theorem dX11_told_36 : decode cX11_told 36 = .ok (.getfield 177, 3) := by decide +kernel
theorem dX11_told_39 : decode cX11_told 39 = .ok (.ireturn, 1) := by decide +kernel
theorem dX11_told_40 : decode cX11_told 40 = .ok (.aload_n 0, 1) := by decide +kernel
theorem dX11_told_41 : decode cX11_told 41 = .ok (.getfield 43, 3) := by decide +kernel
theorem dX11_told_44 : decode cX11_told 44 = .ok (.getfield 173, 3) := by decide +kernel
theorem dX11_told_47 : decode cX11_told 47 = .ok (.getfield 180, 3) := by decide +kernel
theorem dX11_told_50 : decode cX11_told 50 = .ok (.ireturn, 1) := by decide +kernel
theorem dX11_told_51 : decode cX11_told 51 = .ok (.aload_n 0, 1) := by decide +kernel
theorem dX11_told_52 : decode cX11_told 52 = .ok (.getfield 43, 3) := by decide +kernel
theorem dX11_told_55 : decode cX11_told 55 = .ok (.getfield 173, 3) := by decide +kernel
theorem dX11_told_58 : decode cX11_told 58 = .ok (.getfield 185, 3) := by decide +kernel
theorem dX11_told_61 : decode cX11_told 61 = .ok (.ireturn, 1) := by decide +kernel
theorem dX11_told_62 : decode cX11_told 62 = .ok (.aload_n 0, 1) := by decide +kernel
theorem dX11_told_63 : decode cX11_told 63 = .ok (.getfield 43, 3) := by decide +kernel
theorem dX11_told_66 : decode cX11_told 66 = .ok (.invokevirtual 188, 3) := by decide +kernel
theorem dX11_told_69 : decode cX11_told 69 = .ok (.ireturn, 1) := by decide +kernel
theorem dX11_told_70 : decode cX11_told 70 = .ok (.iconst (-1), 1) := by decide +kernel
theorem dX11_told_71 : decode cX11_told 71 = .ok (.ireturn, 1) := by decide +kernel
theorem dX11_visit_0 : decode cX11_visit 0 = .ok (.aload_n 0, 1) := by decide +kernel
theorem dX11_visit_1 : decode cX11_visit 1 = .ok (.getfield 43, 3) := by decide +kernel
theorem dX11_visit_4 : decode cX11_visit 4 = .ok (.iload_n 1, 1) := by decide +kernel
theorem dX11_visit_5 : decode cX11_visit 5 = .ok (.invokevirtual 110, 3) := by decide +kernel
theorem dX11_visit_8 : decode cX11_visit 8 = .ok (.astore_n 2, 1) := by decide +kernel
theorem dX11_visit_9 : decode cX11_visit 9 = .ok (.aload_n 2, 1) := by decide +kernel
theorem dX11_visit_10 : decode cX11_visit 10 = .ok (.ifnonnull 5, 3) := by decide +kernel
theorem dX11_visit_13 : decode cX11_visit 13 = .ok (.iconst (-1), 1) := by decide +kernel
theorem dX11_visit_14 : decode cX11_visit 14 = .ok (.ireturn, 1) := by decide +kernel
theorem dX11_visit_15 : decode cX11_visit 15 = .ok (.aload_n 2, 1) := by decide +kernel
theorem dX11_visit_16 : decode cX11_visit 16 = .ok (.getfield 139, 3) := by decide +kernel
theorem dX11_visit_19 : decode cX11_visit 19 = .ok (.ifCond .eq 6, 3) := by decide +kernel
theorem dX11_visit_22 : decode cX11_visit 22 = .ok (.bipush (-3), 2) := by decide +kernel
theorem dX11_visit_24 : decode cX11_visit 24 = .ok (.ireturn, 1) := by decide +kernel
theorem dX11_visit_25 : decode cX11_visit 25 = .ok (.aload_n 0, 1) := by decide +kernel
theorem dX11_visit_26 : decode cX11_visit 26 = .ok (.getfield 43, 3) := by decide +kernel
theorem dX11_visit_29 : decode cX11_visit 29 = .ok (.aload_n 2, 1) := by decide +kernel
theorem dX11_visit_30 : decode cX11_visit 30 = .ok (.invokevirtual 192, 3) := by decide +kernel
theorem dX11_visit_33 : decode cX11_visit 33 = .ok (.istore_n 3, 1) := by decide +kernel
theorem dX11_visit_34 : decode cX11_visit 34 = .ok (.aload_n 0, 1) := by decide +kernel
theorem dX11_visit_35 : decode cX11_visit 35 = .ok (.getfield 43, 3) := by decide +kernel
theorem dX11_visit_38 : decode cX11_visit 38 = .ok (.invokevirtual 195, 3) := by decide +kernel
theorem dX11_visit_41 : decode cX11_visit 41 = .ok (.iload_n 3, 1) := by decide +kernel
theorem dX11_visit_42 : decode cX11_visit 42 = .ok (.aload_n 0, 1) := by decide +kernel
theorem dX11_visit_43 : decode cX11_visit 43 = .ok (.getfield 43, 3) := by decide +kernel
theorem dX11_visit_46 : decode cX11_visit 46 = .ok (.getfield 173, 3) := by decide +kernel
theorem dX11_visit_49 : decode cX11_visit 49 = .ok (.getfield 180, 3) := by decide +kernel
theorem dX11_visit_52 : decode cX11_visit 52 = .ok (.imul, 1) := by decide +kernel
theorem dX11_visit_53 : decode cX11_visit 53 = .ok (.ireturn, 1) := by decide +kernel
theorem dX11_saturday_0 : decode cX11_saturday 0 = .ok (.aload_n 0, 1) := by decide +kernel
theorem dX11_saturday_1 : decode cX11_saturday 1 = .ok (.getfield 43, 3) := by decide +kernel
theorem dX11_saturday_4 : decode cX11_saturday 4 = .ok (.invokevirtual 198, 3) := by decide +kernel
theorem dX11_saturday_7 : decode cX11_saturday 7 = .ok (.istore_n 1, 1) := by decide +kernel
theorem dX11_saturday_8 : decode cX11_saturday 8 = .ok (.aload_n 0, 1) := by decide +kernel
theorem dX11_saturday_9 : decode cX11_saturday 9 = .ok (.getfield 43, 3) := by decide +kernel
theorem dX11_saturday_12 : decode cX11_saturday 12 = .ok (.invokevirtual 195, 3) := by decide +kernel
theorem dX11_saturday_15 : decode cX11_saturday 15 = .ok (.iload_n 1, 1) := by decide +kernel
theorem dX11_saturday_16 : decode cX11_saturday 16 = .ok (.aload_n 0, 1) := by decide +kernel
theorem dX11_saturday_17 : decode cX11_saturday 17 = .ok (.getfield 43, 3) := by decide +kernel
theorem dX11_saturday_20 : decode cX11_saturday 20 = .ok (.getfield 173, 3) := by decide +kernel
theorem dX11_saturday_23 : decode cX11_saturday 23 = .ok (.getfield 180, 3) := by decide +kernel
theorem dX11_saturday_26 : decode cX11_saturday 26 = .ok (.imul, 1) := by decide +kernel
theorem dX11_saturday_27 : decode cX11_saturday 27 = .ok (.ireturn, 1) := by decide +kernel
theorem dX11_on_0 : decode cX11_on 0 = .ok (.aload_n 0, 1) := by decide +kernel
theorem dX11_on_1 : decode cX11_on 1 = .ok (.invokevirtual 201, 3) := by decide +kernel
theorem dX11_on_4 : decode cX11_on 4 = .ok (.astore 4, 2) := by decide +kernel
theorem dX11_on_6 : decode cX11_on 6 = .ok (.aload 4, 2) := by decide +kernel
theorem dX11_on_8 : decode cX11_on 8 = .ok (.iload_n 1, 1) := by decide +kernel
theorem dX11_on_9 : decode cX11_on 9 = .ok (.invokevirtual 110, 3) := by decide +kernel
theorem dX11_on_12 : decode cX11_on 12 = .ok (.astore 5, 2) := by decide +kernel
theorem dX11_on_14 : decode cX11_on 14 = .ok (.aload 5, 2) := by decide +kernel
theorem dX11_on_16 : decode cX11_on 16 = .ok (.ifnull 12, 3) := by decide +kernel
theorem dX11_on_19 : decode cX11_on 19 = .ok (.iload_n 3, 1) := by decide +kernel
theorem dX11_on_20 : decode cX11_on 20 = .ok (.iconst 0, 1) := by decide +kernel
theorem dX11_on_21 : decode cX11_on 21 = .ok (.iconst 4, 1) := by decide +kernel
theorem dX11_on_22 : decode cX11_on 22 = .ok (.invokestatic 93, 3) := by decide +kernel
theorem dX11_on_25 : decode cX11_on 25 = .ok (.ifCond .eq 5, 3) := by decide +kernel
theorem dX11_on_28 : decode cX11_on 28 = .ok (.iconst (-1), 1) := by decide +kernel
theorem dX11_on_29 : decode cX11_on 29 = .ok (.ireturn, 1) := by decide +kernel
theorem dX11_on_30 : decode cX11_on 30 = .ok (.iload_n 2, 1) := by decide +kernel
theorem dX11_on_31 : decode cX11_on 31 = .ok (.iconst 0, 1) := by decide +kernel
theorem dX11_on_32 : decode cX11_on 32 = .ok (.bipush 40, 2) := by decide +kernel
theorem dX11_on_34 : decode cX11_on 34 = .ok (.invokestatic 93, 3) := by decide +kernel
theorem dX11_on_37 : decode cX11_on 37 = .ok (.ifCond .eq 6, 3) := by decide +kernel
theorem dX11_on_40 : decode cX11_on 40 = .ok (.bipush (-2), 2) := by decide +kernel
theorem dX11_on_42 : decode cX11_on 42 = .ok (.ireturn, 1) := by decide +kernel
theorem dX11_on_43 : decode cX11_on 43 = .ok (.aload 5, 2) := by decide +kernel
theorem dX11_on_45 : decode cX11_on 45 = .ok (.getfield 133, 3) := by decide +kernel
theorem dX11_on_48 : decode cX11_on 48 = .ok (.istore 6, 2) := by decide +kernel
theorem dX11_on_50 : decode cX11_on 50 = .ok (.aload 4, 2) := by decide +kernel
theorem dX11_on_52 : decode cX11_on 52 = .ok (.aload 5, 2) := by decide +kernel
theorem dX11_on_54 : decode cX11_on 54 = .ok (.iload_n 2, 1) := by decide +kernel
theorem dX11_on_55 : decode cX11_on 55 = .ok (.invokevirtual 205, 3) := by decide +kernel
theorem dX11_on_58 : decode cX11_on 58 = .ok (.istore 7, 2) := by decide +kernel
theorem dX11_on_60 : decode cX11_on 60 = .ok (.iload_n 3, 1) := by decide +kernel
theorem dX11_on_61 : decode cX11_on 61 = .ok (.tableswitch 61 0 3 #[31, 34, 46, 55], 31) := by decide +kernel
theorem dX11_on_92 : decode cX11_on 92 = .ok (.iload 7, 2) := by decide +kernel
theorem dX11_on_94 : decode cX11_on 94 = .ok (.ireturn, 1) := by decide +kernel
theorem dX11_on_95 : decode cX11_on 95 = .ok (.iload 7, 2) := by decide +kernel
theorem dX11_on_97 : decode cX11_on 97 = .ok (.aload 4, 2) := by decide +kernel
theorem dX11_on_99 : decode cX11_on 99 = .ok (.getfield 173, 3) := by decide +kernel
theorem dX11_on_102 : decode cX11_on 102 = .ok (.getfield 180, 3) := by decide +kernel
theorem dX11_on_105 : decode cX11_on 105 = .ok (.imul, 1) := by decide +kernel
theorem dX11_on_106 : decode cX11_on 106 = .ok (.ireturn, 1) := by decide +kernel
theorem dX11_on_107 : decode cX11_on 107 = .ok (.aload 5, 2) := by decide +kernel
theorem dX11_on_109 : decode cX11_on 109 = .ok (.getfield 133, 3) := by decide +kernel
theorem dX11_on_112 : decode cX11_on 112 = .ok (.iload 6, 2) := by decide +kernel
theorem dX11_on_114 : decode cX11_on 114 = .ok (.isub, 1) := by decide +kernel
theorem dX11_on_115 : decode cX11_on 115 = .ok (.ireturn, 1) := by decide +kernel
theorem dX11_on_116 : decode cX11_on 116 = .ok (.aload 5, 2) := by decide +kernel
theorem dX11_on_118 : decode cX11_on 118 = .ok (.getfield 127, 3) := by decide +kernel
theorem dX11_on_121 : decode cX11_on 121 = .ok (.ireturn, 1) := by decide +kernel
theorem dX11_on_122 : decode cX11_on 122 = .ok (.aload 5, 2) := by decide +kernel
theorem dX11_on_124 : decode cX11_on 124 = .ok (.getfield 130, 3) := by decide +kernel
theorem dX11_on_127 : decode cX11_on 127 = .ok (.ireturn, 1) := by decide +kernel
theorem dX11_asked_0 : decode cX11_asked 0 = .ok (.aload_n 0, 1) := by decide +kernel
theorem dX11_asked_1 : decode cX11_asked 1 = .ok (.getfield 43, 3) := by decide +kernel
theorem dX11_asked_4 : decode cX11_asked 4 = .ok (.iload_n 1, 1) := by decide +kernel
theorem dX11_asked_5 : decode cX11_asked 5 = .ok (.invokevirtual 110, 3) := by decide +kernel
theorem dX11_asked_8 : decode cX11_asked 8 = .ok (.astore_n 3, 1) := by decide +kernel
theorem dX11_asked_9 : decode cX11_asked 9 = .ok (.aload_n 3, 1) := by decide +kernel
theorem dX11_asked_10 : decode cX11_asked 10 = .ok (.ifnull 12, 3) := by decide +kernel
theorem dX11_asked_13 : decode cX11_asked 13 = .ok (.iload_n 2, 1) := by decide +kernel
theorem dX11_asked_14 : decode cX11_asked 14 = .ok (.iconst 0, 1) := by decide +kernel
theorem dX11_asked_15 : decode cX11_asked 15 = .ok (.iconst 1, 1) := by decide +kernel
theorem dX11_asked_16 : decode cX11_asked 16 = .ok (.invokestatic 93, 3) := by decide +kernel
theorem dX11_asked_19 : decode cX11_asked 19 = .ok (.ifCond .eq 5, 3) := by decide +kernel
theorem dX11_asked_22 : decode cX11_asked 22 = .ok (.iconst (-1), 1) := by decide +kernel
theorem dX11_asked_23 : decode cX11_asked 23 = .ok (.ireturn, 1) := by decide +kernel
theorem dX11_asked_24 : decode cX11_asked 24 = .ok (.aload_n 3, 1) := by decide +kernel
theorem dX11_asked_25 : decode cX11_asked 25 = .ok (.getfield 139, 3) := by decide +kernel
theorem dX11_asked_28 : decode cX11_asked 28 = .ok (.ifCond .eq 6, 3) := by decide +kernel
theorem dX11_asked_31 : decode cX11_asked 31 = .ok (.bipush (-5), 2) := by decide +kernel
theorem dX11_asked_33 : decode cX11_asked 33 = .ok (.ireturn, 1) := by decide +kernel
theorem dX11_asked_34 : decode cX11_asked 34 = .ok (.aload_n 0, 1) := by decide +kernel
theorem dX11_asked_35 : decode cX11_asked 35 = .ok (.getfield 43, 3) := by decide +kernel
theorem dX11_asked_38 : decode cX11_asked 38 = .ok (.aload_n 3, 1) := by decide +kernel
theorem dX11_asked_39 : decode cX11_asked 39 = .ok (.invokevirtual 209, 3) := by decide +kernel
theorem dX11_asked_42 : decode cX11_asked 42 = .ok (.istore 4, 2) := by decide +kernel
theorem dX11_asked_44 : decode cX11_asked 44 = .ok (.iconst 1, 1) := by decide +kernel
theorem dX11_asked_45 : decode cX11_asked 45 = .ok (.aload_n 3, 1) := by decide +kernel
theorem dX11_asked_46 : decode cX11_asked 46 = .ok (.getfield 124, 3) := by decide +kernel
theorem dX11_asked_49 : decode cX11_asked 49 = .ok (.iload 4, 2) := by decide +kernel
theorem dX11_asked_51 : decode cX11_asked 51 = .ok (.isub, 1) := by decide +kernel
theorem dX11_asked_52 : decode cX11_asked 52 = .ok (.invokestatic 212, 3) := by decide +kernel
theorem dX11_asked_55 : decode cX11_asked 55 = .ok (.istore 5, 2) := by decide +kernel
theorem dX11_asked_57 : decode cX11_asked 57 = .ok (.iload_n 2, 1) := by decide +kernel
theorem dX11_asked_58 : decode cX11_asked 58 = .ok (.ifCond .ne 8, 3) := by decide +kernel
theorem dX11_asked_61 : decode cX11_asked 61 = .ok (.iload 5, 2) := by decide +kernel
theorem dX11_asked_63 : decode cX11_asked 63 = .ok (.goto 8, 3) := by decide +kernel
theorem dX11_asked_66 : decode cX11_asked 66 = .ok (.iload 5, 2) := by decide +kernel
theorem dX11_asked_68 : decode cX11_asked 68 = .ok (.iload 4, 2) := by decide +kernel
theorem dX11_asked_70 : decode cX11_asked 70 = .ok (.iadd, 1) := by decide +kernel
theorem dX11_asked_71 : decode cX11_asked 71 = .ok (.ireturn, 1) := by decide +kernel
theorem dX11_dare_0 : decode cX11_dare 0 = .ok (.iload_n 2, 1) := by decide +kernel
theorem dX11_dare_1 : decode cX11_dare 1 = .ok (.iconst 0, 1) := by decide +kernel
theorem dX11_dare_2 : decode cX11_dare 2 = .ok (.iconst 1, 1) := by decide +kernel
theorem dX11_dare_3 : decode cX11_dare 3 = .ok (.invokestatic 93, 3) := by decide +kernel
theorem dX11_dare_6 : decode cX11_dare 6 = .ok (.ifCond .eq 5, 3) := by decide +kernel
theorem dX11_dare_9 : decode cX11_dare 9 = .ok (.iconst (-1), 1) := by decide +kernel
theorem dX11_dare_10 : decode cX11_dare 10 = .ok (.ireturn, 1) := by decide +kernel
theorem dX11_dare_11 : decode cX11_dare 11 = .ok (.iload_n 1, 1) := by decide +kernel
theorem dX11_dare_12 : decode cX11_dare 12 = .ok (.iconst 1, 1) := by decide +kernel
theorem dX11_dare_13 : decode cX11_dare 13 = .ok (.bipush 20, 2) := by decide +kernel
theorem dX11_dare_15 : decode cX11_dare 15 = .ok (.invokestatic 93, 3) := by decide +kernel
theorem dX11_dare_18 : decode cX11_dare 18 = .ok (.ifCond .eq 6, 3) := by decide +kernel
theorem dX11_dare_21 : decode cX11_dare 21 = .ok (.bipush (-2), 2) := by decide +kernel
theorem dX11_dare_23 : decode cX11_dare 23 = .ok (.ireturn, 1) := by decide +kernel
theorem dX11_dare_24 : decode cX11_dare 24 = .ok (.iconst 0, 1) := by decide +kernel
theorem dX11_dare_25 : decode cX11_dare 25 = .ok (.istore_n 3, 1) := by decide +kernel
theorem dX11_dare_26 : decode cX11_dare 26 = .ok (.iconst (-1), 1) := by decide +kernel
theorem dX11_dare_27 : decode cX11_dare 27 = .ok (.istore 4, 2) := by decide +kernel
theorem dX11_dare_29 : decode cX11_dare 29 = .ok (.iconst 0, 1) := by decide +kernel
theorem dX11_dare_30 : decode cX11_dare 30 = .ok (.istore 5, 2) := by decide +kernel
theorem dX11_dare_32 : decode cX11_dare 32 = .ok (.iload 5, 2) := by decide +kernel
theorem dX11_dare_34 : decode cX11_dare 34 = .ok (.bipush 30, 2) := by decide +kernel
theorem dX11_dare_36 : decode cX11_dare 36 = .ok (.if_icmp .gt 32, 3) := by decide +kernel
theorem dX11_dare_39 : decode cX11_dare 39 = .ok (.aload_n 0, 1) := by decide +kernel
theorem dX11_dare_40 : decode cX11_dare 40 = .ok (.iload 5, 2) := by decide +kernel
theorem dX11_dare_42 : decode cX11_dare 42 = .ok (.iload_n 1, 1) := by decide +kernel
theorem dX11_dare_43 : decode cX11_dare 43 = .ok (.invokevirtual 218, 3) := by decide +kernel
theorem dX11_dare_46 : decode cX11_dare 46 = .ok (.istore 6, 2) := by decide +kernel
theorem dX11_dare_48 : decode cX11_dare 48 = .ok (.iload 6, 2) := by decide +kernel
theorem dX11_dare_50 : decode cX11_dare 50 = .ok (.iload 4, 2) := by decide +kernel
theorem dX11_dare_52 : decode cX11_dare 52 = .ok (.if_icmp .le 10, 3) := by decide +kernel
theorem dX11_dare_55 : decode cX11_dare 55 = .ok (.iload 6, 2) := by decide +kernel
theorem dX11_dare_57 : decode cX11_dare 57 = .ok (.istore 4, 2) := by decide +kernel
theorem dX11_dare_59 : decode cX11_dare 59 = .ok (.iload 5, 2) := by decide +kernel
theorem dX11_dare_61 : decode cX11_dare 61 = .ok (.istore_n 3, 1) := by decide +kernel
theorem dX11_dare_62 : decode cX11_dare 62 = .ok (.iinc 5 1, 3) := by decide +kernel
theorem dX11_dare_65 : decode cX11_dare 65 = .ok (.goto (-33), 3) := by decide +kernel
theorem dX11_dare_68 : decode cX11_dare 68 = .ok (.iload_n 2, 1) := by decide +kernel
theorem dX11_dare_69 : decode cX11_dare 69 = .ok (.ifCond .ne 7, 3) := by decide +kernel
theorem dX11_dare_72 : decode cX11_dare 72 = .ok (.iload_n 3, 1) := by decide +kernel
theorem dX11_dare_73 : decode cX11_dare 73 = .ok (.goto 5, 3) := by decide +kernel
theorem dX11_dare_76 : decode cX11_dare 76 = .ok (.iload 4, 2) := by decide +kernel
theorem dX11_dare_78 : decode cX11_dare 78 = .ok (.ireturn, 1) := by decide +kernel
theorem dX11_learnt_0 : decode cX11_learnt 0 = .ok (.aload_n 0, 1) := by decide +kernel
theorem dX11_learnt_1 : decode cX11_learnt 1 = .ok (.invokevirtual 201, 3) := by decide +kernel
theorem dX11_learnt_4 : decode cX11_learnt 4 = .ok (.astore_n 3, 1) := by decide +kernel
theorem dX11_learnt_5 : decode cX11_learnt 5 = .ok (.aload_n 3, 1) := by decide +kernel
theorem dX11_learnt_6 : decode cX11_learnt 6 = .ok (.iload_n 1, 1) := by decide +kernel
theorem dX11_learnt_7 : decode cX11_learnt 7 = .ok (.invokevirtual 110, 3) := by decide +kernel
theorem dX11_learnt_10 : decode cX11_learnt 10 = .ok (.astore 4, 2) := by decide +kernel
theorem dX11_learnt_12 : decode cX11_learnt 12 = .ok (.aload 4, 2) := by decide +kernel
theorem dX11_learnt_14 : decode cX11_learnt 14 = .ok (.ifnonnull 5, 3) := by decide +kernel
theorem dX11_learnt_17 : decode cX11_learnt 17 = .ok (.iconst (-1), 1) := by decide +kernel
theorem dX11_learnt_18 : decode cX11_learnt 18 = .ok (.ireturn, 1) := by decide +kernel
theorem dX11_learnt_19 : decode cX11_learnt 19 = .ok (.iload_n 2, 1) := by decide +kernel
theorem dX11_learnt_20 : decode cX11_learnt 20 = .ok (.iconst 0, 1) := by decide +kernel
theorem dX11_learnt_21 : decode cX11_learnt 21 = .ok (.bipush 99, 2) := by decide +kernel
theorem dX11_learnt_23 : decode cX11_learnt 23 = .ok (.invokestatic 93, 3) := by decide +kernel
theorem dX11_learnt_26 : decode cX11_learnt 26 = .ok (.ifCond .eq 6, 3) := by decide +kernel
theorem dX11_learnt_29 : decode cX11_learnt 29 = .ok (.bipush (-2), 2) := by decide +kernel
theorem dX11_learnt_31 : decode cX11_learnt 31 = .ok (.ireturn, 1) := by decide +kernel
theorem dX11_learnt_32 : decode cX11_learnt 32 = .ok (.iconst 0, 1) := by decide +kernel
theorem dX11_learnt_33 : decode cX11_learnt 33 = .ok (.istore 5, 2) := by decide +kernel
theorem dX11_learnt_35 : decode cX11_learnt 35 = .ok (.iload 5, 2) := by decide +kernel
theorem dX11_learnt_37 : decode cX11_learnt 37 = .ok (.bipush 40, 2) := by decide +kernel
theorem dX11_learnt_39 : decode cX11_learnt 39 = .ok (.if_icmp .gt 30, 3) := by decide +kernel
theorem dX11_learnt_42 : decode cX11_learnt 42 = .ok (.aload_n 3, 1) := by decide +kernel
theorem dX11_learnt_43 : decode cX11_learnt 43 = .ok (.aload 4, 2) := by decide +kernel
theorem dX11_learnt_45 : decode cX11_learnt 45 = .ok (.invokevirtual 142, 3) := by decide +kernel
theorem dX11_learnt_48 : decode cX11_learnt 48 = .ok (.iload_n 2, 1) := by decide +kernel
theorem dX11_learnt_49 : decode cX11_learnt 49 = .ok (.if_icmp .gt 6, 3) := by decide +kernel
theorem dX11_learnt_52 : decode cX11_learnt 52 = .ok (.iload 5, 2) := by decide +kernel
theorem dX11_learnt_54 : decode cX11_learnt 54 = .ok (.ireturn, 1) := by decide +kernel
theorem dX11_learnt_55 : decode cX11_learnt 55 = .ok (.aload_n 3, 1) := by decide +kernel
theorem dX11_learnt_56 : decode cX11_learnt 56 = .ok (.aload 4, 2) := by decide +kernel
theorem dX11_learnt_58 : decode cX11_learnt 58 = .ok (.iconst 1, 1) := by decide +kernel
theorem dX11_learnt_59 : decode cX11_learnt 59 = .ok (.invokevirtual 205, 3) := by decide +kernel
theorem dX11_learnt_62 : decode cX11_learnt 62 = .ok (.pop, 1) := by decide +kernel
theorem dX11_learnt_63 : decode cX11_learnt 63 = .ok (.iinc 5 1, 3) := by decide +kernel
theorem dX11_learnt_66 : decode cX11_learnt 66 = .ok (.goto (-31), 3) := by decide +kernel
theorem dX11_learnt_69 : decode cX11_learnt 69 = .ok (.bipush (-5), 2) := by decide +kernel
theorem dX11_learnt_71 : decode cX11_learnt 71 = .ok (.ireturn, 1) := by decide +kernel
theorem dX11_nobody_0 : decode cX11_nobody 0 = .ok (.aload_n 0, 1) := by decide +kernel
theorem dX11_nobody_1 : decode cX11_nobody 1 = .ok (.invokevirtual 201, 3) := by decide +kernel
theorem dX11_nobody_4 : decode cX11_nobody 4 = .ok (.astore_n 1, 1) := by decide +kernel
theorem dX11_nobody_5 : decode cX11_nobody 5 = .ok (.iconst 0, 1) := by decide +kernel
theorem dX11_nobody_6 : decode cX11_nobody 6 = .ok (.istore_n 2, 1) := by decide +kernel
theorem dX11_nobody_7 : decode cX11_nobody 7 = .ok (.iload_n 2, 1) := by decide +kernel
theorem dX11_nobody_8 : decode cX11_nobody 8 = .ok (.bipush 40, 2) := by decide +kernel
theorem dX11_nobody_10 : decode cX11_nobody 10 = .ok (.if_icmp .gt 23, 3) := by decide +kernel
theorem dX11_nobody_13 : decode cX11_nobody 13 = .ok (.aload_n 1, 1) := by decide +kernel
theorem dX11_nobody_14 : decode cX11_nobody 14 = .ok (.invokevirtual 221, 3) := by decide +kernel
theorem dX11_nobody_17 : decode cX11_nobody 17 = .ok (.ifCond .ne 5, 3) := by decide +kernel
theorem dX11_nobody_20 : decode cX11_nobody 20 = .ok (.iload_n 2, 1) := by decide +kernel
theorem dX11_nobody_21 : decode cX11_nobody 21 = .ok (.ireturn, 1) := by decide +kernel
theorem dX11_nobody_22 : decode cX11_nobody 22 = .ok (.aload_n 1, 1) := by decide +kernel
theorem dX11_nobody_23 : decode cX11_nobody 23 = .ok (.invokevirtual 198, 3) := by decide +kernel
theorem dX11_nobody_26 : decode cX11_nobody 26 = .ok (.pop, 1) := by decide +kernel
theorem dX11_nobody_27 : decode cX11_nobody 27 = .ok (.iinc 2 1, 3) := by decide +kernel
theorem dX11_nobody_30 : decode cX11_nobody 30 = .ok (.goto (-23), 3) := by decide +kernel
theorem dX11_nobody_33 : decode cX11_nobody 33 = .ok (.bipush (-5), 2) := by decide +kernel
theorem dX11_nobody_35 : decode cX11_nobody 35 = .ok (.ireturn, 1) := by decide +kernel
theorem dX11_lost_0 : decode cX11_lost 0 = .ok (.iload_n 1, 1) := by decide +kernel
theorem dX11_lost_1 : decode cX11_lost 1 = .ok (.iconst 0, 1) := by decide +kernel
theorem dX11_lost_2 : decode cX11_lost 2 = .ok (.bipush 40, 2) := by decide +kernel
theorem dX11_lost_4 : decode cX11_lost 4 = .ok (.invokestatic 93, 3) := by decide +kernel
theorem dX11_lost_7 : decode cX11_lost 7 = .ok (.ifCond .eq 6, 3) := by decide +kernel
theorem dX11_lost_10 : decode cX11_lost 10 = .ok (.bipush (-2), 2) := by decide +kernel
theorem dX11_lost_12 : decode cX11_lost 12 = .ok (.ireturn, 1) := by decide +kernel
theorem dX11_lost_13 : decode cX11_lost 13 = .ok (.aload_n 0, 1) := by decide +kernel
theorem dX11_lost_14 : decode cX11_lost 14 = .ok (.iload_n 1, 1) := by decide +kernel
theorem dX11_lost_15 : decode cX11_lost 15 = .ok (.invokevirtual 224, 3) := by decide +kernel
theorem dX11_lost_18 : decode cX11_lost 18 = .ok (.invokevirtual 188, 3) := by decide +kernel
theorem dX11_lost_21 : decode cX11_lost 21 = .ok (.ireturn, 1) := by decide +kernel
theorem dX11_over_0 : decode cX11_over 0 = .ok (.aload_n 0, 1) := by decide +kernel
theorem dX11_over_1 : decode cX11_over 1 = .ok (.invokevirtual 201, 3) := by decide +kernel
theorem dX11_over_4 : decode cX11_over 4 = .ok (.astore 4, 2) := by decide +kernel
theorem dX11_over_6 : decode cX11_over 6 = .ok (.aload 4, 2) := by decide +kernel
theorem dX11_over_8 : decode cX11_over 8 = .ok (.iload_n 1, 1) := by decide +kernel
theorem dX11_over_9 : decode cX11_over 9 = .ok (.invokevirtual 110, 3) := by decide +kernel
theorem dX11_over_12 : decode cX11_over 12 = .ok (.astore 5, 2) := by decide +kernel
theorem dX11_over_14 : decode cX11_over 14 = .ok (.aload 5, 2) := by decide +kernel
theorem dX11_over_16 : decode cX11_over 16 = .ok (.ifnonnull 6, 3) := by decide +kernel
theorem dX11_over_19 : decode cX11_over 19 = .ok (.ldc 228, 2) := by decide +kernel
theorem dX11_over_21 : decode cX11_over 21 = .ok (.ireturn, 1) := by decide +kernel
theorem dX11_over_22 : decode cX11_over 22 = .ok (.iload_n 2, 1) := by decide +kernel
theorem dX11_over_23 : decode cX11_over 23 = .ok (.iconst 1, 1) := by decide +kernel
theorem dX11_over_24 : decode cX11_over 24 = .ok (.bipush 99, 2) := by decide +kernel
theorem dX11_over_26 : decode cX11_over 26 = .ok (.invokestatic 93, 3) := by decide +kernel
theorem dX11_over_29 : decode cX11_over 29 = .ok (.ifCond .ne 13, 3) := by decide +kernel
theorem dX11_over_32 : decode cX11_over 32 = .ok (.iload_n 3, 1) := by decide +kernel
theorem dX11_over_33 : decode cX11_over 33 = .ok (.iconst 1, 1) := by decide +kernel
theorem dX11_over_34 : decode cX11_over 34 = .ok (.bipush 40, 2) := by decide +kernel
theorem dX11_over_36 : decode cX11_over 36 = .ok (.invokestatic 93, 3) := by decide +kernel
theorem dX11_over_39 : decode cX11_over 39 = .ok (.ifCond .eq 6, 3) := by decide +kernel
theorem dX11_over_42 : decode cX11_over 42 = .ok (.ldc 229, 2) := by decide +kernel
theorem dX11_over_44 : decode cX11_over 44 = .ok (.ireturn, 1) := by decide +kernel
theorem dX11_over_45 : decode cX11_over 45 = .ok (.aload 4, 2) := by decide +kernel
theorem dX11_over_47 : decode cX11_over 47 = .ok (.aload 5, 2) := by decide +kernel
theorem dX11_over_49 : decode cX11_over 49 = .ok (.iload_n 3, 1) := by decide +kernel
theorem dX11_over_50 : decode cX11_over 50 = .ok (.invokevirtual 205, 3) := by decide +kernel
theorem dX11_over_53 : decode cX11_over 53 = .ok (.aload 4, 2) := by decide +kernel
theorem dX11_over_55 : decode cX11_over 55 = .ok (.getfield 173, 3) := by decide +kernel
theorem dX11_over_58 : decode cX11_over 58 = .ok (.getfield 180, 3) := by decide +kernel
theorem dX11_over_61 : decode cX11_over 61 = .ok (.imul, 1) := by decide +kernel
theorem dX11_over_62 : decode cX11_over 62 = .ok (.iload_n 3, 1) := by decide +kernel
theorem dX11_over_63 : decode cX11_over 63 = .ok (.aload 5, 2) := by decide +kernel
theorem dX11_over_65 : decode cX11_over 65 = .ok (.getfield 124, 3) := by decide +kernel
theorem dX11_over_68 : decode cX11_over 68 = .ok (.imul, 1) := by decide +kernel
theorem dX11_over_69 : decode cX11_over 69 = .ok (.iload_n 2, 1) := by decide +kernel
theorem dX11_over_70 : decode cX11_over 70 = .ok (.imul, 1) := by decide +kernel
theorem dX11_over_71 : decode cX11_over 71 = .ok (.isub, 1) := by decide +kernel
theorem dX11_over_72 : decode cX11_over 72 = .ok (.ireturn, 1) := by decide +kernel
theorem dX11_nearest_0 : decode cX11_nearest 0 = .ok (.iload_n 1, 1) := by decide +kernel
theorem dX11_nearest_1 : decode cX11_nearest 1 = .ok (.iconst 1, 1) := by decide +kernel
theorem dX11_nearest_2 : decode cX11_nearest 2 = .ok (.bipush 20, 2) := by decide +kernel
theorem dX11_nearest_4 : decode cX11_nearest 4 = .ok (.invokestatic 93, 3) := by decide +kernel
theorem dX11_nearest_7 : decode cX11_nearest 7 = .ok (.ifCond .eq 6, 3) := by decide +kernel
theorem dX11_nearest_10 : decode cX11_nearest 10 = .ok (.bipush (-2), 2) := by decide +kernel
theorem dX11_nearest_12 : decode cX11_nearest 12 = .ok (.ireturn, 1) := by decide +kernel
theorem dX11_nearest_13 : decode cX11_nearest 13 = .ok (.aload_n 0, 1) := by decide +kernel
theorem dX11_nearest_14 : decode cX11_nearest 14 = .ok (.invokevirtual 201, 3) := by decide +kernel
theorem dX11_nearest_17 : decode cX11_nearest 17 = .ok (.astore_n 2, 1) := by decide +kernel
theorem dX11_nearest_18 : decode cX11_nearest 18 = .ok (.bipush (-5), 2) := by decide +kernel
theorem dX11_nearest_20 : decode cX11_nearest 20 = .ok (.istore_n 3, 1) := by decide +kernel
theorem dX11_nearest_21 : decode cX11_nearest 21 = .ok (.iconst 0, 1) := by decide +kernel
theorem dX11_nearest_22 : decode cX11_nearest 22 = .ok (.istore 4, 2) := by decide +kernel
theorem dX11_nearest_24 : decode cX11_nearest 24 = .ok (.iconst 0, 1) := by decide +kernel
theorem dX11_nearest_25 : decode cX11_nearest 25 = .ok (.istore 5, 2) := by decide +kernel
theorem dX11_nearest_27 : decode cX11_nearest 27 = .ok (.iload 5, 2) := by decide +kernel
theorem dX11_nearest_29 : decode cX11_nearest 29 = .ok (.aload_n 2, 1) := by decide +kernel
theorem dX11_nearest_30 : decode cX11_nearest 30 = .ok (.getfield 97, 3) := by decide +kernel
theorem dX11_nearest_33 : decode cX11_nearest 33 = .ok (.if_icmp .ge 56, 3) := by decide +kernel
theorem dX11_nearest_36 : decode cX11_nearest 36 = .ok (.aload_n 2, 1) := by decide +kernel
theorem dX11_nearest_37 : decode cX11_nearest 37 = .ok (.getfield 100, 3) := by decide +kernel
theorem dX11_nearest_40 : decode cX11_nearest 40 = .ok (.iload 5, 2) := by decide +kernel
theorem dX11_nearest_42 : decode cX11_nearest 42 = .ok (.aaload, 1) := by decide +kernel
theorem dX11_nearest_43 : decode cX11_nearest 43 = .ok (.astore 6, 2) := by decide +kernel
theorem dX11_nearest_45 : decode cX11_nearest 45 = .ok (.aload_n 2, 1) := by decide +kernel
theorem dX11_nearest_46 : decode cX11_nearest 46 = .ok (.aload 6, 2) := by decide +kernel
theorem dX11_nearest_48 : decode cX11_nearest 48 = .ok (.iload_n 1, 1) := by decide +kernel
theorem dX11_nearest_49 : decode cX11_nearest 49 = .ok (.invokevirtual 205, 3) := by decide +kernel
theorem dX11_nearest_52 : decode cX11_nearest 52 = .ok (.iload_n 1, 1) := by decide +kernel
theorem dX11_nearest_53 : decode cX11_nearest 53 = .ok (.aload 6, 2) := by decide +kernel
theorem dX11_nearest_55 : decode cX11_nearest 55 = .ok (.getfield 124, 3) := by decide +kernel
theorem dX11_nearest_58 : decode cX11_nearest 58 = .ok (.imul, 1) := by decide +kernel
theorem dX11_nearest_59 : decode cX11_nearest 59 = .ok (.isub, 1) := by decide +kernel
theorem dX11_nearest_60 : decode cX11_nearest 60 = .ok (.invokestatic 230, 3) := by decide +kernel
theorem dX11_nearest_63 : decode cX11_nearest 63 = .ok (.istore 7, 2) := by decide +kernel
theorem dX11_nearest_65 : decode cX11_nearest 65 = .ok (.iload_n 3, 1) := by decide +kernel
theorem dX11_nearest_66 : decode cX11_nearest 66 = .ok (.ifCond .lt 10, 3) := by decide +kernel
theorem dX11_nearest_69 : decode cX11_nearest 69 = .ok (.iload 7, 2) := by decide +kernel
theorem dX11_nearest_71 : decode cX11_nearest 71 = .ok (.iload 4, 2) := by decide +kernel
theorem dX11_nearest_73 : decode cX11_nearest 73 = .ok (.if_icmp .ge 10, 3) := by decide +kernel
theorem dX11_nearest_76 : decode cX11_nearest 76 = .ok (.iload 7, 2) := by decide +kernel
theorem dX11_nearest_78 : decode cX11_nearest 78 = .ok (.istore 4, 2) := by decide +kernel
theorem dX11_nearest_80 : decode cX11_nearest 80 = .ok (.iload 5, 2) := by decide +kernel
theorem dX11_nearest_82 : decode cX11_nearest 82 = .ok (.istore_n 3, 1) := by decide +kernel
theorem dX11_nearest_83 : decode cX11_nearest 83 = .ok (.iinc 5 1, 3) := by decide +kernel
theorem dX11_nearest_86 : decode cX11_nearest 86 = .ok (.goto (-59), 3) := by decide +kernel
theorem dX11_nearest_89 : decode cX11_nearest 89 = .ok (.iload_n 3, 1) := by decide +kernel
theorem dX11_nearest_90 : decode cX11_nearest 90 = .ok (.ireturn, 1) := by decide +kernel
theorem dX11_see_0 : decode cX11_see 0 = .ok (.iload_n 1, 1) := by decide +kernel
theorem dX11_see_1 : decode cX11_see 1 = .ok (.iconst (-1), 1) := by decide +kernel
theorem dX11_see_2 : decode cX11_see 2 = .ok (.if_icmp .ne 13, 3) := by decide +kernel
theorem dX11_see_5 : decode cX11_see 5 = .ok (.aload_n 0, 1) := by decide +kernel
theorem dX11_see_6 : decode cX11_see 6 = .ok (.getfield 43, 3) := by decide +kernel
theorem dX11_see_9 : decode cX11_see 9 = .ok (.iconst 0, 1) := by decide +kernel
theorem dX11_see_10 : decode cX11_see 10 = .ok (.putfield 234, 3) := by decide +kernel
theorem dX11_see_13 : decode cX11_see 13 = .ok (.iconst 0, 1) := by decide +kernel
theorem dX11_see_14 : decode cX11_see 14 = .ok (.ireturn, 1) := by decide +kernel
theorem dX11_see_15 : decode cX11_see 15 = .ok (.iload_n 1, 1) := by decide +kernel
theorem dX11_see_16 : decode cX11_see 16 = .ok (.iconst 0, 1) := by decide +kernel
theorem dX11_see_17 : decode cX11_see 17 = .ok (.sipush 999, 3) := by decide +kernel
theorem dX11_see_20 : decode cX11_see 20 = .ok (.invokestatic 93, 3) := by decide +kernel
theorem dX11_see_23 : decode cX11_see 23 = .ok (.ifCond .eq 6, 3) := by decide +kernel
theorem dX11_see_26 : decode cX11_see 26 = .ok (.bipush (-2), 2) := by decide +kernel
theorem dX11_see_28 : decode cX11_see 28 = .ok (.ireturn, 1) := by decide +kernel
theorem dX11_see_29 : decode cX11_see 29 = .ok (.aload_n 0, 1) := by decide +kernel
theorem dX11_see_30 : decode cX11_see 30 = .ok (.getfield 43, 3) := by decide +kernel
theorem dX11_see_33 : decode cX11_see 33 = .ok (.getfield 234, 3) := by decide +kernel
theorem dX11_see_36 : decode cX11_see 36 = .ok (.iconst 4, 1) := by decide +kernel
theorem dX11_see_37 : decode cX11_see 37 = .ok (.if_icmp .lt 6, 3) := by decide +kernel
theorem dX11_see_40 : decode cX11_see 40 = .ok (.bipush (-4), 2) := by decide +kernel
theorem dX11_see_42 : decode cX11_see 42 = .ok (.ireturn, 1) := by decide +kernel
theorem dX11_see_43 : decode cX11_see 43 = .ok (.aload_n 0, 1) := by decide +kernel
theorem dX11_see_44 : decode cX11_see 44 = .ok (.getfield 43, 3) := by decide +kernel
theorem dX11_see_47 : decode cX11_see 47 = .ok (.getfield 237, 3) := by decide +kernel
theorem dX11_see_50 : decode cX11_see 50 = .ok (.aload_n 0, 1) := by decide +kernel
theorem dX11_see_51 : decode cX11_see 51 = .ok (.getfield 43, 3) := by decide +kernel
theorem dX11_see_54 : decode cX11_see 54 = .ok (.getfield 234, 3) := by decide +kernel
theorem dX11_see_57 : decode cX11_see 57 = .ok (.iload_n 1, 1) := by decide +kernel
theorem dX11_see_58 : decode cX11_see 58 = .ok (.iastore, 1) := by decide +kernel
theorem dX11_see_59 : decode cX11_see 59 = .ok (.aload_n 0, 1) := by decide +kernel
theorem dX11_see_60 : decode cX11_see 60 = .ok (.getfield 43, 3) := by decide +kernel
theorem dX11_see_63 : decode cX11_see 63 = .ok (.dup, 1) := by decide +kernel
theorem dX11_see_64 : decode cX11_see 64 = .ok (.getfield 234, 3) := by decide +kernel
theorem dX11_see_67 : decode cX11_see 67 = .ok (.iconst 1, 1) := by decide +kernel
theorem dX11_see_68 : decode cX11_see 68 = .ok (.iadd, 1) := by decide +kernel
theorem dX11_see_69 : decode cX11_see 69 = .ok (.putfield 234, 3) := by decide +kernel
theorem dX11_see_72 : decode cX11_see 72 = .ok (.aload_n 0, 1) := by decide +kernel
theorem dX11_see_73 : decode cX11_see 73 = .ok (.getfield 43, 3) := by decide +kernel
theorem dX11_see_76 : decode cX11_see 76 = .ok (.getfield 234, 3) := by decide +kernel
theorem dX11_see_79 : decode cX11_see 79 = .ok (.ireturn, 1) := by decide +kernel
theorem dX11_who_0 : decode cX11_who 0 = .ok (.aload_n 0, 1) := by decide +kernel
theorem dX11_who_1 : decode cX11_who 1 = .ok (.invokevirtual 201, 3) := by decide +kernel
theorem dX11_who_4 : decode cX11_who 4 = .ok (.astore_n 1, 1) := by decide +kernel
theorem dX11_who_5 : decode cX11_who 5 = .ok (.iconst 0, 1) := by decide +kernel
theorem dX11_who_6 : decode cX11_who 6 = .ok (.istore_n 2, 1) := by decide +kernel
theorem dX11_who_7 : decode cX11_who 7 = .ok (.iconst 0, 1) := by decide +kernel
theorem dX11_who_8 : decode cX11_who 8 = .ok (.istore_n 3, 1) := by decide +kernel
theorem dX11_who_9 : decode cX11_who 9 = .ok (.iload_n 3, 1) := by decide +kernel
theorem dX11_who_10 : decode cX11_who 10 = .ok (.aload_n 1, 1) := by decide +kernel
theorem dX11_who_11 : decode cX11_who 11 = .ok (.getfield 97, 3) := by decide +kernel
theorem dX11_who_14 : decode cX11_who 14 = .ok (.if_icmp .ge 28, 3) := by decide +kernel
theorem dX11_who_17 : decode cX11_who 17 = .ok (.aload_n 1, 1) := by decide +kernel
theorem dX11_who_18 : decode cX11_who 18 = .ok (.aload_n 1, 1) := by decide +kernel
theorem dX11_who_19 : decode cX11_who 19 = .ok (.getfield 100, 3) := by decide +kernel
theorem dX11_who_22 : decode cX11_who 22 = .ok (.iload_n 3, 1) := by decide +kernel
theorem dX11_who_23 : decode cX11_who 23 = .ok (.aaload, 1) := by decide +kernel
theorem dX11_who_24 : decode cX11_who 24 = .ok (.invokevirtual 240, 3) := by decide +kernel
theorem dX11_who_27 : decode cX11_who 27 = .ok (.ifCond .eq 9, 3) := by decide +kernel
theorem dX11_who_30 : decode cX11_who 30 = .ok (.iload_n 2, 1) := by decide +kernel
theorem dX11_who_31 : decode cX11_who 31 = .ok (.iconst 1, 1) := by decide +kernel
theorem dX11_who_32 : decode cX11_who 32 = .ok (.iload_n 3, 1) := by decide +kernel
theorem dX11_who_33 : decode cX11_who 33 = .ok (.ishl, 1) := by decide +kernel
theorem dX11_who_34 : decode cX11_who 34 = .ok (.ior, 1) := by decide +kernel
theorem dX11_who_35 : decode cX11_who 35 = .ok (.istore_n 2, 1) := by decide +kernel
theorem dX11_who_36 : decode cX11_who 36 = .ok (.iinc 3 1, 3) := by decide +kernel
theorem dX11_who_39 : decode cX11_who 39 = .ok (.goto (-30), 3) := by decide +kernel
theorem dX11_who_42 : decode cX11_who 42 = .ok (.iload_n 2, 1) := by decide +kernel
theorem dX11_who_43 : decode cX11_who 43 = .ok (.ireturn, 1) := by decide +kernel
theorem dX11_offs_0 : decode cX11_offs 0 = .ok (.aload_n 0, 1) := by decide +kernel
theorem dX11_offs_1 : decode cX11_offs 1 = .ok (.getfield 43, 3) := by decide +kernel
theorem dX11_offs_4 : decode cX11_offs 4 = .ok (.iload_n 1, 1) := by decide +kernel
theorem dX11_offs_5 : decode cX11_offs 5 = .ok (.invokevirtual 110, 3) := by decide +kernel
theorem dX11_offs_8 : decode cX11_offs 8 = .ok (.ifnull 12, 3) := by decide +kernel
theorem dX11_offs_11 : decode cX11_offs 11 = .ok (.iload_n 2, 1) := by decide +kernel
theorem dX11_offs_12 : decode cX11_offs 12 = .ok (.iconst 0, 1) := by decide +kernel
theorem dX11_offs_13 : decode cX11_offs 13 = .ok (.iconst 1, 1) := by decide +kernel
theorem dX11_offs_14 : decode cX11_offs 14 = .ok (.invokestatic 93, 3) := by decide +kernel
theorem dX11_offs_17 : decode cX11_offs 17 = .ok (.ifCond .eq 5, 3) := by decide +kernel
theorem dX11_offs_20 : decode cX11_offs 20 = .ok (.iconst (-1), 1) := by decide +kernel
theorem dX11_offs_21 : decode cX11_offs 21 = .ok (.ireturn, 1) := by decide +kernel
theorem dX11_offs_22 : decode cX11_offs 22 = .ok (.iconst 0, 1) := by decide +kernel
theorem dX11_offs_23 : decode cX11_offs 23 = .ok (.istore_n 3, 1) := by decide +kernel
theorem dX11_offs_24 : decode cX11_offs 24 = .ok (.bipush (-5), 2) := by decide +kernel
theorem dX11_offs_26 : decode cX11_offs 26 = .ok (.istore 4, 2) := by decide +kernel
theorem dX11_offs_28 : decode cX11_offs 28 = .ok (.bipush 30, 2) := by decide +kernel
theorem dX11_offs_30 : decode cX11_offs 30 = .ok (.istore 5, 2) := by decide +kernel
theorem dX11_offs_32 : decode cX11_offs 32 = .ok (.iload 5, 2) := by decide +kernel
theorem dX11_offs_34 : decode cX11_offs 34 = .ok (.ifCond .lt 26, 3) := by decide +kernel
theorem dX11_offs_37 : decode cX11_offs 37 = .ok (.aload_n 0, 1) := by decide +kernel
theorem dX11_offs_38 : decode cX11_offs 38 = .ok (.iload 5, 2) := by decide +kernel
theorem dX11_offs_40 : decode cX11_offs 40 = .ok (.iload_n 1, 1) := by decide +kernel
theorem dX11_offs_41 : decode cX11_offs 41 = .ok (.invokevirtual 243, 3) := by decide +kernel
theorem dX11_offs_44 : decode cX11_offs 44 = .ok (.ifCond .eq 10, 3) := by decide +kernel
theorem dX11_offs_47 : decode cX11_offs 47 = .ok (.iinc 3 1, 3) := by decide +kernel
theorem dX11_offs_50 : decode cX11_offs 50 = .ok (.iload 5, 2) := by decide +kernel
theorem dX11_offs_52 : decode cX11_offs 52 = .ok (.istore 4, 2) := by decide +kernel
theorem dX11_offs_54 : decode cX11_offs 54 = .ok (.iinc 5 (-1), 3) := by decide +kernel
theorem dX11_offs_57 : decode cX11_offs 57 = .ok (.goto (-25), 3) := by decide +kernel
theorem dX11_offs_60 : decode cX11_offs 60 = .ok (.iload_n 2, 1) := by decide +kernel
theorem dX11_offs_61 : decode cX11_offs 61 = .ok (.ifCond .ne 7, 3) := by decide +kernel
theorem dX11_offs_64 : decode cX11_offs 64 = .ok (.iload_n 3, 1) := by decide +kernel
theorem dX11_offs_65 : decode cX11_offs 65 = .ok (.goto 5, 3) := by decide +kernel
theorem dX11_offs_68 : decode cX11_offs 68 = .ok (.iload 4, 2) := by decide +kernel
theorem dX11_offs_70 : decode cX11_offs 70 = .ok (.ireturn, 1) := by decide +kernel
theorem dX11_odds_0 : decode cX11_odds 0 = .ok (.iload_n 1, 1) := by decide +kernel
theorem dX11_odds_1 : decode cX11_odds 1 = .ok (.iconst 0, 1) := by decide +kernel
theorem dX11_odds_2 : decode cX11_odds 2 = .ok (.bipush 40, 2) := by decide +kernel
theorem dX11_odds_4 : decode cX11_odds 4 = .ok (.invokestatic 93, 3) := by decide +kernel
theorem dX11_odds_7 : decode cX11_odds 7 = .ok (.ifCond .ne 12, 3) := by decide +kernel
theorem dX11_odds_10 : decode cX11_odds 10 = .ok (.iload_n 2, 1) := by decide +kernel
theorem dX11_odds_11 : decode cX11_odds 11 = .ok (.iconst 0, 1) := by decide +kernel
theorem dX11_odds_12 : decode cX11_odds 12 = .ok (.iconst 1, 1) := by decide +kernel
theorem dX11_odds_13 : decode cX11_odds 13 = .ok (.invokestatic 93, 3) := by decide +kernel
theorem dX11_odds_16 : decode cX11_odds 16 = .ok (.ifCond .eq 7, 3) := by decide +kernel
theorem dX11_odds_19 : decode cX11_odds 19 = .ok (.ldc2_w 247, 3) := by decide +kernel
theorem dX11_odds_22 : decode cX11_odds 22 = .ok (.lreturn, 1) := by decide +kernel
theorem dX11_odds_23 : decode cX11_odds 23 = .ok (.aload_n 0, 1) := by decide +kernel
theorem dX11_odds_24 : decode cX11_odds 24 = .ok (.iload_n 1, 1) := by decide +kernel
theorem dX11_odds_25 : decode cX11_odds 25 = .ok (.invokevirtual 224, 3) := by decide +kernel
theorem dX11_odds_28 : decode cX11_odds 28 = .ok (.astore_n 3, 1) := by decide +kernel
theorem dX11_odds_29 : decode cX11_odds 29 = .ok (.aload_n 3, 1) := by decide +kernel
theorem dX11_odds_30 : decode cX11_odds 30 = .ok (.invokevirtual 221, 3) := by decide +kernel
theorem dX11_odds_33 : decode cX11_odds 33 = .ok (.i2l, 1) := by decide +kernel
theorem dX11_odds_34 : decode cX11_odds 34 = .ok (.aload_n 3, 1) := by decide +kernel
theorem dX11_odds_35 : decode cX11_odds 35 = .ok (.invokevirtual 249, 3) := by decide +kernel
theorem dX11_odds_38 : decode cX11_odds 38 = .ok (.i2l, 1) := by decide +kernel
theorem dX11_odds_39 : decode cX11_odds 39 = .ok (.iload_n 2, 1) := by decide +kernel
theorem dX11_odds_40 : decode cX11_odds 40 = .ok (.invokestatic 252, 3) := by decide +kernel
theorem dX11_odds_43 : decode cX11_odds 43 = .ok (.lreturn, 1) := by decide +kernel
theorem dX11_mean_0 : decode cX11_mean 0 = .ok (.iload_n 1, 1) := by decide +kernel
theorem dX11_mean_1 : decode cX11_mean 1 = .ok (.iconst 1, 1) := by decide +kernel
theorem dX11_mean_2 : decode cX11_mean 2 = .ok (.bipush 40, 2) := by decide +kernel
theorem dX11_mean_4 : decode cX11_mean 4 = .ok (.invokestatic 93, 3) := by decide +kernel
theorem dX11_mean_7 : decode cX11_mean 7 = .ok (.ifCond .ne 12, 3) := by decide +kernel
theorem dX11_mean_10 : decode cX11_mean 10 = .ok (.iload_n 2, 1) := by decide +kernel
theorem dX11_mean_11 : decode cX11_mean 11 = .ok (.iconst 0, 1) := by decide +kernel
theorem dX11_mean_12 : decode cX11_mean 12 = .ok (.iconst 1, 1) := by decide +kernel
theorem dX11_mean_13 : decode cX11_mean 13 = .ok (.invokestatic 93, 3) := by decide +kernel
theorem dX11_mean_16 : decode cX11_mean 16 = .ok (.ifCond .eq 7, 3) := by decide +kernel
theorem dX11_mean_19 : decode cX11_mean 19 = .ok (.ldc2_w 247, 3) := by decide +kernel
theorem dX11_mean_22 : decode cX11_mean 22 = .ok (.lreturn, 1) := by decide +kernel
theorem dX11_mean_23 : decode cX11_mean 23 = .ok (.aload_n 0, 1) := by decide +kernel
theorem dX11_mean_24 : decode cX11_mean 24 = .ok (.invokevirtual 201, 3) := by decide +kernel
theorem dX11_mean_27 : decode cX11_mean 27 = .ok (.astore_n 3, 1) := by decide +kernel
theorem dX11_mean_28 : decode cX11_mean 28 = .ok (.lconst 0, 1) := by decide +kernel
theorem dX11_mean_29 : decode cX11_mean 29 = .ok (.lstore 4, 2) := by decide +kernel
theorem dX11_mean_31 : decode cX11_mean 31 = .ok (.lconst 0, 1) := by decide +kernel
theorem dX11_mean_32 : decode cX11_mean 32 = .ok (.lstore 6, 2) := by decide +kernel
theorem dX11_mean_34 : decode cX11_mean 34 = .ok (.iconst 0, 1) := by decide +kernel
theorem dX11_mean_35 : decode cX11_mean 35 = .ok (.istore 8, 2) := by decide +kernel
theorem dX11_mean_37 : decode cX11_mean 37 = .ok (.iload 8, 2) := by decide +kernel
theorem dX11_mean_39 : decode cX11_mean 39 = .ok (.iload_n 1, 1) := by decide +kernel
theorem dX11_mean_40 : decode cX11_mean 40 = .ok (.if_icmp .ge 39, 3) := by decide +kernel
theorem dX11_mean_43 : decode cX11_mean 43 = .ok (.lload 6, 2) := by decide +kernel
theorem dX11_mean_45 : decode cX11_mean 45 = .ok (.aload_n 3, 1) := by decide +kernel
theorem dX11_mean_46 : decode cX11_mean 46 = .ok (.invokevirtual 249, 3) := by decide +kernel
theorem dX11_mean_49 : decode cX11_mean 49 = .ok (.i2l, 1) := by decide +kernel
theorem dX11_mean_50 : decode cX11_mean 50 = .ok (.ladd, 1) := by decide +kernel
theorem dX11_mean_51 : decode cX11_mean 51 = .ok (.lstore 6, 2) := by decide +kernel
theorem dX11_mean_53 : decode cX11_mean 53 = .ok (.lload 4, 2) := by decide +kernel
theorem dX11_mean_55 : decode cX11_mean 55 = .ok (.aload_n 3, 1) := by decide +kernel
theorem dX11_mean_56 : decode cX11_mean 56 = .ok (.invokevirtual 256, 3) := by decide +kernel
theorem dX11_mean_59 : decode cX11_mean 59 = .ok (.i2l, 1) := by decide +kernel
theorem dX11_mean_60 : decode cX11_mean 60 = .ok (.lsub, 1) := by decide +kernel
theorem dX11_mean_61 : decode cX11_mean 61 = .ok (.lstore 4, 2) := by decide +kernel
theorem dX11_mean_63 : decode cX11_mean 63 = .ok (.lload 4, 2) := by decide +kernel
theorem dX11_mean_65 : decode cX11_mean 65 = .ok (.aload_n 3, 1) := by decide +kernel
theorem dX11_mean_66 : decode cX11_mean 66 = .ok (.invokevirtual 198, 3) := by decide +kernel
theorem dX11_mean_69 : decode cX11_mean 69 = .ok (.i2l, 1) := by decide +kernel
theorem dX11_mean_70 : decode cX11_mean 70 = .ok (.ladd, 1) := by decide +kernel
theorem dX11_mean_71 : decode cX11_mean 71 = .ok (.lstore 4, 2) := by decide +kernel
theorem dX11_mean_73 : decode cX11_mean 73 = .ok (.iinc 8 1, 3) := by decide +kernel
theorem dX11_mean_76 : decode cX11_mean 76 = .ok (.goto (-39), 3) := by decide +kernel
theorem dX11_mean_79 : decode cX11_mean 79 = .ok (.lload 4, 2) := by decide +kernel
theorem dX11_mean_81 : decode cX11_mean 81 = .ok (.lload 6, 2) := by decide +kernel
theorem dX11_mean_83 : decode cX11_mean 83 = .ok (.iload_n 2, 1) := by decide +kernel
theorem dX11_mean_84 : decode cX11_mean 84 = .ok (.invokestatic 252, 3) := by decide +kernel
theorem dX11_mean_87 : decode cX11_mean 87 = .ok (.lreturn, 1) := by decide +kernel
theorem dX11_book_0 : decode cX11_book 0 = .ok (.iload_n 1, 1) := by decide +kernel
theorem dX11_book_1 : decode cX11_book 1 = .ok (.iconst (-1), 1) := by decide +kernel
theorem dX11_book_2 : decode cX11_book 2 = .ok (.if_icmp .ne 13, 3) := by decide +kernel
theorem dX11_book_5 : decode cX11_book 5 = .ok (.aload_n 0, 1) := by decide +kernel
theorem dX11_book_6 : decode cX11_book 6 = .ok (.getfield 43, 3) := by decide +kernel
theorem dX11_book_9 : decode cX11_book 9 = .ok (.iconst 0, 1) := by decide +kernel
theorem dX11_book_10 : decode cX11_book 10 = .ok (.putfield 259, 3) := by decide +kernel
theorem dX11_book_13 : decode cX11_book 13 = .ok (.iconst 0, 1) := by decide +kernel
theorem dX11_book_14 : decode cX11_book 14 = .ok (.ireturn, 1) := by decide +kernel
theorem dX11_book_15 : decode cX11_book 15 = .ok (.aload_n 0, 1) := by decide +kernel
theorem dX11_book_16 : decode cX11_book 16 = .ok (.getfield 43, 3) := by decide +kernel
theorem dX11_book_19 : decode cX11_book 19 = .ok (.iload_n 1, 1) := by decide +kernel
theorem dX11_book_20 : decode cX11_book 20 = .ok (.invokevirtual 110, 3) := by decide +kernel
theorem dX11_book_23 : decode cX11_book 23 = .ok (.ifnonnull 5, 3) := by decide +kernel
theorem dX11_book_26 : decode cX11_book 26 = .ok (.iconst (-1), 1) := by decide +kernel
theorem dX11_book_27 : decode cX11_book 27 = .ok (.ireturn, 1) := by decide +kernel
theorem dX11_book_28 : decode cX11_book 28 = .ok (.aload_n 0, 1) := by decide +kernel
theorem dX11_book_29 : decode cX11_book 29 = .ok (.getfield 43, 3) := by decide +kernel
theorem dX11_book_32 : decode cX11_book 32 = .ok (.getfield 259, 3) := by decide +kernel
theorem dX11_book_35 : decode cX11_book 35 = .ok (.bipush 8, 2) := by decide +kernel
theorem dX11_book_37 : decode cX11_book 37 = .ok (.if_icmp .lt 6, 3) := by decide +kernel
theorem dX11_book_40 : decode cX11_book 40 = .ok (.bipush (-4), 2) := by decide +kernel
theorem dX11_book_42 : decode cX11_book 42 = .ok (.ireturn, 1) := by decide +kernel
theorem dX11_book_43 : decode cX11_book 43 = .ok (.aload_n 0, 1) := by decide +kernel
theorem dX11_book_44 : decode cX11_book 44 = .ok (.getfield 43, 3) := by decide +kernel
theorem dX11_book_47 : decode cX11_book 47 = .ok (.getfield 262, 3) := by decide +kernel
theorem dX11_book_50 : decode cX11_book 50 = .ok (.aload_n 0, 1) := by decide +kernel
theorem dX11_book_51 : decode cX11_book 51 = .ok (.getfield 43, 3) := by decide +kernel
theorem dX11_book_54 : decode cX11_book 54 = .ok (.getfield 259, 3) := by decide +kernel
theorem dX11_book_57 : decode cX11_book 57 = .ok (.iload_n 1, 1) := by decide +kernel
theorem dX11_book_58 : decode cX11_book 58 = .ok (.iastore, 1) := by decide +kernel
theorem dX11_book_59 : decode cX11_book 59 = .ok (.aload_n 0, 1) := by decide +kernel
theorem dX11_book_60 : decode cX11_book 60 = .ok (.getfield 43, 3) := by decide +kernel
theorem dX11_book_63 : decode cX11_book 63 = .ok (.dup, 1) := by decide +kernel
theorem dX11_book_64 : decode cX11_book 64 = .ok (.getfield 259, 3) := by decide +kernel
theorem dX11_book_67 : decode cX11_book 67 = .ok (.iconst 1, 1) := by decide +kernel
theorem dX11_book_68 : decode cX11_book 68 = .ok (.iadd, 1) := by decide +kernel
theorem dX11_book_69 : decode cX11_book 69 = .ok (.putfield 259, 3) := by decide +kernel
theorem dX11_book_72 : decode cX11_book 72 = .ok (.aload_n 0, 1) := by decide +kernel
theorem dX11_book_73 : decode cX11_book 73 = .ok (.getfield 43, 3) := by decide +kernel
theorem dX11_book_76 : decode cX11_book 76 = .ok (.getfield 259, 3) := by decide +kernel
theorem dX11_book_79 : decode cX11_book 79 = .ok (.ireturn, 1) := by decide +kernel
theorem dX11_looked_0 : decode cX11_looked 0 = .ok (.aload_n 0, 1) := by decide +kernel
theorem dX11_looked_1 : decode cX11_looked 1 = .ok (.invokevirtual 201, 3) := by decide +kernel
theorem dX11_looked_4 : decode cX11_looked 4 = .ok (.astore_n 1, 1) := by decide +kernel
theorem dX11_looked_5 : decode cX11_looked 5 = .ok (.iconst 0, 1) := by decide +kernel
theorem dX11_looked_6 : decode cX11_looked 6 = .ok (.istore_n 2, 1) := by decide +kernel
theorem dX11_looked_7 : decode cX11_looked 7 = .ok (.iload_n 2, 1) := by decide +kernel
theorem dX11_looked_8 : decode cX11_looked 8 = .ok (.aload_n 1, 1) := by decide +kernel
theorem dX11_looked_9 : decode cX11_looked 9 = .ok (.getfield 259, 3) := by decide +kernel
theorem dX11_looked_12 : decode cX11_looked 12 = .ok (.if_icmp .ge 50, 3) := by decide +kernel
theorem dX11_looked_15 : decode cX11_looked 15 = .ok (.aload_n 1, 1) := by decide +kernel
theorem dX11_looked_16 : decode cX11_looked 16 = .ok (.aload_n 1, 1) := by decide +kernel
theorem dX11_looked_17 : decode cX11_looked 17 = .ok (.getfield 262, 3) := by decide +kernel
theorem dX11_looked_20 : decode cX11_looked 20 = .ok (.iload_n 2, 1) := by decide +kernel
theorem dX11_looked_21 : decode cX11_looked 21 = .ok (.iaload, 1) := by decide +kernel
theorem dX11_looked_22 : decode cX11_looked 22 = .ok (.invokevirtual 110, 3) := by decide +kernel
theorem dX11_looked_25 : decode cX11_looked 25 = .ok (.astore_n 3, 1) := by decide +kernel
theorem dX11_looked_26 : decode cX11_looked 26 = .ok (.aload_n 3, 1) := by decide +kernel
theorem dX11_looked_27 : decode cX11_looked 27 = .ok (.ifnull 29, 3) := by decide +kernel
theorem dX11_looked_30 : decode cX11_looked 30 = .ok (.aload_n 3, 1) := by decide +kernel
theorem dX11_looked_31 : decode cX11_looked 31 = .ok (.getfield 139, 3) := by decide +kernel
theorem dX11_looked_34 : decode cX11_looked 34 = .ok (.ifCond .ne 22, 3) := by decide +kernel
theorem dX11_looked_37 : decode cX11_looked 37 = .ok (.aload_n 1, 1) := by decide +kernel
theorem dX11_looked_38 : decode cX11_looked 38 = .ok (.aload_n 3, 1) := by decide +kernel
theorem dX11_looked_39 : decode cX11_looked 39 = .ok (.invokevirtual 152, 3) := by decide +kernel
theorem dX11_looked_42 : decode cX11_looked 42 = .ok (.ifCond .eq 8, 3) := by decide +kernel
theorem dX11_looked_45 : decode cX11_looked 45 = .ok (.aload_n 3, 1) := by decide +kernel
theorem dX11_looked_46 : decode cX11_looked 46 = .ok (.getfield 265, 3) := by decide +kernel
theorem dX11_looked_49 : decode cX11_looked 49 = .ok (.ireturn, 1) := by decide +kernel
theorem dX11_looked_50 : decode cX11_looked 50 = .ok (.aload_n 1, 1) := by decide +kernel
theorem dX11_looked_51 : decode cX11_looked 51 = .ok (.aload_n 3, 1) := by decide +kernel
theorem dX11_looked_52 : decode cX11_looked 52 = .ok (.invokevirtual 192, 3) := by decide +kernel
theorem dX11_looked_55 : decode cX11_looked 55 = .ok (.pop, 1) := by decide +kernel
theorem dX11_looked_56 : decode cX11_looked 56 = .ok (.iinc 2 1, 3) := by decide +kernel
theorem dX11_looked_59 : decode cX11_looked 59 = .ok (.goto (-52), 3) := by decide +kernel
theorem dX11_looked_62 : decode cX11_looked 62 = .ok (.bipush (-5), 2) := by decide +kernel
theorem dX11_looked_64 : decode cX11_looked 64 = .ok (.ireturn, 1) := by decide +kernel
theorem dX11_judge_0 : decode cX11_judge 0 = .ok (.iload_n 1, 1) := by decide +kernel
theorem dX11_judge_1 : decode cX11_judge 1 = .ok (.invokestatic 266, 3) := by decide +kernel
theorem dX11_judge_4 : decode cX11_judge 4 = .ok (.ifCond .eq 5, 3) := by decide +kernel
theorem dX11_judge_7 : decode cX11_judge 7 = .ok (.iconst (-1), 1) := by decide +kernel
theorem dX11_judge_8 : decode cX11_judge 8 = .ok (.ireturn, 1) := by decide +kernel
theorem dX11_judge_9 : decode cX11_judge 9 = .ok (.aload_n 0, 1) := by decide +kernel
theorem dX11_judge_10 : decode cX11_judge 10 = .ok (.getfield 67, 3) := by decide +kernel
theorem dX11_judge_13 : decode cX11_judge 13 = .ok (.iload_n 1, 1) := by decide +kernel
theorem dX11_judge_14 : decode cX11_judge 14 = .ok (.iaload, 1) := by decide +kernel
theorem dX11_judge_15 : decode cX11_judge 15 = .ok (.ifCond .eq 16, 3) := by decide +kernel
theorem dX11_judge_18 : decode cX11_judge 18 = .ok (.aload_n 0, 1) := by decide +kernel
theorem dX11_judge_19 : decode cX11_judge 19 = .ok (.getfield 67, 3) := by decide +kernel
theorem dX11_judge_22 : decode cX11_judge 22 = .ok (.iload_n 1, 1) := by decide +kernel
theorem dX11_judge_23 : decode cX11_judge 23 = .ok (.iaload, 1) := by decide +kernel
theorem dX11_judge_24 : decode cX11_judge 24 = .ok (.iconst (-1), 1) := by decide +kernel
theorem dX11_judge_25 : decode cX11_judge 25 = .ok (.if_icmp .eq 6, 3) := by decide +kernel
theorem dX11_judge_28 : decode cX11_judge 28 = .ok (.bipush (-12), 2) := by decide +kernel
theorem dX11_judge_30 : decode cX11_judge 30 = .ok (.ireturn, 1) := by decide +kernel
theorem dX11_judge_31 : decode cX11_judge 31 = .ok (.iconst 0, 1) := by decide +kernel
theorem dX11_judge_32 : decode cX11_judge 32 = .ok (.istore_n 3, 1) := by decide +kernel
theorem dX11_judge_33 : decode cX11_judge 33 = .ok (.iload_n 3, 1) := by decide +kernel
theorem dX11_judge_34 : decode cX11_judge 34 = .ok (.aload_n 0, 1) := by decide +kernel
theorem dX11_judge_35 : decode cX11_judge 35 = .ok (.getfield 43, 3) := by decide +kernel
theorem dX11_judge_38 : decode cX11_judge 38 = .ok (.getfield 97, 3) := by decide +kernel
theorem dX11_judge_41 : decode cX11_judge 41 = .ok (.if_icmp .ge 59, 3) := by decide +kernel
theorem dX11_judge_44 : decode cX11_judge 44 = .ok (.iload_n 2, 1) := by decide +kernel
theorem dX11_judge_45 : decode cX11_judge 45 = .ok (.ifCond .lt 15, 3) := by decide +kernel
theorem dX11_judge_48 : decode cX11_judge 48 = .ok (.iload_n 2, 1) := by decide +kernel
theorem dX11_judge_49 : decode cX11_judge 49 = .ok (.aload_n 0, 1) := by decide +kernel
theorem dX11_judge_50 : decode cX11_judge 50 = .ok (.getfield 71, 3) := by decide +kernel
theorem dX11_judge_53 : decode cX11_judge 53 = .ok (.iload_n 1, 1) := by decide +kernel
theorem dX11_judge_54 : decode cX11_judge 54 = .ok (.iaload, 1) := by decide +kernel
theorem dX11_judge_55 : decode cX11_judge 55 = .ok (.iload_n 3, 1) := by decide +kernel
theorem dX11_judge_56 : decode cX11_judge 56 = .ok (.isub, 1) := by decide +kernel
theorem dX11_judge_57 : decode cX11_judge 57 = .ok (.if_icmp .lt 8, 3) := by decide +kernel
theorem dX11_judge_60 : decode cX11_judge 60 = .ok (.bipush 100, 2) := by decide +kernel
theorem dX11_judge_62 : decode cX11_judge 62 = .ok (.iload_n 3, 1) := by decide +kernel
theorem dX11_judge_63 : decode cX11_judge 63 = .ok (.iadd, 1) := by decide +kernel
theorem dX11_judge_64 : decode cX11_judge 64 = .ok (.ireturn, 1) := by decide +kernel
theorem dX11_judge_65 : decode cX11_judge 65 = .ok (.aload_n 0, 1) := by decide +kernel
theorem dX11_judge_66 : decode cX11_judge 66 = .ok (.getfield 76, 3) := by decide +kernel
theorem dX11_judge_69 : decode cX11_judge 69 = .ok (.iload_n 1, 1) := by decide +kernel
theorem dX11_judge_70 : decode cX11_judge 70 = .ok (.aaload, 1) := by decide +kernel
theorem dX11_judge_71 : decode cX11_judge 71 = .ok (.iload_n 2, 1) := by decide +kernel
theorem dX11_judge_72 : decode cX11_judge 72 = .ok (.iload_n 3, 1) := by decide +kernel
theorem dX11_judge_73 : decode cX11_judge 73 = .ok (.iadd, 1) := by decide +kernel
theorem dX11_judge_74 : decode cX11_judge 74 = .ok (.laload, 1) := by decide +kernel
theorem dX11_judge_75 : decode cX11_judge 75 = .ok (.aload_n 0, 1) := by decide +kernel
theorem dX11_judge_76 : decode cX11_judge 76 = .ok (.getfield 43, 3) := by decide +kernel
theorem dX11_judge_79 : decode cX11_judge 79 = .ok (.getfield 100, 3) := by decide +kernel
theorem dX11_judge_82 : decode cX11_judge 82 = .ok (.iload_n 3, 1) := by decide +kernel
theorem dX11_judge_83 : decode cX11_judge 83 = .ok (.aaload, 1) := by decide +kernel
theorem dX11_judge_84 : decode cX11_judge 84 = .ok (.getfield 127, 3) := by decide +kernel
theorem dX11_judge_87 : decode cX11_judge 87 = .ok (.i2l, 1) := by decide +kernel
theorem dX11_judge_88 : decode cX11_judge 88 = .ok (.lcmp, 1) := by decide +kernel
theorem dX11_judge_89 : decode cX11_judge 89 = .ok (.ifCond .eq 5, 3) := by decide +kernel
theorem dX11_judge_92 : decode cX11_judge 92 = .ok (.iload_n 3, 1) := by decide +kernel
theorem dX11_judge_93 : decode cX11_judge 93 = .ok (.ireturn, 1) := by decide +kernel
theorem dX11_judge_94 : decode cX11_judge 94 = .ok (.iinc 3 1, 3) := by decide +kernel
theorem dX11_judge_97 : decode cX11_judge 97 = .ok (.goto (-64), 3) := by decide +kernel
theorem dX11_judge_100 : decode cX11_judge 100 = .ok (.bipush (-5), 2) := by decide +kernel
theorem dX11_judge_102 : decode cX11_judge 102 = .ok (.ireturn, 1) := by decide +kernel
theorem dX11_image_0 : decode cX11_image 0 = .ok (.aload_n 0, 1) := by decide +kernel
theorem dX11_image_1 : decode cX11_image 1 = .ok (.getfield 47, 3) := by decide +kernel
theorem dX11_image_4 : decode cX11_image 4 = .ok (.aload_n 0, 1) := by decide +kernel
theorem dX11_image_5 : decode cX11_image 5 = .ok (.getfield 43, 3) := by decide +kernel
theorem dX11_image_8 : decode cX11_image 8 = .ok (.invokevirtual 270, 3) := by decide +kernel
theorem dX11_image_11 : decode cX11_image 11 = .ok (.aload_n 0, 1) := by decide +kernel
theorem dX11_image_12 : decode cX11_image 12 = .ok (.iconst 1, 1) := by decide +kernel
theorem dX11_image_13 : decode cX11_image 13 = .ok (.putfield 83, 3) := by decide +kernel
theorem dX11_image_16 : decode cX11_image 16 = .ok (.aload_n 0, 1) := by decide +kernel
theorem dX11_image_17 : decode cX11_image 17 = .ok (.getfield 43, 3) := by decide +kernel
theorem dX11_image_20 : decode cX11_image 20 = .ok (.getfield 97, 3) := by decide +kernel
theorem dX11_image_23 : decode cX11_image 23 = .ok (.ireturn, 1) := by decide +kernel
theorem dX11_undo_0 : decode cX11_undo 0 = .ok (.aload_n 0, 1) := by decide +kernel
theorem dX11_undo_1 : decode cX11_undo 1 = .ok (.getfield 83, 3) := by decide +kernel
theorem dX11_undo_4 : decode cX11_undo 4 = .ok (.ifCond .ne 6, 3) := by decide +kernel
theorem dX11_undo_7 : decode cX11_undo 7 = .ok (.bipush (-3), 2) := by decide +kernel
theorem dX11_undo_9 : decode cX11_undo 9 = .ok (.ireturn, 1) := by decide +kernel
theorem dX11_undo_10 : decode cX11_undo 10 = .ok (.aload_n 0, 1) := by decide +kernel
theorem dX11_undo_11 : decode cX11_undo 11 = .ok (.getfield 43, 3) := by decide +kernel
theorem dX11_undo_14 : decode cX11_undo 14 = .ok (.aload_n 0, 1) := by decide +kernel
theorem dX11_undo_15 : decode cX11_undo 15 = .ok (.getfield 47, 3) := by decide +kernel
theorem dX11_undo_18 : decode cX11_undo 18 = .ok (.invokevirtual 270, 3) := by decide +kernel
theorem dX11_undo_21 : decode cX11_undo 21 = .ok (.aload_n 0, 1) := by decide +kernel
theorem dX11_undo_22 : decode cX11_undo 22 = .ok (.getfield 43, 3) := by decide +kernel
theorem dX11_undo_25 : decode cX11_undo 25 = .ok (.getfield 97, 3) := by decide +kernel
theorem dX11_undo_28 : decode cX11_undo 28 = .ok (.ireturn, 1) := by decide +kernel
theorem dX11_act_0 : decode cX11_act 0 = .ok (.aload_n 0, 1) := by decide +kernel
theorem dX11_act_1 : decode cX11_act 1 = .ok (.getfield 63, 3) := by decide +kernel
theorem dX11_act_4 : decode cX11_act 4 = .ok (.invokevirtual 274, 3) := by decide +kernel
theorem dX11_act_7 : decode cX11_act 7 = .ok (.aload_n 0, 1) := by decide +kernel
theorem dX11_act_8 : decode cX11_act 8 = .ok (.getfield 43, 3) := by decide +kernel
theorem dX11_act_11 : decode cX11_act 11 = .ok (.iload_n 1, 1) := by decide +kernel
theorem dX11_act_12 : decode cX11_act 12 = .ok (.invokevirtual 110, 3) := by decide +kernel
theorem dX11_act_15 : decode cX11_act 15 = .ok (.astore 4, 2) := by decide +kernel
theorem dX11_act_17 : decode cX11_act 17 = .ok (.aload 4, 2) := by decide +kernel
theorem dX11_act_19 : decode cX11_act 19 = .ok (.ifnonnull 5, 3) := by decide +kernel
theorem dX11_act_22 : decode cX11_act 22 = .ok (.iconst 0, 1) := by decide +kernel
theorem dX11_act_23 : decode cX11_act 23 = .ok (.ireturn, 1) := by decide +kernel
theorem dX11_act_24 : decode cX11_act 24 = .ok (.iload_n 2, 1) := by decide +kernel
theorem dX11_act_25 : decode cX11_act 25 = .ok (.tableswitch 75 0 2 #[27, 43, 59], 27) := by decide +kernel
theorem dX11_act_52 : decode cX11_act 52 = .ok (.aload 4, 2) := by decide +kernel
theorem dX11_act_54 : decode cX11_act 54 = .ok (.getfield 114, 3) := by decide +kernel
theorem dX11_act_57 : decode cX11_act 57 = .ok (.aload 4, 2) := by decide +kernel
theorem dX11_act_59 : decode cX11_act 59 = .ok (.iload_n 3, 1) := by decide +kernel
theorem dX11_act_60 : decode cX11_act 60 = .ok (.aload_n 0, 1) := by decide +kernel
theorem dX11_act_61 : decode cX11_act 61 = .ok (.getfield 63, 3) := by decide +kernel
theorem dX11_act_64 : decode cX11_act 64 = .ok (.invokevirtual 277, 3) := by decide +kernel
theorem dX11_act_67 : decode cX11_act 67 = .ok (.ireturn, 1) := by decide +kernel
theorem dX11_act_68 : decode cX11_act 68 = .ok (.aload 4, 2) := by decide +kernel
theorem dX11_act_70 : decode cX11_act 70 = .ok (.getfield 114, 3) := by decide +kernel
theorem dX11_act_73 : decode cX11_act 73 = .ok (.aload 4, 2) := by decide +kernel
theorem dX11_act_75 : decode cX11_act 75 = .ok (.iload_n 3, 1) := by decide +kernel
theorem dX11_act_76 : decode cX11_act 76 = .ok (.aload_n 0, 1) := by decide +kernel
theorem dX11_act_77 : decode cX11_act 77 = .ok (.getfield 63, 3) := by decide +kernel
theorem dX11_act_80 : decode cX11_act 80 = .ok (.invokevirtual 281, 3) := by decide +kernel
theorem dX11_act_83 : decode cX11_act 83 = .ok (.ireturn, 1) := by decide +kernel
theorem dX11_act_84 : decode cX11_act 84 = .ok (.aload 4, 2) := by decide +kernel
theorem dX11_act_86 : decode cX11_act 86 = .ok (.getfield 114, 3) := by decide +kernel
theorem dX11_act_89 : decode cX11_act 89 = .ok (.aload 4, 2) := by decide +kernel
theorem dX11_act_91 : decode cX11_act 91 = .ok (.iload_n 3, 1) := by decide +kernel
theorem dX11_act_92 : decode cX11_act 92 = .ok (.aload_n 0, 1) := by decide +kernel
theorem dX11_act_93 : decode cX11_act 93 = .ok (.getfield 63, 3) := by decide +kernel
theorem dX11_act_96 : decode cX11_act 96 = .ok (.invokevirtual 284, 3) := by decide +kernel
theorem dX11_act_99 : decode cX11_act 99 = .ok (.ireturn, 1) := by decide +kernel
theorem dX11_act_100 : decode cX11_act 100 = .ok (.iconst 0, 1) := by decide +kernel
theorem dX11_act_101 : decode cX11_act 101 = .ok (.ireturn, 1) := by decide +kernel
theorem dX11_trace_0 : decode cX11_trace 0 = .ok (.iload_n 1, 1) := by decide +kernel
theorem dX11_trace_1 : decode cX11_trace 1 = .ok (.ifCond .lt 20, 3) := by decide +kernel
theorem dX11_trace_4 : decode cX11_trace 4 = .ok (.iload_n 1, 1) := by decide +kernel
theorem dX11_trace_5 : decode cX11_trace 5 = .ok (.bipush 20, 2) := by decide +kernel
theorem dX11_trace_7 : decode cX11_trace 7 = .ok (.if_icmp .ge 14, 3) := by decide +kernel
theorem dX11_trace_10 : decode cX11_trace 10 = .ok (.iload_n 1, 1) := by decide +kernel
theorem dX11_trace_11 : decode cX11_trace 11 = .ok (.aload_n 0, 1) := by decide +kernel
theorem dX11_trace_12 : decode cX11_trace 12 = .ok (.getfield 63, 3) := by decide +kernel
theorem dX11_trace_15 : decode cX11_trace 15 = .ok (.invokevirtual 287, 3) := by decide +kernel
theorem dX11_trace_18 : decode cX11_trace 18 = .ok (.if_icmp .lt 5, 3) := by decide +kernel
theorem dX11_trace_21 : decode cX11_trace 21 = .ok (.iconst (-1), 1) := by decide +kernel
theorem dX11_trace_22 : decode cX11_trace 22 = .ok (.ireturn, 1) := by decide +kernel
theorem dX11_trace_23 : decode cX11_trace 23 = .ok (.aload_n 0, 1) := by decide +kernel
theorem dX11_trace_24 : decode cX11_trace 24 = .ok (.getfield 63, 3) := by decide +kernel
theorem dX11_trace_27 : decode cX11_trace 27 = .ok (.iload_n 1, 1) := by decide +kernel
theorem dX11_trace_28 : decode cX11_trace 28 = .ok (.invokevirtual 289, 3) := by decide +kernel
theorem dX11_trace_31 : decode cX11_trace 31 = .ok (.checkcast 293, 3) := by decide +kernel
theorem dX11_trace_34 : decode cX11_trace 34 = .ok (.invokevirtual 295, 3) := by decide +kernel
theorem dX11_trace_37 : decode cX11_trace 37 = .ok (.ireturn, 1) := by decide +kernel
theorem dX11_taken_0 : decode cX11_taken 0 = .ok (.iload_n 2, 1) := by decide +kernel
theorem dX11_taken_1 : decode cX11_taken 1 = .ok (.iconst 0, 1) := by decide +kernel
theorem dX11_taken_2 : decode cX11_taken 2 = .ok (.bipush 6, 2) := by decide +kernel
theorem dX11_taken_4 : decode cX11_taken 4 = .ok (.invokestatic 93, 3) := by decide +kernel
theorem dX11_taken_7 : decode cX11_taken 7 = .ok (.ifCond .eq 6, 3) := by decide +kernel
theorem dX11_taken_10 : decode cX11_taken 10 = .ok (.bipush (-2), 2) := by decide +kernel
theorem dX11_taken_12 : decode cX11_taken 12 = .ok (.ireturn, 1) := by decide +kernel
theorem dX11_taken_13 : decode cX11_taken 13 = .ok (.aload_n 0, 1) := by decide +kernel
theorem dX11_taken_14 : decode cX11_taken 14 = .ok (.getfield 43, 3) := by decide +kernel
theorem dX11_taken_17 : decode cX11_taken 17 = .ok (.iload_n 1, 1) := by decide +kernel
theorem dX11_taken_18 : decode cX11_taken 18 = .ok (.invokevirtual 110, 3) := by decide +kernel
theorem dX11_taken_21 : decode cX11_taken 21 = .ok (.astore_n 3, 1) := by decide +kernel
theorem dX11_taken_22 : decode cX11_taken 22 = .ok (.aload_n 3, 1) := by decide +kernel
theorem dX11_taken_23 : decode cX11_taken 23 = .ok (.ifnonnull 6, 3) := by decide +kernel
theorem dX11_taken_26 : decode cX11_taken 26 = .ok (.bipush (-11), 2) := by decide +kernel
theorem dX11_taken_28 : decode cX11_taken 28 = .ok (.ireturn, 1) := by decide +kernel
theorem dX11_taken_29 : decode cX11_taken 29 = .ok (.aload_n 3, 1) := by decide +kernel
theorem dX11_taken_30 : decode cX11_taken 30 = .ok (.getfield 114, 3) := by decide +kernel
theorem dX11_taken_33 : decode cX11_taken 33 = .ok (.iload_n 2, 1) := by decide +kernel
theorem dX11_taken_34 : decode cX11_taken 34 = .ok (.invokestatic 298, 3) := by decide +kernel
theorem dX11_taken_37 : decode cX11_taken 37 = .ok (.ifCond .eq 13, 3) := by decide +kernel
theorem dX11_taken_40 : decode cX11_taken 40 = .ok (.aload_n 3, 1) := by decide +kernel
theorem dX11_taken_41 : decode cX11_taken 41 = .ok (.getfield 114, 3) := by decide +kernel
theorem dX11_taken_44 : decode cX11_taken 44 = .ok (.getfield 118, 3) := by decide +kernel
theorem dX11_taken_47 : decode cX11_taken 47 = .ok (.goto 5, 3) := by decide +kernel
theorem dX11_taken_50 : decode cX11_taken 50 = .ok (.bipush (-12), 2) := by decide +kernel
theorem dX11_taken_52 : decode cX11_taken 52 = .ok (.ireturn, 1) := by decide +kernel
theorem dX11_count_0 : decode cX11_count 0 = .ok (.iload_n 1, 1) := by decide +kernel
theorem dX11_count_1 : decode cX11_count 1 = .ok (.tableswitch 84 0 5 #[39, 47, 52, 60, 68, 76], 39) := by decide +kernel
theorem dX11_count_40 : decode cX11_count 40 = .ok (.aload_n 0, 1) := by decide +kernel
theorem dX11_count_41 : decode cX11_count 41 = .ok (.getfield 43, 3) := by decide +kernel
theorem dX11_count_44 : decode cX11_count 44 = .ok (.getfield 97, 3) := by decide +kernel
theorem dX11_count_47 : decode cX11_count 47 = .ok (.ireturn, 1) := by decide +kernel
theorem dX11_count_48 : decode cX11_count 48 = .ok (.aload_n 0, 1) := by decide +kernel
theorem dX11_count_49 : decode cX11_count 49 = .ok (.getfield 79, 3) := by decide +kernel
theorem dX11_count_52 : decode cX11_count 52 = .ok (.ireturn, 1) := by decide +kernel
theorem dX11_count_53 : decode cX11_count 53 = .ok (.aload_n 0, 1) := by decide +kernel
theorem dX11_count_54 : decode cX11_count 54 = .ok (.getfield 43, 3) := by decide +kernel
theorem dX11_count_57 : decode cX11_count 57 = .ok (.getfield 234, 3) := by decide +kernel
theorem dX11_count_60 : decode cX11_count 60 = .ok (.ireturn, 1) := by decide +kernel
theorem dX11_count_61 : decode cX11_count 61 = .ok (.aload_n 0, 1) := by decide +kernel
theorem dX11_count_62 : decode cX11_count 62 = .ok (.getfield 43, 3) := by decide +kernel
theorem dX11_count_65 : decode cX11_count 65 = .ok (.getfield 259, 3) := by decide +kernel
theorem dX11_count_68 : decode cX11_count 68 = .ok (.ireturn, 1) := by decide +kernel
theorem dX11_count_69 : decode cX11_count 69 = .ok (.aload_n 0, 1) := by decide +kernel
theorem dX11_count_70 : decode cX11_count 70 = .ok (.getfield 56, 3) := by decide +kernel
theorem dX11_count_73 : decode cX11_count 73 = .ok (.getfield 159, 3) := by decide +kernel
theorem dX11_count_76 : decode cX11_count 76 = .ok (.ireturn, 1) := by decide +kernel
theorem dX11_count_77 : decode cX11_count 77 = .ok (.aload_n 0, 1) := by decide +kernel
theorem dX11_count_78 : decode cX11_count 78 = .ok (.getfield 63, 3) := by decide +kernel
theorem dX11_count_81 : decode cX11_count 81 = .ok (.invokevirtual 287, 3) := by decide +kernel
theorem dX11_count_84 : decode cX11_count 84 = .ok (.ireturn, 1) := by decide +kernel
theorem dX11_count_85 : decode cX11_count 85 = .ok (.bipush (-2), 2) := by decide +kernel
theorem dX11_count_87 : decode cX11_count 87 = .ok (.ireturn, 1) := by decide +kernel
theorem dX11_tape_0 : decode cX11_tape 0 = .ok (.iload_n 1, 1) := by decide +kernel
theorem dX11_tape_1 : decode cX11_tape 1 = .ok (.invokestatic 266, 3) := by decide +kernel
theorem dX11_tape_4 : decode cX11_tape 4 = .ok (.ifCond .eq 5, 3) := by decide +kernel
theorem dX11_tape_7 : decode cX11_tape 7 = .ok (.iconst (-1), 1) := by decide +kernel
theorem dX11_tape_8 : decode cX11_tape 8 = .ok (.ireturn, 1) := by decide +kernel
theorem dX11_tape_9 : decode cX11_tape 9 = .ok (.iload_n 2, 1) := by decide +kernel
theorem dX11_tape_10 : decode cX11_tape 10 = .ok (.iconst (-1), 1) := by decide +kernel
theorem dX11_tape_11 : decode cX11_tape 11 = .ok (.iconst 4, 1) := by decide +kernel
theorem dX11_tape_12 : decode cX11_tape 12 = .ok (.invokestatic 93, 3) := by decide +kernel
theorem dX11_tape_15 : decode cX11_tape 15 = .ok (.ifCond .eq 6, 3) := by decide +kernel
theorem dX11_tape_18 : decode cX11_tape 18 = .ok (.bipush (-2), 2) := by decide +kernel
theorem dX11_tape_20 : decode cX11_tape 20 = .ok (.ireturn, 1) := by decide +kernel
theorem dX11_tape_21 : decode cX11_tape 21 = .ok (.iload_n 2, 1) := by decide +kernel
theorem dX11_tape_22 : decode cX11_tape 22 = .ok (.iconst (-1), 1) := by decide +kernel
theorem dX11_tape_23 : decode cX11_tape 23 = .ok (.if_icmp .ne 7, 3) := by decide +kernel
theorem dX11_tape_26 : decode cX11_tape 26 = .ok (.iconst 0, 1) := by decide +kernel
theorem dX11_tape_27 : decode cX11_tape 27 = .ok (.goto 4, 3) := by decide +kernel
theorem dX11_tape_30 : decode cX11_tape 30 = .ok (.iload_n 3, 1) := by decide +kernel
theorem dX11_tape_31 : decode cX11_tape 31 = .ok (.istore 4, 2) := by decide +kernel
theorem dX11_tape_33 : decode cX11_tape 33 = .ok (.iload 4, 2) := by decide +kernel
theorem dX11_tape_35 : decode cX11_tape 35 = .ok (.bipush 60, 2) := by decide +kernel
theorem dX11_tape_37 : decode cX11_tape 37 = .ok (.if_icmp .le 6, 3) := by decide +kernel
theorem dX11_tape_40 : decode cX11_tape 40 = .ok (.bipush (-2), 2) := by decide +kernel
theorem dX11_tape_42 : decode cX11_tape 42 = .ok (.ireturn, 1) := by decide +kernel
theorem dX11_tape_43 : decode cX11_tape 43 = .ok (.iload 4, 2) := by decide +kernel
theorem dX11_tape_45 : decode cX11_tape 45 = .ok (.ifCond .ge 6, 3) := by decide +kernel
theorem dX11_tape_48 : decode cX11_tape 48 = .ok (.bipush (-14), 2) := by decide +kernel
theorem dX11_tape_50 : decode cX11_tape 50 = .ok (.ireturn, 1) := by decide +kernel
theorem dX11_tape_51 : decode cX11_tape 51 = .ok (.aload_n 0, 1) := by decide +kernel
theorem dX11_tape_52 : decode cX11_tape 52 = .ok (.getfield 67, 3) := by decide +kernel
theorem dX11_tape_55 : decode cX11_tape 55 = .ok (.iload_n 1, 1) := by decide +kernel
theorem dX11_tape_56 : decode cX11_tape 56 = .ok (.iload_n 2, 1) := by decide +kernel
theorem dX11_tape_57 : decode cX11_tape 57 = .ok (.iastore, 1) := by decide +kernel
theorem dX11_tape_58 : decode cX11_tape 58 = .ok (.aload_n 0, 1) := by decide +kernel
theorem dX11_tape_59 : decode cX11_tape 59 = .ok (.getfield 71, 3) := by decide +kernel
theorem dX11_tape_62 : decode cX11_tape 62 = .ok (.iload_n 1, 1) := by decide +kernel
theorem dX11_tape_63 : decode cX11_tape 63 = .ok (.iload 4, 2) := by decide +kernel
theorem dX11_tape_65 : decode cX11_tape 65 = .ok (.iastore, 1) := by decide +kernel
theorem dX11_tape_66 : decode cX11_tape 66 = .ok (.aload_n 0, 1) := by decide +kernel
theorem dX11_tape_67 : decode cX11_tape 67 = .ok (.getfield 76, 3) := by decide +kernel
theorem dX11_tape_70 : decode cX11_tape 70 = .ok (.iload_n 1, 1) := by decide +kernel
theorem dX11_tape_71 : decode cX11_tape 71 = .ok (.aaload, 1) := by decide +kernel
theorem dX11_tape_72 : decode cX11_tape 72 = .ok (.lconst 0, 1) := by decide +kernel
theorem dX11_tape_73 : decode cX11_tape 73 = .ok (.invokestatic 302, 3) := by decide +kernel
theorem dX11_tape_76 : decode cX11_tape 76 = .ok (.iconst 1, 1) := by decide +kernel
theorem dX11_tape_77 : decode cX11_tape 77 = .ok (.ireturn, 1) := by decide +kernel
theorem dX11_item_0 : decode cX11_item 0 = .ok (.iload_n 1, 1) := by decide +kernel
theorem dX11_item_1 : decode cX11_item 1 = .ok (.invokestatic 266, 3) := by decide +kernel
theorem dX11_item_4 : decode cX11_item 4 = .ok (.ifCond .eq 5, 3) := by decide +kernel
theorem dX11_item_7 : decode cX11_item 7 = .ok (.iconst (-1), 1) := by decide +kernel
theorem dX11_item_8 : decode cX11_item 8 = .ok (.ireturn, 1) := by decide +kernel
theorem dX11_item_9 : decode cX11_item 9 = .ok (.aload_n 0, 1) := by decide +kernel
theorem dX11_item_10 : decode cX11_item 10 = .ok (.getfield 67, 3) := by decide +kernel
theorem dX11_item_13 : decode cX11_item 13 = .ok (.iload_n 1, 1) := by decide +kernel
theorem dX11_item_14 : decode cX11_item 14 = .ok (.iaload, 1) := by decide +kernel
theorem dX11_item_15 : decode cX11_item 15 = .ok (.iconst (-1), 1) := by decide +kernel
theorem dX11_item_16 : decode cX11_item 16 = .ok (.if_icmp .ne 6, 3) := by decide +kernel
theorem dX11_item_19 : decode cX11_item 19 = .ok (.bipush (-11), 2) := by decide +kernel
theorem dX11_item_21 : decode cX11_item 21 = .ok (.ireturn, 1) := by decide +kernel
theorem dX11_item_22 : decode cX11_item 22 = .ok (.iload_n 2, 1) := by decide +kernel
theorem dX11_item_23 : decode cX11_item 23 = .ok (.iconst 0, 1) := by decide +kernel
theorem dX11_item_24 : decode cX11_item 24 = .ok (.aload_n 0, 1) := by decide +kernel
theorem dX11_item_25 : decode cX11_item 25 = .ok (.getfield 71, 3) := by decide +kernel
theorem dX11_item_28 : decode cX11_item 28 = .ok (.iload_n 1, 1) := by decide +kernel
theorem dX11_item_29 : decode cX11_item 29 = .ok (.iaload, 1) := by decide +kernel
theorem dX11_item_30 : decode cX11_item 30 = .ok (.iconst 1, 1) := by decide +kernel
theorem dX11_item_31 : decode cX11_item 31 = .ok (.isub, 1) := by decide +kernel
theorem dX11_item_32 : decode cX11_item 32 = .ok (.invokestatic 93, 3) := by decide +kernel
theorem dX11_item_35 : decode cX11_item 35 = .ok (.ifCond .eq 6, 3) := by decide +kernel
theorem dX11_item_38 : decode cX11_item 38 = .ok (.bipush (-13), 2) := by decide +kernel
theorem dX11_item_40 : decode cX11_item 40 = .ok (.ireturn, 1) := by decide +kernel
theorem dX11_item_41 : decode cX11_item 41 = .ok (.aload_n 0, 1) := by decide +kernel
theorem dX11_item_42 : decode cX11_item 42 = .ok (.getfield 76, 3) := by decide +kernel
theorem dX11_item_45 : decode cX11_item 45 = .ok (.iload_n 1, 1) := by decide +kernel
theorem dX11_item_46 : decode cX11_item 46 = .ok (.aaload, 1) := by decide +kernel
theorem dX11_item_47 : decode cX11_item 47 = .ok (.iload_n 2, 1) := by decide +kernel
theorem dX11_item_48 : decode cX11_item 48 = .ok (.aload_n 0, 1) := by decide +kernel
theorem dX11_item_49 : decode cX11_item 49 = .ok (.getfield 67, 3) := by decide +kernel
theorem dX11_item_52 : decode cX11_item 52 = .ok (.iload_n 1, 1) := by decide +kernel
theorem dX11_item_53 : decode cX11_item 53 = .ok (.iaload, 1) := by decide +kernel
theorem dX11_item_54 : decode cX11_item 54 = .ok (.lload_n 3, 1) := by decide +kernel
theorem dX11_item_55 : decode cX11_item 55 = .ok (.invokestatic 305, 3) := by decide +kernel
theorem dX11_item_58 : decode cX11_item 58 = .ok (.lastore, 1) := by decide +kernel
theorem dX11_item_59 : decode cX11_item 59 = .ok (.iconst 1, 1) := by decide +kernel
theorem dX11_item_60 : decode cX11_item 60 = .ok (.ireturn, 1) := by decide +kernel
theorem dX11_read_0 : decode cX11_read 0 = .ok (.iload_n 1, 1) := by decide +kernel
theorem dX11_read_1 : decode cX11_read 1 = .ok (.invokestatic 266, 3) := by decide +kernel
theorem dX11_read_4 : decode cX11_read 4 = .ok (.ifCond .ne 19, 3) := by decide +kernel
theorem dX11_read_7 : decode cX11_read 7 = .ok (.iload_n 2, 1) := by decide +kernel
theorem dX11_read_8 : decode cX11_read 8 = .ok (.iconst 0, 1) := by decide +kernel
theorem dX11_read_9 : decode cX11_read 9 = .ok (.aload_n 0, 1) := by decide +kernel
theorem dX11_read_10 : decode cX11_read 10 = .ok (.getfield 71, 3) := by decide +kernel
theorem dX11_read_13 : decode cX11_read 13 = .ok (.iload_n 1, 1) := by decide +kernel
theorem dX11_read_14 : decode cX11_read 14 = .ok (.iaload, 1) := by decide +kernel
theorem dX11_read_15 : decode cX11_read 15 = .ok (.iconst 1, 1) := by decide +kernel
theorem dX11_read_16 : decode cX11_read 16 = .ok (.isub, 1) := by decide +kernel
theorem dX11_read_17 : decode cX11_read 17 = .ok (.invokestatic 93, 3) := by decide +kernel
theorem dX11_read_20 : decode cX11_read 20 = .ok (.ifCond .eq 7, 3) := by decide +kernel
theorem dX11_read_23 : decode cX11_read 23 = .ok (.ldc2_w 247, 3) := by decide +kernel
theorem dX11_read_26 : decode cX11_read 26 = .ok (.lreturn, 1) := by decide +kernel
theorem dX11_read_27 : decode cX11_read 27 = .ok (.aload_n 0, 1) := by decide +kernel
theorem dX11_read_28 : decode cX11_read 28 = .ok (.getfield 76, 3) := by decide +kernel
theorem dX11_read_31 : decode cX11_read 31 = .ok (.iload_n 1, 1) := by decide +kernel
theorem dX11_read_32 : decode cX11_read 32 = .ok (.aaload, 1) := by decide +kernel
theorem dX11_read_33 : decode cX11_read 33 = .ok (.iload_n 2, 1) := by decide +kernel
theorem dX11_read_34 : decode cX11_read 34 = .ok (.laload, 1) := by decide +kernel
theorem dX11_read_35 : decode cX11_read 35 = .ok (.lreturn, 1) := by decide +kernel
theorem dX11_shift_0 : decode cX11_shift 0 = .ok (.iload_n 1, 1) := by decide +kernel
theorem dX11_shift_1 : decode cX11_shift 1 = .ok (.invokestatic 266, 3) := by decide +kernel
theorem dX11_shift_4 : decode cX11_shift 4 = .ok (.ifCond .ne 10, 3) := by decide +kernel
theorem dX11_shift_7 : decode cX11_shift 7 = .ok (.iload_n 3, 1) := by decide +kernel
theorem dX11_shift_8 : decode cX11_shift 8 = .ok (.invokestatic 266, 3) := by decide +kernel
theorem dX11_shift_11 : decode cX11_shift 11 = .ok (.ifCond .eq 5, 3) := by decide +kernel
theorem dX11_shift_14 : decode cX11_shift 14 = .ok (.iconst (-1), 1) := by decide +kernel
theorem dX11_shift_15 : decode cX11_shift 15 = .ok (.ireturn, 1) := by decide +kernel
theorem dX11_shift_16 : decode cX11_shift 16 = .ok (.aload_n 0, 1) := by decide +kernel
theorem dX11_shift_17 : decode cX11_shift 17 = .ok (.getfield 67, 3) := by decide +kernel
theorem dX11_shift_20 : decode cX11_shift 20 = .ok (.iload_n 1, 1) := by decide +kernel
theorem dX11_shift_21 : decode cX11_shift 21 = .ok (.iaload, 1) := by decide +kernel
theorem dX11_shift_22 : decode cX11_shift 22 = .ok (.iconst (-1), 1) := by decide +kernel
theorem dX11_shift_23 : decode cX11_shift 23 = .ok (.if_icmp .eq 13, 3) := by decide +kernel
theorem dX11_shift_26 : decode cX11_shift 26 = .ok (.aload_n 0, 1) := by decide +kernel
theorem dX11_shift_27 : decode cX11_shift 27 = .ok (.getfield 67, 3) := by decide +kernel
theorem dX11_shift_30 : decode cX11_shift 30 = .ok (.iload_n 3, 1) := by decide +kernel
theorem dX11_shift_31 : decode cX11_shift 31 = .ok (.iaload, 1) := by decide +kernel
theorem dX11_shift_32 : decode cX11_shift 32 = .ok (.iconst (-1), 1) := by decide +kernel
theorem dX11_shift_33 : decode cX11_shift 33 = .ok (.if_icmp .ne 6, 3) := by decide +kernel
theorem dX11_shift_36 : decode cX11_shift 36 = .ok (.bipush (-11), 2) := by decide +kernel
theorem dX11_shift_38 : decode cX11_shift 38 = .ok (.ireturn, 1) := by decide +kernel
theorem dX11_shift_39 : decode cX11_shift 39 = .ok (.aload_n 0, 1) := by decide +kernel
theorem dX11_shift_40 : decode cX11_shift 40 = .ok (.getfield 67, 3) := by decide +kernel
theorem dX11_shift_43 : decode cX11_shift 43 = .ok (.iload_n 1, 1) := by decide +kernel
theorem dX11_shift_44 : decode cX11_shift 44 = .ok (.iaload, 1) := by decide +kernel
theorem dX11_shift_45 : decode cX11_shift 45 = .ok (.aload_n 0, 1) := by decide +kernel
theorem dX11_shift_46 : decode cX11_shift 46 = .ok (.getfield 67, 3) := by decide +kernel
theorem dX11_shift_49 : decode cX11_shift 49 = .ok (.iload_n 3, 1) := by decide +kernel
theorem dX11_shift_50 : decode cX11_shift 50 = .ok (.iaload, 1) := by decide +kernel
theorem dX11_shift_51 : decode cX11_shift 51 = .ok (.if_icmp .eq 6, 3) := by decide +kernel
theorem dX11_shift_54 : decode cX11_shift 54 = .ok (.bipush (-12), 2) := by decide +kernel
theorem dX11_shift_56 : decode cX11_shift 56 = .ok (.ireturn, 1) := by decide +kernel
theorem dX11_shift_57 : decode cX11_shift 57 = .ok (.iload 5, 2) := by decide +kernel
theorem dX11_shift_59 : decode cX11_shift 59 = .ok (.ifCond .lt 38, 3) := by decide +kernel
theorem dX11_shift_62 : decode cX11_shift 62 = .ok (.iload_n 2, 1) := by decide +kernel
theorem dX11_shift_63 : decode cX11_shift 63 = .ok (.iconst 0, 1) := by decide +kernel
theorem dX11_shift_64 : decode cX11_shift 64 = .ok (.aload_n 0, 1) := by decide +kernel
theorem dX11_shift_65 : decode cX11_shift 65 = .ok (.getfield 71, 3) := by decide +kernel
theorem dX11_shift_68 : decode cX11_shift 68 = .ok (.iload_n 1, 1) := by decide +kernel
theorem dX11_shift_69 : decode cX11_shift 69 = .ok (.iaload, 1) := by decide +kernel
theorem dX11_shift_70 : decode cX11_shift 70 = .ok (.iload 5, 2) := by decide +kernel
theorem dX11_shift_72 : decode cX11_shift 72 = .ok (.isub, 1) := by decide +kernel
theorem dX11_shift_73 : decode cX11_shift 73 = .ok (.invokestatic 93, 3) := by decide +kernel
theorem dX11_shift_76 : decode cX11_shift 76 = .ok (.ifCond .ne 21, 3) := by decide +kernel
theorem dX11_shift_79 : decode cX11_shift 79 = .ok (.iload 4, 2) := by decide +kernel
theorem dX11_shift_81 : decode cX11_shift 81 = .ok (.iconst 0, 1) := by decide +kernel
theorem dX11_shift_82 : decode cX11_shift 82 = .ok (.aload_n 0, 1) := by decide +kernel
theorem dX11_shift_83 : decode cX11_shift 83 = .ok (.getfield 71, 3) := by decide +kernel
theorem dX11_shift_86 : decode cX11_shift 86 = .ok (.iload_n 3, 1) := by decide +kernel
theorem dX11_shift_87 : decode cX11_shift 87 = .ok (.iaload, 1) := by decide +kernel
theorem dX11_shift_88 : decode cX11_shift 88 = .ok (.iload 5, 2) := by decide +kernel
theorem dX11_shift_90 : decode cX11_shift 90 = .ok (.isub, 1) := by decide +kernel
theorem dX11_shift_91 : decode cX11_shift 91 = .ok (.invokestatic 93, 3) := by decide +kernel
theorem dX11_shift_94 : decode cX11_shift 94 = .ok (.ifCond .eq 6, 3) := by decide +kernel
theorem dX11_shift_97 : decode cX11_shift 97 = .ok (.bipush (-13), 2) := by decide +kernel
theorem dX11_shift_99 : decode cX11_shift 99 = .ok (.ireturn, 1) := by decide +kernel
theorem dX11_shift_100 : decode cX11_shift 100 = .ok (.aload_n 0, 1) := by decide +kernel
theorem dX11_shift_101 : decode cX11_shift 101 = .ok (.getfield 76, 3) := by decide +kernel
theorem dX11_shift_104 : decode cX11_shift 104 = .ok (.iload_n 1, 1) := by decide +kernel
theorem dX11_shift_105 : decode cX11_shift 105 = .ok (.aaload, 1) := by decide +kernel
theorem dX11_shift_106 : decode cX11_shift 106 = .ok (.iload_n 2, 1) := by decide +kernel
theorem dX11_shift_107 : decode cX11_shift 107 = .ok (.aload_n 0, 1) := by decide +kernel
theorem dX11_shift_108 : decode cX11_shift 108 = .ok (.getfield 76, 3) := by decide +kernel
theorem dX11_shift_111 : decode cX11_shift 111 = .ok (.iload_n 3, 1) := by decide +kernel
theorem dX11_shift_112 : decode cX11_shift 112 = .ok (.aaload, 1) := by decide +kernel
theorem dX11_shift_113 : decode cX11_shift 113 = .ok (.iload 4, 2) := by decide +kernel
theorem dX11_shift_115 : decode cX11_shift 115 = .ok (.iload 5, 2) := by decide +kernel
theorem dX11_shift_117 : decode cX11_shift 117 = .ok (.invokestatic 309, 3) := by decide +kernel
theorem dX11_shift_120 : decode cX11_shift 120 = .ok (.iload 5, 2) := by decide +kernel
theorem dX11_shift_122 : decode cX11_shift 122 = .ok (.ireturn, 1) := by decide +kernel
theorem dX11_isOutside_0 : decode cX11_isOutside 0 = .ok (.iload_n 0, 1) := by decide +kernel
theorem dX11_isOutside_1 : decode cX11_isOutside 1 = .ok (.iload_n 1, 1) := by decide +kernel
theorem dX11_isOutside_2 : decode cX11_isOutside 2 = .ok (.if_icmp .lt 8, 3) := by decide +kernel
theorem dX11_isOutside_5 : decode cX11_isOutside 5 = .ok (.iload_n 0, 1) := by decide +kernel
theorem dX11_isOutside_6 : decode cX11_isOutside 6 = .ok (.iload_n 2, 1) := by decide +kernel
theorem dX11_isOutside_7 : decode cX11_isOutside 7 = .ok (.if_icmp .le 7, 3) := by decide +kernel
theorem dX11_isOutside_10 : decode cX11_isOutside 10 = .ok (.iconst 1, 1) := by decide +kernel
theorem dX11_isOutside_11 : decode cX11_isOutside 11 = .ok (.goto 4, 3) := by decide +kernel
theorem dX11_isOutside_14 : decode cX11_isOutside 14 = .ok (.iconst 0, 1) := by decide +kernel
theorem dX11_isOutside_15 : decode cX11_isOutside 15 = .ok (.ireturn, 1) := by decide +kernel
theorem dX11_isNoTape_0 : decode cX11_isNoTape 0 = .ok (.iload_n 0, 1) := by decide +kernel
theorem dX11_isNoTape_1 : decode cX11_isNoTape 1 = .ok (.ifCond .lt 9, 3) := by decide +kernel
theorem dX11_isNoTape_4 : decode cX11_isNoTape 4 = .ok (.iload_n 0, 1) := by decide +kernel
theorem dX11_isNoTape_5 : decode cX11_isNoTape 5 = .ok (.bipush 6, 2) := by decide +kernel
theorem dX11_isNoTape_7 : decode cX11_isNoTape 7 = .ok (.if_icmp .lt 7, 3) := by decide +kernel
theorem dX11_isNoTape_10 : decode cX11_isNoTape 10 = .ok (.iconst 1, 1) := by decide +kernel
theorem dX11_isNoTape_11 : decode cX11_isNoTape 11 = .ok (.goto 4, 3) := by decide +kernel
theorem dX11_isNoTape_14 : decode cX11_isNoTape 14 = .ok (.iconst 0, 1) := by decide +kernel
theorem dX11_isNoTape_15 : decode cX11_isNoTape 15 = .ok (.ireturn, 1) := by decide +kernel
theorem dX11_asItem_0 : decode cX11_asItem 0 = .ok (.iload_n 0, 1) := by decide +kernel
theorem dX11_asItem_1 : decode cX11_asItem 1 = .ok (.tableswitch 61 0 4 #[35, 40, 45, 61, 49], 35) := by decide +kernel
theorem dX11_asItem_36 : decode cX11_asItem 36 = .ok (.lload_n 1, 1) := by decide +kernel
theorem dX11_asItem_37 : decode cX11_asItem 37 = .ok (.l2i, 1) := by decide +kernel
theorem dX11_asItem_38 : decode cX11_asItem 38 = .ok (.i2b, 1) := by decide +kernel
theorem dX11_asItem_39 : decode cX11_asItem 39 = .ok (.i2l, 1) := by decide +kernel
theorem dX11_asItem_40 : decode cX11_asItem 40 = .ok (.lreturn, 1) := by decide +kernel
theorem dX11_asItem_41 : decode cX11_asItem 41 = .ok (.lload_n 1, 1) := by decide +kernel
theorem dX11_asItem_42 : decode cX11_asItem 42 = .ok (.l2i, 1) := by decide +kernel
theorem dX11_asItem_43 : decode cX11_asItem 43 = .ok (.i2s, 1) := by decide +kernel
theorem dX11_asItem_44 : decode cX11_asItem 44 = .ok (.i2l, 1) := by decide +kernel
theorem dX11_asItem_45 : decode cX11_asItem 45 = .ok (.lreturn, 1) := by decide +kernel
theorem dX11_asItem_46 : decode cX11_asItem 46 = .ok (.lload_n 1, 1) := by decide +kernel
theorem dX11_asItem_47 : decode cX11_asItem 47 = .ok (.l2i, 1) := by decide +kernel
theorem dX11_asItem_48 : decode cX11_asItem 48 = .ok (.i2l, 1) := by decide +kernel
theorem dX11_asItem_49 : decode cX11_asItem 49 = .ok (.lreturn, 1) := by decide +kernel
theorem dX11_asItem_50 : decode cX11_asItem 50 = .ok (.lload_n 1, 1) := by decide +kernel
theorem dX11_asItem_51 : decode cX11_asItem 51 = .ok (.lconst 0, 1) := by decide +kernel
theorem dX11_asItem_52 : decode cX11_asItem 52 = .ok (.lcmp, 1) := by decide +kernel
theorem dX11_asItem_53 : decode cX11_asItem 53 = .ok (.ifCond .eq 7, 3) := by decide +kernel
theorem dX11_asItem_56 : decode cX11_asItem 56 = .ok (.lconst 1, 1) := by decide +kernel
theorem dX11_asItem_57 : decode cX11_asItem 57 = .ok (.goto 4, 3) := by decide +kernel
theorem dX11_asItem_60 : decode cX11_asItem 60 = .ok (.lconst 0, 1) := by decide +kernel
theorem dX11_asItem_61 : decode cX11_asItem 61 = .ok (.lreturn, 1) := by decide +kernel
theorem dX11_asItem_62 : decode cX11_asItem 62 = .ok (.lload_n 1, 1) := by decide +kernel
theorem dX11_asItem_63 : decode cX11_asItem 63 = .ok (.lreturn, 1) := by decide +kernel
theorem dX11_isOfKind_0 : decode cX11_isOfKind 0 = .ok (.iload_n 1, 1) := by decide +kernel
theorem dX11_isOfKind_1 : decode cX11_isOfKind 1 = .ok (.tableswitch 66 0 5 #[39, 41, 46, 51, 56, 61], 39) := by decide +kernel
theorem dX11_isOfKind_40 : decode cX11_isOfKind 40 = .ok (.iconst 1, 1) := by decide +kernel
theorem dX11_isOfKind_41 : decode cX11_isOfKind 41 = .ok (.ireturn, 1) := by decide +kernel
theorem dX11_isOfKind_42 : decode cX11_isOfKind 42 = .ok (.aload_n 0, 1) := by decide +kernel
theorem dX11_isOfKind_43 : decode cX11_isOfKind 43 = .ok (.instanceof 14, 3) := by decide +kernel
theorem dX11_isOfKind_46 : decode cX11_isOfKind 46 = .ok (.ireturn, 1) := by decide +kernel
theorem dX11_isOfKind_47 : decode cX11_isOfKind 47 = .ok (.aload_n 0, 1) := by decide +kernel
theorem dX11_isOfKind_48 : decode cX11_isOfKind 48 = .ok (.instanceof 17, 3) := by decide +kernel
theorem dX11_isOfKind_51 : decode cX11_isOfKind 51 = .ok (.ireturn, 1) := by decide +kernel
theorem dX11_isOfKind_52 : decode cX11_isOfKind 52 = .ok (.aload_n 0, 1) := by decide +kernel
theorem dX11_isOfKind_53 : decode cX11_isOfKind 53 = .ok (.instanceof 20, 3) := by decide +kernel
theorem dX11_isOfKind_56 : decode cX11_isOfKind 56 = .ok (.ireturn, 1) := by decide +kernel
theorem dX11_isOfKind_57 : decode cX11_isOfKind 57 = .ok (.aload_n 0, 1) := by decide +kernel
theorem dX11_isOfKind_58 : decode cX11_isOfKind 58 = .ok (.instanceof 23, 3) := by decide +kernel
theorem dX11_isOfKind_61 : decode cX11_isOfKind 61 = .ok (.ireturn, 1) := by decide +kernel
theorem dX11_isOfKind_62 : decode cX11_isOfKind 62 = .ok (.aload_n 0, 1) := by decide +kernel
theorem dX11_isOfKind_63 : decode cX11_isOfKind 63 = .ok (.instanceof 26, 3) := by decide +kernel
theorem dX11_isOfKind_66 : decode cX11_isOfKind 66 = .ok (.ireturn, 1) := by decide +kernel
theorem dX11_isOfKind_67 : decode cX11_isOfKind 67 = .ok (.aload_n 0, 1) := by decide +kernel
theorem dX11_isOfKind_68 : decode cX11_isOfKind 68 = .ok (.instanceof 29, 3) := by decide +kernel
theorem dX11_isOfKind_71 : decode cX11_isOfKind 71 = .ok (.ireturn, 1) := by decide +kernel
theorem dX11_shopToTry_0 : decode cX11_shopToTry 0 = .ok (.aload_n 0, 1) := by decide +kernel
theorem dX11_shopToTry_1 : decode cX11_shopToTry 1 = .ok (.getfield 50, 3) := by decide +kernel
theorem dX11_shopToTry_4 : decode cX11_shopToTry 4 = .ok (.aload_n 0, 1) := by decide +kernel
theorem dX11_shopToTry_5 : decode cX11_shopToTry 5 = .ok (.getfield 43, 3) := by decide +kernel
theorem dX11_shopToTry_8 : decode cX11_shopToTry 8 = .ok (.invokevirtual 270, 3) := by decide +kernel
theorem dX11_shopToTry_11 : decode cX11_shopToTry 11 = .ok (.aload_n 0, 1) := by decide +kernel
theorem dX11_shopToTry_12 : decode cX11_shopToTry 12 = .ok (.getfield 50, 3) := by decide +kernel
theorem dX11_shopToTry_15 : decode cX11_shopToTry 15 = .ok (.areturn, 1) := by decide +kernel
theorem dX11_shopBehind_0 : decode cX11_shopBehind 0 = .ok (.aload_n 0, 1) := by decide +kernel
theorem dX11_shopBehind_1 : decode cX11_shopBehind 1 = .ok (.invokevirtual 201, 3) := by decide +kernel
theorem dX11_shopBehind_4 : decode cX11_shopBehind 4 = .ok (.astore_n 2, 1) := by decide +kernel
theorem dX11_shopBehind_5 : decode cX11_shopBehind 5 = .ok (.iconst 0, 1) := by decide +kernel
theorem dX11_shopBehind_6 : decode cX11_shopBehind 6 = .ok (.istore_n 3, 1) := by decide +kernel
theorem dX11_shopBehind_7 : decode cX11_shopBehind 7 = .ok (.iload_n 3, 1) := by decide +kernel
theorem dX11_shopBehind_8 : decode cX11_shopBehind 8 = .ok (.iload_n 1, 1) := by decide +kernel
theorem dX11_shopBehind_9 : decode cX11_shopBehind 9 = .ok (.if_icmp .ge 14, 3) := by decide +kernel
theorem dX11_shopBehind_12 : decode cX11_shopBehind 12 = .ok (.aload_n 2, 1) := by decide +kernel
theorem dX11_shopBehind_13 : decode cX11_shopBehind 13 = .ok (.invokevirtual 198, 3) := by decide +kernel
theorem dX11_shopBehind_16 : decode cX11_shopBehind 16 = .ok (.pop, 1) := by decide +kernel
theorem dX11_shopBehind_17 : decode cX11_shopBehind 17 = .ok (.iinc 3 1, 3) := by decide +kernel
theorem dX11_shopBehind_20 : decode cX11_shopBehind 20 = .ok (.goto (-13), 3) := by decide +kernel
theorem dX11_shopBehind_23 : decode cX11_shopBehind 23 = .ok (.aload_n 2, 1) := by decide +kernel
theorem dX11_shopBehind_24 : decode cX11_shopBehind 24 = .ok (.areturn, 1) := by decide +kernel
theorem dX11_paidWith_0 : decode cX11_paidWith 0 = .ok (.aload_n 0, 1) := by decide +kernel
theorem dX11_paidWith_1 : decode cX11_paidWith 1 = .ok (.invokevirtual 201, 3) := by decide +kernel
theorem dX11_paidWith_4 : decode cX11_paidWith 4 = .ok (.astore_n 3, 1) := by decide +kernel
theorem dX11_paidWith_5 : decode cX11_paidWith 5 = .ok (.aload_n 3, 1) := by decide +kernel
theorem dX11_paidWith_6 : decode cX11_paidWith 6 = .ok (.iload_n 1, 1) := by decide +kernel
theorem dX11_paidWith_7 : decode cX11_paidWith 7 = .ok (.putfield 177, 3) := by decide +kernel
theorem dX11_paidWith_10 : decode cX11_paidWith 10 = .ok (.iconst 0, 1) := by decide +kernel
theorem dX11_paidWith_11 : decode cX11_paidWith 11 = .ok (.istore 4, 2) := by decide +kernel
theorem dX11_paidWith_13 : decode cX11_paidWith 13 = .ok (.iconst 0, 1) := by decide +kernel
theorem dX11_paidWith_14 : decode cX11_paidWith 14 = .ok (.istore 5, 2) := by decide +kernel
theorem dX11_paidWith_16 : decode cX11_paidWith 16 = .ok (.iload 5, 2) := by decide +kernel
theorem dX11_paidWith_18 : decode cX11_paidWith 18 = .ok (.iload_n 2, 1) := by decide +kernel
theorem dX11_paidWith_19 : decode cX11_paidWith 19 = .ok (.if_icmp .ge 18, 3) := by decide +kernel
theorem dX11_paidWith_22 : decode cX11_paidWith 22 = .ok (.iload 4, 2) := by decide +kernel
theorem dX11_paidWith_24 : decode cX11_paidWith 24 = .ok (.aload_n 3, 1) := by decide +kernel
theorem dX11_paidWith_25 : decode cX11_paidWith 25 = .ok (.invokevirtual 198, 3) := by decide +kernel
theorem dX11_paidWith_28 : decode cX11_paidWith 28 = .ok (.iadd, 1) := by decide +kernel
theorem dX11_paidWith_29 : decode cX11_paidWith 29 = .ok (.istore 4, 2) := by decide +kernel
theorem dX11_paidWith_31 : decode cX11_paidWith 31 = .ok (.iinc 5 1, 3) := by decide +kernel
theorem dX11_paidWith_34 : decode cX11_paidWith 34 = .ok (.goto (-18), 3) := by decide +kernel
theorem dX11_paidWith_37 : decode cX11_paidWith 37 = .ok (.iload 4, 2) := by decide +kernel
theorem dX11_paidWith_39 : decode cX11_paidWith 39 = .ok (.aload_n 3, 1) := by decide +kernel
theorem dX11_paidWith_40 : decode cX11_paidWith 40 = .ok (.getfield 173, 3) := by decide +kernel
theorem dX11_paidWith_43 : decode cX11_paidWith 43 = .ok (.getfield 180, 3) := by decide +kernel
theorem dX11_paidWith_46 : decode cX11_paidWith 46 = .ok (.imul, 1) := by decide +kernel
theorem dX11_paidWith_47 : decode cX11_paidWith 47 = .ok (.ireturn, 1) := by decide +kernel
theorem dX11_isSeenWith_0 : decode cX11_isSeenWith 0 = .ok (.aload_n 0, 1) := by decide +kernel
theorem dX11_isSeenWith_1 : decode cX11_isSeenWith 1 = .ok (.invokevirtual 201, 3) := by decide +kernel
theorem dX11_isSeenWith_4 : decode cX11_isSeenWith 4 = .ok (.astore_n 3, 1) := by decide +kernel
theorem dX11_isSeenWith_5 : decode cX11_isSeenWith 5 = .ok (.aload_n 3, 1) := by decide +kernel
theorem dX11_isSeenWith_6 : decode cX11_isSeenWith 6 = .ok (.iload_n 1, 1) := by decide +kernel
theorem dX11_isSeenWith_7 : decode cX11_isSeenWith 7 = .ok (.putfield 177, 3) := by decide +kernel
theorem dX11_isSeenWith_10 : decode cX11_isSeenWith 10 = .ok (.aload_n 3, 1) := by decide +kernel
theorem dX11_isSeenWith_11 : decode cX11_isSeenWith 11 = .ok (.iload_n 2, 1) := by decide +kernel
theorem dX11_isSeenWith_12 : decode cX11_isSeenWith 12 = .ok (.invokevirtual 110, 3) := by decide +kernel
theorem dX11_isSeenWith_15 : decode cX11_isSeenWith 15 = .ok (.astore 4, 2) := by decide +kernel
theorem dX11_isSeenWith_17 : decode cX11_isSeenWith 17 = .ok (.aload 4, 2) := by decide +kernel
theorem dX11_isSeenWith_19 : decode cX11_isSeenWith 19 = .ok (.ifnull 16, 3) := by decide +kernel
theorem dX11_isSeenWith_22 : decode cX11_isSeenWith 22 = .ok (.aload_n 3, 1) := by decide +kernel
theorem dX11_isSeenWith_23 : decode cX11_isSeenWith 23 = .ok (.aload 4, 2) := by decide +kernel
theorem dX11_isSeenWith_25 : decode cX11_isSeenWith 25 = .ok (.invokevirtual 240, 3) := by decide +kernel
theorem dX11_isSeenWith_28 : decode cX11_isSeenWith 28 = .ok (.ifCond .eq 7, 3) := by decide +kernel
theorem dX11_isSeenWith_31 : decode cX11_isSeenWith 31 = .ok (.iconst 1, 1) := by decide +kernel
theorem dX11_isSeenWith_32 : decode cX11_isSeenWith 32 = .ok (.goto 4, 3) := by decide +kernel
theorem dX11_isSeenWith_35 : decode cX11_isSeenWith 35 = .ok (.iconst 0, 1) := by decide +kernel
theorem dX11_isSeenWith_36 : decode cX11_isSeenWith 36 = .ok (.ireturn, 1) := by decide +kernel
theorem dX11_partInLowestTerms_0 : decode cX11_partInLowestTerms 0 = .ok (.lload_n 0, 1) := by decide +kernel
theorem dX11_partInLowestTerms_1 : decode cX11_partInLowestTerms 1 = .ok (.lload_n 2, 1) := by decide +kernel
theorem dX11_partInLowestTerms_2 : decode cX11_partInLowestTerms 2 = .ok (.invokestatic 315, 3) := by decide +kernel
theorem dX11_partInLowestTerms_5 : decode cX11_partInLowestTerms 5 = .ok (.lstore 5, 2) := by decide +kernel
theorem dX11_partInLowestTerms_7 : decode cX11_partInLowestTerms 7 = .ok (.lload_n 2, 1) := by decide +kernel
theorem dX11_partInLowestTerms_8 : decode cX11_partInLowestTerms 8 = .ok (.lconst 0, 1) := by decide +kernel
theorem dX11_partInLowestTerms_9 : decode cX11_partInLowestTerms 9 = .ok (.lcmp, 1) := by decide +kernel
theorem dX11_partInLowestTerms_10 : decode cX11_partInLowestTerms 10 = .ok (.ifCond .eq 10, 3) := by decide +kernel
theorem dX11_partInLowestTerms_13 : decode cX11_partInLowestTerms 13 = .ok (.lload 5, 2) := by decide +kernel
theorem dX11_partInLowestTerms_15 : decode cX11_partInLowestTerms 15 = .ok (.lconst 0, 1) := by decide +kernel
theorem dX11_partInLowestTerms_16 : decode cX11_partInLowestTerms 16 = .ok (.lcmp, 1) := by decide +kernel
theorem dX11_partInLowestTerms_17 : decode cX11_partInLowestTerms 17 = .ok (.ifCond .ne 7, 3) := by decide +kernel
theorem dX11_partInLowestTerms_20 : decode cX11_partInLowestTerms 20 = .ok (.ldc2_w 247, 3) := by decide +kernel
theorem dX11_partInLowestTerms_23 : decode cX11_partInLowestTerms 23 = .ok (.lreturn, 1) := by decide +kernel
theorem dX11_partInLowestTerms_24 : decode cX11_partInLowestTerms 24 = .ok (.iload 4, 2) := by decide +kernel
theorem dX11_partInLowestTerms_26 : decode cX11_partInLowestTerms 26 = .ok (.ifCond .ne 7, 3) := by decide +kernel
theorem dX11_partInLowestTerms_29 : decode cX11_partInLowestTerms 29 = .ok (.lload_n 0, 1) := by decide +kernel
theorem dX11_partInLowestTerms_30 : decode cX11_partInLowestTerms 30 = .ok (.goto 4, 3) := by decide +kernel
theorem dX11_partInLowestTerms_33 : decode cX11_partInLowestTerms 33 = .ok (.lload_n 2, 1) := by decide +kernel
theorem dX11_partInLowestTerms_34 : decode cX11_partInLowestTerms 34 = .ok (.lload 5, 2) := by decide +kernel
theorem dX11_partInLowestTerms_36 : decode cX11_partInLowestTerms 36 = .ok (.ldiv, 1) := by decide +kernel
theorem dX11_partInLowestTerms_37 : decode cX11_partInLowestTerms 37 = .ok (.lreturn, 1) := by decide +kernel
theorem dX11_commonDivisor_0 : decode cX11_commonDivisor 0 = .ok (.lload_n 0, 1) := by decide +kernel
theorem dX11_commonDivisor_1 : decode cX11_commonDivisor 1 = .ok (.lstore 4, 2) := by decide +kernel
theorem dX11_commonDivisor_3 : decode cX11_commonDivisor 3 = .ok (.lload_n 2, 1) := by decide +kernel
theorem dX11_commonDivisor_4 : decode cX11_commonDivisor 4 = .ok (.lstore 6, 2) := by decide +kernel
theorem dX11_commonDivisor_6 : decode cX11_commonDivisor 6 = .ok (.iconst 0, 1) := by decide +kernel
theorem dX11_commonDivisor_7 : decode cX11_commonDivisor 7 = .ok (.istore 8, 2) := by decide +kernel
theorem dX11_commonDivisor_9 : decode cX11_commonDivisor 9 = .ok (.iload 8, 2) := by decide +kernel
theorem dX11_commonDivisor_11 : decode cX11_commonDivisor 11 = .ok (.bipush 100, 2) := by decide +kernel
theorem dX11_commonDivisor_13 : decode cX11_commonDivisor 13 = .ok (.if_icmp .ge 31, 3) := by decide +kernel
theorem dX11_commonDivisor_16 : decode cX11_commonDivisor 16 = .ok (.lload 6, 2) := by decide +kernel
theorem dX11_commonDivisor_18 : decode cX11_commonDivisor 18 = .ok (.lconst 0, 1) := by decide +kernel
theorem dX11_commonDivisor_19 : decode cX11_commonDivisor 19 = .ok (.lcmp, 1) := by decide +kernel
theorem dX11_commonDivisor_20 : decode cX11_commonDivisor 20 = .ok (.ifCond .eq 24, 3) := by decide +kernel
theorem dX11_commonDivisor_23 : decode cX11_commonDivisor 23 = .ok (.lload 4, 2) := by decide +kernel
theorem dX11_commonDivisor_25 : decode cX11_commonDivisor 25 = .ok (.lload 6, 2) := by decide +kernel
theorem dX11_commonDivisor_27 : decode cX11_commonDivisor 27 = .ok (.lrem, 1) := by decide +kernel
theorem dX11_commonDivisor_28 : decode cX11_commonDivisor 28 = .ok (.lstore 9, 2) := by decide +kernel
theorem dX11_commonDivisor_30 : decode cX11_commonDivisor 30 = .ok (.lload 6, 2) := by decide +kernel
theorem dX11_commonDivisor_32 : decode cX11_commonDivisor 32 = .ok (.lstore 4, 2) := by decide +kernel
theorem dX11_commonDivisor_34 : decode cX11_commonDivisor 34 = .ok (.lload 9, 2) := by decide +kernel
theorem dX11_commonDivisor_36 : decode cX11_commonDivisor 36 = .ok (.lstore 6, 2) := by decide +kernel
theorem dX11_commonDivisor_38 : decode cX11_commonDivisor 38 = .ok (.iinc 8 1, 3) := by decide +kernel
theorem dX11_commonDivisor_41 : decode cX11_commonDivisor 41 = .ok (.goto (-32), 3) := by decide +kernel
theorem dX11_commonDivisor_44 : decode cX11_commonDivisor 44 = .ok (.lload 4, 2) := by decide +kernel
theorem dX11_commonDivisor_46 : decode cX11_commonDivisor 46 = .ok (.lreturn, 1) := by decide +kernel
