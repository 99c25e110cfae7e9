theorem dX4_thrown_0 : decode cX4_thrown 0 = .ok (.aload_n 0, 1) := by decide +kernel
theorem dX4_thrown_1 : decode cX4_thrown 1 = .ok (.getfield 1, 3) := by decide +kernel
theorem dX4_thrown_4 : decode cX4_thrown 4 = .ok (.ireturn, 1) := by decide +kernel
theorem dX4_init_0 : decode cX4_init 0 = .ok (.aload_n 0, 1) := by decide +kernel
theorem dX4_init_1 : decode cX4_init 1 = .ok (.invokespecial 7, 3) := by decide +kernel
theorem dX4_init_4 : decode cX4_init 4 = .ok (.aload_n 0, 1) := by decide +kernel
theorem dX4_init_5 : decode cX4_init 5 = .ok (.iconst 2, 1) := by decide +kernel
theorem dX4_init_6 : decode cX4_init 6 = .ok (.putfield 13, 3) := by decide +kernel
theorem dX4_init_9 : decode cX4_init 9 = .ok (.aload_n 0, 1) := by decide +kernel
theorem dX4_init_10 : decode cX4_init 10 = .ok (.sipush 320, 3) := by decide +kernel
theorem dX4_init_13 : decode cX4_init 13 = .ok (.newarray .int, 2) := by decide +kernel
theorem dX4_init_15 : decode cX4_init 15 = .ok (.putfield 16, 3) := by decide +kernel
theorem dX4_init_18 : decode cX4_init 18 = .ok (.aload_n 0, 1) := by decide +kernel
theorem dX4_init_19 : decode cX4_init 19 = .ok (.sipush 4032, 3) := by decide +kernel
theorem dX4_init_22 : decode cX4_init 22 = .ok (.newarray .int, 2) := by decide +kernel
theorem dX4_init_24 : decode cX4_init 24 = .ok (.putfield 20, 3) := by decide +kernel
theorem dX4_init_27 : decode cX4_init 27 = .ok (.aload_n 0, 1) := by decide +kernel
theorem dX4_init_28 : decode cX4_init 28 = .ok (.sipush 4032, 3) := by decide +kernel
theorem dX4_init_31 : decode cX4_init 31 = .ok (.newarray .int, 2) := by decide +kernel
theorem dX4_init_33 : decode cX4_init 33 = .ok (.putfield 23, 3) := by decide +kernel
theorem dX4_init_36 : decode cX4_init 36 = .ok (.aload_n 0, 1) := by decide +kernel
theorem dX4_init_37 : decode cX4_init 37 = .ok (.sipush 4032, 3) := by decide +kernel
theorem dX4_init_40 : decode cX4_init 40 = .ok (.newarray .int, 2) := by decide +kernel
theorem dX4_init_42 : decode cX4_init 42 = .ok (.putfield 26, 3) := by decide +kernel
theorem dX4_init_45 : decode cX4_init 45 = .ok (.aload_n 0, 1) := by decide +kernel
theorem dX4_init_46 : decode cX4_init 46 = .ok (.sipush 4032, 3) := by decide +kernel
theorem dX4_init_49 : decode cX4_init 49 = .ok (.newarray .int, 2) := by decide +kernel
theorem dX4_init_51 : decode cX4_init 51 = .ok (.putfield 29, 3) := by decide +kernel
theorem dX4_init_54 : decode cX4_init 54 = .ok (.aload_n 0, 1) := by decide +kernel
theorem dX4_init_55 : decode cX4_init 55 = .ok (.sipush 4032, 3) := by decide +kernel
theorem dX4_init_58 : decode cX4_init 58 = .ok (.newarray .int, 2) := by decide +kernel
theorem dX4_init_60 : decode cX4_init 60 = .ok (.putfield 32, 3) := by decide +kernel
theorem dX4_init_63 : decode cX4_init 63 = .ok (.aload_n 0, 1) := by decide +kernel
theorem dX4_init_64 : decode cX4_init 64 = .ok (.sipush 4032, 3) := by decide +kernel
theorem dX4_init_67 : decode cX4_init 67 = .ok (.newarray .int, 2) := by decide +kernel
theorem dX4_init_69 : decode cX4_init 69 = .ok (.putfield 35, 3) := by decide +kernel
theorem dX4_init_72 : decode cX4_init 72 = .ok (.aload_n 0, 1) := by decide +kernel
theorem dX4_init_73 : decode cX4_init 73 = .ok (.sipush 4032, 3) := by decide +kernel
theorem dX4_init_76 : decode cX4_init 76 = .ok (.newarray .boolean, 2) := by decide +kernel
theorem dX4_init_78 : decode cX4_init 78 = .ok (.putfield 38, 3) := by decide +kernel
theorem dX4_init_81 : decode cX4_init 81 = .ok (.return_, 1) := by decide +kernel
theorem dX4_isClass_0 : decode cX4_isClass 0 = .ok (.iload_n 1, 1) := by decide +kernel
theorem dX4_isClass_1 : decode cX4_isClass 1 = .ok (.ifCond .lt 15, 3) := by decide +kernel
theorem dX4_isClass_4 : decode cX4_isClass 4 = .ok (.iload_n 1, 1) := by decide +kernel
theorem dX4_isClass_5 : decode cX4_isClass 5 = .ok (.aload_n 0, 1) := by decide +kernel
theorem dX4_isClass_6 : decode cX4_isClass 6 = .ok (.getfield 13, 3) := by decide +kernel
theorem dX4_isClass_9 : decode cX4_isClass 9 = .ok (.if_icmp .ge 7, 3) := by decide +kernel
theorem dX4_isClass_12 : decode cX4_isClass 12 = .ok (.iconst 1, 1) := by decide +kernel
theorem dX4_isClass_13 : decode cX4_isClass 13 = .ok (.goto 4, 3) := by decide +kernel
theorem dX4_isClass_16 : decode cX4_isClass 16 = .ok (.iconst 0, 1) := by decide +kernel
theorem dX4_isClass_17 : decode cX4_isClass 17 = .ok (.ireturn, 1) := by decide +kernel
theorem dX4_isRole_0 : decode cX4_isRole 0 = .ok (.iload_n 0, 1) := by decide +kernel
theorem dX4_isRole_1 : decode cX4_isRole 1 = .ok (.ifCond .lt 13, 3) := by decide +kernel
theorem dX4_isRole_4 : decode cX4_isRole 4 = .ok (.iload_n 0, 1) := by decide +kernel
theorem dX4_isRole_5 : decode cX4_isRole 5 = .ok (.bipush 6, 2) := by decide +kernel
theorem dX4_isRole_7 : decode cX4_isRole 7 = .ok (.if_icmp .ge 7, 3) := by decide +kernel
theorem dX4_isRole_10 : decode cX4_isRole 10 = .ok (.iconst 1, 1) := by decide +kernel
theorem dX4_isRole_11 : decode cX4_isRole 11 = .ok (.goto 4, 3) := by decide +kernel
theorem dX4_isRole_14 : decode cX4_isRole 14 = .ok (.iconst 0, 1) := by decide +kernel
theorem dX4_isRole_15 : decode cX4_isRole 15 = .ok (.ireturn, 1) := by decide +kernel
theorem dX4_grow_0 : decode cX4_grow 0 = .ok (.aload_n 0, 1) := by decide +kernel
theorem dX4_grow_1 : decode cX4_grow 1 = .ok (.iconst 0, 1) := by decide +kernel
theorem dX4_grow_2 : decode cX4_grow 2 = .ok (.putfield 1, 3) := by decide +kernel
theorem dX4_grow_5 : decode cX4_grow 5 = .ok (.aload_n 0, 1) := by decide +kernel
theorem dX4_grow_6 : decode cX4_grow 6 = .ok (.getfield 13, 3) := by decide +kernel
theorem dX4_grow_9 : decode cX4_grow 9 = .ok (.bipush 24, 2) := by decide +kernel
theorem dX4_grow_11 : decode cX4_grow 11 = .ok (.if_icmp .ne 6, 3) := by decide +kernel
theorem dX4_grow_14 : decode cX4_grow 14 = .ok (.bipush (-2), 2) := by decide +kernel
theorem dX4_grow_16 : decode cX4_grow 16 = .ok (.ireturn, 1) := by decide +kernel
theorem dX4_grow_17 : decode cX4_grow 17 = .ok (.aload_n 0, 1) := by decide +kernel
theorem dX4_grow_18 : decode cX4_grow 18 = .ok (.dup, 1) := by decide +kernel
theorem dX4_grow_19 : decode cX4_grow 19 = .ok (.getfield 13, 3) := by decide +kernel
theorem dX4_grow_22 : decode cX4_grow 22 = .ok (.iconst 1, 1) := by decide +kernel
theorem dX4_grow_23 : decode cX4_grow 23 = .ok (.iadd, 1) := by decide +kernel
theorem dX4_grow_24 : decode cX4_grow 24 = .ok (.putfield 13, 3) := by decide +kernel
theorem dX4_grow_27 : decode cX4_grow 27 = .ok (.aload_n 0, 1) := by decide +kernel
theorem dX4_grow_28 : decode cX4_grow 28 = .ok (.iconst 0, 1) := by decide +kernel
theorem dX4_grow_29 : decode cX4_grow 29 = .ok (.putfield 42, 3) := by decide +kernel
theorem dX4_grow_32 : decode cX4_grow 32 = .ok (.aload_n 0, 1) := by decide +kernel
theorem dX4_grow_33 : decode cX4_grow 33 = .ok (.getfield 13, 3) := by decide +kernel
theorem dX4_grow_36 : decode cX4_grow 36 = .ok (.iconst 1, 1) := by decide +kernel
theorem dX4_grow_37 : decode cX4_grow 37 = .ok (.isub, 1) := by decide +kernel
theorem dX4_grow_38 : decode cX4_grow 38 = .ok (.ireturn, 1) := by decide +kernel
theorem dX4_wants_0 : decode cX4_wants 0 = .ok (.iload_n 0, 1) := by decide +kernel
theorem dX4_wants_1 : decode cX4_wants 1 = .ok (.tableswitch 60 1 6 #[39, 42, 45, 48, 52, 56], 39) := by decide +kernel
theorem dX4_wants_40 : decode cX4_wants 40 = .ok (.bipush 110, 2) := by decide +kernel
theorem dX4_wants_42 : decode cX4_wants 42 = .ok (.ireturn, 1) := by decide +kernel
theorem dX4_wants_43 : decode cX4_wants 43 = .ok (.bipush 111, 2) := by decide +kernel
theorem dX4_wants_45 : decode cX4_wants 45 = .ok (.ireturn, 1) := by decide +kernel
theorem dX4_wants_46 : decode cX4_wants 46 = .ok (.bipush 121, 2) := by decide +kernel
theorem dX4_wants_48 : decode cX4_wants 48 = .ok (.ireturn, 1) := by decide +kernel
theorem dX4_wants_49 : decode cX4_wants 49 = .ok (.sipush 211, 3) := by decide +kernel
theorem dX4_wants_52 : decode cX4_wants 52 = .ok (.ireturn, 1) := by decide +kernel
theorem dX4_wants_53 : decode cX4_wants 53 = .ok (.sipush 220, 3) := by decide +kernel
theorem dX4_wants_56 : decode cX4_wants 56 = .ok (.ireturn, 1) := by decide +kernel
theorem dX4_wants_57 : decode cX4_wants 57 = .ok (.sipush 222, 3) := by decide +kernel
theorem dX4_wants_60 : decode cX4_wants 60 = .ok (.ireturn, 1) := by decide +kernel
theorem dX4_wants_61 : decode cX4_wants 61 = .ok (.sipush 200, 3) := by decide +kernel
theorem dX4_wants_64 : decode cX4_wants 64 = .ok (.ireturn, 1) := by decide +kernel
theorem dX4_fits_0 : decode cX4_fits 0 = .ok (.iload_n 1, 1) := by decide +kernel
theorem dX4_fits_1 : decode cX4_fits 1 = .ok (.ifCond .eq 26, 3) := by decide +kernel
theorem dX4_fits_4 : decode cX4_fits 4 = .ok (.iload_n 1, 1) := by decide +kernel
theorem dX4_fits_5 : decode cX4_fits 5 = .ok (.iconst 1, 1) := by decide +kernel
theorem dX4_fits_6 : decode cX4_fits 6 = .ok (.if_icmp .ne 14, 3) := by decide +kernel
theorem dX4_fits_9 : decode cX4_fits 9 = .ok (.aload_n 0, 1) := by decide +kernel
theorem dX4_fits_10 : decode cX4_fits 10 = .ok (.iload_n 2, 1) := by decide +kernel
theorem dX4_fits_11 : decode cX4_fits 11 = .ok (.invokevirtual 46, 3) := by decide +kernel
theorem dX4_fits_14 : decode cX4_fits 14 = .ok (.ifCond .eq 17, 3) := by decide +kernel
theorem dX4_fits_17 : decode cX4_fits 17 = .ok (.goto 10, 3) := by decide +kernel
theorem dX4_fits_20 : decode cX4_fits 20 = .ok (.iload_n 2, 1) := by decide +kernel
theorem dX4_fits_21 : decode cX4_fits 21 = .ok (.invokestatic 50, 3) := by decide +kernel
theorem dX4_fits_24 : decode cX4_fits 24 = .ok (.ifCond .eq 7, 3) := by decide +kernel
theorem dX4_fits_27 : decode cX4_fits 27 = .ok (.iconst 1, 1) := by decide +kernel
theorem dX4_fits_28 : decode cX4_fits 28 = .ok (.goto 4, 3) := by decide +kernel
theorem dX4_fits_31 : decode cX4_fits 31 = .ok (.iconst 0, 1) := by decide +kernel
theorem dX4_fits_32 : decode cX4_fits 32 = .ok (.ireturn, 1) := by decide +kernel
theorem dX4_axiom_0 : decode cX4_axiom 0 = .ok (.aload_n 0, 1) := by decide +kernel
theorem dX4_axiom_1 : decode cX4_axiom 1 = .ok (.iconst 0, 1) := by decide +kernel
theorem dX4_axiom_2 : decode cX4_axiom 2 = .ok (.putfield 1, 3) := by decide +kernel
theorem dX4_axiom_5 : decode cX4_axiom 5 = .ok (.iload_n 1, 1) := by decide +kernel
theorem dX4_axiom_6 : decode cX4_axiom 6 = .ok (.iconst 1, 1) := by decide +kernel
theorem dX4_axiom_7 : decode cX4_axiom 7 = .ok (.if_icmp .lt 9, 3) := by decide +kernel
theorem dX4_axiom_10 : decode cX4_axiom 10 = .ok (.iload_n 1, 1) := by decide +kernel
theorem dX4_axiom_11 : decode cX4_axiom 11 = .ok (.bipush 7, 2) := by decide +kernel
theorem dX4_axiom_13 : decode cX4_axiom 13 = .ok (.if_icmp .le 5, 3) := by decide +kernel
theorem dX4_axiom_16 : decode cX4_axiom 16 = .ok (.iconst (-1), 1) := by decide +kernel
theorem dX4_axiom_17 : decode cX4_axiom 17 = .ok (.ireturn, 1) := by decide +kernel
theorem dX4_axiom_18 : decode cX4_axiom 18 = .ok (.iload_n 1, 1) := by decide +kernel
theorem dX4_axiom_19 : decode cX4_axiom 19 = .ok (.invokestatic 53, 3) := by decide +kernel
theorem dX4_axiom_22 : decode cX4_axiom 22 = .ok (.istore 5, 2) := by decide +kernel
theorem dX4_axiom_24 : decode cX4_axiom 24 = .ok (.aload_n 0, 1) := by decide +kernel
theorem dX4_axiom_25 : decode cX4_axiom 25 = .ok (.iload 5, 2) := by decide +kernel
theorem dX4_axiom_27 : decode cX4_axiom 27 = .ok (.bipush 100, 2) := by decide +kernel
theorem dX4_axiom_29 : decode cX4_axiom 29 = .ok (.idiv, 1) := by decide +kernel
theorem dX4_axiom_30 : decode cX4_axiom 30 = .ok (.iload_n 2, 1) := by decide +kernel
theorem dX4_axiom_31 : decode cX4_axiom 31 = .ok (.invokevirtual 57, 3) := by decide +kernel
theorem dX4_axiom_34 : decode cX4_axiom 34 = .ok (.ifCond .eq 33, 3) := by decide +kernel
theorem dX4_axiom_37 : decode cX4_axiom 37 = .ok (.aload_n 0, 1) := by decide +kernel
theorem dX4_axiom_38 : decode cX4_axiom 38 = .ok (.iload 5, 2) := by decide +kernel
theorem dX4_axiom_40 : decode cX4_axiom 40 = .ok (.bipush 10, 2) := by decide +kernel
theorem dX4_axiom_42 : decode cX4_axiom 42 = .ok (.idiv, 1) := by decide +kernel
theorem dX4_axiom_43 : decode cX4_axiom 43 = .ok (.bipush 10, 2) := by decide +kernel
theorem dX4_axiom_45 : decode cX4_axiom 45 = .ok (.irem, 1) := by decide +kernel
theorem dX4_axiom_46 : decode cX4_axiom 46 = .ok (.iload_n 3, 1) := by decide +kernel
theorem dX4_axiom_47 : decode cX4_axiom 47 = .ok (.invokevirtual 57, 3) := by decide +kernel
theorem dX4_axiom_50 : decode cX4_axiom 50 = .ok (.ifCond .eq 17, 3) := by decide +kernel
theorem dX4_axiom_53 : decode cX4_axiom 53 = .ok (.aload_n 0, 1) := by decide +kernel
theorem dX4_axiom_54 : decode cX4_axiom 54 = .ok (.iload 5, 2) := by decide +kernel
theorem dX4_axiom_56 : decode cX4_axiom 56 = .ok (.bipush 10, 2) := by decide +kernel
theorem dX4_axiom_58 : decode cX4_axiom 58 = .ok (.irem, 1) := by decide +kernel
theorem dX4_axiom_59 : decode cX4_axiom 59 = .ok (.iload 4, 2) := by decide +kernel
theorem dX4_axiom_61 : decode cX4_axiom 61 = .ok (.invokevirtual 57, 3) := by decide +kernel
theorem dX4_axiom_64 : decode cX4_axiom 64 = .ok (.ifCond .ne 5, 3) := by decide +kernel
theorem dX4_axiom_67 : decode cX4_axiom 67 = .ok (.iconst (-1), 1) := by decide +kernel
theorem dX4_axiom_68 : decode cX4_axiom 68 = .ok (.ireturn, 1) := by decide +kernel
theorem dX4_axiom_69 : decode cX4_axiom 69 = .ok (.aload_n 0, 1) := by decide +kernel
theorem dX4_axiom_70 : decode cX4_axiom 70 = .ok (.getfield 61, 3) := by decide +kernel
theorem dX4_axiom_73 : decode cX4_axiom 73 = .ok (.bipush 80, 2) := by decide +kernel
theorem dX4_axiom_75 : decode cX4_axiom 75 = .ok (.if_icmp .ne 6, 3) := by decide +kernel
theorem dX4_axiom_78 : decode cX4_axiom 78 = .ok (.bipush (-2), 2) := by decide +kernel
theorem dX4_axiom_80 : decode cX4_axiom 80 = .ok (.ireturn, 1) := by decide +kernel
theorem dX4_axiom_81 : decode cX4_axiom 81 = .ok (.aload_n 0, 1) := by decide +kernel
theorem dX4_axiom_82 : decode cX4_axiom 82 = .ok (.getfield 16, 3) := by decide +kernel
theorem dX4_axiom_85 : decode cX4_axiom 85 = .ok (.iconst 4, 1) := by decide +kernel
theorem dX4_axiom_86 : decode cX4_axiom 86 = .ok (.aload_n 0, 1) := by decide +kernel
theorem dX4_axiom_87 : decode cX4_axiom 87 = .ok (.getfield 61, 3) := by decide +kernel
theorem dX4_axiom_90 : decode cX4_axiom 90 = .ok (.imul, 1) := by decide +kernel
theorem dX4_axiom_91 : decode cX4_axiom 91 = .ok (.iload_n 1, 1) := by decide +kernel
theorem dX4_axiom_92 : decode cX4_axiom 92 = .ok (.iastore, 1) := by decide +kernel
theorem dX4_axiom_93 : decode cX4_axiom 93 = .ok (.aload_n 0, 1) := by decide +kernel
theorem dX4_axiom_94 : decode cX4_axiom 94 = .ok (.getfield 16, 3) := by decide +kernel
theorem dX4_axiom_97 : decode cX4_axiom 97 = .ok (.iconst 4, 1) := by decide +kernel
theorem dX4_axiom_98 : decode cX4_axiom 98 = .ok (.aload_n 0, 1) := by decide +kernel
theorem dX4_axiom_99 : decode cX4_axiom 99 = .ok (.getfield 61, 3) := by decide +kernel
theorem dX4_axiom_102 : decode cX4_axiom 102 = .ok (.imul, 1) := by decide +kernel
theorem dX4_axiom_103 : decode cX4_axiom 103 = .ok (.iconst 1, 1) := by decide +kernel
theorem dX4_axiom_104 : decode cX4_axiom 104 = .ok (.iadd, 1) := by decide +kernel
theorem dX4_axiom_105 : decode cX4_axiom 105 = .ok (.iload_n 2, 1) := by decide +kernel
theorem dX4_axiom_106 : decode cX4_axiom 106 = .ok (.iastore, 1) := by decide +kernel
theorem dX4_axiom_107 : decode cX4_axiom 107 = .ok (.aload_n 0, 1) := by decide +kernel
theorem dX4_axiom_108 : decode cX4_axiom 108 = .ok (.getfield 16, 3) := by decide +kernel
theorem dX4_axiom_111 : decode cX4_axiom 111 = .ok (.iconst 4, 1) := by decide +kernel
theorem dX4_axiom_112 : decode cX4_axiom 112 = .ok (.aload_n 0, 1) := by decide +kernel
theorem dX4_axiom_113 : decode cX4_axiom 113 = .ok (.getfield 61, 3) := by decide +kernel
theorem dX4_axiom_116 : decode cX4_axiom 116 = .ok (.imul, 1) := by decide +kernel
theorem dX4_axiom_117 : decode cX4_axiom 117 = .ok (.iconst 2, 1) := by decide +kernel
theorem dX4_axiom_118 : decode cX4_axiom 118 = .ok (.iadd, 1) := by decide +kernel
theorem dX4_axiom_119 : decode cX4_axiom 119 = .ok (.iload_n 3, 1) := by decide +kernel
theorem dX4_axiom_120 : decode cX4_axiom 120 = .ok (.iastore, 1) := by decide +kernel
theorem dX4_axiom_121 : decode cX4_axiom 121 = .ok (.aload_n 0, 1) := by decide +kernel
theorem dX4_axiom_122 : decode cX4_axiom 122 = .ok (.getfield 16, 3) := by decide +kernel
theorem dX4_axiom_125 : decode cX4_axiom 125 = .ok (.iconst 4, 1) := by decide +kernel
theorem dX4_axiom_126 : decode cX4_axiom 126 = .ok (.aload_n 0, 1) := by decide +kernel
theorem dX4_axiom_127 : decode cX4_axiom 127 = .ok (.getfield 61, 3) := by decide +kernel
theorem dX4_axiom_130 : decode cX4_axiom 130 = .ok (.imul, 1) := by decide +kernel
theorem dX4_axiom_131 : decode cX4_axiom 131 = .ok (.iconst 3, 1) := by decide +kernel
theorem dX4_axiom_132 : decode cX4_axiom 132 = .ok (.iadd, 1) := by decide +kernel
theorem dX4_axiom_133 : decode cX4_axiom 133 = .ok (.iload 4, 2) := by decide +kernel
theorem dX4_axiom_135 : decode cX4_axiom 135 = .ok (.iastore, 1) := by decide +kernel
theorem dX4_axiom_136 : decode cX4_axiom 136 = .ok (.aload_n 0, 1) := by decide +kernel
theorem dX4_axiom_137 : decode cX4_axiom 137 = .ok (.dup, 1) := by decide +kernel
theorem dX4_axiom_138 : decode cX4_axiom 138 = .ok (.getfield 61, 3) := by decide +kernel
theorem dX4_axiom_141 : decode cX4_axiom 141 = .ok (.iconst 1, 1) := by decide +kernel
theorem dX4_axiom_142 : decode cX4_axiom 142 = .ok (.iadd, 1) := by decide +kernel
theorem dX4_axiom_143 : decode cX4_axiom 143 = .ok (.putfield 61, 3) := by decide +kernel
theorem dX4_axiom_146 : decode cX4_axiom 146 = .ok (.aload_n 0, 1) := by decide +kernel
theorem dX4_axiom_147 : decode cX4_axiom 147 = .ok (.iconst 0, 1) := by decide +kernel
theorem dX4_axiom_148 : decode cX4_axiom 148 = .ok (.putfield 42, 3) := by decide +kernel
theorem dX4_axiom_151 : decode cX4_axiom 151 = .ok (.aload_n 0, 1) := by decide +kernel
theorem dX4_axiom_152 : decode cX4_axiom 152 = .ok (.getfield 61, 3) := by decide +kernel
theorem dX4_axiom_155 : decode cX4_axiom 155 = .ok (.iconst 1, 1) := by decide +kernel
theorem dX4_axiom_156 : decode cX4_axiom 156 = .ok (.isub, 1) := by decide +kernel
theorem dX4_axiom_157 : decode cX4_axiom 157 = .ok (.ireturn, 1) := by decide +kernel
theorem dX4_drop_0 : decode cX4_drop 0 = .ok (.aload_n 0, 1) := by decide +kernel
theorem dX4_drop_1 : decode cX4_drop 1 = .ok (.iconst 0, 1) := by decide +kernel
theorem dX4_drop_2 : decode cX4_drop 2 = .ok (.putfield 1, 3) := by decide +kernel
theorem dX4_drop_5 : decode cX4_drop 5 = .ok (.iload_n 1, 1) := by decide +kernel
theorem dX4_drop_6 : decode cX4_drop 6 = .ok (.ifCond .lt 11, 3) := by decide +kernel
theorem dX4_drop_9 : decode cX4_drop 9 = .ok (.iload_n 1, 1) := by decide +kernel
theorem dX4_drop_10 : decode cX4_drop 10 = .ok (.aload_n 0, 1) := by decide +kernel
theorem dX4_drop_11 : decode cX4_drop 11 = .ok (.getfield 61, 3) := by decide +kernel
theorem dX4_drop_14 : decode cX4_drop 14 = .ok (.if_icmp .lt 5, 3) := by decide +kernel
theorem dX4_drop_17 : decode cX4_drop 17 = .ok (.iconst (-1), 1) := by decide +kernel
theorem dX4_drop_18 : decode cX4_drop 18 = .ok (.ireturn, 1) := by decide +kernel
theorem dX4_drop_19 : decode cX4_drop 19 = .ok (.aload_n 0, 1) := by decide +kernel
theorem dX4_drop_20 : decode cX4_drop 20 = .ok (.dup, 1) := by decide +kernel
theorem dX4_drop_21 : decode cX4_drop 21 = .ok (.getfield 61, 3) := by decide +kernel
theorem dX4_drop_24 : decode cX4_drop 24 = .ok (.iconst 1, 1) := by decide +kernel
theorem dX4_drop_25 : decode cX4_drop 25 = .ok (.isub, 1) := by decide +kernel
theorem dX4_drop_26 : decode cX4_drop 26 = .ok (.putfield 61, 3) := by decide +kernel
theorem dX4_drop_29 : decode cX4_drop 29 = .ok (.iconst 4, 1) := by decide +kernel
theorem dX4_drop_30 : decode cX4_drop 30 = .ok (.iload_n 1, 1) := by decide +kernel
theorem dX4_drop_31 : decode cX4_drop 31 = .ok (.imul, 1) := by decide +kernel
theorem dX4_drop_32 : decode cX4_drop 32 = .ok (.istore_n 2, 1) := by decide +kernel
theorem dX4_drop_33 : decode cX4_drop 33 = .ok (.iload_n 2, 1) := by decide +kernel
theorem dX4_drop_34 : decode cX4_drop 34 = .ok (.iconst 4, 1) := by decide +kernel
theorem dX4_drop_35 : decode cX4_drop 35 = .ok (.aload_n 0, 1) := by decide +kernel
theorem dX4_drop_36 : decode cX4_drop 36 = .ok (.getfield 61, 3) := by decide +kernel
theorem dX4_drop_39 : decode cX4_drop 39 = .ok (.imul, 1) := by decide +kernel
theorem dX4_drop_40 : decode cX4_drop 40 = .ok (.if_icmp .ge 23, 3) := by decide +kernel
theorem dX4_drop_43 : decode cX4_drop 43 = .ok (.aload_n 0, 1) := by decide +kernel
theorem dX4_drop_44 : decode cX4_drop 44 = .ok (.getfield 16, 3) := by decide +kernel
theorem dX4_drop_47 : decode cX4_drop 47 = .ok (.iload_n 2, 1) := by decide +kernel
theorem dX4_drop_48 : decode cX4_drop 48 = .ok (.aload_n 0, 1) := by decide +kernel
theorem dX4_drop_49 : decode cX4_drop 49 = .ok (.getfield 16, 3) := by decide +kernel
theorem dX4_drop_52 : decode cX4_drop 52 = .ok (.iload_n 2, 1) := by decide +kernel
theorem dX4_drop_53 : decode cX4_drop 53 = .ok (.iconst 4, 1) := by decide +kernel
theorem dX4_drop_54 : decode cX4_drop 54 = .ok (.iadd, 1) := by decide +kernel
theorem dX4_drop_55 : decode cX4_drop 55 = .ok (.iaload, 1) := by decide +kernel
theorem dX4_drop_56 : decode cX4_drop 56 = .ok (.iastore, 1) := by decide +kernel
theorem dX4_drop_57 : decode cX4_drop 57 = .ok (.iinc 2 1, 3) := by decide +kernel
theorem dX4_drop_60 : decode cX4_drop 60 = .ok (.goto (-27), 3) := by decide +kernel
theorem dX4_drop_63 : decode cX4_drop 63 = .ok (.aload_n 0, 1) := by decide +kernel
theorem dX4_drop_64 : decode cX4_drop 64 = .ok (.iconst 0, 1) := by decide +kernel
theorem dX4_drop_65 : decode cX4_drop 65 = .ok (.putfield 42, 3) := by decide +kernel
theorem dX4_drop_68 : decode cX4_drop 68 = .ok (.aload_n 0, 1) := by decide +kernel
theorem dX4_drop_69 : decode cX4_drop 69 = .ok (.getfield 61, 3) := by decide +kernel
theorem dX4_drop_72 : decode cX4_drop 72 = .ok (.ireturn, 1) := by decide +kernel
theorem dX4_code_0 : decode cX4_code 0 = .ok (.bipush 24, 2) := by decide +kernel
theorem dX4_code_2 : decode cX4_code 2 = .ok (.iload_n 0, 1) := by decide +kernel
theorem dX4_code_3 : decode cX4_code 3 = .ok (.imul, 1) := by decide +kernel
theorem dX4_code_4 : decode cX4_code 4 = .ok (.iload_n 1, 1) := by decide +kernel
theorem dX4_code_5 : decode cX4_code 5 = .ok (.iadd, 1) := by decide +kernel
theorem dX4_code_6 : decode cX4_code 6 = .ok (.ireturn, 1) := by decide +kernel
theorem dX4_linked_0 : decode cX4_linked 0 = .ok (.sipush 576, 3) := by decide +kernel
theorem dX4_linked_3 : decode cX4_linked 3 = .ok (.bipush 24, 2) := by decide +kernel
theorem dX4_linked_5 : decode cX4_linked 5 = .ok (.bipush 6, 2) := by decide +kernel
theorem dX4_linked_7 : decode cX4_linked 7 = .ok (.iload_n 0, 1) := by decide +kernel
theorem dX4_linked_8 : decode cX4_linked 8 = .ok (.imul, 1) := by decide +kernel
theorem dX4_linked_9 : decode cX4_linked 9 = .ok (.iload_n 1, 1) := by decide +kernel
theorem dX4_linked_10 : decode cX4_linked 10 = .ok (.iadd, 1) := by decide +kernel
theorem dX4_linked_11 : decode cX4_linked 11 = .ok (.imul, 1) := by decide +kernel
theorem dX4_linked_12 : decode cX4_linked 12 = .ok (.iadd, 1) := by decide +kernel
theorem dX4_linked_13 : decode cX4_linked 13 = .ok (.iload_n 2, 1) := by decide +kernel
theorem dX4_linked_14 : decode cX4_linked 14 = .ok (.iadd, 1) := by decide +kernel
theorem dX4_linked_15 : decode cX4_linked 15 = .ok (.ireturn, 1) := by decide +kernel
theorem dX4_has_0 : decode cX4_has 0 = .ok (.aload_n 0, 1) := by decide +kernel
theorem dX4_has_1 : decode cX4_has 1 = .ok (.getfield 20, 3) := by decide +kernel
theorem dX4_has_4 : decode cX4_has 4 = .ok (.iload_n 1, 1) := by decide +kernel
theorem dX4_has_5 : decode cX4_has 5 = .ok (.iaload, 1) := by decide +kernel
theorem dX4_has_6 : decode cX4_has 6 = .ok (.ifCond .lt 20, 3) := by decide +kernel
theorem dX4_has_9 : decode cX4_has 9 = .ok (.aload_n 0, 1) := by decide +kernel
theorem dX4_has_10 : decode cX4_has 10 = .ok (.getfield 20, 3) := by decide +kernel
theorem dX4_has_13 : decode cX4_has 13 = .ok (.iload_n 1, 1) := by decide +kernel
theorem dX4_has_14 : decode cX4_has 14 = .ok (.iaload, 1) := by decide +kernel
theorem dX4_has_15 : decode cX4_has 15 = .ok (.aload_n 0, 1) := by decide +kernel
theorem dX4_has_16 : decode cX4_has 16 = .ok (.getfield 64, 3) := by decide +kernel
theorem dX4_has_19 : decode cX4_has 19 = .ok (.if_icmp .ge 7, 3) := by decide +kernel
theorem dX4_has_22 : decode cX4_has 22 = .ok (.iconst 1, 1) := by decide +kernel
theorem dX4_has_23 : decode cX4_has 23 = .ok (.goto 4, 3) := by decide +kernel
theorem dX4_has_26 : decode cX4_has 26 = .ok (.iconst 0, 1) := by decide +kernel
theorem dX4_has_27 : decode cX4_has 27 = .ok (.ireturn, 1) := by decide +kernel
theorem dX4_start_0 : decode cX4_start 0 = .ok (.aload_n 0, 1) := by decide +kernel
theorem dX4_start_1 : decode cX4_start 1 = .ok (.getfield 20, 3) := by decide +kernel
theorem dX4_start_4 : decode cX4_start 4 = .ok (.iload_n 1, 1) := by decide +kernel
theorem dX4_start_5 : decode cX4_start 5 = .ok (.iaload, 1) := by decide +kernel
theorem dX4_start_6 : decode cX4_start 6 = .ok (.ifCond .ne 4, 3) := by decide +kernel
theorem dX4_start_9 : decode cX4_start 9 = .ok (.return_, 1) := by decide +kernel
theorem dX4_start_10 : decode cX4_start 10 = .ok (.aload_n 0, 1) := by decide +kernel
theorem dX4_start_11 : decode cX4_start 11 = .ok (.getfield 20, 3) := by decide +kernel
theorem dX4_start_14 : decode cX4_start 14 = .ok (.iload_n 1, 1) := by decide +kernel
theorem dX4_start_15 : decode cX4_start 15 = .ok (.iconst 0, 1) := by decide +kernel
theorem dX4_start_16 : decode cX4_start 16 = .ok (.iastore, 1) := by decide +kernel
theorem dX4_start_17 : decode cX4_start 17 = .ok (.aload_n 0, 1) := by decide +kernel
theorem dX4_start_18 : decode cX4_start 18 = .ok (.getfield 23, 3) := by decide +kernel
theorem dX4_start_21 : decode cX4_start 21 = .ok (.iload_n 1, 1) := by decide +kernel
theorem dX4_start_22 : decode cX4_start 22 = .ok (.iconst (-1), 1) := by decide +kernel
theorem dX4_start_23 : decode cX4_start 23 = .ok (.iastore, 1) := by decide +kernel
theorem dX4_start_24 : decode cX4_start 24 = .ok (.aload_n 0, 1) := by decide +kernel
theorem dX4_start_25 : decode cX4_start 25 = .ok (.getfield 26, 3) := by decide +kernel
theorem dX4_start_28 : decode cX4_start 28 = .ok (.iload_n 1, 1) := by decide +kernel
theorem dX4_start_29 : decode cX4_start 29 = .ok (.iconst (-1), 1) := by decide +kernel
theorem dX4_start_30 : decode cX4_start 30 = .ok (.iastore, 1) := by decide +kernel
theorem dX4_start_31 : decode cX4_start 31 = .ok (.aload_n 0, 1) := by decide +kernel
theorem dX4_start_32 : decode cX4_start 32 = .ok (.getfield 29, 3) := by decide +kernel
theorem dX4_start_35 : decode cX4_start 35 = .ok (.iload_n 1, 1) := by decide +kernel
theorem dX4_start_36 : decode cX4_start 36 = .ok (.iconst (-1), 1) := by decide +kernel
theorem dX4_start_37 : decode cX4_start 37 = .ok (.iastore, 1) := by decide +kernel
theorem dX4_start_38 : decode cX4_start 38 = .ok (.return_, 1) := by decide +kernel
theorem dX4_give_0 : decode cX4_give 0 = .ok (.aload_n 0, 1) := by decide +kernel
theorem dX4_give_1 : decode cX4_give 1 = .ok (.iload_n 3, 1) := by decide +kernel
theorem dX4_give_2 : decode cX4_give 2 = .ok (.invokevirtual 67, 3) := by decide +kernel
theorem dX4_give_5 : decode cX4_give 5 = .ok (.ifCond .eq 25, 3) := by decide +kernel
theorem dX4_give_8 : decode cX4_give 8 = .ok (.iload 4, 2) := by decide +kernel
theorem dX4_give_10 : decode cX4_give 10 = .ok (.ifCond .lt 12, 3) := by decide +kernel
theorem dX4_give_13 : decode cX4_give 13 = .ok (.aload_n 0, 1) := by decide +kernel
theorem dX4_give_14 : decode cX4_give 14 = .ok (.iload 4, 2) := by decide +kernel
theorem dX4_give_16 : decode cX4_give 16 = .ok (.invokevirtual 67, 3) := by decide +kernel
theorem dX4_give_19 : decode cX4_give 19 = .ok (.ifCond .eq 11, 3) := by decide +kernel
theorem dX4_give_22 : decode cX4_give 22 = .ok (.aload_n 0, 1) := by decide +kernel
theorem dX4_give_23 : decode cX4_give 23 = .ok (.iload_n 1, 1) := by decide +kernel
theorem dX4_give_24 : decode cX4_give 24 = .ok (.invokevirtual 67, 3) := by decide +kernel
theorem dX4_give_27 : decode cX4_give 27 = .ok (.ifCond .eq 4, 3) := by decide +kernel
theorem dX4_give_30 : decode cX4_give 30 = .ok (.return_, 1) := by decide +kernel
theorem dX4_give_31 : decode cX4_give 31 = .ok (.aload_n 0, 1) := by decide +kernel
theorem dX4_give_32 : decode cX4_give 32 = .ok (.getfield 20, 3) := by decide +kernel
theorem dX4_give_35 : decode cX4_give 35 = .ok (.iload_n 1, 1) := by decide +kernel
theorem dX4_give_36 : decode cX4_give 36 = .ok (.iaload, 1) := by decide +kernel
theorem dX4_give_37 : decode cX4_give 37 = .ok (.ifCond .ge 7, 3) := by decide +kernel
theorem dX4_give_40 : decode cX4_give 40 = .ok (.iconst 1, 1) := by decide +kernel
theorem dX4_give_41 : decode cX4_give 41 = .ok (.goto 4, 3) := by decide +kernel
theorem dX4_give_44 : decode cX4_give 44 = .ok (.iconst 0, 1) := by decide +kernel
theorem dX4_give_45 : decode cX4_give 45 = .ok (.istore 5, 2) := by decide +kernel
theorem dX4_give_47 : decode cX4_give 47 = .ok (.iload 5, 2) := by decide +kernel
theorem dX4_give_49 : decode cX4_give 49 = .ok (.ifCond .ne 54, 3) := by decide +kernel
theorem dX4_give_52 : decode cX4_give 52 = .ok (.iload_n 2, 1) := by decide +kernel
theorem dX4_give_53 : decode cX4_give 53 = .ok (.aload_n 0, 1) := by decide +kernel
theorem dX4_give_54 : decode cX4_give 54 = .ok (.getfield 23, 3) := by decide +kernel
theorem dX4_give_57 : decode cX4_give 57 = .ok (.iload_n 1, 1) := by decide +kernel
theorem dX4_give_58 : decode cX4_give 58 = .ok (.iaload, 1) := by decide +kernel
theorem dX4_give_59 : decode cX4_give 59 = .ok (.if_icmp .lt 44, 3) := by decide +kernel
theorem dX4_give_62 : decode cX4_give 62 = .ok (.iload_n 2, 1) := by decide +kernel
theorem dX4_give_63 : decode cX4_give 63 = .ok (.aload_n 0, 1) := by decide +kernel
theorem dX4_give_64 : decode cX4_give 64 = .ok (.getfield 23, 3) := by decide +kernel
theorem dX4_give_67 : decode cX4_give 67 = .ok (.iload_n 1, 1) := by decide +kernel
theorem dX4_give_68 : decode cX4_give 68 = .ok (.iaload, 1) := by decide +kernel
theorem dX4_give_69 : decode cX4_give 69 = .ok (.if_icmp .ne 38, 3) := by decide +kernel
theorem dX4_give_72 : decode cX4_give 72 = .ok (.iload_n 3, 1) := by decide +kernel
theorem dX4_give_73 : decode cX4_give 73 = .ok (.aload_n 0, 1) := by decide +kernel
theorem dX4_give_74 : decode cX4_give 74 = .ok (.getfield 26, 3) := by decide +kernel
theorem dX4_give_77 : decode cX4_give 77 = .ok (.iload_n 1, 1) := by decide +kernel
theorem dX4_give_78 : decode cX4_give 78 = .ok (.iaload, 1) := by decide +kernel
theorem dX4_give_79 : decode cX4_give 79 = .ok (.if_icmp .lt 24, 3) := by decide +kernel
theorem dX4_give_82 : decode cX4_give 82 = .ok (.iload_n 3, 1) := by decide +kernel
theorem dX4_give_83 : decode cX4_give 83 = .ok (.aload_n 0, 1) := by decide +kernel
theorem dX4_give_84 : decode cX4_give 84 = .ok (.getfield 26, 3) := by decide +kernel
theorem dX4_give_87 : decode cX4_give 87 = .ok (.iload_n 1, 1) := by decide +kernel
theorem dX4_give_88 : decode cX4_give 88 = .ok (.iaload, 1) := by decide +kernel
theorem dX4_give_89 : decode cX4_give 89 = .ok (.if_icmp .ne 18, 3) := by decide +kernel
theorem dX4_give_92 : decode cX4_give 92 = .ok (.iload 4, 2) := by decide +kernel
theorem dX4_give_94 : decode cX4_give 94 = .ok (.aload_n 0, 1) := by decide +kernel
theorem dX4_give_95 : decode cX4_give 95 = .ok (.getfield 29, 3) := by decide +kernel
theorem dX4_give_98 : decode cX4_give 98 = .ok (.iload_n 1, 1) := by decide +kernel
theorem dX4_give_99 : decode cX4_give 99 = .ok (.iaload, 1) := by decide +kernel
theorem dX4_give_100 : decode cX4_give 100 = .ok (.if_icmp .ge 7, 3) := by decide +kernel
theorem dX4_give_103 : decode cX4_give 103 = .ok (.iconst 1, 1) := by decide +kernel
theorem dX4_give_104 : decode cX4_give 104 = .ok (.goto 4, 3) := by decide +kernel
theorem dX4_give_107 : decode cX4_give 107 = .ok (.iconst 0, 1) := by decide +kernel
theorem dX4_give_108 : decode cX4_give 108 = .ok (.istore 6, 2) := by decide +kernel
theorem dX4_give_110 : decode cX4_give 110 = .ok (.iload 5, 2) := by decide +kernel
theorem dX4_give_112 : decode cX4_give 112 = .ok (.ifCond .eq 13, 3) := by decide +kernel
theorem dX4_give_115 : decode cX4_give 115 = .ok (.aload_n 0, 1) := by decide +kernel
theorem dX4_give_116 : decode cX4_give 116 = .ok (.dup, 1) := by decide +kernel
theorem dX4_give_117 : decode cX4_give 117 = .ok (.getfield 70, 3) := by decide +kernel
theorem dX4_give_120 : decode cX4_give 120 = .ok (.iconst 1, 1) := by decide +kernel
theorem dX4_give_121 : decode cX4_give 121 = .ok (.iadd, 1) := by decide +kernel
theorem dX4_give_122 : decode cX4_give 122 = .ok (.putfield 70, 3) := by decide +kernel
theorem dX4_give_125 : decode cX4_give 125 = .ok (.iload 6, 2) := by decide +kernel
theorem dX4_give_127 : decode cX4_give 127 = .ok (.ifCond .ne 4, 3) := by decide +kernel
theorem dX4_give_130 : decode cX4_give 130 = .ok (.return_, 1) := by decide +kernel
theorem dX4_give_131 : decode cX4_give 131 = .ok (.aload_n 0, 1) := by decide +kernel
theorem dX4_give_132 : decode cX4_give 132 = .ok (.getfield 20, 3) := by decide +kernel
theorem dX4_give_135 : decode cX4_give 135 = .ok (.iload_n 1, 1) := by decide +kernel
theorem dX4_give_136 : decode cX4_give 136 = .ok (.aload_n 0, 1) := by decide +kernel
theorem dX4_give_137 : decode cX4_give 137 = .ok (.getfield 64, 3) := by decide +kernel
theorem dX4_give_140 : decode cX4_give 140 = .ok (.iastore, 1) := by decide +kernel
theorem dX4_give_141 : decode cX4_give 141 = .ok (.aload_n 0, 1) := by decide +kernel
theorem dX4_give_142 : decode cX4_give 142 = .ok (.getfield 23, 3) := by decide +kernel
theorem dX4_give_145 : decode cX4_give 145 = .ok (.iload_n 1, 1) := by decide +kernel
theorem dX4_give_146 : decode cX4_give 146 = .ok (.iload_n 2, 1) := by decide +kernel
theorem dX4_give_147 : decode cX4_give 147 = .ok (.iastore, 1) := by decide +kernel
theorem dX4_give_148 : decode cX4_give 148 = .ok (.aload_n 0, 1) := by decide +kernel
theorem dX4_give_149 : decode cX4_give 149 = .ok (.getfield 26, 3) := by decide +kernel
theorem dX4_give_152 : decode cX4_give 152 = .ok (.iload_n 1, 1) := by decide +kernel
theorem dX4_give_153 : decode cX4_give 153 = .ok (.iload_n 3, 1) := by decide +kernel
theorem dX4_give_154 : decode cX4_give 154 = .ok (.iastore, 1) := by decide +kernel
theorem dX4_give_155 : decode cX4_give 155 = .ok (.aload_n 0, 1) := by decide +kernel
theorem dX4_give_156 : decode cX4_give 156 = .ok (.getfield 29, 3) := by decide +kernel
theorem dX4_give_159 : decode cX4_give 159 = .ok (.iload_n 1, 1) := by decide +kernel
theorem dX4_give_160 : decode cX4_give 160 = .ok (.iload 4, 2) := by decide +kernel
theorem dX4_give_162 : decode cX4_give 162 = .ok (.iastore, 1) := by decide +kernel
theorem dX4_give_163 : decode cX4_give 163 = .ok (.return_, 1) := by decide +kernel
theorem dX4_one_0 : decode cX4_one 0 = .ok (.aload_n 0, 1) := by decide +kernel
theorem dX4_one_1 : decode cX4_one 1 = .ok (.getfield 16, 3) := by decide +kernel
theorem dX4_one_4 : decode cX4_one 4 = .ok (.iconst 4, 1) := by decide +kernel
theorem dX4_one_5 : decode cX4_one 5 = .ok (.iload_n 1, 1) := by decide +kernel
theorem dX4_one_6 : decode cX4_one 6 = .ok (.imul, 1) := by decide +kernel
theorem dX4_one_7 : decode cX4_one 7 = .ok (.iconst 1, 1) := by decide +kernel
theorem dX4_one_8 : decode cX4_one 8 = .ok (.iadd, 1) := by decide +kernel
theorem dX4_one_9 : decode cX4_one 9 = .ok (.iaload, 1) := by decide +kernel
theorem dX4_one_10 : decode cX4_one 10 = .ok (.istore_n 3, 1) := by decide +kernel
theorem dX4_one_11 : decode cX4_one 11 = .ok (.aload_n 0, 1) := by decide +kernel
theorem dX4_one_12 : decode cX4_one 12 = .ok (.getfield 16, 3) := by decide +kernel
theorem dX4_one_15 : decode cX4_one 15 = .ok (.iconst 4, 1) := by decide +kernel
theorem dX4_one_16 : decode cX4_one 16 = .ok (.iload_n 1, 1) := by decide +kernel
theorem dX4_one_17 : decode cX4_one 17 = .ok (.imul, 1) := by decide +kernel
theorem dX4_one_18 : decode cX4_one 18 = .ok (.iconst 2, 1) := by decide +kernel
theorem dX4_one_19 : decode cX4_one 19 = .ok (.iadd, 1) := by decide +kernel
theorem dX4_one_20 : decode cX4_one 20 = .ok (.iaload, 1) := by decide +kernel
theorem dX4_one_21 : decode cX4_one 21 = .ok (.istore 4, 2) := by decide +kernel
theorem dX4_one_23 : decode cX4_one 23 = .ok (.aload_n 0, 1) := by decide +kernel
theorem dX4_one_24 : decode cX4_one 24 = .ok (.getfield 16, 3) := by decide +kernel
theorem dX4_one_27 : decode cX4_one 27 = .ok (.iconst 4, 1) := by decide +kernel
theorem dX4_one_28 : decode cX4_one 28 = .ok (.iload_n 1, 1) := by decide +kernel
theorem dX4_one_29 : decode cX4_one 29 = .ok (.imul, 1) := by decide +kernel
theorem dX4_one_30 : decode cX4_one 30 = .ok (.iconst 3, 1) := by decide +kernel
theorem dX4_one_31 : decode cX4_one 31 = .ok (.iadd, 1) := by decide +kernel
theorem dX4_one_32 : decode cX4_one 32 = .ok (.iaload, 1) := by decide +kernel
theorem dX4_one_33 : decode cX4_one 33 = .ok (.istore 5, 2) := by decide +kernel
theorem dX4_one_35 : decode cX4_one 35 = .ok (.aload_n 0, 1) := by decide +kernel
theorem dX4_one_36 : decode cX4_one 36 = .ok (.getfield 16, 3) := by decide +kernel
theorem dX4_one_39 : decode cX4_one 39 = .ok (.iconst 4, 1) := by decide +kernel
theorem dX4_one_40 : decode cX4_one 40 = .ok (.iload_n 1, 1) := by decide +kernel
theorem dX4_one_41 : decode cX4_one 41 = .ok (.imul, 1) := by decide +kernel
theorem dX4_one_42 : decode cX4_one 42 = .ok (.iaload, 1) := by decide +kernel
theorem dX4_one_43 : decode cX4_one 43 = .ok (.tableswitch 111 1 7 #[41, 61, 86, 111, 111, 111, 108], 41) := by decide +kernel
theorem dX4_one_84 : decode cX4_one 84 = .ok (.aload_n 0, 1) := by decide +kernel
theorem dX4_one_85 : decode cX4_one 85 = .ok (.iload_n 2, 1) := by decide +kernel
theorem dX4_one_86 : decode cX4_one 86 = .ok (.iload 4, 2) := by decide +kernel
theorem dX4_one_88 : decode cX4_one 88 = .ok (.invokestatic 73, 3) := by decide +kernel
theorem dX4_one_91 : decode cX4_one 91 = .ok (.iload_n 1, 1) := by decide +kernel
theorem dX4_one_92 : decode cX4_one 92 = .ok (.iload_n 2, 1) := by decide +kernel
theorem dX4_one_93 : decode cX4_one 93 = .ok (.iload_n 3, 1) := by decide +kernel
theorem dX4_one_94 : decode cX4_one 94 = .ok (.invokestatic 73, 3) := by decide +kernel
theorem dX4_one_97 : decode cX4_one 97 = .ok (.iconst (-1), 1) := by decide +kernel
theorem dX4_one_98 : decode cX4_one 98 = .ok (.invokevirtual 77, 3) := by decide +kernel
theorem dX4_one_101 : decode cX4_one 101 = .ok (.goto 79, 3) := by decide +kernel
theorem dX4_one_104 : decode cX4_one 104 = .ok (.aload_n 0, 1) := by decide +kernel
theorem dX4_one_105 : decode cX4_one 105 = .ok (.iload_n 2, 1) := by decide +kernel
theorem dX4_one_106 : decode cX4_one 106 = .ok (.iload 5, 2) := by decide +kernel
theorem dX4_one_108 : decode cX4_one 108 = .ok (.invokestatic 73, 3) := by decide +kernel
theorem dX4_one_111 : decode cX4_one 111 = .ok (.iload_n 1, 1) := by decide +kernel
theorem dX4_one_112 : decode cX4_one 112 = .ok (.iload_n 2, 1) := by decide +kernel
theorem dX4_one_113 : decode cX4_one 113 = .ok (.iload_n 3, 1) := by decide +kernel
theorem dX4_one_114 : decode cX4_one 114 = .ok (.invokestatic 73, 3) := by decide +kernel
theorem dX4_one_117 : decode cX4_one 117 = .ok (.iload_n 2, 1) := by decide +kernel
theorem dX4_one_118 : decode cX4_one 118 = .ok (.iload 4, 2) := by decide +kernel
theorem dX4_one_120 : decode cX4_one 120 = .ok (.invokestatic 73, 3) := by decide +kernel
theorem dX4_one_123 : decode cX4_one 123 = .ok (.invokevirtual 77, 3) := by decide +kernel
theorem dX4_one_126 : decode cX4_one 126 = .ok (.goto 54, 3) := by decide +kernel
theorem dX4_one_129 : decode cX4_one 129 = .ok (.aload_n 0, 1) := by decide +kernel
theorem dX4_one_130 : decode cX4_one 130 = .ok (.iload_n 2, 1) := by decide +kernel
theorem dX4_one_131 : decode cX4_one 131 = .ok (.iload 4, 2) := by decide +kernel
theorem dX4_one_133 : decode cX4_one 133 = .ok (.iload 5, 2) := by decide +kernel
theorem dX4_one_135 : decode cX4_one 135 = .ok (.invokestatic 81, 3) := by decide +kernel
theorem dX4_one_138 : decode cX4_one 138 = .ok (.iload_n 1, 1) := by decide +kernel
theorem dX4_one_139 : decode cX4_one 139 = .ok (.iload_n 2, 1) := by decide +kernel
theorem dX4_one_140 : decode cX4_one 140 = .ok (.iload_n 3, 1) := by decide +kernel
theorem dX4_one_141 : decode cX4_one 141 = .ok (.invokestatic 73, 3) := by decide +kernel
theorem dX4_one_144 : decode cX4_one 144 = .ok (.iconst (-1), 1) := by decide +kernel
theorem dX4_one_145 : decode cX4_one 145 = .ok (.invokevirtual 77, 3) := by decide +kernel
theorem dX4_one_148 : decode cX4_one 148 = .ok (.goto 32, 3) := by decide +kernel
theorem dX4_one_151 : decode cX4_one 151 = .ok (.goto 29, 3) := by decide +kernel
theorem dX4_one_154 : decode cX4_one 154 = .ok (.iconst 0, 1) := by decide +kernel
theorem dX4_one_155 : decode cX4_one 155 = .ok (.istore 6, 2) := by decide +kernel
theorem dX4_one_157 : decode cX4_one 157 = .ok (.iload 6, 2) := by decide +kernel
theorem dX4_one_159 : decode cX4_one 159 = .ok (.aload_n 0, 1) := by decide +kernel
theorem dX4_one_160 : decode cX4_one 160 = .ok (.getfield 13, 3) := by decide +kernel
theorem dX4_one_163 : decode cX4_one 163 = .ok (.if_icmp .ge 17, 3) := by decide +kernel
theorem dX4_one_166 : decode cX4_one 166 = .ok (.aload_n 0, 1) := by decide +kernel
theorem dX4_one_167 : decode cX4_one 167 = .ok (.iload_n 1, 1) := by decide +kernel
theorem dX4_one_168 : decode cX4_one 168 = .ok (.iload_n 2, 1) := by decide +kernel
theorem dX4_one_169 : decode cX4_one 169 = .ok (.iload 6, 2) := by decide +kernel
theorem dX4_one_171 : decode cX4_one 171 = .ok (.invokevirtual 85, 3) := by decide +kernel
theorem dX4_one_174 : decode cX4_one 174 = .ok (.iinc 6 1, 3) := by decide +kernel
theorem dX4_one_177 : decode cX4_one 177 = .ok (.goto (-20), 3) := by decide +kernel
theorem dX4_one_180 : decode cX4_one 180 = .ok (.return_, 1) := by decide +kernel
theorem dX4_two_0 : decode cX4_two 0 = .ok (.aload_n 0, 1) := by decide +kernel
theorem dX4_two_1 : decode cX4_two 1 = .ok (.getfield 16, 3) := by decide +kernel
theorem dX4_two_4 : decode cX4_two 4 = .ok (.iconst 4, 1) := by decide +kernel
theorem dX4_two_5 : decode cX4_two 5 = .ok (.iload_n 1, 1) := by decide +kernel
theorem dX4_two_6 : decode cX4_two 6 = .ok (.imul, 1) := by decide +kernel
theorem dX4_two_7 : decode cX4_two 7 = .ok (.iconst 1, 1) := by decide +kernel
theorem dX4_two_8 : decode cX4_two 8 = .ok (.iadd, 1) := by decide +kernel
theorem dX4_two_9 : decode cX4_two 9 = .ok (.iaload, 1) := by decide +kernel
theorem dX4_two_10 : decode cX4_two 10 = .ok (.istore 4, 2) := by decide +kernel
theorem dX4_two_12 : decode cX4_two 12 = .ok (.aload_n 0, 1) := by decide +kernel
theorem dX4_two_13 : decode cX4_two 13 = .ok (.getfield 16, 3) := by decide +kernel
theorem dX4_two_16 : decode cX4_two 16 = .ok (.iconst 4, 1) := by decide +kernel
theorem dX4_two_17 : decode cX4_two 17 = .ok (.iload_n 1, 1) := by decide +kernel
theorem dX4_two_18 : decode cX4_two 18 = .ok (.imul, 1) := by decide +kernel
theorem dX4_two_19 : decode cX4_two 19 = .ok (.iconst 2, 1) := by decide +kernel
theorem dX4_two_20 : decode cX4_two 20 = .ok (.iadd, 1) := by decide +kernel
theorem dX4_two_21 : decode cX4_two 21 = .ok (.iaload, 1) := by decide +kernel
theorem dX4_two_22 : decode cX4_two 22 = .ok (.istore 5, 2) := by decide +kernel
theorem dX4_two_24 : decode cX4_two 24 = .ok (.aload_n 0, 1) := by decide +kernel
theorem dX4_two_25 : decode cX4_two 25 = .ok (.getfield 16, 3) := by decide +kernel
theorem dX4_two_28 : decode cX4_two 28 = .ok (.iconst 4, 1) := by decide +kernel
theorem dX4_two_29 : decode cX4_two 29 = .ok (.iload_n 1, 1) := by decide +kernel
theorem dX4_two_30 : decode cX4_two 30 = .ok (.imul, 1) := by decide +kernel
theorem dX4_two_31 : decode cX4_two 31 = .ok (.iconst 3, 1) := by decide +kernel
theorem dX4_two_32 : decode cX4_two 32 = .ok (.iadd, 1) := by decide +kernel
theorem dX4_two_33 : decode cX4_two 33 = .ok (.iaload, 1) := by decide +kernel
theorem dX4_two_34 : decode cX4_two 34 = .ok (.istore 6, 2) := by decide +kernel
theorem dX4_two_36 : decode cX4_two 36 = .ok (.iload_n 2, 1) := by decide +kernel
theorem dX4_two_37 : decode cX4_two 37 = .ok (.iload 4, 2) := by decide +kernel
theorem dX4_two_39 : decode cX4_two 39 = .ok (.iload_n 3, 1) := by decide +kernel
theorem dX4_two_40 : decode cX4_two 40 = .ok (.invokestatic 81, 3) := by decide +kernel
theorem dX4_two_43 : decode cX4_two 43 = .ok (.istore 7, 2) := by decide +kernel
theorem dX4_two_45 : decode cX4_two 45 = .ok (.aload_n 0, 1) := by decide +kernel
theorem dX4_two_46 : decode cX4_two 46 = .ok (.getfield 16, 3) := by decide +kernel
theorem dX4_two_49 : decode cX4_two 49 = .ok (.iconst 4, 1) := by decide +kernel
theorem dX4_two_50 : decode cX4_two 50 = .ok (.iload_n 1, 1) := by decide +kernel
theorem dX4_two_51 : decode cX4_two 51 = .ok (.imul, 1) := by decide +kernel
theorem dX4_two_52 : decode cX4_two 52 = .ok (.iaload, 1) := by decide +kernel
theorem dX4_two_53 : decode cX4_two 53 = .ok (.lookupswitch 67 #[(4, 27), (5, 49)], 27) := by decide +kernel
theorem dX4_two_80 : decode cX4_two 80 = .ok (.aload_n 0, 1) := by decide +kernel
theorem dX4_two_81 : decode cX4_two 81 = .ok (.iload_n 2, 1) := by decide +kernel
theorem dX4_two_82 : decode cX4_two 82 = .ok (.iload 6, 2) := by decide +kernel
theorem dX4_two_84 : decode cX4_two 84 = .ok (.invokestatic 73, 3) := by decide +kernel
theorem dX4_two_87 : decode cX4_two 87 = .ok (.iload_n 1, 1) := by decide +kernel
theorem dX4_two_88 : decode cX4_two 88 = .ok (.iload 7, 2) := by decide +kernel
theorem dX4_two_90 : decode cX4_two 90 = .ok (.iload_n 3, 1) := by decide +kernel
theorem dX4_two_91 : decode cX4_two 91 = .ok (.iload 5, 2) := by decide +kernel
theorem dX4_two_93 : decode cX4_two 93 = .ok (.invokestatic 73, 3) := by decide +kernel
theorem dX4_two_96 : decode cX4_two 96 = .ok (.invokevirtual 77, 3) := by decide +kernel
theorem dX4_two_99 : decode cX4_two 99 = .ok (.goto 62, 3) := by decide +kernel
theorem dX4_two_102 : decode cX4_two 102 = .ok (.aload_n 0, 1) := by decide +kernel
theorem dX4_two_103 : decode cX4_two 103 = .ok (.iload_n 2, 1) := by decide +kernel
theorem dX4_two_104 : decode cX4_two 104 = .ok (.iload 5, 2) := by decide +kernel
theorem dX4_two_106 : decode cX4_two 106 = .ok (.iload_n 3, 1) := by decide +kernel
theorem dX4_two_107 : decode cX4_two 107 = .ok (.invokestatic 81, 3) := by decide +kernel
theorem dX4_two_110 : decode cX4_two 110 = .ok (.iload_n 1, 1) := by decide +kernel
theorem dX4_two_111 : decode cX4_two 111 = .ok (.iload 7, 2) := by decide +kernel
theorem dX4_two_113 : decode cX4_two 113 = .ok (.iconst (-1), 1) := by decide +kernel
theorem dX4_two_114 : decode cX4_two 114 = .ok (.invokevirtual 77, 3) := by decide +kernel
theorem dX4_two_117 : decode cX4_two 117 = .ok (.goto 44, 3) := by decide +kernel
theorem dX4_two_120 : decode cX4_two 120 = .ok (.iconst 0, 1) := by decide +kernel
theorem dX4_two_121 : decode cX4_two 121 = .ok (.istore 8, 2) := by decide +kernel
theorem dX4_two_123 : decode cX4_two 123 = .ok (.iload 8, 2) := by decide +kernel
theorem dX4_two_125 : decode cX4_two 125 = .ok (.aload_n 0, 1) := by decide +kernel
theorem dX4_two_126 : decode cX4_two 126 = .ok (.getfield 13, 3) := by decide +kernel
theorem dX4_two_129 : decode cX4_two 129 = .ok (.if_icmp .ge 32, 3) := by decide +kernel
theorem dX4_two_132 : decode cX4_two 132 = .ok (.aload_n 0, 1) := by decide +kernel
theorem dX4_two_133 : decode cX4_two 133 = .ok (.iload_n 2, 1) := by decide +kernel
theorem dX4_two_134 : decode cX4_two 134 = .ok (.iload 6, 2) := by decide +kernel
theorem dX4_two_136 : decode cX4_two 136 = .ok (.iload 8, 2) := by decide +kernel
theorem dX4_two_138 : decode cX4_two 138 = .ok (.invokestatic 81, 3) := by decide +kernel
theorem dX4_two_141 : decode cX4_two 141 = .ok (.iload_n 1, 1) := by decide +kernel
theorem dX4_two_142 : decode cX4_two 142 = .ok (.iload 7, 2) := by decide +kernel
theorem dX4_two_144 : decode cX4_two 144 = .ok (.iload_n 3, 1) := by decide +kernel
theorem dX4_two_145 : decode cX4_two 145 = .ok (.iload 5, 2) := by decide +kernel
theorem dX4_two_147 : decode cX4_two 147 = .ok (.iload 8, 2) := by decide +kernel
theorem dX4_two_149 : decode cX4_two 149 = .ok (.invokestatic 81, 3) := by decide +kernel
theorem dX4_two_152 : decode cX4_two 152 = .ok (.invokevirtual 77, 3) := by decide +kernel
theorem dX4_two_155 : decode cX4_two 155 = .ok (.iinc 8 1, 3) := by decide +kernel
theorem dX4_two_158 : decode cX4_two 158 = .ok (.goto (-35), 3) := by decide +kernel
theorem dX4_two_161 : decode cX4_two 161 = .ok (.return_, 1) := by decide +kernel
theorem dX4_reckon_0 : decode cX4_reckon 0 = .ok (.aload_n 0, 1) := by decide +kernel
theorem dX4_reckon_1 : decode cX4_reckon 1 = .ok (.getfield 42, 3) := by decide +kernel
theorem dX4_reckon_4 : decode cX4_reckon 4 = .ok (.ifCond .eq 4, 3) := by decide +kernel
theorem dX4_reckon_7 : decode cX4_reckon 7 = .ok (.return_, 1) := by decide +kernel
theorem dX4_reckon_8 : decode cX4_reckon 8 = .ok (.iconst 0, 1) := by decide +kernel
theorem dX4_reckon_9 : decode cX4_reckon 9 = .ok (.istore_n 1, 1) := by decide +kernel
theorem dX4_reckon_10 : decode cX4_reckon 10 = .ok (.iload_n 1, 1) := by decide +kernel
theorem dX4_reckon_11 : decode cX4_reckon 11 = .ok (.sipush 4032, 3) := by decide +kernel
theorem dX4_reckon_14 : decode cX4_reckon 14 = .ok (.if_icmp .ge 16, 3) := by decide +kernel
theorem dX4_reckon_17 : decode cX4_reckon 17 = .ok (.aload_n 0, 1) := by decide +kernel
theorem dX4_reckon_18 : decode cX4_reckon 18 = .ok (.getfield 20, 3) := by decide +kernel
theorem dX4_reckon_21 : decode cX4_reckon 21 = .ok (.iload_n 1, 1) := by decide +kernel
theorem dX4_reckon_22 : decode cX4_reckon 22 = .ok (.iconst (-1), 1) := by decide +kernel
theorem dX4_reckon_23 : decode cX4_reckon 23 = .ok (.iastore, 1) := by decide +kernel
theorem dX4_reckon_24 : decode cX4_reckon 24 = .ok (.iinc 1 1, 3) := by decide +kernel
theorem dX4_reckon_27 : decode cX4_reckon 27 = .ok (.goto (-17), 3) := by decide +kernel
theorem dX4_reckon_30 : decode cX4_reckon 30 = .ok (.iconst 0, 1) := by decide +kernel
theorem dX4_reckon_31 : decode cX4_reckon 31 = .ok (.istore_n 1, 1) := by decide +kernel
theorem dX4_reckon_32 : decode cX4_reckon 32 = .ok (.iload_n 1, 1) := by decide +kernel
theorem dX4_reckon_33 : decode cX4_reckon 33 = .ok (.aload_n 0, 1) := by decide +kernel
theorem dX4_reckon_34 : decode cX4_reckon 34 = .ok (.getfield 13, 3) := by decide +kernel
theorem dX4_reckon_37 : decode cX4_reckon 37 = .ok (.if_icmp .ge 75, 3) := by decide +kernel
theorem dX4_reckon_40 : decode cX4_reckon 40 = .ok (.aload_n 0, 1) := by decide +kernel
theorem dX4_reckon_41 : decode cX4_reckon 41 = .ok (.iload_n 1, 1) := by decide +kernel
theorem dX4_reckon_42 : decode cX4_reckon 42 = .ok (.iload_n 1, 1) := by decide +kernel
theorem dX4_reckon_43 : decode cX4_reckon 43 = .ok (.invokestatic 73, 3) := by decide +kernel
theorem dX4_reckon_46 : decode cX4_reckon 46 = .ok (.invokevirtual 89, 3) := by decide +kernel
theorem dX4_reckon_49 : decode cX4_reckon 49 = .ok (.aload_n 0, 1) := by decide +kernel
theorem dX4_reckon_50 : decode cX4_reckon 50 = .ok (.iload_n 1, 1) := by decide +kernel
theorem dX4_reckon_51 : decode cX4_reckon 51 = .ok (.iconst 0, 1) := by decide +kernel
theorem dX4_reckon_52 : decode cX4_reckon 52 = .ok (.invokestatic 73, 3) := by decide +kernel
theorem dX4_reckon_55 : decode cX4_reckon 55 = .ok (.invokevirtual 89, 3) := by decide +kernel
theorem dX4_reckon_58 : decode cX4_reckon 58 = .ok (.iconst 0, 1) := by decide +kernel
theorem dX4_reckon_59 : decode cX4_reckon 59 = .ok (.istore_n 2, 1) := by decide +kernel
theorem dX4_reckon_60 : decode cX4_reckon 60 = .ok (.iload_n 2, 1) := by decide +kernel
theorem dX4_reckon_61 : decode cX4_reckon 61 = .ok (.aload_n 0, 1) := by decide +kernel
theorem dX4_reckon_62 : decode cX4_reckon 62 = .ok (.getfield 61, 3) := by decide +kernel
theorem dX4_reckon_65 : decode cX4_reckon 65 = .ok (.if_icmp .ge 41, 3) := by decide +kernel
theorem dX4_reckon_68 : decode cX4_reckon 68 = .ok (.aload_n 0, 1) := by decide +kernel
theorem dX4_reckon_69 : decode cX4_reckon 69 = .ok (.getfield 16, 3) := by decide +kernel
theorem dX4_reckon_72 : decode cX4_reckon 72 = .ok (.iconst 4, 1) := by decide +kernel
theorem dX4_reckon_73 : decode cX4_reckon 73 = .ok (.iload_n 2, 1) := by decide +kernel
theorem dX4_reckon_74 : decode cX4_reckon 74 = .ok (.imul, 1) := by decide +kernel
theorem dX4_reckon_75 : decode cX4_reckon 75 = .ok (.iaload, 1) := by decide +kernel
theorem dX4_reckon_76 : decode cX4_reckon 76 = .ok (.bipush 7, 2) := by decide +kernel
theorem dX4_reckon_78 : decode cX4_reckon 78 = .ok (.if_icmp .ne 22, 3) := by decide +kernel
theorem dX4_reckon_81 : decode cX4_reckon 81 = .ok (.aload_n 0, 1) := by decide +kernel
theorem dX4_reckon_82 : decode cX4_reckon 82 = .ok (.iload_n 1, 1) := by decide +kernel
theorem dX4_reckon_83 : decode cX4_reckon 83 = .ok (.aload_n 0, 1) := by decide +kernel
theorem dX4_reckon_84 : decode cX4_reckon 84 = .ok (.getfield 16, 3) := by decide +kernel
theorem dX4_reckon_87 : decode cX4_reckon 87 = .ok (.iconst 4, 1) := by decide +kernel
theorem dX4_reckon_88 : decode cX4_reckon 88 = .ok (.iload_n 2, 1) := by decide +kernel
theorem dX4_reckon_89 : decode cX4_reckon 89 = .ok (.imul, 1) := by decide +kernel
theorem dX4_reckon_90 : decode cX4_reckon 90 = .ok (.iconst 1, 1) := by decide +kernel
theorem dX4_reckon_91 : decode cX4_reckon 91 = .ok (.iadd, 1) := by decide +kernel
theorem dX4_reckon_92 : decode cX4_reckon 92 = .ok (.iaload, 1) := by decide +kernel
theorem dX4_reckon_93 : decode cX4_reckon 93 = .ok (.iload_n 1, 1) := by decide +kernel
theorem dX4_reckon_94 : decode cX4_reckon 94 = .ok (.invokestatic 81, 3) := by decide +kernel
theorem dX4_reckon_97 : decode cX4_reckon 97 = .ok (.invokevirtual 89, 3) := by decide +kernel
theorem dX4_reckon_100 : decode cX4_reckon 100 = .ok (.iinc 2 1, 3) := by decide +kernel
theorem dX4_reckon_103 : decode cX4_reckon 103 = .ok (.goto (-43), 3) := by decide +kernel
theorem dX4_reckon_106 : decode cX4_reckon 106 = .ok (.iinc 1 1, 3) := by decide +kernel
theorem dX4_reckon_109 : decode cX4_reckon 109 = .ok (.goto (-77), 3) := by decide +kernel
theorem dX4_reckon_112 : decode cX4_reckon 112 = .ok (.aload_n 0, 1) := by decide +kernel
theorem dX4_reckon_113 : decode cX4_reckon 113 = .ok (.iconst 0, 1) := by decide +kernel
theorem dX4_reckon_114 : decode cX4_reckon 114 = .ok (.putfield 64, 3) := by decide +kernel
theorem dX4_reckon_117 : decode cX4_reckon 117 = .ok (.aload_n 0, 1) := by decide +kernel
theorem dX4_reckon_118 : decode cX4_reckon 118 = .ok (.iconst 1, 1) := by decide +kernel
theorem dX4_reckon_119 : decode cX4_reckon 119 = .ok (.putfield 70, 3) := by decide +kernel
theorem dX4_reckon_122 : decode cX4_reckon 122 = .ok (.aload_n 0, 1) := by decide +kernel
theorem dX4_reckon_123 : decode cX4_reckon 123 = .ok (.getfield 70, 3) := by decide +kernel
theorem dX4_reckon_126 : decode cX4_reckon 126 = .ok (.ifCond .le 111, 3) := by decide +kernel
theorem dX4_reckon_129 : decode cX4_reckon 129 = .ok (.aload_n 0, 1) := by decide +kernel
theorem dX4_reckon_130 : decode cX4_reckon 130 = .ok (.iconst 0, 1) := by decide +kernel
theorem dX4_reckon_131 : decode cX4_reckon 131 = .ok (.putfield 70, 3) := by decide +kernel
theorem dX4_reckon_134 : decode cX4_reckon 134 = .ok (.aload_n 0, 1) := by decide +kernel
theorem dX4_reckon_135 : decode cX4_reckon 135 = .ok (.dup, 1) := by decide +kernel
theorem dX4_reckon_136 : decode cX4_reckon 136 = .ok (.getfield 64, 3) := by decide +kernel
theorem dX4_reckon_139 : decode cX4_reckon 139 = .ok (.iconst 1, 1) := by decide +kernel
theorem dX4_reckon_140 : decode cX4_reckon 140 = .ok (.iadd, 1) := by decide +kernel
theorem dX4_reckon_141 : decode cX4_reckon 141 = .ok (.putfield 64, 3) := by decide +kernel
theorem dX4_reckon_144 : decode cX4_reckon 144 = .ok (.iconst 0, 1) := by decide +kernel
theorem dX4_reckon_145 : decode cX4_reckon 145 = .ok (.istore_n 1, 1) := by decide +kernel
theorem dX4_reckon_146 : decode cX4_reckon 146 = .ok (.iload_n 1, 1) := by decide +kernel
theorem dX4_reckon_147 : decode cX4_reckon 147 = .ok (.aload_n 0, 1) := by decide +kernel
theorem dX4_reckon_148 : decode cX4_reckon 148 = .ok (.getfield 13, 3) := by decide +kernel
theorem dX4_reckon_151 : decode cX4_reckon 151 = .ok (.if_icmp .ge 83, 3) := by decide +kernel
theorem dX4_reckon_154 : decode cX4_reckon 154 = .ok (.iconst 0, 1) := by decide +kernel
theorem dX4_reckon_155 : decode cX4_reckon 155 = .ok (.istore_n 2, 1) := by decide +kernel
theorem dX4_reckon_156 : decode cX4_reckon 156 = .ok (.iload_n 2, 1) := by decide +kernel
theorem dX4_reckon_157 : decode cX4_reckon 157 = .ok (.aload_n 0, 1) := by decide +kernel
theorem dX4_reckon_158 : decode cX4_reckon 158 = .ok (.getfield 61, 3) := by decide +kernel
theorem dX4_reckon_161 : decode cX4_reckon 161 = .ok (.if_icmp .ge 15, 3) := by decide +kernel
theorem dX4_reckon_164 : decode cX4_reckon 164 = .ok (.aload_n 0, 1) := by decide +kernel
theorem dX4_reckon_165 : decode cX4_reckon 165 = .ok (.iload_n 2, 1) := by decide +kernel
theorem dX4_reckon_166 : decode cX4_reckon 166 = .ok (.iload_n 1, 1) := by decide +kernel
theorem dX4_reckon_167 : decode cX4_reckon 167 = .ok (.invokevirtual 93, 3) := by decide +kernel
theorem dX4_reckon_170 : decode cX4_reckon 170 = .ok (.iinc 2 1, 3) := by decide +kernel
theorem dX4_reckon_173 : decode cX4_reckon 173 = .ok (.goto (-17), 3) := by decide +kernel
theorem dX4_reckon_176 : decode cX4_reckon 176 = .ok (.iconst 0, 1) := by decide +kernel
theorem dX4_reckon_177 : decode cX4_reckon 177 = .ok (.istore_n 2, 1) := by decide +kernel
theorem dX4_reckon_178 : decode cX4_reckon 178 = .ok (.iload_n 2, 1) := by decide +kernel
theorem dX4_reckon_179 : decode cX4_reckon 179 = .ok (.bipush 6, 2) := by decide +kernel
theorem dX4_reckon_181 : decode cX4_reckon 181 = .ok (.if_icmp .ge 47, 3) := by decide +kernel
theorem dX4_reckon_184 : decode cX4_reckon 184 = .ok (.iconst 0, 1) := by decide +kernel
theorem dX4_reckon_185 : decode cX4_reckon 185 = .ok (.istore_n 3, 1) := by decide +kernel
theorem dX4_reckon_186 : decode cX4_reckon 186 = .ok (.iload_n 3, 1) := by decide +kernel
theorem dX4_reckon_187 : decode cX4_reckon 187 = .ok (.aload_n 0, 1) := by decide +kernel
theorem dX4_reckon_188 : decode cX4_reckon 188 = .ok (.getfield 13, 3) := by decide +kernel
theorem dX4_reckon_191 : decode cX4_reckon 191 = .ok (.if_icmp .ge 31, 3) := by decide +kernel
theorem dX4_reckon_194 : decode cX4_reckon 194 = .ok (.aload_n 0, 1) := by decide +kernel
theorem dX4_reckon_195 : decode cX4_reckon 195 = .ok (.iload_n 1, 1) := by decide +kernel
theorem dX4_reckon_196 : decode cX4_reckon 196 = .ok (.iconst 1, 1) := by decide +kernel
theorem dX4_reckon_197 : decode cX4_reckon 197 = .ok (.invokestatic 73, 3) := by decide +kernel
theorem dX4_reckon_200 : decode cX4_reckon 200 = .ok (.bipush 100, 2) := by decide +kernel
theorem dX4_reckon_202 : decode cX4_reckon 202 = .ok (.iload_n 1, 1) := by decide +kernel
theorem dX4_reckon_203 : decode cX4_reckon 203 = .ok (.iload_n 2, 1) := by decide +kernel
theorem dX4_reckon_204 : decode cX4_reckon 204 = .ok (.iload_n 3, 1) := by decide +kernel
theorem dX4_reckon_205 : decode cX4_reckon 205 = .ok (.invokestatic 81, 3) := by decide +kernel
theorem dX4_reckon_208 : decode cX4_reckon 208 = .ok (.iload_n 3, 1) := by decide +kernel
theorem dX4_reckon_209 : decode cX4_reckon 209 = .ok (.iconst 1, 1) := by decide +kernel
theorem dX4_reckon_210 : decode cX4_reckon 210 = .ok (.invokestatic 73, 3) := by decide +kernel
theorem dX4_reckon_213 : decode cX4_reckon 213 = .ok (.invokevirtual 77, 3) := by decide +kernel
theorem dX4_reckon_216 : decode cX4_reckon 216 = .ok (.iinc 3 1, 3) := by decide +kernel
theorem dX4_reckon_219 : decode cX4_reckon 219 = .ok (.goto (-33), 3) := by decide +kernel
theorem dX4_reckon_222 : decode cX4_reckon 222 = .ok (.iinc 2 1, 3) := by decide +kernel
theorem dX4_reckon_225 : decode cX4_reckon 225 = .ok (.goto (-47), 3) := by decide +kernel
theorem dX4_reckon_228 : decode cX4_reckon 228 = .ok (.iinc 1 1, 3) := by decide +kernel
theorem dX4_reckon_231 : decode cX4_reckon 231 = .ok (.goto (-85), 3) := by decide +kernel
theorem dX4_reckon_234 : decode cX4_reckon 234 = .ok (.goto (-112), 3) := by decide +kernel
theorem dX4_reckon_237 : decode cX4_reckon 237 = .ok (.aload_n 0, 1) := by decide +kernel
theorem dX4_reckon_238 : decode cX4_reckon 238 = .ok (.iconst 0, 1) := by decide +kernel
theorem dX4_reckon_239 : decode cX4_reckon 239 = .ok (.putfield 97, 3) := by decide +kernel
theorem dX4_reckon_242 : decode cX4_reckon 242 = .ok (.iconst 0, 1) := by decide +kernel
theorem dX4_reckon_243 : decode cX4_reckon 243 = .ok (.istore_n 1, 1) := by decide +kernel
theorem dX4_reckon_244 : decode cX4_reckon 244 = .ok (.iload_n 1, 1) := by decide +kernel
theorem dX4_reckon_245 : decode cX4_reckon 245 = .ok (.aload_n 0, 1) := by decide +kernel
theorem dX4_reckon_246 : decode cX4_reckon 246 = .ok (.getfield 64, 3) := by decide +kernel
theorem dX4_reckon_249 : decode cX4_reckon 249 = .ok (.if_icmp .ge 57, 3) := by decide +kernel
theorem dX4_reckon_252 : decode cX4_reckon 252 = .ok (.iconst 0, 1) := by decide +kernel
theorem dX4_reckon_253 : decode cX4_reckon 253 = .ok (.istore_n 2, 1) := by decide +kernel
theorem dX4_reckon_254 : decode cX4_reckon 254 = .ok (.iload_n 2, 1) := by decide +kernel
theorem dX4_reckon_255 : decode cX4_reckon 255 = .ok (.sipush 4032, 3) := by decide +kernel
theorem dX4_reckon_258 : decode cX4_reckon 258 = .ok (.if_icmp .ge 42, 3) := by decide +kernel
theorem dX4_reckon_261 : decode cX4_reckon 261 = .ok (.aload_n 0, 1) := by decide +kernel
theorem dX4_reckon_262 : decode cX4_reckon 262 = .ok (.getfield 20, 3) := by decide +kernel
theorem dX4_reckon_265 : decode cX4_reckon 265 = .ok (.iload_n 2, 1) := by decide +kernel
theorem dX4_reckon_266 : decode cX4_reckon 266 = .ok (.iaload, 1) := by decide +kernel
theorem dX4_reckon_267 : decode cX4_reckon 267 = .ok (.iload_n 1, 1) := by decide +kernel
theorem dX4_reckon_268 : decode cX4_reckon 268 = .ok (.if_icmp .eq 6, 3) := by decide +kernel
theorem dX4_reckon_271 : decode cX4_reckon 271 = .ok (.goto 23, 3) := by decide +kernel
theorem dX4_reckon_274 : decode cX4_reckon 274 = .ok (.aload_n 0, 1) := by decide +kernel
theorem dX4_reckon_275 : decode cX4_reckon 275 = .ok (.getfield 32, 3) := by decide +kernel
theorem dX4_reckon_278 : decode cX4_reckon 278 = .ok (.aload_n 0, 1) := by decide +kernel
theorem dX4_reckon_279 : decode cX4_reckon 279 = .ok (.getfield 97, 3) := by decide +kernel
theorem dX4_reckon_282 : decode cX4_reckon 282 = .ok (.iload_n 2, 1) := by decide +kernel
theorem dX4_reckon_283 : decode cX4_reckon 283 = .ok (.iastore, 1) := by decide +kernel
theorem dX4_reckon_284 : decode cX4_reckon 284 = .ok (.aload_n 0, 1) := by decide +kernel
theorem dX4_reckon_285 : decode cX4_reckon 285 = .ok (.dup, 1) := by decide +kernel
theorem dX4_reckon_286 : decode cX4_reckon 286 = .ok (.getfield 97, 3) := by decide +kernel
theorem dX4_reckon_289 : decode cX4_reckon 289 = .ok (.iconst 1, 1) := by decide +kernel
theorem dX4_reckon_290 : decode cX4_reckon 290 = .ok (.iadd, 1) := by decide +kernel
theorem dX4_reckon_291 : decode cX4_reckon 291 = .ok (.putfield 97, 3) := by decide +kernel
theorem dX4_reckon_294 : decode cX4_reckon 294 = .ok (.iinc 2 1, 3) := by decide +kernel
theorem dX4_reckon_297 : decode cX4_reckon 297 = .ok (.goto (-43), 3) := by decide +kernel
theorem dX4_reckon_300 : decode cX4_reckon 300 = .ok (.iinc 1 1, 3) := by decide +kernel
theorem dX4_reckon_303 : decode cX4_reckon 303 = .ok (.goto (-59), 3) := by decide +kernel
theorem dX4_reckon_306 : decode cX4_reckon 306 = .ok (.aload_n 0, 1) := by decide +kernel
theorem dX4_reckon_307 : decode cX4_reckon 307 = .ok (.iconst 1, 1) := by decide +kernel
theorem dX4_reckon_308 : decode cX4_reckon 308 = .ok (.putfield 42, 3) := by decide +kernel
theorem dX4_reckon_311 : decode cX4_reckon 311 = .ok (.return_, 1) := by decide +kernel
theorem dX4_follows_0 : decode cX4_follows 0 = .ok (.aload_n 0, 1) := by decide +kernel
theorem dX4_follows_1 : decode cX4_follows 1 = .ok (.invokevirtual 100, 3) := by decide +kernel
theorem dX4_follows_4 : decode cX4_follows 4 = .ok (.iload_n 1, 1) := by decide +kernel
theorem dX4_follows_5 : decode cX4_follows 5 = .ok (.ifCond .lt 23, 3) := by decide +kernel
theorem dX4_follows_8 : decode cX4_follows 8 = .ok (.iload_n 1, 1) := by decide +kernel
theorem dX4_follows_9 : decode cX4_follows 9 = .ok (.sipush 4032, 3) := by decide +kernel
theorem dX4_follows_12 : decode cX4_follows 12 = .ok (.if_icmp .ge 16, 3) := by decide +kernel
theorem dX4_follows_15 : decode cX4_follows 15 = .ok (.aload_n 0, 1) := by decide +kernel
theorem dX4_follows_16 : decode cX4_follows 16 = .ok (.getfield 20, 3) := by decide +kernel
theorem dX4_follows_19 : decode cX4_follows 19 = .ok (.iload_n 1, 1) := by decide +kernel
theorem dX4_follows_20 : decode cX4_follows 20 = .ok (.iaload, 1) := by decide +kernel
theorem dX4_follows_21 : decode cX4_follows 21 = .ok (.ifCond .lt 7, 3) := by decide +kernel
theorem dX4_follows_24 : decode cX4_follows 24 = .ok (.iconst 1, 1) := by decide +kernel
theorem dX4_follows_25 : decode cX4_follows 25 = .ok (.goto 4, 3) := by decide +kernel
theorem dX4_follows_28 : decode cX4_follows 28 = .ok (.iconst 0, 1) := by decide +kernel
theorem dX4_follows_29 : decode cX4_follows 29 = .ok (.ireturn, 1) := by decide +kernel
theorem dX4_sub_0 : decode cX4_sub 0 = .ok (.aload_n 0, 1) := by decide +kernel
theorem dX4_sub_1 : decode cX4_sub 1 = .ok (.iconst 0, 1) := by decide +kernel
theorem dX4_sub_2 : decode cX4_sub 2 = .ok (.putfield 1, 3) := by decide +kernel
theorem dX4_sub_5 : decode cX4_sub 5 = .ok (.aload_n 0, 1) := by decide +kernel
theorem dX4_sub_6 : decode cX4_sub 6 = .ok (.iload_n 1, 1) := by decide +kernel
theorem dX4_sub_7 : decode cX4_sub 7 = .ok (.invokevirtual 46, 3) := by decide +kernel
theorem dX4_sub_10 : decode cX4_sub 10 = .ok (.ifCond .eq 11, 3) := by decide +kernel
theorem dX4_sub_13 : decode cX4_sub 13 = .ok (.aload_n 0, 1) := by decide +kernel
theorem dX4_sub_14 : decode cX4_sub 14 = .ok (.iload_n 2, 1) := by decide +kernel
theorem dX4_sub_15 : decode cX4_sub 15 = .ok (.invokevirtual 46, 3) := by decide +kernel
theorem dX4_sub_18 : decode cX4_sub 18 = .ok (.ifCond .ne 7, 3) := by decide +kernel
theorem dX4_sub_21 : decode cX4_sub 21 = .ok (.iconst (-1), 1) := by decide +kernel
theorem dX4_sub_22 : decode cX4_sub 22 = .ok (.goto 20, 3) := by decide +kernel
theorem dX4_sub_25 : decode cX4_sub 25 = .ok (.aload_n 0, 1) := by decide +kernel
theorem dX4_sub_26 : decode cX4_sub 26 = .ok (.iload_n 1, 1) := by decide +kernel
theorem dX4_sub_27 : decode cX4_sub 27 = .ok (.iload_n 2, 1) := by decide +kernel
theorem dX4_sub_28 : decode cX4_sub 28 = .ok (.invokestatic 73, 3) := by decide +kernel
theorem dX4_sub_31 : decode cX4_sub 31 = .ok (.invokevirtual 103, 3) := by decide +kernel
theorem dX4_sub_34 : decode cX4_sub 34 = .ok (.ifCond .eq 7, 3) := by decide +kernel
theorem dX4_sub_37 : decode cX4_sub 37 = .ok (.iconst 1, 1) := by decide +kernel
theorem dX4_sub_38 : decode cX4_sub 38 = .ok (.goto 4, 3) := by decide +kernel
theorem dX4_sub_41 : decode cX4_sub 41 = .ok (.iconst 0, 1) := by decide +kernel
theorem dX4_sub_42 : decode cX4_sub 42 = .ok (.ireturn, 1) := by decide +kernel
theorem dX4_link_0 : decode cX4_link 0 = .ok (.aload_n 0, 1) := by decide +kernel
theorem dX4_link_1 : decode cX4_link 1 = .ok (.iconst 0, 1) := by decide +kernel
theorem dX4_link_2 : decode cX4_link 2 = .ok (.putfield 1, 3) := by decide +kernel
theorem dX4_link_5 : decode cX4_link 5 = .ok (.aload_n 0, 1) := by decide +kernel
theorem dX4_link_6 : decode cX4_link 6 = .ok (.iload_n 1, 1) := by decide +kernel
theorem dX4_link_7 : decode cX4_link 7 = .ok (.invokevirtual 46, 3) := by decide +kernel
theorem dX4_link_10 : decode cX4_link 10 = .ok (.ifCond .eq 18, 3) := by decide +kernel
theorem dX4_link_13 : decode cX4_link 13 = .ok (.aload_n 0, 1) := by decide +kernel
theorem dX4_link_14 : decode cX4_link 14 = .ok (.iload_n 3, 1) := by decide +kernel
theorem dX4_link_15 : decode cX4_link 15 = .ok (.invokevirtual 46, 3) := by decide +kernel
theorem dX4_link_18 : decode cX4_link 18 = .ok (.ifCond .eq 10, 3) := by decide +kernel
theorem dX4_link_21 : decode cX4_link 21 = .ok (.iload_n 2, 1) := by decide +kernel
theorem dX4_link_22 : decode cX4_link 22 = .ok (.invokestatic 50, 3) := by decide +kernel
theorem dX4_link_25 : decode cX4_link 25 = .ok (.ifCond .ne 7, 3) := by decide +kernel
theorem dX4_link_28 : decode cX4_link 28 = .ok (.iconst (-1), 1) := by decide +kernel
theorem dX4_link_29 : decode cX4_link 29 = .ok (.goto 21, 3) := by decide +kernel
theorem dX4_link_32 : decode cX4_link 32 = .ok (.aload_n 0, 1) := by decide +kernel
theorem dX4_link_33 : decode cX4_link 33 = .ok (.iload_n 1, 1) := by decide +kernel
theorem dX4_link_34 : decode cX4_link 34 = .ok (.iload_n 2, 1) := by decide +kernel
theorem dX4_link_35 : decode cX4_link 35 = .ok (.iload_n 3, 1) := by decide +kernel
theorem dX4_link_36 : decode cX4_link 36 = .ok (.invokestatic 81, 3) := by decide +kernel
theorem dX4_link_39 : decode cX4_link 39 = .ok (.invokevirtual 103, 3) := by decide +kernel
theorem dX4_link_42 : decode cX4_link 42 = .ok (.ifCond .eq 7, 3) := by decide +kernel
theorem dX4_link_45 : decode cX4_link 45 = .ok (.iconst 1, 1) := by decide +kernel
theorem dX4_link_46 : decode cX4_link 46 = .ok (.goto 4, 3) := by decide +kernel
theorem dX4_link_49 : decode cX4_link 49 = .ok (.iconst 0, 1) := by decide +kernel
theorem dX4_link_50 : decode cX4_link 50 = .ok (.ireturn, 1) := by decide +kernel
theorem dX4_rounds_0 : decode cX4_rounds 0 = .ok (.aload_n 0, 1) := by decide +kernel
theorem dX4_rounds_1 : decode cX4_rounds 1 = .ok (.iconst 0, 1) := by decide +kernel
theorem dX4_rounds_2 : decode cX4_rounds 2 = .ok (.putfield 1, 3) := by decide +kernel
theorem dX4_rounds_5 : decode cX4_rounds 5 = .ok (.aload_n 0, 1) := by decide +kernel
theorem dX4_rounds_6 : decode cX4_rounds 6 = .ok (.invokevirtual 100, 3) := by decide +kernel
theorem dX4_rounds_9 : decode cX4_rounds 9 = .ok (.aload_n 0, 1) := by decide +kernel
theorem dX4_rounds_10 : decode cX4_rounds 10 = .ok (.getfield 64, 3) := by decide +kernel
theorem dX4_rounds_13 : decode cX4_rounds 13 = .ok (.ireturn, 1) := by decide +kernel
theorem dX4_facts_0 : decode cX4_facts 0 = .ok (.aload_n 0, 1) := by decide +kernel
theorem dX4_facts_1 : decode cX4_facts 1 = .ok (.iconst 0, 1) := by decide +kernel
theorem dX4_facts_2 : decode cX4_facts 2 = .ok (.putfield 1, 3) := by decide +kernel
theorem dX4_facts_5 : decode cX4_facts 5 = .ok (.aload_n 0, 1) := by decide +kernel
theorem dX4_facts_6 : decode cX4_facts 6 = .ok (.invokevirtual 100, 3) := by decide +kernel
theorem dX4_facts_9 : decode cX4_facts 9 = .ok (.aload_n 0, 1) := by decide +kernel
theorem dX4_facts_10 : decode cX4_facts 10 = .ok (.getfield 97, 3) := by decide +kernel
theorem dX4_facts_13 : decode cX4_facts 13 = .ok (.ireturn, 1) := by decide +kernel
theorem dX4_fact_0 : decode cX4_fact 0 = .ok (.aload_n 0, 1) := by decide +kernel
theorem dX4_fact_1 : decode cX4_fact 1 = .ok (.invokevirtual 100, 3) := by decide +kernel
theorem dX4_fact_4 : decode cX4_fact 4 = .ok (.aload_n 0, 1) := by decide +kernel
theorem dX4_fact_5 : decode cX4_fact 5 = .ok (.iload_n 1, 1) := by decide +kernel
theorem dX4_fact_6 : decode cX4_fact 6 = .ok (.ifCond .lt 15, 3) := by decide +kernel
theorem dX4_fact_9 : decode cX4_fact 9 = .ok (.iload_n 1, 1) := by decide +kernel
theorem dX4_fact_10 : decode cX4_fact 10 = .ok (.aload_n 0, 1) := by decide +kernel
theorem dX4_fact_11 : decode cX4_fact 11 = .ok (.getfield 97, 3) := by decide +kernel
theorem dX4_fact_14 : decode cX4_fact 14 = .ok (.if_icmp .ge 7, 3) := by decide +kernel
theorem dX4_fact_17 : decode cX4_fact 17 = .ok (.iconst 0, 1) := by decide +kernel
theorem dX4_fact_18 : decode cX4_fact 18 = .ok (.goto 4, 3) := by decide +kernel
theorem dX4_fact_21 : decode cX4_fact 21 = .ok (.iconst 1, 1) := by decide +kernel
theorem dX4_fact_22 : decode cX4_fact 22 = .ok (.putfield 1, 3) := by decide +kernel
theorem dX4_fact_25 : decode cX4_fact 25 = .ok (.aload_n 0, 1) := by decide +kernel
theorem dX4_fact_26 : decode cX4_fact 26 = .ok (.getfield 1, 3) := by decide +kernel
theorem dX4_fact_29 : decode cX4_fact 29 = .ok (.ifCond .ne 12, 3) := by decide +kernel
theorem dX4_fact_32 : decode cX4_fact 32 = .ok (.aload_n 0, 1) := by decide +kernel
theorem dX4_fact_33 : decode cX4_fact 33 = .ok (.getfield 32, 3) := by decide +kernel
theorem dX4_fact_36 : decode cX4_fact 36 = .ok (.iload_n 1, 1) := by decide +kernel
theorem dX4_fact_37 : decode cX4_fact 37 = .ok (.iaload, 1) := by decide +kernel
theorem dX4_fact_38 : decode cX4_fact 38 = .ok (.goto 4, 3) := by decide +kernel
theorem dX4_fact_41 : decode cX4_fact 41 = .ok (.iconst 0, 1) := by decide +kernel
theorem dX4_fact_42 : decode cX4_fact 42 = .ok (.ireturn, 1) := by decide +kernel
theorem dX4_told_0 : decode cX4_told 0 = .ok (.aload_n 0, 1) := by decide +kernel
theorem dX4_told_1 : decode cX4_told 1 = .ok (.iconst 0, 1) := by decide +kernel
theorem dX4_told_2 : decode cX4_told 2 = .ok (.putfield 1, 3) := by decide +kernel
theorem dX4_told_5 : decode cX4_told 5 = .ok (.aload_n 0, 1) := by decide +kernel
theorem dX4_told_6 : decode cX4_told 6 = .ok (.iload_n 1, 1) := by decide +kernel
theorem dX4_told_7 : decode cX4_told 7 = .ok (.invokevirtual 103, 3) := by decide +kernel
theorem dX4_told_10 : decode cX4_told 10 = .ok (.ifCond .ne 5, 3) := by decide +kernel
theorem dX4_told_13 : decode cX4_told 13 = .ok (.iconst (-1), 1) := by decide +kernel
theorem dX4_told_14 : decode cX4_told 14 = .ok (.ireturn, 1) := by decide +kernel
theorem dX4_told_15 : decode cX4_told 15 = .ok (.iload_n 2, 1) := by decide +kernel
theorem dX4_told_16 : decode cX4_told 16 = .ok (.tableswitch 60 0 3 #[32, 39, 46, 53], 32) := by decide +kernel
theorem dX4_told_48 : decode cX4_told 48 = .ok (.aload_n 0, 1) := by decide +kernel
theorem dX4_told_49 : decode cX4_told 49 = .ok (.getfield 20, 3) := by decide +kernel
theorem dX4_told_52 : decode cX4_told 52 = .ok (.iload_n 1, 1) := by decide +kernel
theorem dX4_told_53 : decode cX4_told 53 = .ok (.iaload, 1) := by decide +kernel
theorem dX4_told_54 : decode cX4_told 54 = .ok (.ireturn, 1) := by decide +kernel
theorem dX4_told_55 : decode cX4_told 55 = .ok (.aload_n 0, 1) := by decide +kernel
theorem dX4_told_56 : decode cX4_told 56 = .ok (.getfield 23, 3) := by decide +kernel
theorem dX4_told_59 : decode cX4_told 59 = .ok (.iload_n 1, 1) := by decide +kernel
theorem dX4_told_60 : decode cX4_told 60 = .ok (.iaload, 1) := by decide +kernel
theorem dX4_told_61 : decode cX4_told 61 = .ok (.ireturn, 1) := by decide +kernel
theorem dX4_told_62 : decode cX4_told 62 = .ok (.aload_n 0, 1) := by decide +kernel
theorem dX4_told_63 : decode cX4_told 63 = .ok (.getfield 26, 3) := by decide +kernel
theorem dX4_told_66 : decode cX4_told 66 = .ok (.iload_n 1, 1) := by decide +kernel
theorem dX4_told_67 : decode cX4_told 67 = .ok (.iaload, 1) := by decide +kernel
theorem dX4_told_68 : decode cX4_told 68 = .ok (.ireturn, 1) := by decide +kernel
theorem dX4_told_69 : decode cX4_told 69 = .ok (.aload_n 0, 1) := by decide +kernel
theorem dX4_told_70 : decode cX4_told 70 = .ok (.getfield 29, 3) := by decide +kernel
theorem dX4_told_73 : decode cX4_told 73 = .ok (.iload_n 1, 1) := by decide +kernel
theorem dX4_told_74 : decode cX4_told 74 = .ok (.iaload, 1) := by decide +kernel
theorem dX4_told_75 : decode cX4_told 75 = .ok (.ireturn, 1) := by decide +kernel
theorem dX4_told_76 : decode cX4_told 76 = .ok (.iconst (-1), 1) := by decide +kernel
theorem dX4_told_77 : decode cX4_told 77 = .ok (.ireturn, 1) := by decide +kernel
theorem dX4_trace_0 : decode cX4_trace 0 = .ok (.aload_n 0, 1) := by decide +kernel
theorem dX4_trace_1 : decode cX4_trace 1 = .ok (.iconst 0, 1) := by decide +kernel
theorem dX4_trace_2 : decode cX4_trace 2 = .ok (.putfield 1, 3) := by decide +kernel
theorem dX4_trace_5 : decode cX4_trace 5 = .ok (.aload_n 0, 1) := by decide +kernel
theorem dX4_trace_6 : decode cX4_trace 6 = .ok (.iconst 0, 1) := by decide +kernel
theorem dX4_trace_7 : decode cX4_trace 7 = .ok (.putfield 106, 3) := by decide +kernel
theorem dX4_trace_10 : decode cX4_trace 10 = .ok (.aload_n 0, 1) := by decide +kernel
theorem dX4_trace_11 : decode cX4_trace 11 = .ok (.iload_n 1, 1) := by decide +kernel
theorem dX4_trace_12 : decode cX4_trace 12 = .ok (.invokevirtual 103, 3) := by decide +kernel
theorem dX4_trace_15 : decode cX4_trace 15 = .ok (.ifCond .ne 5, 3) := by decide +kernel
theorem dX4_trace_18 : decode cX4_trace 18 = .ok (.iconst 0, 1) := by decide +kernel
theorem dX4_trace_19 : decode cX4_trace 19 = .ok (.ireturn, 1) := by decide +kernel
theorem dX4_trace_20 : decode cX4_trace 20 = .ok (.iconst 0, 1) := by decide +kernel
theorem dX4_trace_21 : decode cX4_trace 21 = .ok (.istore_n 2, 1) := by decide +kernel
theorem dX4_trace_22 : decode cX4_trace 22 = .ok (.iload_n 2, 1) := by decide +kernel
theorem dX4_trace_23 : decode cX4_trace 23 = .ok (.sipush 4032, 3) := by decide +kernel
theorem dX4_trace_26 : decode cX4_trace 26 = .ok (.if_icmp .ge 25, 3) := by decide +kernel
theorem dX4_trace_29 : decode cX4_trace 29 = .ok (.aload_n 0, 1) := by decide +kernel
theorem dX4_trace_30 : decode cX4_trace 30 = .ok (.getfield 38, 3) := by decide +kernel
theorem dX4_trace_33 : decode cX4_trace 33 = .ok (.iload_n 2, 1) := by decide +kernel
theorem dX4_trace_34 : decode cX4_trace 34 = .ok (.iload_n 2, 1) := by decide +kernel
theorem dX4_trace_35 : decode cX4_trace 35 = .ok (.iload_n 1, 1) := by decide +kernel
theorem dX4_trace_36 : decode cX4_trace 36 = .ok (.if_icmp .ne 7, 3) := by decide +kernel
theorem dX4_trace_39 : decode cX4_trace 39 = .ok (.iconst 1, 1) := by decide +kernel
theorem dX4_trace_40 : decode cX4_trace 40 = .ok (.goto 4, 3) := by decide +kernel
theorem dX4_trace_43 : decode cX4_trace 43 = .ok (.iconst 0, 1) := by decide +kernel
theorem dX4_trace_44 : decode cX4_trace 44 = .ok (.bastore, 1) := by decide +kernel
theorem dX4_trace_45 : decode cX4_trace 45 = .ok (.iinc 2 1, 3) := by decide +kernel
theorem dX4_trace_48 : decode cX4_trace 48 = .ok (.goto (-26), 3) := by decide +kernel
theorem dX4_trace_51 : decode cX4_trace 51 = .ok (.iconst 1, 1) := by decide +kernel
theorem dX4_trace_52 : decode cX4_trace 52 = .ok (.istore_n 2, 1) := by decide +kernel
theorem dX4_trace_53 : decode cX4_trace 53 = .ok (.iload_n 2, 1) := by decide +kernel
theorem dX4_trace_54 : decode cX4_trace 54 = .ok (.ifCond .eq 102, 3) := by decide +kernel
theorem dX4_trace_57 : decode cX4_trace 57 = .ok (.iconst 0, 1) := by decide +kernel
theorem dX4_trace_58 : decode cX4_trace 58 = .ok (.istore_n 2, 1) := by decide +kernel
theorem dX4_trace_59 : decode cX4_trace 59 = .ok (.iconst 0, 1) := by decide +kernel
theorem dX4_trace_60 : decode cX4_trace 60 = .ok (.istore_n 3, 1) := by decide +kernel
theorem dX4_trace_61 : decode cX4_trace 61 = .ok (.iload_n 3, 1) := by decide +kernel
theorem dX4_trace_62 : decode cX4_trace 62 = .ok (.sipush 4032, 3) := by decide +kernel
theorem dX4_trace_65 : decode cX4_trace 65 = .ok (.if_icmp .ge 41, 3) := by decide +kernel
theorem dX4_trace_68 : decode cX4_trace 68 = .ok (.aload_n 0, 1) := by decide +kernel
theorem dX4_trace_69 : decode cX4_trace 69 = .ok (.getfield 38, 3) := by decide +kernel
theorem dX4_trace_72 : decode cX4_trace 72 = .ok (.iload_n 3, 1) := by decide +kernel
theorem dX4_trace_73 : decode cX4_trace 73 = .ok (.baload, 1) := by decide +kernel
theorem dX4_trace_74 : decode cX4_trace 74 = .ok (.ifCond .eq 16, 3) := by decide +kernel
theorem dX4_trace_77 : decode cX4_trace 77 = .ok (.aload_n 0, 1) := by decide +kernel
theorem dX4_trace_78 : decode cX4_trace 78 = .ok (.aload_n 0, 1) := by decide +kernel
theorem dX4_trace_79 : decode cX4_trace 79 = .ok (.getfield 26, 3) := by decide +kernel
theorem dX4_trace_82 : decode cX4_trace 82 = .ok (.iload_n 3, 1) := by decide +kernel
theorem dX4_trace_83 : decode cX4_trace 83 = .ok (.iaload, 1) := by decide +kernel
theorem dX4_trace_84 : decode cX4_trace 84 = .ok (.invokevirtual 109, 3) := by decide +kernel
theorem dX4_trace_87 : decode cX4_trace 87 = .ok (.ifCond .ne 7, 3) := by decide +kernel
theorem dX4_trace_90 : decode cX4_trace 90 = .ok (.iload_n 2, 1) := by decide +kernel
theorem dX4_trace_91 : decode cX4_trace 91 = .ok (.ifCond .eq 7, 3) := by decide +kernel
theorem dX4_trace_94 : decode cX4_trace 94 = .ok (.iconst 1, 1) := by decide +kernel
theorem dX4_trace_95 : decode cX4_trace 95 = .ok (.goto 4, 3) := by decide +kernel
theorem dX4_trace_98 : decode cX4_trace 98 = .ok (.iconst 0, 1) := by decide +kernel
theorem dX4_trace_99 : decode cX4_trace 99 = .ok (.istore_n 2, 1) := by decide +kernel
theorem dX4_trace_100 : decode cX4_trace 100 = .ok (.iinc 3 1, 3) := by decide +kernel
theorem dX4_trace_103 : decode cX4_trace 103 = .ok (.goto (-42), 3) := by decide +kernel
theorem dX4_trace_106 : decode cX4_trace 106 = .ok (.iconst 0, 1) := by decide +kernel
theorem dX4_trace_107 : decode cX4_trace 107 = .ok (.istore_n 3, 1) := by decide +kernel
theorem dX4_trace_108 : decode cX4_trace 108 = .ok (.iload_n 3, 1) := by decide +kernel
theorem dX4_trace_109 : decode cX4_trace 109 = .ok (.sipush 4032, 3) := by decide +kernel
theorem dX4_trace_112 : decode cX4_trace 112 = .ok (.if_icmp .ge 41, 3) := by decide +kernel
theorem dX4_trace_115 : decode cX4_trace 115 = .ok (.aload_n 0, 1) := by decide +kernel
theorem dX4_trace_116 : decode cX4_trace 116 = .ok (.getfield 38, 3) := by decide +kernel
theorem dX4_trace_119 : decode cX4_trace 119 = .ok (.iload_n 3, 1) := by decide +kernel
theorem dX4_trace_120 : decode cX4_trace 120 = .ok (.baload, 1) := by decide +kernel
theorem dX4_trace_121 : decode cX4_trace 121 = .ok (.ifCond .eq 16, 3) := by decide +kernel
theorem dX4_trace_124 : decode cX4_trace 124 = .ok (.aload_n 0, 1) := by decide +kernel
theorem dX4_trace_125 : decode cX4_trace 125 = .ok (.aload_n 0, 1) := by decide +kernel
theorem dX4_trace_126 : decode cX4_trace 126 = .ok (.getfield 29, 3) := by decide +kernel
theorem dX4_trace_129 : decode cX4_trace 129 = .ok (.iload_n 3, 1) := by decide +kernel
theorem dX4_trace_130 : decode cX4_trace 130 = .ok (.iaload, 1) := by decide +kernel
theorem dX4_trace_131 : decode cX4_trace 131 = .ok (.invokevirtual 109, 3) := by decide +kernel
theorem dX4_trace_134 : decode cX4_trace 134 = .ok (.ifCond .ne 7, 3) := by decide +kernel
theorem dX4_trace_137 : decode cX4_trace 137 = .ok (.iload_n 2, 1) := by decide +kernel
theorem dX4_trace_138 : decode cX4_trace 138 = .ok (.ifCond .eq 7, 3) := by decide +kernel
theorem dX4_trace_141 : decode cX4_trace 141 = .ok (.iconst 1, 1) := by decide +kernel
theorem dX4_trace_142 : decode cX4_trace 142 = .ok (.goto 4, 3) := by decide +kernel
theorem dX4_trace_145 : decode cX4_trace 145 = .ok (.iconst 0, 1) := by decide +kernel
theorem dX4_trace_146 : decode cX4_trace 146 = .ok (.istore_n 2, 1) := by decide +kernel
theorem dX4_trace_147 : decode cX4_trace 147 = .ok (.iinc 3 1, 3) := by decide +kernel
theorem dX4_trace_150 : decode cX4_trace 150 = .ok (.goto (-42), 3) := by decide +kernel
theorem dX4_trace_153 : decode cX4_trace 153 = .ok (.goto (-100), 3) := by decide +kernel
theorem dX4_trace_156 : decode cX4_trace 156 = .ok (.iconst 0, 1) := by decide +kernel
theorem dX4_trace_157 : decode cX4_trace 157 = .ok (.istore_n 3, 1) := by decide +kernel
theorem dX4_trace_158 : decode cX4_trace 158 = .ok (.iload_n 3, 1) := by decide +kernel
theorem dX4_trace_159 : decode cX4_trace 159 = .ok (.aload_n 0, 1) := by decide +kernel
theorem dX4_trace_160 : decode cX4_trace 160 = .ok (.getfield 97, 3) := by decide +kernel
theorem dX4_trace_163 : decode cX4_trace 163 = .ok (.if_icmp .ge 51, 3) := by decide +kernel
theorem dX4_trace_166 : decode cX4_trace 166 = .ok (.aload_n 0, 1) := by decide +kernel
theorem dX4_trace_167 : decode cX4_trace 167 = .ok (.getfield 38, 3) := by decide +kernel
theorem dX4_trace_170 : decode cX4_trace 170 = .ok (.aload_n 0, 1) := by decide +kernel
theorem dX4_trace_171 : decode cX4_trace 171 = .ok (.getfield 32, 3) := by decide +kernel
theorem dX4_trace_174 : decode cX4_trace 174 = .ok (.iload_n 3, 1) := by decide +kernel
theorem dX4_trace_175 : decode cX4_trace 175 = .ok (.iaload, 1) := by decide +kernel
theorem dX4_trace_176 : decode cX4_trace 176 = .ok (.baload, 1) := by decide +kernel
theorem dX4_trace_177 : decode cX4_trace 177 = .ok (.ifCond .ne 6, 3) := by decide +kernel
theorem dX4_trace_180 : decode cX4_trace 180 = .ok (.goto 28, 3) := by decide +kernel
theorem dX4_trace_183 : decode cX4_trace 183 = .ok (.aload_n 0, 1) := by decide +kernel
theorem dX4_trace_184 : decode cX4_trace 184 = .ok (.getfield 35, 3) := by decide +kernel
theorem dX4_trace_187 : decode cX4_trace 187 = .ok (.aload_n 0, 1) := by decide +kernel
theorem dX4_trace_188 : decode cX4_trace 188 = .ok (.getfield 106, 3) := by decide +kernel
theorem dX4_trace_191 : decode cX4_trace 191 = .ok (.aload_n 0, 1) := by decide +kernel
theorem dX4_trace_192 : decode cX4_trace 192 = .ok (.getfield 32, 3) := by decide +kernel
theorem dX4_trace_195 : decode cX4_trace 195 = .ok (.iload_n 3, 1) := by decide +kernel
theorem dX4_trace_196 : decode cX4_trace 196 = .ok (.iaload, 1) := by decide +kernel
theorem dX4_trace_197 : decode cX4_trace 197 = .ok (.iastore, 1) := by decide +kernel
theorem dX4_trace_198 : decode cX4_trace 198 = .ok (.aload_n 0, 1) := by decide +kernel
theorem dX4_trace_199 : decode cX4_trace 199 = .ok (.dup, 1) := by decide +kernel
theorem dX4_trace_200 : decode cX4_trace 200 = .ok (.getfield 106, 3) := by decide +kernel
theorem dX4_trace_203 : decode cX4_trace 203 = .ok (.iconst 1, 1) := by decide +kernel
theorem dX4_trace_204 : decode cX4_trace 204 = .ok (.iadd, 1) := by decide +kernel
theorem dX4_trace_205 : decode cX4_trace 205 = .ok (.putfield 106, 3) := by decide +kernel
theorem dX4_trace_208 : decode cX4_trace 208 = .ok (.iinc 3 1, 3) := by decide +kernel
theorem dX4_trace_211 : decode cX4_trace 211 = .ok (.goto (-53), 3) := by decide +kernel
theorem dX4_trace_214 : decode cX4_trace 214 = .ok (.aload_n 0, 1) := by decide +kernel
theorem dX4_trace_215 : decode cX4_trace 215 = .ok (.getfield 106, 3) := by decide +kernel
theorem dX4_trace_218 : decode cX4_trace 218 = .ok (.ireturn, 1) := by decide +kernel
theorem dX4_want_0 : decode cX4_want 0 = .ok (.iload_n 1, 1) := by decide +kernel
theorem dX4_want_1 : decode cX4_want 1 = .ok (.ifCond .lt 12, 3) := by decide +kernel
theorem dX4_want_4 : decode cX4_want 4 = .ok (.aload_n 0, 1) := by decide +kernel
theorem dX4_want_5 : decode cX4_want 5 = .ok (.getfield 38, 3) := by decide +kernel
theorem dX4_want_8 : decode cX4_want 8 = .ok (.iload_n 1, 1) := by decide +kernel
theorem dX4_want_9 : decode cX4_want 9 = .ok (.baload, 1) := by decide +kernel
theorem dX4_want_10 : decode cX4_want 10 = .ok (.ifCond .eq 5, 3) := by decide +kernel
theorem dX4_want_13 : decode cX4_want 13 = .ok (.iconst 0, 1) := by decide +kernel
theorem dX4_want_14 : decode cX4_want 14 = .ok (.ireturn, 1) := by decide +kernel
theorem dX4_want_15 : decode cX4_want 15 = .ok (.aload_n 0, 1) := by decide +kernel
theorem dX4_want_16 : decode cX4_want 16 = .ok (.getfield 38, 3) := by decide +kernel
theorem dX4_want_19 : decode cX4_want 19 = .ok (.iload_n 1, 1) := by decide +kernel
theorem dX4_want_20 : decode cX4_want 20 = .ok (.iconst 1, 1) := by decide +kernel
theorem dX4_want_21 : decode cX4_want 21 = .ok (.bastore, 1) := by decide +kernel
theorem dX4_want_22 : decode cX4_want 22 = .ok (.iconst 1, 1) := by decide +kernel
theorem dX4_want_23 : decode cX4_want 23 = .ok (.ireturn, 1) := by decide +kernel
theorem dX4_row_0 : decode cX4_row 0 = .ok (.aload_n 0, 1) := by decide +kernel
theorem dX4_row_1 : decode cX4_row 1 = .ok (.iconst 0, 1) := by decide +kernel
theorem dX4_row_2 : decode cX4_row 2 = .ok (.putfield 1, 3) := by decide +kernel
theorem dX4_row_5 : decode cX4_row 5 = .ok (.iload_n 1, 1) := by decide +kernel
theorem dX4_row_6 : decode cX4_row 6 = .ok (.ifCond .lt 20, 3) := by decide +kernel
theorem dX4_row_9 : decode cX4_row 9 = .ok (.iload_n 1, 1) := by decide +kernel
theorem dX4_row_10 : decode cX4_row 10 = .ok (.aload_n 0, 1) := by decide +kernel
theorem dX4_row_11 : decode cX4_row 11 = .ok (.getfield 106, 3) := by decide +kernel
theorem dX4_row_14 : decode cX4_row 14 = .ok (.if_icmp .ge 12, 3) := by decide +kernel
theorem dX4_row_17 : decode cX4_row 17 = .ok (.aload_n 0, 1) := by decide +kernel
theorem dX4_row_18 : decode cX4_row 18 = .ok (.getfield 35, 3) := by decide +kernel
theorem dX4_row_21 : decode cX4_row 21 = .ok (.iload_n 1, 1) := by decide +kernel
theorem dX4_row_22 : decode cX4_row 22 = .ok (.iaload, 1) := by decide +kernel
theorem dX4_row_23 : decode cX4_row 23 = .ok (.goto 4, 3) := by decide +kernel
theorem dX4_row_26 : decode cX4_row 26 = .ok (.iconst (-1), 1) := by decide +kernel
theorem dX4_row_27 : decode cX4_row 27 = .ok (.ireturn, 1) := by decide +kernel
theorem dX4_empty_0 : decode cX4_empty 0 = .ok (.aload_n 0, 1) := by decide +kernel
theorem dX4_empty_1 : decode cX4_empty 1 = .ok (.iconst 0, 1) := by decide +kernel
theorem dX4_empty_2 : decode cX4_empty 2 = .ok (.putfield 1, 3) := by decide +kernel
theorem dX4_empty_5 : decode cX4_empty 5 = .ok (.aload_n 0, 1) := by decide +kernel
theorem dX4_empty_6 : decode cX4_empty 6 = .ok (.iload_n 1, 1) := by decide +kernel
theorem dX4_empty_7 : decode cX4_empty 7 = .ok (.iconst 1, 1) := by decide +kernel
theorem dX4_empty_8 : decode cX4_empty 8 = .ok (.invokevirtual 112, 3) := by decide +kernel
theorem dX4_empty_11 : decode cX4_empty 11 = .ok (.ireturn, 1) := by decide +kernel
theorem dX4_both_0 : decode cX4_both 0 = .ok (.aload_n 0, 1) := by decide +kernel
theorem dX4_both_1 : decode cX4_both 1 = .ok (.iload_n 1, 1) := by decide +kernel
theorem dX4_both_2 : decode cX4_both 2 = .ok (.iload_n 2, 1) := by decide +kernel
theorem dX4_both_3 : decode cX4_both 3 = .ok (.invokestatic 73, 3) := by decide +kernel
theorem dX4_both_6 : decode cX4_both 6 = .ok (.invokevirtual 103, 3) := by decide +kernel
theorem dX4_both_9 : decode cX4_both 9 = .ok (.ifCond .eq 19, 3) := by decide +kernel
theorem dX4_both_12 : decode cX4_both 12 = .ok (.aload_n 0, 1) := by decide +kernel
theorem dX4_both_13 : decode cX4_both 13 = .ok (.iload_n 2, 1) := by decide +kernel
theorem dX4_both_14 : decode cX4_both 14 = .ok (.iload_n 1, 1) := by decide +kernel
theorem dX4_both_15 : decode cX4_both 15 = .ok (.invokestatic 73, 3) := by decide +kernel
theorem dX4_both_18 : decode cX4_both 18 = .ok (.invokevirtual 103, 3) := by decide +kernel
theorem dX4_both_21 : decode cX4_both 21 = .ok (.ifCond .eq 7, 3) := by decide +kernel
theorem dX4_both_24 : decode cX4_both 24 = .ok (.iconst 1, 1) := by decide +kernel
theorem dX4_both_25 : decode cX4_both 25 = .ok (.goto 4, 3) := by decide +kernel
theorem dX4_both_28 : decode cX4_both 28 = .ok (.iconst 0, 1) := by decide +kernel
theorem dX4_both_29 : decode cX4_both 29 = .ok (.ireturn, 1) := by decide +kernel
theorem dX4_same_0 : decode cX4_same 0 = .ok (.aload_n 0, 1) := by decide +kernel
theorem dX4_same_1 : decode cX4_same 1 = .ok (.iconst 0, 1) := by decide +kernel
theorem dX4_same_2 : decode cX4_same 2 = .ok (.putfield 1, 3) := by decide +kernel
theorem dX4_same_5 : decode cX4_same 5 = .ok (.aload_n 0, 1) := by decide +kernel
theorem dX4_same_6 : decode cX4_same 6 = .ok (.iload_n 1, 1) := by decide +kernel
theorem dX4_same_7 : decode cX4_same 7 = .ok (.invokevirtual 46, 3) := by decide +kernel
theorem dX4_same_10 : decode cX4_same 10 = .ok (.ifCond .ne 5, 3) := by decide +kernel
theorem dX4_same_13 : decode cX4_same 13 = .ok (.iconst (-1), 1) := by decide +kernel
theorem dX4_same_14 : decode cX4_same 14 = .ok (.ireturn, 1) := by decide +kernel
theorem dX4_same_15 : decode cX4_same 15 = .ok (.iconst 0, 1) := by decide +kernel
theorem dX4_same_16 : decode cX4_same 16 = .ok (.istore_n 2, 1) := by decide +kernel
theorem dX4_same_17 : decode cX4_same 17 = .ok (.aload_n 0, 1) := by decide +kernel
theorem dX4_same_18 : decode cX4_same 18 = .ok (.iload_n 1, 1) := by decide +kernel
theorem dX4_same_19 : decode cX4_same 19 = .ok (.iload_n 2, 1) := by decide +kernel
theorem dX4_same_20 : decode cX4_same 20 = .ok (.invokevirtual 115, 3) := by decide +kernel
theorem dX4_same_23 : decode cX4_same 23 = .ok (.ifCond .ne 9, 3) := by decide +kernel
theorem dX4_same_26 : decode cX4_same 26 = .ok (.iinc 2 1, 3) := by decide +kernel
theorem dX4_same_29 : decode cX4_same 29 = .ok (.goto (-12), 3) := by decide +kernel
theorem dX4_same_32 : decode cX4_same 32 = .ok (.iload_n 2, 1) := by decide +kernel
theorem dX4_same_33 : decode cX4_same 33 = .ok (.ireturn, 1) := by decide +kernel
theorem dX4_isAbove_0 : decode cX4_isAbove 0 = .ok (.aload_n 0, 1) := by decide +kernel
theorem dX4_isAbove_1 : decode cX4_isAbove 1 = .ok (.iload_n 1, 1) := by decide +kernel
theorem dX4_isAbove_2 : decode cX4_isAbove 2 = .ok (.iload_n 2, 1) := by decide +kernel
theorem dX4_isAbove_3 : decode cX4_isAbove 3 = .ok (.invokestatic 73, 3) := by decide +kernel
theorem dX4_isAbove_6 : decode cX4_isAbove 6 = .ok (.invokevirtual 103, 3) := by decide +kernel
theorem dX4_isAbove_9 : decode cX4_isAbove 9 = .ok (.ifCond .eq 16, 3) := by decide +kernel
theorem dX4_isAbove_12 : decode cX4_isAbove 12 = .ok (.aload_n 0, 1) := by decide +kernel
theorem dX4_isAbove_13 : decode cX4_isAbove 13 = .ok (.iload_n 1, 1) := by decide +kernel
theorem dX4_isAbove_14 : decode cX4_isAbove 14 = .ok (.iload_n 2, 1) := by decide +kernel
theorem dX4_isAbove_15 : decode cX4_isAbove 15 = .ok (.invokevirtual 115, 3) := by decide +kernel
theorem dX4_isAbove_18 : decode cX4_isAbove 18 = .ok (.ifCond .ne 7, 3) := by decide +kernel
theorem dX4_isAbove_21 : decode cX4_isAbove 21 = .ok (.iconst 1, 1) := by decide +kernel
theorem dX4_isAbove_22 : decode cX4_isAbove 22 = .ok (.goto 4, 3) := by decide +kernel
theorem dX4_isAbove_25 : decode cX4_isAbove 25 = .ok (.iconst 0, 1) := by decide +kernel
theorem dX4_isAbove_26 : decode cX4_isAbove 26 = .ok (.ireturn, 1) := by decide +kernel
theorem dX4_isParent_0 : decode cX4_isParent 0 = .ok (.aload_n 0, 1) := by decide +kernel
theorem dX4_isParent_1 : decode cX4_isParent 1 = .ok (.iload_n 1, 1) := by decide +kernel
theorem dX4_isParent_2 : decode cX4_isParent 2 = .ok (.iload_n 2, 1) := by decide +kernel
theorem dX4_isParent_3 : decode cX4_isParent 3 = .ok (.invokevirtual 118, 3) := by decide +kernel
theorem dX4_isParent_6 : decode cX4_isParent 6 = .ok (.ifCond .eq 12, 3) := by decide +kernel
theorem dX4_isParent_9 : decode cX4_isParent 9 = .ok (.aload_n 0, 1) := by decide +kernel
theorem dX4_isParent_10 : decode cX4_isParent 10 = .ok (.iload_n 2, 1) := by decide +kernel
theorem dX4_isParent_11 : decode cX4_isParent 11 = .ok (.invokevirtual 121, 3) := by decide +kernel
theorem dX4_isParent_14 : decode cX4_isParent 14 = .ok (.iload_n 2, 1) := by decide +kernel
theorem dX4_isParent_15 : decode cX4_isParent 15 = .ok (.if_icmp .eq 5, 3) := by decide +kernel
theorem dX4_isParent_18 : decode cX4_isParent 18 = .ok (.iconst 0, 1) := by decide +kernel
theorem dX4_isParent_19 : decode cX4_isParent 19 = .ok (.ireturn, 1) := by decide +kernel
theorem dX4_isParent_20 : decode cX4_isParent 20 = .ok (.iconst 0, 1) := by decide +kernel
theorem dX4_isParent_21 : decode cX4_isParent 21 = .ok (.istore_n 3, 1) := by decide +kernel
theorem dX4_isParent_22 : decode cX4_isParent 22 = .ok (.iload_n 3, 1) := by decide +kernel
theorem dX4_isParent_23 : decode cX4_isParent 23 = .ok (.aload_n 0, 1) := by decide +kernel
theorem dX4_isParent_24 : decode cX4_isParent 24 = .ok (.getfield 13, 3) := by decide +kernel
theorem dX4_isParent_27 : decode cX4_isParent 27 = .ok (.if_icmp .ge 29, 3) := by decide +kernel
theorem dX4_isParent_30 : decode cX4_isParent 30 = .ok (.aload_n 0, 1) := by decide +kernel
theorem dX4_isParent_31 : decode cX4_isParent 31 = .ok (.iload_n 1, 1) := by decide +kernel
theorem dX4_isParent_32 : decode cX4_isParent 32 = .ok (.iload_n 3, 1) := by decide +kernel
theorem dX4_isParent_33 : decode cX4_isParent 33 = .ok (.invokevirtual 118, 3) := by decide +kernel
theorem dX4_isParent_36 : decode cX4_isParent 36 = .ok (.ifCond .eq 14, 3) := by decide +kernel
theorem dX4_isParent_39 : decode cX4_isParent 39 = .ok (.aload_n 0, 1) := by decide +kernel
theorem dX4_isParent_40 : decode cX4_isParent 40 = .ok (.iload_n 3, 1) := by decide +kernel
theorem dX4_isParent_41 : decode cX4_isParent 41 = .ok (.iload_n 2, 1) := by decide +kernel
theorem dX4_isParent_42 : decode cX4_isParent 42 = .ok (.invokevirtual 118, 3) := by decide +kernel
theorem dX4_isParent_45 : decode cX4_isParent 45 = .ok (.ifCond .eq 5, 3) := by decide +kernel
theorem dX4_isParent_48 : decode cX4_isParent 48 = .ok (.iconst 0, 1) := by decide +kernel
theorem dX4_isParent_49 : decode cX4_isParent 49 = .ok (.ireturn, 1) := by decide +kernel
theorem dX4_isParent_50 : decode cX4_isParent 50 = .ok (.iinc 3 1, 3) := by decide +kernel
theorem dX4_isParent_53 : decode cX4_isParent 53 = .ok (.goto (-31), 3) := by decide +kernel
theorem dX4_isParent_56 : decode cX4_isParent 56 = .ok (.iconst 1, 1) := by decide +kernel
theorem dX4_isParent_57 : decode cX4_isParent 57 = .ok (.ireturn, 1) := by decide +kernel
theorem dX4_parent_0 : decode cX4_parent 0 = .ok (.aload_n 0, 1) := by decide +kernel
theorem dX4_parent_1 : decode cX4_parent 1 = .ok (.iconst 0, 1) := by decide +kernel
theorem dX4_parent_2 : decode cX4_parent 2 = .ok (.putfield 1, 3) := by decide +kernel
theorem dX4_parent_5 : decode cX4_parent 5 = .ok (.aload_n 0, 1) := by decide +kernel
theorem dX4_parent_6 : decode cX4_parent 6 = .ok (.iload_n 1, 1) := by decide +kernel
theorem dX4_parent_7 : decode cX4_parent 7 = .ok (.invokevirtual 46, 3) := by decide +kernel
theorem dX4_parent_10 : decode cX4_parent 10 = .ok (.ifCond .eq 19, 3) := by decide +kernel
theorem dX4_parent_13 : decode cX4_parent 13 = .ok (.iload_n 2, 1) := by decide +kernel
theorem dX4_parent_14 : decode cX4_parent 14 = .ok (.ifCond .lt 15, 3) := by decide +kernel
theorem dX4_parent_17 : decode cX4_parent 17 = .ok (.aload_n 0, 1) := by decide +kernel
theorem dX4_parent_18 : decode cX4_parent 18 = .ok (.iload_n 1, 1) := by decide +kernel
theorem dX4_parent_19 : decode cX4_parent 19 = .ok (.iconst 1, 1) := by decide +kernel
theorem dX4_parent_20 : decode cX4_parent 20 = .ok (.invokestatic 73, 3) := by decide +kernel
theorem dX4_parent_23 : decode cX4_parent 23 = .ok (.invokevirtual 103, 3) := by decide +kernel
theorem dX4_parent_26 : decode cX4_parent 26 = .ok (.ifCond .eq 5, 3) := by decide +kernel
theorem dX4_parent_29 : decode cX4_parent 29 = .ok (.iconst (-1), 1) := by decide +kernel
theorem dX4_parent_30 : decode cX4_parent 30 = .ok (.ireturn, 1) := by decide +kernel
theorem dX4_parent_31 : decode cX4_parent 31 = .ok (.iload_n 2, 1) := by decide +kernel
theorem dX4_parent_32 : decode cX4_parent 32 = .ok (.istore_n 3, 1) := by decide +kernel
theorem dX4_parent_33 : decode cX4_parent 33 = .ok (.iconst 0, 1) := by decide +kernel
theorem dX4_parent_34 : decode cX4_parent 34 = .ok (.istore 4, 2) := by decide +kernel
theorem dX4_parent_36 : decode cX4_parent 36 = .ok (.iload 4, 2) := by decide +kernel
theorem dX4_parent_38 : decode cX4_parent 38 = .ok (.aload_n 0, 1) := by decide +kernel
theorem dX4_parent_39 : decode cX4_parent 39 = .ok (.getfield 13, 3) := by decide +kernel
theorem dX4_parent_42 : decode cX4_parent 42 = .ok (.if_icmp .ge 32, 3) := by decide +kernel
theorem dX4_parent_45 : decode cX4_parent 45 = .ok (.aload_n 0, 1) := by decide +kernel
theorem dX4_parent_46 : decode cX4_parent 46 = .ok (.iload_n 1, 1) := by decide +kernel
theorem dX4_parent_47 : decode cX4_parent 47 = .ok (.iload 4, 2) := by decide +kernel
theorem dX4_parent_49 : decode cX4_parent 49 = .ok (.invokevirtual 124, 3) := by decide +kernel
theorem dX4_parent_52 : decode cX4_parent 52 = .ok (.ifCond .ne 6, 3) := by decide +kernel
theorem dX4_parent_55 : decode cX4_parent 55 = .ok (.goto 13, 3) := by decide +kernel
theorem dX4_parent_58 : decode cX4_parent 58 = .ok (.iload_n 3, 1) := by decide +kernel
theorem dX4_parent_59 : decode cX4_parent 59 = .ok (.ifCond .ne 6, 3) := by decide +kernel
theorem dX4_parent_62 : decode cX4_parent 62 = .ok (.iload 4, 2) := by decide +kernel
theorem dX4_parent_64 : decode cX4_parent 64 = .ok (.ireturn, 1) := by decide +kernel
theorem dX4_parent_65 : decode cX4_parent 65 = .ok (.iinc 3 (-1), 3) := by decide +kernel
theorem dX4_parent_68 : decode cX4_parent 68 = .ok (.iinc 4 1, 3) := by decide +kernel
theorem dX4_parent_71 : decode cX4_parent 71 = .ok (.goto (-35), 3) := by decide +kernel
theorem dX4_parent_74 : decode cX4_parent 74 = .ok (.iconst (-1), 1) := by decide +kernel
theorem dX4_parent_75 : decode cX4_parent 75 = .ok (.ireturn, 1) := by decide +kernel
