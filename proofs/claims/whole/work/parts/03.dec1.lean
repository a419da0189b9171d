theorem dX5_append_26 : decode cX5_append 26 = .ok (.getfield 15, 3) := by decide +kernel
theorem dX5_append_29 : decode cX5_append 29 = .ok (.iload 5, 2) := by decide +kernel
theorem dX5_append_31 : decode cX5_append 31 = .ok (.iload 4, 2) := by decide +kernel
theorem dX5_append_33 : decode cX5_append 33 = .ok (.iastore, 1) := by decide +kernel
theorem dX5_append_34 : decode cX5_append 34 = .ok (.aload_n 0, 1) := by decide +kernel
theorem dX5_append_35 : decode cX5_append 35 = .ok (.getfield 15, 3) := by decide +kernel
theorem dX5_append_38 : decode cX5_append 38 = .ok (.iload 5, 2) := by decide +kernel
theorem dX5_append_40 : decode cX5_append 40 = .ok (.iaload, 1) := by decide +kernel
theorem dX5_append_41 : decode cX5_append 41 = .ok (.iconst 1, 1) := by decide +kernel
theorem dX5_append_42 : decode cX5_append 42 = .ok (.iadd, 1) := by decide +kernel
theorem dX5_append_43 : decode cX5_append 43 = .ok (.bipush 60, 2) := by decide +kernel
theorem dX5_append_45 : decode cX5_append 45 = .ok (.if_icmp .ge 35, 3) := by decide +kernel
theorem dX5_append_48 : decode cX5_append 48 = .ok (.aload_n 1, 1) := by decide +kernel
theorem dX5_append_49 : decode cX5_append 49 = .ok (.iload_n 2, 1) := by decide +kernel
theorem dX5_append_50 : decode cX5_append 50 = .ok (.iload_n 3, 1) := by decide +kernel
theorem dX5_append_51 : decode cX5_append 51 = .ok (.aload_n 0, 1) := by decide +kernel
theorem dX5_append_52 : decode cX5_append 52 = .ok (.getfield 15, 3) := by decide +kernel
theorem dX5_append_55 : decode cX5_append 55 = .ok (.iload 5, 2) := by decide +kernel
theorem dX5_append_57 : decode cX5_append 57 = .ok (.iaload, 1) := by decide +kernel
theorem dX5_append_58 : decode cX5_append 58 = .ok (.iconst 1, 1) := by decide +kernel
theorem dX5_append_59 : decode cX5_append 59 = .ok (.iadd, 1) := by decide +kernel
theorem dX5_append_60 : decode cX5_append 60 = .ok (.invokevirtual 48, 3) := by decide +kernel
theorem dX5_append_63 : decode cX5_append 63 = .ok (.ifCond .eq 17, 3) := by decide +kernel
theorem dX5_append_66 : decode cX5_append 66 = .ok (.aload_n 0, 1) := by decide +kernel
theorem dX5_append_67 : decode cX5_append 67 = .ok (.getfield 15, 3) := by decide +kernel
theorem dX5_append_70 : decode cX5_append 70 = .ok (.iload 5, 2) := by decide +kernel
theorem dX5_append_72 : decode cX5_append 72 = .ok (.dup2, 1) := by decide +kernel
theorem dX5_append_73 : decode cX5_append 73 = .ok (.iaload, 1) := by decide +kernel
theorem dX5_append_74 : decode cX5_append 74 = .ok (.iconst 1, 1) := by decide +kernel
theorem dX5_append_75 : decode cX5_append 75 = .ok (.iadd, 1) := by decide +kernel
theorem dX5_append_76 : decode cX5_append 76 = .ok (.iastore, 1) := by decide +kernel
theorem dX5_append_77 : decode cX5_append 77 = .ok (.goto (-43), 3) := by decide +kernel
theorem dX5_append_80 : decode cX5_append 80 = .ok (.aload_n 0, 1) := by decide +kernel
theorem dX5_append_81 : decode cX5_append 81 = .ok (.getfield 18, 3) := by decide +kernel
theorem dX5_append_84 : decode cX5_append 84 = .ok (.iload 5, 2) := by decide +kernel
theorem dX5_append_86 : decode cX5_append 86 = .ok (.iload_n 2, 1) := by decide +kernel
theorem dX5_append_87 : decode cX5_append 87 = .ok (.iastore, 1) := by decide +kernel
theorem dX5_append_88 : decode cX5_append 88 = .ok (.aload_n 0, 1) := by decide +kernel
theorem dX5_append_89 : decode cX5_append 89 = .ok (.getfield 21, 3) := by decide +kernel
theorem dX5_append_92 : decode cX5_append 92 = .ok (.iload 5, 2) := by decide +kernel
theorem dX5_append_94 : decode cX5_append 94 = .ok (.iload_n 3, 1) := by decide +kernel
theorem dX5_append_95 : decode cX5_append 95 = .ok (.iastore, 1) := by decide +kernel
theorem dX5_append_96 : decode cX5_append 96 = .ok (.aload_n 0, 1) := by decide +kernel
theorem dX5_append_97 : decode cX5_append 97 = .ok (.getfield 27, 3) := by decide +kernel
theorem dX5_append_100 : decode cX5_append 100 = .ok (.iload 5, 2) := by decide +kernel
theorem dX5_append_102 : decode cX5_append 102 = .ok (.aload_n 1, 1) := by decide +kernel
theorem dX5_append_103 : decode cX5_append 103 = .ok (.getfield 34, 3) := by decide +kernel
theorem dX5_append_106 : decode cX5_append 106 = .ok (.iload_n 2, 1) := by decide +kernel
theorem dX5_append_107 : decode cX5_append 107 = .ok (.iconst 2, 1) := by decide +kernel
theorem dX5_append_108 : decode cX5_append 108 = .ok (.invokevirtual 56, 3) := by decide +kernel
theorem dX5_append_111 : decode cX5_append 111 = .ok (.ifCond .ne 7, 3) := by decide +kernel
theorem dX5_append_114 : decode cX5_append 114 = .ok (.iconst 2, 1) := by decide +kernel
theorem dX5_append_115 : decode cX5_append 115 = .ok (.goto 4, 3) := by decide +kernel
theorem dX5_append_118 : decode cX5_append 118 = .ok (.iconst 3, 1) := by decide +kernel
theorem dX5_append_119 : decode cX5_append 119 = .ok (.iastore, 1) := by decide +kernel
theorem dX5_append_120 : decode cX5_append 120 = .ok (.aload_n 0, 1) := by decide +kernel
theorem dX5_append_121 : decode cX5_append 121 = .ok (.getfield 24, 3) := by decide +kernel
theorem dX5_append_124 : decode cX5_append 124 = .ok (.iload 5, 2) := by decide +kernel
theorem dX5_append_126 : decode cX5_append 126 = .ok (.iconst 0, 1) := by decide +kernel
theorem dX5_append_127 : decode cX5_append 127 = .ok (.iastore, 1) := by decide +kernel
theorem dX5_append_128 : decode cX5_append 128 = .ok (.aload_n 0, 1) := by decide +kernel
theorem dX5_append_129 : decode cX5_append 129 = .ok (.getfield 9, 3) := by decide +kernel
theorem dX5_append_132 : decode cX5_append 132 = .ok (.iload 5, 2) := by decide +kernel
theorem dX5_append_134 : decode cX5_append 134 = .ok (.iaload, 1) := by decide +kernel
theorem dX5_append_135 : decode cX5_append 135 = .ok (.istore 6, 2) := by decide +kernel
theorem dX5_append_137 : decode cX5_append 137 = .ok (.iload 6, 2) := by decide +kernel
theorem dX5_append_139 : decode cX5_append 139 = .ok (.aload_n 0, 1) := by decide +kernel
theorem dX5_append_140 : decode cX5_append 140 = .ok (.getfield 15, 3) := by decide +kernel
theorem dX5_append_143 : decode cX5_append 143 = .ok (.iload 5, 2) := by decide +kernel
theorem dX5_append_145 : decode cX5_append 145 = .ok (.iaload, 1) := by decide +kernel
theorem dX5_append_146 : decode cX5_append 146 = .ok (.if_icmp .gt 27, 3) := by decide +kernel
theorem dX5_append_149 : decode cX5_append 149 = .ok (.aload_n 0, 1) := by decide +kernel
theorem dX5_append_150 : decode cX5_append 150 = .ok (.getfield 24, 3) := by decide +kernel
theorem dX5_append_153 : decode cX5_append 153 = .ok (.iload 5, 2) := by decide +kernel
theorem dX5_append_155 : decode cX5_append 155 = .ok (.dup2, 1) := by decide +kernel
theorem dX5_append_156 : decode cX5_append 156 = .ok (.iaload, 1) := by decide +kernel
theorem dX5_append_157 : decode cX5_append 157 = .ok (.aload_n 0, 1) := by decide +kernel
theorem dX5_append_158 : decode cX5_append 158 = .ok (.iload 5, 2) := by decide +kernel
theorem dX5_append_160 : decode cX5_append 160 = .ok (.iload 6, 2) := by decide +kernel
theorem dX5_append_162 : decode cX5_append 162 = .ok (.invokevirtual 60, 3) := by decide +kernel
theorem dX5_append_165 : decode cX5_append 165 = .ok (.iadd, 1) := by decide +kernel
theorem dX5_append_166 : decode cX5_append 166 = .ok (.iastore, 1) := by decide +kernel
theorem dX5_append_167 : decode cX5_append 167 = .ok (.iinc 6 1, 3) := by decide +kernel
theorem dX5_append_170 : decode cX5_append 170 = .ok (.goto (-33), 3) := by decide +kernel
theorem dX5_append_173 : decode cX5_append 173 = .ok (.aload_n 0, 1) := by decide +kernel
theorem dX5_append_174 : decode cX5_append 174 = .ok (.dup, 1) := by decide +kernel
theorem dX5_append_175 : decode cX5_append 175 = .ok (.getfield 30, 3) := by decide +kernel
theorem dX5_append_178 : decode cX5_append 178 = .ok (.iconst 1, 1) := by decide +kernel
theorem dX5_append_179 : decode cX5_append 179 = .ok (.iadd, 1) := by decide +kernel
theorem dX5_append_180 : decode cX5_append 180 = .ok (.putfield 30, 3) := by decide +kernel
theorem dX5_append_183 : decode cX5_append 183 = .ok (.return_, 1) := by decide +kernel
theorem dX5_has_0 : decode cX5_has 0 = .ok (.iload_n 1, 1) := by decide +kernel
theorem dX5_has_1 : decode cX5_has 1 = .ok (.ifCond .lt 15, 3) := by decide +kernel
theorem dX5_has_4 : decode cX5_has 4 = .ok (.iload_n 1, 1) := by decide +kernel
theorem dX5_has_5 : decode cX5_has 5 = .ok (.aload_n 0, 1) := by decide +kernel
theorem dX5_has_6 : decode cX5_has 6 = .ok (.getfield 30, 3) := by decide +kernel
theorem dX5_has_9 : decode cX5_has 9 = .ok (.if_icmp .ge 7, 3) := by decide +kernel
theorem dX5_has_12 : decode cX5_has 12 = .ok (.iconst 1, 1) := by decide +kernel
theorem dX5_has_13 : decode cX5_has 13 = .ok (.goto 4, 3) := by decide +kernel
theorem dX5_has_16 : decode cX5_has 16 = .ok (.iconst 0, 1) := by decide +kernel
theorem dX5_has_17 : decode cX5_has 17 = .ok (.ireturn, 1) := by decide +kernel
theorem dX5_covers_0 : decode cX5_covers 0 = .ok (.iload_n 2, 1) := by decide +kernel
theorem dX5_covers_1 : decode cX5_covers 1 = .ok (.aload_n 0, 1) := by decide +kernel
theorem dX5_covers_2 : decode cX5_covers 2 = .ok (.getfield 9, 3) := by decide +kernel
theorem dX5_covers_5 : decode cX5_covers 5 = .ok (.iload_n 1, 1) := by decide +kernel
theorem dX5_covers_6 : decode cX5_covers 6 = .ok (.iaload, 1) := by decide +kernel
theorem dX5_covers_7 : decode cX5_covers 7 = .ok (.if_icmp .lt 17, 3) := by decide +kernel
theorem dX5_covers_10 : decode cX5_covers 10 = .ok (.iload_n 2, 1) := by decide +kernel
theorem dX5_covers_11 : decode cX5_covers 11 = .ok (.aload_n 0, 1) := by decide +kernel
theorem dX5_covers_12 : decode cX5_covers 12 = .ok (.getfield 15, 3) := by decide +kernel
theorem dX5_covers_15 : decode cX5_covers 15 = .ok (.iload_n 1, 1) := by decide +kernel
theorem dX5_covers_16 : decode cX5_covers 16 = .ok (.iaload, 1) := by decide +kernel
theorem dX5_covers_17 : decode cX5_covers 17 = .ok (.if_icmp .gt 7, 3) := by decide +kernel
theorem dX5_covers_20 : decode cX5_covers 20 = .ok (.iconst 1, 1) := by decide +kernel
theorem dX5_covers_21 : decode cX5_covers 21 = .ok (.goto 4, 3) := by decide +kernel
theorem dX5_covers_24 : decode cX5_covers 24 = .ok (.iconst 0, 1) := by decide +kernel
theorem dX5_covers_25 : decode cX5_covers 25 = .ok (.ireturn, 1) := by decide +kernel
theorem dX5_rateIn_0 : decode cX5_rateIn 0 = .ok (.aload_n 0, 1) := by decide +kernel
theorem dX5_rateIn_1 : decode cX5_rateIn 1 = .ok (.getfield 27, 3) := by decide +kernel
theorem dX5_rateIn_4 : decode cX5_rateIn 4 = .ok (.iload_n 1, 1) := by decide +kernel
theorem dX5_rateIn_5 : decode cX5_rateIn 5 = .ok (.iaload, 1) := by decide +kernel
theorem dX5_rateIn_6 : decode cX5_rateIn 6 = .ok (.iconst 1, 1) := by decide +kernel
theorem dX5_rateIn_7 : decode cX5_rateIn 7 = .ok (.iload_n 2, 1) := by decide +kernel
theorem dX5_rateIn_8 : decode cX5_rateIn 8 = .ok (.aload_n 0, 1) := by decide +kernel
theorem dX5_rateIn_9 : decode cX5_rateIn 9 = .ok (.getfield 9, 3) := by decide +kernel
theorem dX5_rateIn_12 : decode cX5_rateIn 12 = .ok (.iload_n 1, 1) := by decide +kernel
theorem dX5_rateIn_13 : decode cX5_rateIn 13 = .ok (.iaload, 1) := by decide +kernel
theorem dX5_rateIn_14 : decode cX5_rateIn 14 = .ok (.isub, 1) := by decide +kernel
theorem dX5_rateIn_15 : decode cX5_rateIn 15 = .ok (.aload_n 0, 1) := by decide +kernel
theorem dX5_rateIn_16 : decode cX5_rateIn 16 = .ok (.getfield 15, 3) := by decide +kernel
theorem dX5_rateIn_19 : decode cX5_rateIn 19 = .ok (.iload_n 1, 1) := by decide +kernel
theorem dX5_rateIn_20 : decode cX5_rateIn 20 = .ok (.iaload, 1) := by decide +kernel
theorem dX5_rateIn_21 : decode cX5_rateIn 21 = .ok (.iload_n 2, 1) := by decide +kernel
theorem dX5_rateIn_22 : decode cX5_rateIn 22 = .ok (.isub, 1) := by decide +kernel
theorem dX5_rateIn_23 : decode cX5_rateIn 23 = .ok (.invokestatic 63, 3) := by decide +kernel
theorem dX5_rateIn_26 : decode cX5_rateIn 26 = .ok (.iadd, 1) := by decide +kernel
theorem dX5_rateIn_27 : decode cX5_rateIn 27 = .ok (.imul, 1) := by decide +kernel
theorem dX5_rateIn_28 : decode cX5_rateIn 28 = .ok (.ireturn, 1) := by decide +kernel
theorem dX6_init_0 : decode cX6_init 0 = .ok (.aload_n 0, 1) := by decide +kernel
theorem dX6_init_1 : decode cX6_init 1 = .ok (.invokespecial 3, 3) := by decide +kernel
theorem dX6_init_4 : decode cX6_init 4 = .ok (.aload_n 0, 1) := by decide +kernel
theorem dX6_init_5 : decode cX6_init 5 = .ok (.bipush 6, 2) := by decide +kernel
theorem dX6_init_7 : decode cX6_init 7 = .ok (.newarray .int, 2) := by decide +kernel
theorem dX6_init_9 : decode cX6_init 9 = .ok (.putfield 9, 3) := by decide +kernel
theorem dX6_init_12 : decode cX6_init 12 = .ok (.aload_n 0, 1) := by decide +kernel
theorem dX6_init_13 : decode cX6_init 13 = .ok (.bipush 36, 2) := by decide +kernel
theorem dX6_init_15 : decode cX6_init 15 = .ok (.newarray .int, 2) := by decide +kernel
theorem dX6_init_17 : decode cX6_init 17 = .ok (.putfield 15, 3) := by decide +kernel
theorem dX6_init_20 : decode cX6_init 20 = .ok (.aload_n 0, 1) := by decide +kernel
theorem dX6_init_21 : decode cX6_init 21 = .ok (.bipush 6, 2) := by decide +kernel
theorem dX6_init_23 : decode cX6_init 23 = .ok (.newarray .int, 2) := by decide +kernel
theorem dX6_init_25 : decode cX6_init 25 = .ok (.putfield 18, 3) := by decide +kernel
theorem dX6_init_28 : decode cX6_init 28 = .ok (.aload_n 0, 1) := by decide +kernel
theorem dX6_init_29 : decode cX6_init 29 = .ok (.sipush 128, 3) := by decide +kernel
theorem dX6_init_32 : decode cX6_init 32 = .ok (.newarray .int, 2) := by decide +kernel
theorem dX6_init_34 : decode cX6_init 34 = .ok (.putfield 21, 3) := by decide +kernel
theorem dX6_init_37 : decode cX6_init 37 = .ok (.aload_n 0, 1) := by decide +kernel
theorem dX6_init_38 : decode cX6_init 38 = .ok (.bipush 64, 2) := by decide +kernel
theorem dX6_init_40 : decode cX6_init 40 = .ok (.newarray .int, 2) := by decide +kernel
theorem dX6_init_42 : decode cX6_init 42 = .ok (.putfield 24, 3) := by decide +kernel
theorem dX6_init_45 : decode cX6_init 45 = .ok (.aload_n 0, 1) := by decide +kernel
theorem dX6_init_46 : decode cX6_init 46 = .ok (.bipush 6, 2) := by decide +kernel
theorem dX6_init_48 : decode cX6_init 48 = .ok (.newarray .int, 2) := by decide +kernel
theorem dX6_init_50 : decode cX6_init 50 = .ok (.putfield 27, 3) := by decide +kernel
theorem dX6_init_53 : decode cX6_init 53 = .ok (.aload_n 0, 1) := by decide +kernel
theorem dX6_init_54 : decode cX6_init 54 = .ok (.bipush 6, 2) := by decide +kernel
theorem dX6_init_56 : decode cX6_init 56 = .ok (.newarray .int, 2) := by decide +kernel
theorem dX6_init_58 : decode cX6_init 58 = .ok (.putfield 30, 3) := by decide +kernel
theorem dX6_init_61 : decode cX6_init 61 = .ok (.return_, 1) := by decide +kernel
theorem dX6_forget_0 : decode cX6_forget 0 = .ok (.aload_n 0, 1) := by decide +kernel
theorem dX6_forget_1 : decode cX6_forget 1 = .ok (.iconst 0, 1) := by decide +kernel
theorem dX6_forget_2 : decode cX6_forget 2 = .ok (.putfield 33, 3) := by decide +kernel
theorem dX6_forget_5 : decode cX6_forget 5 = .ok (.return_, 1) := by decide +kernel
theorem dX6_find_0 : decode cX6_find 0 = .ok (.aload_n 0, 1) := by decide +kernel
theorem dX6_find_1 : decode cX6_find 1 = .ok (.getfield 33, 3) := by decide +kernel
theorem dX6_find_4 : decode cX6_find 4 = .ok (.ifCond .eq 30, 3) := by decide +kernel
theorem dX6_find_7 : decode cX6_find 7 = .ok (.aload_n 0, 1) := by decide +kernel
theorem dX6_find_8 : decode cX6_find 8 = .ok (.getfield 37, 3) := by decide +kernel
theorem dX6_find_11 : decode cX6_find 11 = .ok (.iload_n 3, 1) := by decide +kernel
theorem dX6_find_12 : decode cX6_find 12 = .ok (.if_icmp .ne 22, 3) := by decide +kernel
theorem dX6_find_15 : decode cX6_find 15 = .ok (.aload_n 0, 1) := by decide +kernel
theorem dX6_find_16 : decode cX6_find 16 = .ok (.getfield 41, 3) := by decide +kernel
theorem dX6_find_19 : decode cX6_find 19 = .ok (.iload 4, 2) := by decide +kernel
theorem dX6_find_21 : decode cX6_find 21 = .ok (.if_icmp .ne 13, 3) := by decide +kernel
theorem dX6_find_24 : decode cX6_find 24 = .ok (.aload_n 0, 1) := by decide +kernel
theorem dX6_find_25 : decode cX6_find 25 = .ok (.getfield 44, 3) := by decide +kernel
theorem dX6_find_28 : decode cX6_find 28 = .ok (.iload 5, 2) := by decide +kernel
theorem dX6_find_30 : decode cX6_find 30 = .ok (.if_icmp .ne 4, 3) := by decide +kernel
theorem dX6_find_33 : decode cX6_find 33 = .ok (.return_, 1) := by decide +kernel
theorem dX6_find_34 : decode cX6_find 34 = .ok (.aload_n 0, 1) := by decide +kernel
theorem dX6_find_35 : decode cX6_find 35 = .ok (.iload_n 3, 1) := by decide +kernel
theorem dX6_find_36 : decode cX6_find 36 = .ok (.putfield 37, 3) := by decide +kernel
theorem dX6_find_39 : decode cX6_find 39 = .ok (.aload_n 0, 1) := by decide +kernel
theorem dX6_find_40 : decode cX6_find 40 = .ok (.iload 4, 2) := by decide +kernel
theorem dX6_find_42 : decode cX6_find 42 = .ok (.putfield 41, 3) := by decide +kernel
theorem dX6_find_45 : decode cX6_find 45 = .ok (.aload_n 0, 1) := by decide +kernel
theorem dX6_find_46 : decode cX6_find 46 = .ok (.iload 5, 2) := by decide +kernel
theorem dX6_find_48 : decode cX6_find 48 = .ok (.putfield 44, 3) := by decide +kernel
theorem dX6_find_51 : decode cX6_find 51 = .ok (.aload_n 0, 1) := by decide +kernel
theorem dX6_find_52 : decode cX6_find 52 = .ok (.aload_n 1, 1) := by decide +kernel
theorem dX6_find_53 : decode cX6_find 53 = .ok (.iload 4, 2) := by decide +kernel
theorem dX6_find_55 : decode cX6_find 55 = .ok (.invokevirtual 47, 3) := by decide +kernel
theorem dX6_find_58 : decode cX6_find 58 = .ok (.putfield 53, 3) := by decide +kernel
theorem dX6_find_61 : decode cX6_find 61 = .ok (.iconst 1, 1) := by decide +kernel
theorem dX6_find_62 : decode cX6_find 62 = .ok (.aload_n 0, 1) := by decide +kernel
theorem dX6_find_63 : decode cX6_find 63 = .ok (.getfield 53, 3) := by decide +kernel
theorem dX6_find_66 : decode cX6_find 66 = .ok (.ishl, 1) := by decide +kernel
theorem dX6_find_67 : decode cX6_find 67 = .ok (.iconst 1, 1) := by decide +kernel
theorem dX6_find_68 : decode cX6_find 68 = .ok (.isub, 1) := by decide +kernel
theorem dX6_find_69 : decode cX6_find 69 = .ok (.istore 6, 2) := by decide +kernel
theorem dX6_find_71 : decode cX6_find 71 = .ok (.aload_n 0, 1) := by decide +kernel
theorem dX6_find_72 : decode cX6_find 72 = .ok (.aload_n 1, 1) := by decide +kernel
theorem dX6_find_73 : decode cX6_find 73 = .ok (.invokevirtual 56, 3) := by decide +kernel
theorem dX6_find_76 : decode cX6_find 76 = .ok (.iload 6, 2) := by decide +kernel
theorem dX6_find_78 : decode cX6_find 78 = .ok (.iload 4, 2) := by decide +kernel
theorem dX6_find_80 : decode cX6_find 80 = .ok (.ishl, 1) := by decide +kernel
theorem dX6_find_81 : decode cX6_find 81 = .ok (.iconst (-1), 1) := by decide +kernel
theorem dX6_find_82 : decode cX6_find 82 = .ok (.ixor, 1) := by decide +kernel
theorem dX6_find_83 : decode cX6_find 83 = .ok (.iand, 1) := by decide +kernel
theorem dX6_find_84 : decode cX6_find 84 = .ok (.putfield 60, 3) := by decide +kernel
theorem dX6_find_87 : decode cX6_find 87 = .ok (.aload_n 0, 1) := by decide +kernel
theorem dX6_find_88 : decode cX6_find 88 = .ok (.aload_n 1, 1) := by decide +kernel
theorem dX6_find_89 : decode cX6_find 89 = .ok (.invokevirtual 56, 3) := by decide +kernel
theorem dX6_find_92 : decode cX6_find 92 = .ok (.iload 4, 2) := by decide +kernel
theorem dX6_find_94 : decode cX6_find 94 = .ok (.ishr, 1) := by decide +kernel
theorem dX6_find_95 : decode cX6_find 95 = .ok (.iload 6, 2) := by decide +kernel
theorem dX6_find_97 : decode cX6_find 97 = .ok (.iand, 1) := by decide +kernel
theorem dX6_find_98 : decode cX6_find 98 = .ok (.putfield 63, 3) := by decide +kernel
theorem dX6_find_101 : decode cX6_find 101 = .ok (.aload_n 0, 1) := by decide +kernel
theorem dX6_find_102 : decode cX6_find 102 = .ok (.aload_n 1, 1) := by decide +kernel
theorem dX6_find_103 : decode cX6_find 103 = .ok (.invokevirtual 66, 3) := by decide +kernel
theorem dX6_find_106 : decode cX6_find 106 = .ok (.aload_n 0, 1) := by decide +kernel
theorem dX6_find_107 : decode cX6_find 107 = .ok (.aload_n 1, 1) := by decide +kernel
theorem dX6_find_108 : decode cX6_find 108 = .ok (.invokevirtual 70, 3) := by decide +kernel
theorem dX6_find_111 : decode cX6_find 111 = .ok (.aload_n 0, 1) := by decide +kernel
theorem dX6_find_112 : decode cX6_find 112 = .ok (.getfield 37, 3) := by decide +kernel
theorem dX6_find_115 : decode cX6_find 115 = .ok (.ifCond .ne 11, 3) := by decide +kernel
theorem dX6_find_118 : decode cX6_find 118 = .ok (.aload_n 0, 1) := by decide +kernel
theorem dX6_find_119 : decode cX6_find 119 = .ok (.aload_n 1, 1) := by decide +kernel
theorem dX6_find_120 : decode cX6_find 120 = .ok (.invokevirtual 73, 3) := by decide +kernel
theorem dX6_find_123 : decode cX6_find 123 = .ok (.goto 9, 3) := by decide +kernel
theorem dX6_find_126 : decode cX6_find 126 = .ok (.aload_n 0, 1) := by decide +kernel
theorem dX6_find_127 : decode cX6_find 127 = .ok (.aload_n 1, 1) := by decide +kernel
theorem dX6_find_128 : decode cX6_find 128 = .ok (.aload_n 2, 1) := by decide +kernel
theorem dX6_find_129 : decode cX6_find 129 = .ok (.invokevirtual 76, 3) := by decide +kernel
theorem dX6_find_132 : decode cX6_find 132 = .ok (.aload_n 0, 1) := by decide +kernel
theorem dX6_find_133 : decode cX6_find 133 = .ok (.invokevirtual 80, 3) := by decide +kernel
theorem dX6_find_136 : decode cX6_find 136 = .ok (.aload_n 0, 1) := by decide +kernel
theorem dX6_find_137 : decode cX6_find 137 = .ok (.invokevirtual 83, 3) := by decide +kernel
theorem dX6_find_140 : decode cX6_find 140 = .ok (.aload_n 0, 1) := by decide +kernel
theorem dX6_find_141 : decode cX6_find 141 = .ok (.aload_n 1, 1) := by decide +kernel
theorem dX6_find_142 : decode cX6_find 142 = .ok (.invokevirtual 86, 3) := by decide +kernel
theorem dX6_find_145 : decode cX6_find 145 = .ok (.aload_n 0, 1) := by decide +kernel
theorem dX6_find_146 : decode cX6_find 146 = .ok (.aload_n 1, 1) := by decide +kernel
theorem dX6_find_147 : decode cX6_find 147 = .ok (.iconst 0, 1) := by decide +kernel
theorem dX6_find_148 : decode cX6_find 148 = .ok (.iconst 0, 1) := by decide +kernel
theorem dX6_find_149 : decode cX6_find 149 = .ok (.iconst 0, 1) := by decide +kernel
theorem dX6_find_150 : decode cX6_find 150 = .ok (.invokestatic 89, 3) := by decide +kernel
theorem dX6_find_153 : decode cX6_find 153 = .ok (.aload_n 0, 1) := by decide +kernel
theorem dX6_find_154 : decode cX6_find 154 = .ok (.iconst 1, 1) := by decide +kernel
theorem dX6_find_155 : decode cX6_find 155 = .ok (.putfield 33, 3) := by decide +kernel
theorem dX6_find_158 : decode cX6_find 158 = .ok (.return_, 1) := by decide +kernel
theorem dX6_contactBits_0 : decode cX6_contactBits 0 = .ok (.aload_n 0, 1) := by decide +kernel
theorem dX6_contactBits_1 : decode cX6_contactBits 1 = .ok (.getfield 60, 3) := by decide +kernel
theorem dX6_contactBits_4 : decode cX6_contactBits 4 = .ok (.iload_n 1, 1) := by decide +kernel
theorem dX6_contactBits_5 : decode cX6_contactBits 5 = .ok (.aload_n 0, 1) := by decide +kernel
theorem dX6_contactBits_6 : decode cX6_contactBits 6 = .ok (.getfield 41, 3) := by decide +kernel
theorem dX6_contactBits_9 : decode cX6_contactBits 9 = .ok (.ishl, 1) := by decide +kernel
theorem dX6_contactBits_10 : decode cX6_contactBits 10 = .ok (.ior, 1) := by decide +kernel
theorem dX6_contactBits_11 : decode cX6_contactBits 11 = .ok (.ireturn, 1) := by decide +kernel
theorem dX6_findOpen_0 : decode cX6_findOpen 0 = .ok (.iconst 0, 1) := by decide +kernel
theorem dX6_findOpen_1 : decode cX6_findOpen 1 = .ok (.istore_n 2, 1) := by decide +kernel
theorem dX6_findOpen_2 : decode cX6_findOpen 2 = .ok (.iload_n 2, 1) := by decide +kernel
theorem dX6_findOpen_3 : decode cX6_findOpen 3 = .ok (.aload_n 0, 1) := by decide +kernel
theorem dX6_findOpen_4 : decode cX6_findOpen 4 = .ok (.getfield 53, 3) := by decide +kernel
theorem dX6_findOpen_7 : decode cX6_findOpen 7 = .ok (.if_icmp .ge 82, 3) := by decide +kernel
theorem dX6_findOpen_10 : decode cX6_findOpen 10 = .ok (.aload_n 0, 1) := by decide +kernel
theorem dX6_findOpen_11 : decode cX6_findOpen 11 = .ok (.getfield 9, 3) := by decide +kernel
theorem dX6_findOpen_14 : decode cX6_findOpen 14 = .ok (.iload_n 2, 1) := by decide +kernel
theorem dX6_findOpen_15 : decode cX6_findOpen 15 = .ok (.iconst 0, 1) := by decide +kernel
theorem dX6_findOpen_16 : decode cX6_findOpen 16 = .ok (.iastore, 1) := by decide +kernel
theorem dX6_findOpen_17 : decode cX6_findOpen 17 = .ok (.iconst 0, 1) := by decide +kernel
theorem dX6_findOpen_18 : decode cX6_findOpen 18 = .ok (.istore_n 3, 1) := by decide +kernel
theorem dX6_findOpen_19 : decode cX6_findOpen 19 = .ok (.iload_n 3, 1) := by decide +kernel
theorem dX6_findOpen_20 : decode cX6_findOpen 20 = .ok (.aload_n 1, 1) := by decide +kernel
theorem dX6_findOpen_21 : decode cX6_findOpen 21 = .ok (.getfield 93, 3) := by decide +kernel
theorem dX6_findOpen_24 : decode cX6_findOpen 24 = .ok (.getfield 97, 3) := by decide +kernel
theorem dX6_findOpen_27 : decode cX6_findOpen 27 = .ok (.getfield 103, 3) := by decide +kernel
theorem dX6_findOpen_30 : decode cX6_findOpen 30 = .ok (.if_icmp .ge 53, 3) := by decide +kernel
theorem dX6_findOpen_33 : decode cX6_findOpen 33 = .ok (.aload_n 1, 1) := by decide +kernel
theorem dX6_findOpen_34 : decode cX6_findOpen 34 = .ok (.aload_n 0, 1) := by decide +kernel
theorem dX6_findOpen_35 : decode cX6_findOpen 35 = .ok (.getfield 41, 3) := by decide +kernel
theorem dX6_findOpen_38 : decode cX6_findOpen 38 = .ok (.iload_n 2, 1) := by decide +kernel
theorem dX6_findOpen_39 : decode cX6_findOpen 39 = .ok (.iadd, 1) := by decide +kernel
theorem dX6_findOpen_40 : decode cX6_findOpen 40 = .ok (.iload_n 3, 1) := by decide +kernel
theorem dX6_findOpen_41 : decode cX6_findOpen 41 = .ok (.invokevirtual 108, 3) := by decide +kernel
theorem dX6_findOpen_44 : decode cX6_findOpen 44 = .ok (.ifCond .eq 33, 3) := by decide +kernel
theorem dX6_findOpen_47 : decode cX6_findOpen 47 = .ok (.aload_n 1, 1) := by decide +kernel
theorem dX6_findOpen_48 : decode cX6_findOpen 48 = .ok (.aload_n 0, 1) := by decide +kernel
theorem dX6_findOpen_49 : decode cX6_findOpen 49 = .ok (.getfield 60, 3) := by decide +kernel
theorem dX6_findOpen_52 : decode cX6_findOpen 52 = .ok (.aload_n 0, 1) := by decide +kernel
theorem dX6_findOpen_53 : decode cX6_findOpen 53 = .ok (.getfield 41, 3) := by decide +kernel
theorem dX6_findOpen_56 : decode cX6_findOpen 56 = .ok (.iload_n 2, 1) := by decide +kernel
theorem dX6_findOpen_57 : decode cX6_findOpen 57 = .ok (.iadd, 1) := by decide +kernel
theorem dX6_findOpen_58 : decode cX6_findOpen 58 = .ok (.iload_n 3, 1) := by decide +kernel
theorem dX6_findOpen_59 : decode cX6_findOpen 59 = .ok (.invokevirtual 112, 3) := by decide +kernel
theorem dX6_findOpen_62 : decode cX6_findOpen 62 = .ok (.ifCond .ne 15, 3) := by decide +kernel
theorem dX6_findOpen_65 : decode cX6_findOpen 65 = .ok (.aload_n 0, 1) := by decide +kernel
theorem dX6_findOpen_66 : decode cX6_findOpen 66 = .ok (.getfield 9, 3) := by decide +kernel
theorem dX6_findOpen_69 : decode cX6_findOpen 69 = .ok (.iload_n 2, 1) := by decide +kernel
theorem dX6_findOpen_70 : decode cX6_findOpen 70 = .ok (.dup2, 1) := by decide +kernel
theorem dX6_findOpen_71 : decode cX6_findOpen 71 = .ok (.iaload, 1) := by decide +kernel
theorem dX6_findOpen_72 : decode cX6_findOpen 72 = .ok (.iconst 1, 1) := by decide +kernel
theorem dX6_findOpen_73 : decode cX6_findOpen 73 = .ok (.iload_n 3, 1) := by decide +kernel
theorem dX6_findOpen_74 : decode cX6_findOpen 74 = .ok (.ishl, 1) := by decide +kernel
theorem dX6_findOpen_75 : decode cX6_findOpen 75 = .ok (.ior, 1) := by decide +kernel
theorem dX6_findOpen_76 : decode cX6_findOpen 76 = .ok (.iastore, 1) := by decide +kernel
theorem dX6_findOpen_77 : decode cX6_findOpen 77 = .ok (.iinc 3 1, 3) := by decide +kernel
theorem dX6_findOpen_80 : decode cX6_findOpen 80 = .ok (.goto (-61), 3) := by decide +kernel
theorem dX6_findOpen_83 : decode cX6_findOpen 83 = .ok (.iinc 2 1, 3) := by decide +kernel
theorem dX6_findOpen_86 : decode cX6_findOpen 86 = .ok (.goto (-84), 3) := by decide +kernel
theorem dX6_findOpen_89 : decode cX6_findOpen 89 = .ok (.return_, 1) := by decide +kernel
theorem dX6_findApart_0 : decode cX6_findApart 0 = .ok (.iconst 0, 1) := by decide +kernel
theorem dX6_findApart_1 : decode cX6_findApart 1 = .ok (.istore_n 2, 1) := by decide +kernel
theorem dX6_findApart_2 : decode cX6_findApart 2 = .ok (.iload_n 2, 1) := by decide +kernel
theorem dX6_findApart_3 : decode cX6_findApart 3 = .ok (.aload_n 0, 1) := by decide +kernel
theorem dX6_findApart_4 : decode cX6_findApart 4 = .ok (.getfield 53, 3) := by decide +kernel
theorem dX6_findApart_7 : decode cX6_findApart 7 = .ok (.if_icmp .ge 135, 3) := by decide +kernel
theorem dX6_findApart_10 : decode cX6_findApart 10 = .ok (.aload_n 0, 1) := by decide +kernel
theorem dX6_findApart_11 : decode cX6_findApart 11 = .ok (.getfield 18, 3) := by decide +kernel
theorem dX6_findApart_14 : decode cX6_findApart 14 = .ok (.iload_n 2, 1) := by decide +kernel
theorem dX6_findApart_15 : decode cX6_findApart 15 = .ok (.iconst 0, 1) := by decide +kernel
theorem dX6_findApart_16 : decode cX6_findApart 16 = .ok (.iastore, 1) := by decide +kernel
theorem dX6_findApart_17 : decode cX6_findApart 17 = .ok (.iconst 0, 1) := by decide +kernel
theorem dX6_findApart_18 : decode cX6_findApart 18 = .ok (.istore_n 3, 1) := by decide +kernel
theorem dX6_findApart_19 : decode cX6_findApart 19 = .ok (.iload_n 3, 1) := by decide +kernel
theorem dX6_findApart_20 : decode cX6_findApart 20 = .ok (.iload_n 2, 1) := by decide +kernel
theorem dX6_findApart_21 : decode cX6_findApart 21 = .ok (.if_icmp .ge 115, 3) := by decide +kernel
theorem dX6_findApart_24 : decode cX6_findApart 24 = .ok (.aload_n 1, 1) := by decide +kernel
theorem dX6_findApart_25 : decode cX6_findApart 25 = .ok (.aload_n 0, 1) := by decide +kernel
theorem dX6_findApart_26 : decode cX6_findApart 26 = .ok (.getfield 41, 3) := by decide +kernel
theorem dX6_findApart_29 : decode cX6_findApart 29 = .ok (.iload_n 3, 1) := by decide +kernel
theorem dX6_findApart_30 : decode cX6_findApart 30 = .ok (.iadd, 1) := by decide +kernel
theorem dX6_findApart_31 : decode cX6_findApart 31 = .ok (.aload_n 0, 1) := by decide +kernel
theorem dX6_findApart_32 : decode cX6_findApart 32 = .ok (.getfield 41, 3) := by decide +kernel
theorem dX6_findApart_35 : decode cX6_findApart 35 = .ok (.iload_n 2, 1) := by decide +kernel
theorem dX6_findApart_36 : decode cX6_findApart 36 = .ok (.iadd, 1) := by decide +kernel
theorem dX6_findApart_37 : decode cX6_findApart 37 = .ok (.invokevirtual 116, 3) := by decide +kernel
theorem dX6_findApart_40 : decode cX6_findApart 40 = .ok (.ifCond .eq 15, 3) := by decide +kernel
theorem dX6_findApart_43 : decode cX6_findApart 43 = .ok (.aload_n 0, 1) := by decide +kernel
theorem dX6_findApart_44 : decode cX6_findApart 44 = .ok (.getfield 18, 3) := by decide +kernel
theorem dX6_findApart_47 : decode cX6_findApart 47 = .ok (.iload_n 2, 1) := by decide +kernel
theorem dX6_findApart_48 : decode cX6_findApart 48 = .ok (.dup2, 1) := by decide +kernel
theorem dX6_findApart_49 : decode cX6_findApart 49 = .ok (.iaload, 1) := by decide +kernel
theorem dX6_findApart_50 : decode cX6_findApart 50 = .ok (.iconst 1, 1) := by decide +kernel
theorem dX6_findApart_51 : decode cX6_findApart 51 = .ok (.iload_n 3, 1) := by decide +kernel
theorem dX6_findApart_52 : decode cX6_findApart 52 = .ok (.ishl, 1) := by decide +kernel
theorem dX6_findApart_53 : decode cX6_findApart 53 = .ok (.ior, 1) := by decide +kernel
theorem dX6_findApart_54 : decode cX6_findApart 54 = .ok (.iastore, 1) := by decide +kernel
theorem dX6_findApart_55 : decode cX6_findApart 55 = .ok (.aload_n 0, 1) := by decide +kernel
theorem dX6_findApart_56 : decode cX6_findApart 56 = .ok (.getfield 15, 3) := by decide +kernel
theorem dX6_findApart_59 : decode cX6_findApart 59 = .ok (.iload_n 3, 1) := by decide +kernel
theorem dX6_findApart_60 : decode cX6_findApart 60 = .ok (.bipush 6, 2) := by decide +kernel
theorem dX6_findApart_62 : decode cX6_findApart 62 = .ok (.imul, 1) := by decide +kernel
theorem dX6_findApart_63 : decode cX6_findApart 63 = .ok (.iload_n 2, 1) := by decide +kernel
theorem dX6_findApart_64 : decode cX6_findApart 64 = .ok (.iadd, 1) := by decide +kernel
theorem dX6_findApart_65 : decode cX6_findApart 65 = .ok (.iconst 0, 1) := by decide +kernel
theorem dX6_findApart_66 : decode cX6_findApart 66 = .ok (.iastore, 1) := by decide +kernel
theorem dX6_findApart_67 : decode cX6_findApart 67 = .ok (.iconst 0, 1) := by decide +kernel
theorem dX6_findApart_68 : decode cX6_findApart 68 = .ok (.istore 4, 2) := by decide +kernel
theorem dX6_findApart_70 : decode cX6_findApart 70 = .ok (.iload 4, 2) := by decide +kernel
theorem dX6_findApart_72 : decode cX6_findApart 72 = .ok (.aload_n 1, 1) := by decide +kernel
theorem dX6_findApart_73 : decode cX6_findApart 73 = .ok (.getfield 93, 3) := by decide +kernel
theorem dX6_findApart_76 : decode cX6_findApart 76 = .ok (.getfield 97, 3) := by decide +kernel
theorem dX6_findApart_79 : decode cX6_findApart 79 = .ok (.getfield 103, 3) := by decide +kernel
theorem dX6_findApart_82 : decode cX6_findApart 82 = .ok (.if_icmp .ge 48, 3) := by decide +kernel
theorem dX6_findApart_85 : decode cX6_findApart 85 = .ok (.aload_n 1, 1) := by decide +kernel
theorem dX6_findApart_86 : decode cX6_findApart 86 = .ok (.aload_n 0, 1) := by decide +kernel
theorem dX6_findApart_87 : decode cX6_findApart 87 = .ok (.getfield 41, 3) := by decide +kernel
theorem dX6_findApart_90 : decode cX6_findApart 90 = .ok (.iload_n 3, 1) := by decide +kernel
theorem dX6_findApart_91 : decode cX6_findApart 91 = .ok (.iadd, 1) := by decide +kernel
theorem dX6_findApart_92 : decode cX6_findApart 92 = .ok (.aload_n 0, 1) := by decide +kernel
theorem dX6_findApart_93 : decode cX6_findApart 93 = .ok (.getfield 41, 3) := by decide +kernel
theorem dX6_findApart_96 : decode cX6_findApart 96 = .ok (.iload_n 2, 1) := by decide +kernel
theorem dX6_findApart_97 : decode cX6_findApart 97 = .ok (.iadd, 1) := by decide +kernel
theorem dX6_findApart_98 : decode cX6_findApart 98 = .ok (.iload 4, 2) := by decide +kernel
theorem dX6_findApart_100 : decode cX6_findApart 100 = .ok (.invokevirtual 119, 3) := by decide +kernel
theorem dX6_findApart_103 : decode cX6_findApart 103 = .ok (.ifCond .ne 21, 3) := by decide +kernel
theorem dX6_findApart_106 : decode cX6_findApart 106 = .ok (.aload_n 0, 1) := by decide +kernel
theorem dX6_findApart_107 : decode cX6_findApart 107 = .ok (.getfield 15, 3) := by decide +kernel
theorem dX6_findApart_110 : decode cX6_findApart 110 = .ok (.iload_n 3, 1) := by decide +kernel
theorem dX6_findApart_111 : decode cX6_findApart 111 = .ok (.bipush 6, 2) := by decide +kernel
theorem dX6_findApart_113 : decode cX6_findApart 113 = .ok (.imul, 1) := by decide +kernel
theorem dX6_findApart_114 : decode cX6_findApart 114 = .ok (.iload_n 2, 1) := by decide +kernel
theorem dX6_findApart_115 : decode cX6_findApart 115 = .ok (.iadd, 1) := by decide +kernel
theorem dX6_findApart_116 : decode cX6_findApart 116 = .ok (.dup2, 1) := by decide +kernel
theorem dX6_findApart_117 : decode cX6_findApart 117 = .ok (.iaload, 1) := by decide +kernel
theorem dX6_findApart_118 : decode cX6_findApart 118 = .ok (.iconst 1, 1) := by decide +kernel
theorem dX6_findApart_119 : decode cX6_findApart 119 = .ok (.iload 4, 2) := by decide +kernel
theorem dX6_findApart_121 : decode cX6_findApart 121 = .ok (.ishl, 1) := by decide +kernel
theorem dX6_findApart_122 : decode cX6_findApart 122 = .ok (.ior, 1) := by decide +kernel
theorem dX6_findApart_123 : decode cX6_findApart 123 = .ok (.iastore, 1) := by decide +kernel
theorem dX6_findApart_124 : decode cX6_findApart 124 = .ok (.iinc 4 1, 3) := by decide +kernel
theorem dX6_findApart_127 : decode cX6_findApart 127 = .ok (.goto (-57), 3) := by decide +kernel
theorem dX6_findApart_130 : decode cX6_findApart 130 = .ok (.iinc 3 1, 3) := by decide +kernel
theorem dX6_findApart_133 : decode cX6_findApart 133 = .ok (.goto (-114), 3) := by decide +kernel
theorem dX6_findApart_136 : decode cX6_findApart 136 = .ok (.iinc 2 1, 3) := by decide +kernel
theorem dX6_findApart_139 : decode cX6_findApart 139 = .ok (.goto (-137), 3) := by decide +kernel
theorem dX6_findApart_142 : decode cX6_findApart 142 = .ok (.return_, 1) := by decide +kernel
theorem dX6_weighVolumes_0 : decode cX6_weighVolumes 0 = .ok (.iconst 0, 1) := by decide +kernel
theorem dX6_weighVolumes_1 : decode cX6_weighVolumes 1 = .ok (.istore_n 2, 1) := by decide +kernel
theorem dX6_weighVolumes_2 : decode cX6_weighVolumes 2 = .ok (.iload_n 2, 1) := by decide +kernel
theorem dX6_weighVolumes_3 : decode cX6_weighVolumes 3 = .ok (.iconst 1, 1) := by decide +kernel
theorem dX6_weighVolumes_4 : decode cX6_weighVolumes 4 = .ok (.aload_n 0, 1) := by decide +kernel
theorem dX6_weighVolumes_5 : decode cX6_weighVolumes 5 = .ok (.getfield 53, 3) := by decide +kernel
theorem dX6_weighVolumes_8 : decode cX6_weighVolumes 8 = .ok (.ishl, 1) := by decide +kernel
theorem dX6_weighVolumes_9 : decode cX6_weighVolumes 9 = .ok (.if_icmp .ge 33, 3) := by decide +kernel
theorem dX6_weighVolumes_12 : decode cX6_weighVolumes 12 = .ok (.aload_n 0, 1) := by decide +kernel
theorem dX6_weighVolumes_13 : decode cX6_weighVolumes 13 = .ok (.getfield 21, 3) := by decide +kernel
theorem dX6_weighVolumes_16 : decode cX6_weighVolumes 16 = .ok (.iconst 1, 1) := by decide +kernel
theorem dX6_weighVolumes_17 : decode cX6_weighVolumes 17 = .ok (.aload_n 0, 1) := by decide +kernel
theorem dX6_weighVolumes_18 : decode cX6_weighVolumes 18 = .ok (.getfield 53, 3) := by decide +kernel
theorem dX6_weighVolumes_21 : decode cX6_weighVolumes 21 = .ok (.ishl, 1) := by decide +kernel
theorem dX6_weighVolumes_22 : decode cX6_weighVolumes 22 = .ok (.iload_n 2, 1) := by decide +kernel
theorem dX6_weighVolumes_23 : decode cX6_weighVolumes 23 = .ok (.iadd, 1) := by decide +kernel
theorem dX6_weighVolumes_24 : decode cX6_weighVolumes 24 = .ok (.aload_n 1, 1) := by decide +kernel
theorem dX6_weighVolumes_25 : decode cX6_weighVolumes 25 = .ok (.iload_n 2, 1) := by decide +kernel
theorem dX6_weighVolumes_26 : decode cX6_weighVolumes 26 = .ok (.aload_n 0, 1) := by decide +kernel
theorem dX6_weighVolumes_27 : decode cX6_weighVolumes 27 = .ok (.getfield 41, 3) := by decide +kernel
theorem dX6_weighVolumes_30 : decode cX6_weighVolumes 30 = .ok (.ishl, 1) := by decide +kernel
theorem dX6_weighVolumes_31 : decode cX6_weighVolumes 31 = .ok (.invokevirtual 123, 3) := by decide +kernel
theorem dX6_weighVolumes_34 : decode cX6_weighVolumes 34 = .ok (.ineg, 1) := by decide +kernel
theorem dX6_weighVolumes_35 : decode cX6_weighVolumes 35 = .ok (.iastore, 1) := by decide +kernel
theorem dX6_weighVolumes_36 : decode cX6_weighVolumes 36 = .ok (.iinc 2 1, 3) := by decide +kernel
theorem dX6_weighVolumes_39 : decode cX6_weighVolumes 39 = .ok (.goto (-37), 3) := by decide +kernel
theorem dX6_weighVolumes_42 : decode cX6_weighVolumes 42 = .ok (.return_, 1) := by decide +kernel
theorem dX6_weighLosses_0 : decode cX6_weighLosses 0 = .ok (.aload_n 0, 1) := by decide +kernel
theorem dX6_weighLosses_1 : decode cX6_weighLosses 1 = .ok (.getfield 21, 3) := by decide +kernel
theorem dX6_weighLosses_4 : decode cX6_weighLosses 4 = .ok (.iconst 0, 1) := by decide +kernel
theorem dX6_weighLosses_5 : decode cX6_weighLosses 5 = .ok (.invokestatic 126, 3) := by decide +kernel
theorem dX6_weighLosses_8 : decode cX6_weighLosses 8 = .ok (.iconst 0, 1) := by decide +kernel
theorem dX6_weighLosses_9 : decode cX6_weighLosses 9 = .ok (.istore_n 3, 1) := by decide +kernel
theorem dX6_weighLosses_10 : decode cX6_weighLosses 10 = .ok (.iload_n 3, 1) := by decide +kernel
theorem dX6_weighLosses_11 : decode cX6_weighLosses 11 = .ok (.aload_n 1, 1) := by decide +kernel
theorem dX6_weighLosses_12 : decode cX6_weighLosses 12 = .ok (.getfield 93, 3) := by decide +kernel
theorem dX6_weighLosses_15 : decode cX6_weighLosses 15 = .ok (.getfield 132, 3) := by decide +kernel
theorem dX6_weighLosses_18 : decode cX6_weighLosses 18 = .ok (.getfield 103, 3) := by decide +kernel
theorem dX6_weighLosses_21 : decode cX6_weighLosses 21 = .ok (.if_icmp .ge 99, 3) := by decide +kernel
theorem dX6_weighLosses_24 : decode cX6_weighLosses 24 = .ok (.aload_n 0, 1) := by decide +kernel
theorem dX6_weighLosses_25 : decode cX6_weighLosses 25 = .ok (.aload_n 1, 1) := by decide +kernel
theorem dX6_weighLosses_26 : decode cX6_weighLosses 26 = .ok (.iload_n 3, 1) := by decide +kernel
theorem dX6_weighLosses_27 : decode cX6_weighLosses 27 = .ok (.invokevirtual 135, 3) := by decide +kernel
theorem dX6_weighLosses_30 : decode cX6_weighLosses 30 = .ok (.istore 4, 2) := by decide +kernel
theorem dX6_weighLosses_32 : decode cX6_weighLosses 32 = .ok (.iconst 0, 1) := by decide +kernel
theorem dX6_weighLosses_33 : decode cX6_weighLosses 33 = .ok (.istore 5, 2) := by decide +kernel
theorem dX6_weighLosses_35 : decode cX6_weighLosses 35 = .ok (.iload 5, 2) := by decide +kernel
theorem dX6_weighLosses_37 : decode cX6_weighLosses 37 = .ok (.iconst 1, 1) := by decide +kernel
theorem dX6_weighLosses_38 : decode cX6_weighLosses 38 = .ok (.aload_n 0, 1) := by decide +kernel
theorem dX6_weighLosses_39 : decode cX6_weighLosses 39 = .ok (.getfield 53, 3) := by decide +kernel
theorem dX6_weighLosses_42 : decode cX6_weighLosses 42 = .ok (.ishl, 1) := by decide +kernel
theorem dX6_weighLosses_43 : decode cX6_weighLosses 43 = .ok (.if_icmp .ge 71, 3) := by decide +kernel
theorem dX6_weighLosses_46 : decode cX6_weighLosses 46 = .ok (.iload 5, 2) := by decide +kernel
theorem dX6_weighLosses_48 : decode cX6_weighLosses 48 = .ok (.iload 4, 2) := by decide +kernel
theorem dX6_weighLosses_50 : decode cX6_weighLosses 50 = .ok (.iconst (-1), 1) := by decide +kernel
theorem dX6_weighLosses_51 : decode cX6_weighLosses 51 = .ok (.ixor, 1) := by decide +kernel
theorem dX6_weighLosses_52 : decode cX6_weighLosses 52 = .ok (.iand, 1) := by decide +kernel
theorem dX6_weighLosses_53 : decode cX6_weighLosses 53 = .ok (.ifCond .ne 28, 3) := by decide +kernel
theorem dX6_weighLosses_56 : decode cX6_weighLosses 56 = .ok (.aload_n 2, 1) := by decide +kernel
theorem dX6_weighLosses_57 : decode cX6_weighLosses 57 = .ok (.aload_n 1, 1) := by decide +kernel
theorem dX6_weighLosses_58 : decode cX6_weighLosses 58 = .ok (.iload_n 3, 1) := by decide +kernel
theorem dX6_weighLosses_59 : decode cX6_weighLosses 59 = .ok (.aload_n 0, 1) := by decide +kernel
theorem dX6_weighLosses_60 : decode cX6_weighLosses 60 = .ok (.iload 5, 2) := by decide +kernel
theorem dX6_weighLosses_62 : decode cX6_weighLosses 62 = .ok (.invokevirtual 139, 3) := by decide +kernel
theorem dX6_weighLosses_65 : decode cX6_weighLosses 65 = .ok (.bipush 59, 2) := by decide +kernel
theorem dX6_weighLosses_67 : decode cX6_weighLosses 67 = .ok (.invokevirtual 141, 3) := by decide +kernel
theorem dX6_weighLosses_70 : decode cX6_weighLosses 70 = .ok (.aload_n 0, 1) := by decide +kernel
theorem dX6_weighLosses_71 : decode cX6_weighLosses 71 = .ok (.getfield 24, 3) := by decide +kernel
theorem dX6_weighLosses_74 : decode cX6_weighLosses 74 = .ok (.iload 5, 2) := by decide +kernel
theorem dX6_weighLosses_76 : decode cX6_weighLosses 76 = .ok (.aload_n 2, 1) := by decide +kernel
theorem dX6_weighLosses_77 : decode cX6_weighLosses 77 = .ok (.getfield 147, 3) := by decide +kernel
theorem dX6_weighLosses_80 : decode cX6_weighLosses 80 = .ok (.iastore, 1) := by decide +kernel
theorem dX6_weighLosses_81 : decode cX6_weighLosses 81 = .ok (.aload_n 0, 1) := by decide +kernel
theorem dX6_weighLosses_82 : decode cX6_weighLosses 82 = .ok (.getfield 21, 3) := by decide +kernel
theorem dX6_weighLosses_85 : decode cX6_weighLosses 85 = .ok (.iconst 1, 1) := by decide +kernel
theorem dX6_weighLosses_86 : decode cX6_weighLosses 86 = .ok (.aload_n 0, 1) := by decide +kernel
theorem dX6_weighLosses_87 : decode cX6_weighLosses 87 = .ok (.getfield 53, 3) := by decide +kernel
theorem dX6_weighLosses_90 : decode cX6_weighLosses 90 = .ok (.ishl, 1) := by decide +kernel
theorem dX6_weighLosses_91 : decode cX6_weighLosses 91 = .ok (.iload 5, 2) := by decide +kernel
theorem dX6_weighLosses_93 : decode cX6_weighLosses 93 = .ok (.iadd, 1) := by decide +kernel
theorem dX6_weighLosses_94 : decode cX6_weighLosses 94 = .ok (.dup2, 1) := by decide +kernel
theorem dX6_weighLosses_95 : decode cX6_weighLosses 95 = .ok (.iaload, 1) := by decide +kernel
theorem dX6_weighLosses_96 : decode cX6_weighLosses 96 = .ok (.aload_n 0, 1) := by decide +kernel
theorem dX6_weighLosses_97 : decode cX6_weighLosses 97 = .ok (.getfield 24, 3) := by decide +kernel
theorem dX6_weighLosses_100 : decode cX6_weighLosses 100 = .ok (.iload 5, 2) := by decide +kernel
theorem dX6_weighLosses_102 : decode cX6_weighLosses 102 = .ok (.iload 4, 2) := by decide +kernel
theorem dX6_weighLosses_104 : decode cX6_weighLosses 104 = .ok (.iand, 1) := by decide +kernel
theorem dX6_weighLosses_105 : decode cX6_weighLosses 105 = .ok (.iaload, 1) := by decide +kernel
theorem dX6_weighLosses_106 : decode cX6_weighLosses 106 = .ok (.iadd, 1) := by decide +kernel
theorem dX6_weighLosses_107 : decode cX6_weighLosses 107 = .ok (.iastore, 1) := by decide +kernel
theorem dX6_weighLosses_108 : decode cX6_weighLosses 108 = .ok (.iinc 5 1, 3) := by decide +kernel
theorem dX6_weighLosses_111 : decode cX6_weighLosses 111 = .ok (.goto (-76), 3) := by decide +kernel
theorem dX6_weighLosses_114 : decode cX6_weighLosses 114 = .ok (.iinc 3 1, 3) := by decide +kernel
theorem dX6_weighLosses_117 : decode cX6_weighLosses 117 = .ok (.goto (-107), 3) := by decide +kernel
theorem dX6_weighLosses_120 : decode cX6_weighLosses 120 = .ok (.return_, 1) := by decide +kernel
theorem dX6_passesOf_0 : decode cX6_passesOf 0 = .ok (.iconst 0, 1) := by decide +kernel
theorem dX6_passesOf_1 : decode cX6_passesOf 1 = .ok (.istore_n 3, 1) := by decide +kernel
theorem dX6_passesOf_2 : decode cX6_passesOf 2 = .ok (.iconst 0, 1) := by decide +kernel
theorem dX6_passesOf_3 : decode cX6_passesOf 3 = .ok (.istore 4, 2) := by decide +kernel
theorem dX6_passesOf_5 : decode cX6_passesOf 5 = .ok (.iload 4, 2) := by decide +kernel
theorem dX6_passesOf_7 : decode cX6_passesOf 7 = .ok (.aload_n 0, 1) := by decide +kernel
theorem dX6_passesOf_8 : decode cX6_passesOf 8 = .ok (.getfield 53, 3) := by decide +kernel
theorem dX6_passesOf_11 : decode cX6_passesOf 11 = .ok (.if_icmp .ge 35, 3) := by decide +kernel
theorem dX6_passesOf_14 : decode cX6_passesOf 14 = .ok (.aload_n 1, 1) := by decide +kernel
theorem dX6_passesOf_15 : decode cX6_passesOf 15 = .ok (.getfield 150, 3) := by decide +kernel
theorem dX6_passesOf_18 : decode cX6_passesOf 18 = .ok (.getfield 154, 3) := by decide +kernel
theorem dX6_passesOf_21 : decode cX6_passesOf 21 = .ok (.aload_n 0, 1) := by decide +kernel
theorem dX6_passesOf_22 : decode cX6_passesOf 22 = .ok (.getfield 41, 3) := by decide +kernel
theorem dX6_passesOf_25 : decode cX6_passesOf 25 = .ok (.iload 4, 2) := by decide +kernel
theorem dX6_passesOf_27 : decode cX6_passesOf 27 = .ok (.iadd, 1) := by decide +kernel
theorem dX6_passesOf_28 : decode cX6_passesOf 28 = .ok (.iaload, 1) := by decide +kernel
theorem dX6_passesOf_29 : decode cX6_passesOf 29 = .ok (.iload_n 2, 1) := by decide +kernel
theorem dX6_passesOf_30 : decode cX6_passesOf 30 = .ok (.if_icmp .ne 10, 3) := by decide +kernel
theorem dX6_passesOf_33 : decode cX6_passesOf 33 = .ok (.iload_n 3, 1) := by decide +kernel
theorem dX6_passesOf_34 : decode cX6_passesOf 34 = .ok (.iconst 1, 1) := by decide +kernel
theorem dX6_passesOf_35 : decode cX6_passesOf 35 = .ok (.iload 4, 2) := by decide +kernel
theorem dX6_passesOf_37 : decode cX6_passesOf 37 = .ok (.ishl, 1) := by decide +kernel
theorem dX6_passesOf_38 : decode cX6_passesOf 38 = .ok (.ior, 1) := by decide +kernel
theorem dX6_passesOf_39 : decode cX6_passesOf 39 = .ok (.istore_n 3, 1) := by decide +kernel
theorem dX6_passesOf_40 : decode cX6_passesOf 40 = .ok (.iinc 4 1, 3) := by decide +kernel
theorem dX6_passesOf_43 : decode cX6_passesOf 43 = .ok (.goto (-38), 3) := by decide +kernel
theorem dX6_passesOf_46 : decode cX6_passesOf 46 = .ok (.iload_n 3, 1) := by decide +kernel
theorem dX6_passesOf_47 : decode cX6_passesOf 47 = .ok (.ireturn, 1) := by decide +kernel
theorem dX6_rankMasks_0 : decode cX6_rankMasks 0 = .ok (.iconst 0, 1) := by decide +kernel
theorem dX6_rankMasks_1 : decode cX6_rankMasks 1 = .ok (.istore_n 1, 1) := by decide +kernel
theorem dX6_rankMasks_2 : decode cX6_rankMasks 2 = .ok (.iload_n 1, 1) := by decide +kernel
theorem dX6_rankMasks_3 : decode cX6_rankMasks 3 = .ok (.iconst 1, 1) := by decide +kernel
theorem dX6_rankMasks_4 : decode cX6_rankMasks 4 = .ok (.aload_n 0, 1) := by decide +kernel
theorem dX6_rankMasks_5 : decode cX6_rankMasks 5 = .ok (.getfield 53, 3) := by decide +kernel
theorem dX6_rankMasks_8 : decode cX6_rankMasks 8 = .ok (.ishl, 1) := by decide +kernel
theorem dX6_rankMasks_9 : decode cX6_rankMasks 9 = .ok (.if_icmp .ge 77, 3) := by decide +kernel
theorem dX6_rankMasks_12 : decode cX6_rankMasks 12 = .ok (.aload_n 0, 1) := by decide +kernel
theorem dX6_rankMasks_13 : decode cX6_rankMasks 13 = .ok (.getfield 21, 3) := by decide +kernel
theorem dX6_rankMasks_16 : decode cX6_rankMasks 16 = .ok (.iconst 1, 1) := by decide +kernel
theorem dX6_rankMasks_17 : decode cX6_rankMasks 17 = .ok (.aload_n 0, 1) := by decide +kernel
theorem dX6_rankMasks_18 : decode cX6_rankMasks 18 = .ok (.getfield 53, 3) := by decide +kernel
theorem dX6_rankMasks_21 : decode cX6_rankMasks 21 = .ok (.ishl, 1) := by decide +kernel
theorem dX6_rankMasks_22 : decode cX6_rankMasks 22 = .ok (.iload_n 1, 1) := by decide +kernel
theorem dX6_rankMasks_23 : decode cX6_rankMasks 23 = .ok (.iadd, 1) := by decide +kernel
theorem dX6_rankMasks_24 : decode cX6_rankMasks 24 = .ok (.iaload, 1) := by decide +kernel
theorem dX6_rankMasks_25 : decode cX6_rankMasks 25 = .ok (.istore_n 2, 1) := by decide +kernel
theorem dX6_rankMasks_26 : decode cX6_rankMasks 26 = .ok (.iload_n 1, 1) := by decide +kernel
theorem dX6_rankMasks_27 : decode cX6_rankMasks 27 = .ok (.aload_n 0, 1) := by decide +kernel
theorem dX6_rankMasks_28 : decode cX6_rankMasks 28 = .ok (.getfield 63, 3) := by decide +kernel
theorem dX6_rankMasks_31 : decode cX6_rankMasks 31 = .ok (.ixor, 1) := by decide +kernel
theorem dX6_rankMasks_32 : decode cX6_rankMasks 32 = .ok (.invokestatic 159, 3) := by decide +kernel
theorem dX6_rankMasks_35 : decode cX6_rankMasks 35 = .ok (.istore_n 3, 1) := by decide +kernel
theorem dX6_rankMasks_36 : decode cX6_rankMasks 36 = .ok (.iload_n 2, 1) := by decide +kernel
theorem dX6_rankMasks_37 : decode cX6_rankMasks 37 = .ok (.bipush 8, 2) := by decide +kernel
theorem dX6_rankMasks_39 : decode cX6_rankMasks 39 = .ok (.imul, 1) := by decide +kernel
theorem dX6_rankMasks_40 : decode cX6_rankMasks 40 = .ok (.iload_n 1, 1) := by decide +kernel
theorem dX6_rankMasks_41 : decode cX6_rankMasks 41 = .ok (.invokestatic 159, 3) := by decide +kernel
theorem dX6_rankMasks_44 : decode cX6_rankMasks 44 = .ok (.iadd, 1) := by decide +kernel
theorem dX6_rankMasks_45 : decode cX6_rankMasks 45 = .ok (.bipush 8, 2) := by decide +kernel
theorem dX6_rankMasks_47 : decode cX6_rankMasks 47 = .ok (.imul, 1) := by decide +kernel
theorem dX6_rankMasks_48 : decode cX6_rankMasks 48 = .ok (.iload_n 3, 1) := by decide +kernel
theorem dX6_rankMasks_49 : decode cX6_rankMasks 49 = .ok (.iadd, 1) := by decide +kernel
theorem dX6_rankMasks_50 : decode cX6_rankMasks 50 = .ok (.istore 4, 2) := by decide +kernel
theorem dX6_rankMasks_52 : decode cX6_rankMasks 52 = .ok (.aload_n 0, 1) := by decide +kernel
theorem dX6_rankMasks_53 : decode cX6_rankMasks 53 = .ok (.getfield 21, 3) := by decide +kernel
theorem dX6_rankMasks_56 : decode cX6_rankMasks 56 = .ok (.iconst 1, 1) := by decide +kernel
theorem dX6_rankMasks_57 : decode cX6_rankMasks 57 = .ok (.aload_n 0, 1) := by decide +kernel
theorem dX6_rankMasks_58 : decode cX6_rankMasks 58 = .ok (.getfield 53, 3) := by decide +kernel
theorem dX6_rankMasks_61 : decode cX6_rankMasks 61 = .ok (.ishl, 1) := by decide +kernel
theorem dX6_rankMasks_62 : decode cX6_rankMasks 62 = .ok (.iload_n 1, 1) := by decide +kernel
theorem dX6_rankMasks_63 : decode cX6_rankMasks 63 = .ok (.iadd, 1) := by decide +kernel
theorem dX6_rankMasks_64 : decode cX6_rankMasks 64 = .ok (.iload_n 3, 1) := by decide +kernel
theorem dX6_rankMasks_65 : decode cX6_rankMasks 65 = .ok (.aload_n 0, 1) := by decide +kernel
theorem dX6_rankMasks_66 : decode cX6_rankMasks 66 = .ok (.getfield 44, 3) := by decide +kernel
theorem dX6_rankMasks_69 : decode cX6_rankMasks 69 = .ok (.if_icmp .gt 8, 3) := by decide +kernel
theorem dX6_rankMasks_72 : decode cX6_rankMasks 72 = .ok (.iload 4, 2) := by decide +kernel
theorem dX6_rankMasks_74 : decode cX6_rankMasks 74 = .ok (.goto 5, 3) := by decide +kernel
theorem dX6_rankMasks_77 : decode cX6_rankMasks 77 = .ok (.ldc 164, 2) := by decide +kernel
theorem dX6_rankMasks_79 : decode cX6_rankMasks 79 = .ok (.iastore, 1) := by decide +kernel
theorem dX6_rankMasks_80 : decode cX6_rankMasks 80 = .ok (.iinc 1 1, 3) := by decide +kernel
theorem dX6_rankMasks_83 : decode cX6_rankMasks 83 = .ok (.goto (-81), 3) := by decide +kernel
theorem dX6_rankMasks_86 : decode cX6_rankMasks 86 = .ok (.return_, 1) := by decide +kernel
theorem dX6_lookOut_0 : decode cX6_lookOut 0 = .ok (.aload_n 0, 1) := by decide +kernel
theorem dX6_lookOut_1 : decode cX6_lookOut 1 = .ok (.getfield 53, 3) := by decide +kernel
theorem dX6_lookOut_4 : decode cX6_lookOut 4 = .ok (.iconst 1, 1) := by decide +kernel
theorem dX6_lookOut_5 : decode cX6_lookOut 5 = .ok (.isub, 1) := by decide +kernel
theorem dX6_lookOut_6 : decode cX6_lookOut 6 = .ok (.istore_n 1, 1) := by decide +kernel
theorem dX6_lookOut_7 : decode cX6_lookOut 7 = .ok (.iload_n 1, 1) := by decide +kernel
theorem dX6_lookOut_8 : decode cX6_lookOut 8 = .ok (.ifCond .lt 80, 3) := by decide +kernel
theorem dX6_lookOut_11 : decode cX6_lookOut 11 = .ok (.iconst 0, 1) := by decide +kernel
theorem dX6_lookOut_12 : decode cX6_lookOut 12 = .ok (.istore_n 2, 1) := by decide +kernel
theorem dX6_lookOut_13 : decode cX6_lookOut 13 = .ok (.iload_n 2, 1) := by decide +kernel
theorem dX6_lookOut_14 : decode cX6_lookOut 14 = .ok (.iconst 1, 1) := by decide +kernel
theorem dX6_lookOut_15 : decode cX6_lookOut 15 = .ok (.iload_n 1, 1) := by decide +kernel
theorem dX6_lookOut_16 : decode cX6_lookOut 16 = .ok (.ishl, 1) := by decide +kernel
theorem dX6_lookOut_17 : decode cX6_lookOut 17 = .ok (.if_icmp .ge 65, 3) := by decide +kernel
theorem dX6_lookOut_20 : decode cX6_lookOut 20 = .ok (.aload_n 0, 1) := by decide +kernel
theorem dX6_lookOut_21 : decode cX6_lookOut 21 = .ok (.getfield 21, 3) := by decide +kernel
theorem dX6_lookOut_24 : decode cX6_lookOut 24 = .ok (.iconst 2, 1) := by decide +kernel
theorem dX6_lookOut_25 : decode cX6_lookOut 25 = .ok (.iload_n 1, 1) := by decide +kernel
theorem dX6_lookOut_26 : decode cX6_lookOut 26 = .ok (.ishl, 1) := by decide +kernel
theorem dX6_lookOut_27 : decode cX6_lookOut 27 = .ok (.iload_n 2, 1) := by decide +kernel
theorem dX6_lookOut_28 : decode cX6_lookOut 28 = .ok (.iadd, 1) := by decide +kernel
theorem dX6_lookOut_29 : decode cX6_lookOut 29 = .ok (.iaload, 1) := by decide +kernel
theorem dX6_lookOut_30 : decode cX6_lookOut 30 = .ok (.istore_n 3, 1) := by decide +kernel
theorem dX6_lookOut_31 : decode cX6_lookOut 31 = .ok (.aload_n 0, 1) := by decide +kernel
theorem dX6_lookOut_32 : decode cX6_lookOut 32 = .ok (.getfield 21, 3) := by decide +kernel
theorem dX6_lookOut_35 : decode cX6_lookOut 35 = .ok (.iconst 2, 1) := by decide +kernel
theorem dX6_lookOut_36 : decode cX6_lookOut 36 = .ok (.iload_n 1, 1) := by decide +kernel
theorem dX6_lookOut_37 : decode cX6_lookOut 37 = .ok (.ishl, 1) := by decide +kernel
theorem dX6_lookOut_38 : decode cX6_lookOut 38 = .ok (.iconst 1, 1) := by decide +kernel
theorem dX6_lookOut_39 : decode cX6_lookOut 39 = .ok (.iload_n 1, 1) := by decide +kernel
theorem dX6_lookOut_40 : decode cX6_lookOut 40 = .ok (.ishl, 1) := by decide +kernel
theorem dX6_lookOut_41 : decode cX6_lookOut 41 = .ok (.iadd, 1) := by decide +kernel
theorem dX6_lookOut_42 : decode cX6_lookOut 42 = .ok (.iload_n 2, 1) := by decide +kernel
theorem dX6_lookOut_43 : decode cX6_lookOut 43 = .ok (.iadd, 1) := by decide +kernel
theorem dX6_lookOut_44 : decode cX6_lookOut 44 = .ok (.iaload, 1) := by decide +kernel
theorem dX6_lookOut_45 : decode cX6_lookOut 45 = .ok (.istore 4, 2) := by decide +kernel
theorem dX6_lookOut_47 : decode cX6_lookOut 47 = .ok (.aload_n 0, 1) := by decide +kernel
theorem dX6_lookOut_48 : decode cX6_lookOut 48 = .ok (.getfield 21, 3) := by decide +kernel
theorem dX6_lookOut_51 : decode cX6_lookOut 51 = .ok (.iconst 1, 1) := by decide +kernel
theorem dX6_lookOut_52 : decode cX6_lookOut 52 = .ok (.iload_n 1, 1) := by decide +kernel
theorem dX6_lookOut_53 : decode cX6_lookOut 53 = .ok (.ishl, 1) := by decide +kernel
theorem dX6_lookOut_54 : decode cX6_lookOut 54 = .ok (.iload_n 2, 1) := by decide +kernel
theorem dX6_lookOut_55 : decode cX6_lookOut 55 = .ok (.iadd, 1) := by decide +kernel
theorem dX6_lookOut_56 : decode cX6_lookOut 56 = .ok (.aload_n 0, 1) := by decide +kernel
theorem dX6_lookOut_57 : decode cX6_lookOut 57 = .ok (.getfield 9, 3) := by decide +kernel
theorem dX6_lookOut_60 : decode cX6_lookOut 60 = .ok (.iload_n 1, 1) := by decide +kernel
theorem dX6_lookOut_61 : decode cX6_lookOut 61 = .ok (.iaload, 1) := by decide +kernel
theorem dX6_lookOut_62 : decode cX6_lookOut 62 = .ok (.ifCond .ne 7, 3) := by decide +kernel
theorem dX6_lookOut_65 : decode cX6_lookOut 65 = .ok (.iload_n 3, 1) := by decide +kernel
theorem dX6_lookOut_66 : decode cX6_lookOut 66 = .ok (.goto 9, 3) := by decide +kernel
theorem dX6_lookOut_69 : decode cX6_lookOut 69 = .ok (.iload_n 3, 1) := by decide +kernel
theorem dX6_lookOut_70 : decode cX6_lookOut 70 = .ok (.iload 4, 2) := by decide +kernel
theorem dX6_lookOut_72 : decode cX6_lookOut 72 = .ok (.invokestatic 165, 3) := by decide +kernel
theorem dX6_lookOut_75 : decode cX6_lookOut 75 = .ok (.iastore, 1) := by decide +kernel
theorem dX6_lookOut_76 : decode cX6_lookOut 76 = .ok (.iinc 2 1, 3) := by decide +kernel
theorem dX6_lookOut_79 : decode cX6_lookOut 79 = .ok (.goto (-66), 3) := by decide +kernel
theorem dX6_lookOut_82 : decode cX6_lookOut 82 = .ok (.iinc 1 (-1), 3) := by decide +kernel
theorem dX6_lookOut_85 : decode cX6_lookOut 85 = .ok (.goto (-78), 3) := by decide +kernel
theorem dX6_lookOut_88 : decode cX6_lookOut 88 = .ok (.return_, 1) := by decide +kernel
theorem dX6_startFromNow_0 : decode cX6_startFromNow 0 = .ok (.aload_n 1, 1) := by decide +kernel
theorem dX6_startFromNow_1 : decode cX6_startFromNow 1 = .ok (.getfield 171, 3) := by decide +kernel
theorem dX6_startFromNow_4 : decode cX6_startFromNow 4 = .ok (.getfield 175, 3) := by decide +kernel
theorem dX6_startFromNow_7 : decode cX6_startFromNow 7 = .ok (.aload_n 0, 1) := by decide +kernel
theorem dX6_startFromNow_8 : decode cX6_startFromNow 8 = .ok (.getfield 41, 3) := by decide +kernel
theorem dX6_startFromNow_11 : decode cX6_startFromNow 11 = .ok (.aload_n 0, 1) := by decide +kernel
theorem dX6_startFromNow_12 : decode cX6_startFromNow 12 = .ok (.getfield 30, 3) := by decide +kernel
theorem dX6_startFromNow_15 : decode cX6_startFromNow 15 = .ok (.iconst 0, 1) := by decide +kernel
theorem dX6_startFromNow_16 : decode cX6_startFromNow 16 = .ok (.aload_n 0, 1) := by decide +kernel
theorem dX6_startFromNow_17 : decode cX6_startFromNow 17 = .ok (.getfield 53, 3) := by decide +kernel
theorem dX6_startFromNow_20 : decode cX6_startFromNow 20 = .ok (.invokestatic 180, 3) := by decide +kernel
theorem dX6_startFromNow_23 : decode cX6_startFromNow 23 = .ok (.aload_n 0, 1) := by decide +kernel
theorem dX6_startFromNow_24 : decode cX6_startFromNow 24 = .ok (.aload_n 0, 1) := by decide +kernel
theorem dX6_startFromNow_25 : decode cX6_startFromNow 25 = .ok (.getfield 63, 3) := by decide +kernel
theorem dX6_startFromNow_28 : decode cX6_startFromNow 28 = .ok (.putfield 186, 3) := by decide +kernel
theorem dX6_startFromNow_31 : decode cX6_startFromNow 31 = .ok (.aload_n 0, 1) := by decide +kernel
theorem dX6_startFromNow_32 : decode cX6_startFromNow 32 = .ok (.aload_n 0, 1) := by decide +kernel
theorem dX6_startFromNow_33 : decode cX6_startFromNow 33 = .ok (.getfield 21, 3) := by decide +kernel
theorem dX6_startFromNow_36 : decode cX6_startFromNow 36 = .ok (.iconst 1, 1) := by decide +kernel
theorem dX6_startFromNow_37 : decode cX6_startFromNow 37 = .ok (.aload_n 0, 1) := by decide +kernel
theorem dX6_startFromNow_38 : decode cX6_startFromNow 38 = .ok (.getfield 53, 3) := by decide +kernel
theorem dX6_startFromNow_41 : decode cX6_startFromNow 41 = .ok (.ishl, 1) := by decide +kernel
theorem dX6_startFromNow_42 : decode cX6_startFromNow 42 = .ok (.aload_n 0, 1) := by decide +kernel
theorem dX6_startFromNow_43 : decode cX6_startFromNow 43 = .ok (.getfield 63, 3) := by decide +kernel
theorem dX6_startFromNow_46 : decode cX6_startFromNow 46 = .ok (.iadd, 1) := by decide +kernel
theorem dX6_startFromNow_47 : decode cX6_startFromNow 47 = .ok (.iaload, 1) := by decide +kernel
theorem dX6_startFromNow_48 : decode cX6_startFromNow 48 = .ok (.putfield 189, 3) := by decide +kernel
theorem dX6_startFromNow_51 : decode cX6_startFromNow 51 = .ok (.aload_n 0, 1) := by decide +kernel
theorem dX6_startFromNow_52 : decode cX6_startFromNow 52 = .ok (.iconst 0, 1) := by decide +kernel
theorem dX6_startFromNow_53 : decode cX6_startFromNow 53 = .ok (.putfield 192, 3) := by decide +kernel
theorem dX6_startFromNow_56 : decode cX6_startFromNow 56 = .ok (.return_, 1) := by decide +kernel
theorem dX6_tryPass_0 : decode cX6_tryPass 0 = .ok (.aload_n 0, 1) := by decide +kernel
theorem dX6_tryPass_1 : decode cX6_tryPass 1 = .ok (.getfield 21, 3) := by decide +kernel
theorem dX6_tryPass_4 : decode cX6_tryPass 4 = .ok (.iconst 1, 1) := by decide +kernel
theorem dX6_tryPass_5 : decode cX6_tryPass 5 = .ok (.iload_n 2, 1) := by decide +kernel
theorem dX6_tryPass_6 : decode cX6_tryPass 6 = .ok (.ishl, 1) := by decide +kernel
theorem dX6_tryPass_7 : decode cX6_tryPass 7 = .ok (.iload_n 3, 1) := by decide +kernel
theorem dX6_tryPass_8 : decode cX6_tryPass 8 = .ok (.iadd, 1) := by decide +kernel
theorem dX6_tryPass_9 : decode cX6_tryPass 9 = .ok (.iaload, 1) := by decide +kernel
theorem dX6_tryPass_10 : decode cX6_tryPass 10 = .ok (.iload 4, 2) := by decide +kernel
theorem dX6_tryPass_12 : decode cX6_tryPass 12 = .ok (.iadd, 1) := by decide +kernel
theorem dX6_tryPass_13 : decode cX6_tryPass 13 = .ok (.aload_n 0, 1) := by decide +kernel
theorem dX6_tryPass_14 : decode cX6_tryPass 14 = .ok (.getfield 189, 3) := by decide +kernel
theorem dX6_tryPass_17 : decode cX6_tryPass 17 = .ok (.if_icmp .ge 19, 3) := by decide +kernel
theorem dX6_tryPass_20 : decode cX6_tryPass 20 = .ok (.aload_n 0, 1) := by decide +kernel
theorem dX6_tryPass_21 : decode cX6_tryPass 21 = .ok (.iload_n 2, 1) := by decide +kernel
theorem dX6_tryPass_22 : decode cX6_tryPass 22 = .ok (.iload_n 3, 1) := by decide +kernel
theorem dX6_tryPass_23 : decode cX6_tryPass 23 = .ok (.invokevirtual 195, 3) := by decide +kernel
theorem dX6_tryPass_26 : decode cX6_tryPass 26 = .ok (.iload 4, 2) := by decide +kernel
theorem dX6_tryPass_28 : decode cX6_tryPass 28 = .ok (.iadd, 1) := by decide +kernel
theorem dX6_tryPass_29 : decode cX6_tryPass 29 = .ok (.aload_n 0, 1) := by decide +kernel
theorem dX6_tryPass_30 : decode cX6_tryPass 30 = .ok (.getfield 44, 3) := by decide +kernel
theorem dX6_tryPass_33 : decode cX6_tryPass 33 = .ok (.if_icmp .le 4, 3) := by decide +kernel
theorem dX6_tryPass_36 : decode cX6_tryPass 36 = .ok (.return_, 1) := by decide +kernel
theorem dX6_tryPass_37 : decode cX6_tryPass 37 = .ok (.iload_n 2, 1) := by decide +kernel
theorem dX6_tryPass_38 : decode cX6_tryPass 38 = .ok (.aload_n 0, 1) := by decide +kernel
theorem dX6_tryPass_39 : decode cX6_tryPass 39 = .ok (.getfield 53, 3) := by decide +kernel
theorem dX6_tryPass_42 : decode cX6_tryPass 42 = .ok (.if_icmp .lt 11, 3) := by decide +kernel
theorem dX6_tryPass_45 : decode cX6_tryPass 45 = .ok (.aload_n 0, 1) := by decide +kernel
theorem dX6_tryPass_46 : decode cX6_tryPass 46 = .ok (.iload_n 3, 1) := by decide +kernel
theorem dX6_tryPass_47 : decode cX6_tryPass 47 = .ok (.iload 4, 2) := by decide +kernel
theorem dX6_tryPass_49 : decode cX6_tryPass 49 = .ok (.invokevirtual 198, 3) := by decide +kernel
theorem dX6_tryPass_52 : decode cX6_tryPass 52 = .ok (.return_, 1) := by decide +kernel
theorem dX6_tryPass_53 : decode cX6_tryPass 53 = .ok (.aload_n 0, 1) := by decide +kernel
theorem dX6_tryPass_54 : decode cX6_tryPass 54 = .ok (.getfield 27, 3) := by decide +kernel
theorem dX6_tryPass_57 : decode cX6_tryPass 57 = .ok (.iload_n 2, 1) := by decide +kernel
theorem dX6_tryPass_58 : decode cX6_tryPass 58 = .ok (.iconst (-1), 1) := by decide +kernel
theorem dX6_tryPass_59 : decode cX6_tryPass 59 = .ok (.iastore, 1) := by decide +kernel
theorem dX6_tryPass_60 : decode cX6_tryPass 60 = .ok (.aload_n 0, 1) := by decide +kernel
theorem dX6_tryPass_61 : decode cX6_tryPass 61 = .ok (.aload_n 1, 1) := by decide +kernel
theorem dX6_tryPass_62 : decode cX6_tryPass 62 = .ok (.iload_n 2, 1) := by decide +kernel
theorem dX6_tryPass_63 : decode cX6_tryPass 63 = .ok (.iconst 1, 1) := by decide +kernel
theorem dX6_tryPass_64 : decode cX6_tryPass 64 = .ok (.iadd, 1) := by decide +kernel
theorem dX6_tryPass_65 : decode cX6_tryPass 65 = .ok (.iload_n 3, 1) := by decide +kernel
theorem dX6_tryPass_66 : decode cX6_tryPass 66 = .ok (.iload 4, 2) := by decide +kernel
theorem dX6_tryPass_68 : decode cX6_tryPass 68 = .ok (.invokestatic 89, 3) := by decide +kernel
theorem dX6_tryPass_71 : decode cX6_tryPass 71 = .ok (.aload_n 0, 1) := by decide +kernel
theorem dX6_tryPass_72 : decode cX6_tryPass 72 = .ok (.iload_n 2, 1) := by decide +kernel
theorem dX6_tryPass_73 : decode cX6_tryPass 73 = .ok (.iload_n 3, 1) := by decide +kernel
theorem dX6_tryPass_74 : decode cX6_tryPass 74 = .ok (.invokevirtual 202, 3) := by decide +kernel
theorem dX6_tryPass_77 : decode cX6_tryPass 77 = .ok (.istore 5, 2) := by decide +kernel
theorem dX6_tryPass_79 : decode cX6_tryPass 79 = .ok (.aload_n 1, 1) := by decide +kernel
theorem dX6_tryPass_80 : decode cX6_tryPass 80 = .ok (.getfield 171, 3) := by decide +kernel
theorem dX6_tryPass_83 : decode cX6_tryPass 83 = .ok (.getfield 175, 3) := by decide +kernel
theorem dX6_tryPass_86 : decode cX6_tryPass 86 = .ok (.aload_n 0, 1) := by decide +kernel
theorem dX6_tryPass_87 : decode cX6_tryPass 87 = .ok (.getfield 41, 3) := by decide +kernel
theorem dX6_tryPass_90 : decode cX6_tryPass 90 = .ok (.iload_n 2, 1) := by decide +kernel
theorem dX6_tryPass_91 : decode cX6_tryPass 91 = .ok (.iadd, 1) := by decide +kernel
theorem dX6_tryPass_92 : decode cX6_tryPass 92 = .ok (.iaload, 1) := by decide +kernel
theorem dX6_tryPass_93 : decode cX6_tryPass 93 = .ok (.istore 6, 2) := by decide +kernel
theorem dX6_tryPass_95 : decode cX6_tryPass 95 = .ok (.iconst 0, 1) := by decide +kernel
theorem dX6_tryPass_96 : decode cX6_tryPass 96 = .ok (.istore 7, 2) := by decide +kernel
theorem dX6_tryPass_98 : decode cX6_tryPass 98 = .ok (.iload 7, 2) := by decide +kernel
theorem dX6_tryPass_100 : decode cX6_tryPass 100 = .ok (.aload_n 1, 1) := by decide +kernel
theorem dX6_tryPass_101 : decode cX6_tryPass 101 = .ok (.getfield 93, 3) := by decide +kernel
theorem dX6_tryPass_104 : decode cX6_tryPass 104 = .ok (.getfield 97, 3) := by decide +kernel
theorem dX6_tryPass_107 : decode cX6_tryPass 107 = .ok (.getfield 103, 3) := by decide +kernel
theorem dX6_tryPass_110 : decode cX6_tryPass 110 = .ok (.if_icmp .ge 62, 3) := by decide +kernel
theorem dX6_tryPass_113 : decode cX6_tryPass 113 = .ok (.iload 5, 2) := by decide +kernel
theorem dX6_tryPass_115 : decode cX6_tryPass 115 = .ok (.iload 7, 2) := by decide +kernel
theorem dX6_tryPass_117 : decode cX6_tryPass 117 = .ok (.ishr, 1) := by decide +kernel
theorem dX6_tryPass_118 : decode cX6_tryPass 118 = .ok (.iconst 1, 1) := by decide +kernel
theorem dX6_tryPass_119 : decode cX6_tryPass 119 = .ok (.iand, 1) := by decide +kernel
theorem dX6_tryPass_120 : decode cX6_tryPass 120 = .ok (.ifCond .eq 46, 3) := by decide +kernel
theorem dX6_tryPass_123 : decode cX6_tryPass 123 = .ok (.aload_n 0, 1) := by decide +kernel
theorem dX6_tryPass_124 : decode cX6_tryPass 124 = .ok (.getfield 27, 3) := by decide +kernel
theorem dX6_tryPass_127 : decode cX6_tryPass 127 = .ok (.iload_n 2, 1) := by decide +kernel
theorem dX6_tryPass_128 : decode cX6_tryPass 128 = .ok (.iload 7, 2) := by decide +kernel
theorem dX6_tryPass_130 : decode cX6_tryPass 130 = .ok (.iastore, 1) := by decide +kernel
theorem dX6_tryPass_131 : decode cX6_tryPass 131 = .ok (.aload_n 0, 1) := by decide +kernel
theorem dX6_tryPass_132 : decode cX6_tryPass 132 = .ok (.aload_n 1, 1) := by decide +kernel
theorem dX6_tryPass_133 : decode cX6_tryPass 133 = .ok (.iload_n 2, 1) := by decide +kernel
theorem dX6_tryPass_134 : decode cX6_tryPass 134 = .ok (.iconst 1, 1) := by decide +kernel
theorem dX6_tryPass_135 : decode cX6_tryPass 135 = .ok (.iadd, 1) := by decide +kernel
theorem dX6_tryPass_136 : decode cX6_tryPass 136 = .ok (.iload_n 3, 1) := by decide +kernel
theorem dX6_tryPass_137 : decode cX6_tryPass 137 = .ok (.iconst 1, 1) := by decide +kernel
theorem dX6_tryPass_138 : decode cX6_tryPass 138 = .ok (.iload_n 2, 1) := by decide +kernel
theorem dX6_tryPass_139 : decode cX6_tryPass 139 = .ok (.ishl, 1) := by decide +kernel
theorem dX6_tryPass_140 : decode cX6_tryPass 140 = .ok (.ior, 1) := by decide +kernel
theorem dX6_tryPass_141 : decode cX6_tryPass 141 = .ok (.iload 6, 2) := by decide +kernel
theorem dX6_tryPass_143 : decode cX6_tryPass 143 = .ok (.iconst (-1), 1) := by decide +kernel
theorem dX6_tryPass_144 : decode cX6_tryPass 144 = .ok (.if_icmp .eq 10, 3) := by decide +kernel
theorem dX6_tryPass_147 : decode cX6_tryPass 147 = .ok (.iload 6, 2) := by decide +kernel
theorem dX6_tryPass_149 : decode cX6_tryPass 149 = .ok (.iload 7, 2) := by decide +kernel
theorem dX6_tryPass_151 : decode cX6_tryPass 151 = .ok (.if_icmp .ne 8, 3) := by decide +kernel
theorem dX6_tryPass_154 : decode cX6_tryPass 154 = .ok (.iload 4, 2) := by decide +kernel
theorem dX6_tryPass_156 : decode cX6_tryPass 156 = .ok (.goto 7, 3) := by decide +kernel
theorem dX6_tryPass_159 : decode cX6_tryPass 159 = .ok (.iload 4, 2) := by decide +kernel
theorem dX6_tryPass_161 : decode cX6_tryPass 161 = .ok (.iconst 1, 1) := by decide +kernel
theorem dX6_tryPass_162 : decode cX6_tryPass 162 = .ok (.iadd, 1) := by decide +kernel
theorem dX6_tryPass_163 : decode cX6_tryPass 163 = .ok (.invokestatic 89, 3) := by decide +kernel
theorem dX6_tryPass_166 : decode cX6_tryPass 166 = .ok (.iinc 7 1, 3) := by decide +kernel
theorem dX6_tryPass_169 : decode cX6_tryPass 169 = .ok (.goto (-71), 3) := by decide +kernel
theorem dX6_tryPass_172 : decode cX6_tryPass 172 = .ok (.return_, 1) := by decide +kernel
theorem dX6_changesAhead_0 : decode cX6_changesAhead 0 = .ok (.iload_n 2, 1) := by decide +kernel
theorem dX6_changesAhead_1 : decode cX6_changesAhead 1 = .ok (.aload_n 0, 1) := by decide +kernel
theorem dX6_changesAhead_2 : decode cX6_changesAhead 2 = .ok (.getfield 63, 3) := by decide +kernel
theorem dX6_changesAhead_5 : decode cX6_changesAhead 5 = .ok (.ixor, 1) := by decide +kernel
theorem dX6_changesAhead_6 : decode cX6_changesAhead 6 = .ok (.iconst 1, 1) := by decide +kernel
theorem dX6_changesAhead_7 : decode cX6_changesAhead 7 = .ok (.iload_n 1, 1) := by decide +kernel
theorem dX6_changesAhead_8 : decode cX6_changesAhead 8 = .ok (.ishl, 1) := by decide +kernel
theorem dX6_changesAhead_9 : decode cX6_changesAhead 9 = .ok (.iconst 1, 1) := by decide +kernel
theorem dX6_changesAhead_10 : decode cX6_changesAhead 10 = .ok (.isub, 1) := by decide +kernel
theorem dX6_changesAhead_11 : decode cX6_changesAhead 11 = .ok (.iand, 1) := by decide +kernel
theorem dX6_changesAhead_12 : decode cX6_changesAhead 12 = .ok (.invokestatic 159, 3) := by decide +kernel
theorem dX6_changesAhead_15 : decode cX6_changesAhead 15 = .ok (.ireturn, 1) := by decide +kernel
theorem dX6_keepWay_0 : decode cX6_keepWay 0 = .ok (.aload_n 0, 1) := by decide +kernel
theorem dX6_keepWay_1 : decode cX6_keepWay 1 = .ok (.getfield 27, 3) := by decide +kernel
theorem dX6_keepWay_4 : decode cX6_keepWay 4 = .ok (.iconst 0, 1) := by decide +kernel
theorem dX6_keepWay_5 : decode cX6_keepWay 5 = .ok (.aload_n 0, 1) := by decide +kernel
theorem dX6_keepWay_6 : decode cX6_keepWay 6 = .ok (.getfield 30, 3) := by decide +kernel
theorem dX6_keepWay_9 : decode cX6_keepWay 9 = .ok (.iconst 0, 1) := by decide +kernel
theorem dX6_keepWay_10 : decode cX6_keepWay 10 = .ok (.aload_n 0, 1) := by decide +kernel
theorem dX6_keepWay_11 : decode cX6_keepWay 11 = .ok (.getfield 53, 3) := by decide +kernel
theorem dX6_keepWay_14 : decode cX6_keepWay 14 = .ok (.invokestatic 180, 3) := by decide +kernel
theorem dX6_keepWay_17 : decode cX6_keepWay 17 = .ok (.aload_n 0, 1) := by decide +kernel
theorem dX6_keepWay_18 : decode cX6_keepWay 18 = .ok (.iload_n 1, 1) := by decide +kernel
theorem dX6_keepWay_19 : decode cX6_keepWay 19 = .ok (.putfield 186, 3) := by decide +kernel
theorem dX6_keepWay_22 : decode cX6_keepWay 22 = .ok (.aload_n 0, 1) := by decide +kernel
theorem dX6_keepWay_23 : decode cX6_keepWay 23 = .ok (.aload_n 0, 1) := by decide +kernel
theorem dX6_keepWay_24 : decode cX6_keepWay 24 = .ok (.getfield 21, 3) := by decide +kernel
theorem dX6_keepWay_27 : decode cX6_keepWay 27 = .ok (.iconst 1, 1) := by decide +kernel
theorem dX6_keepWay_28 : decode cX6_keepWay 28 = .ok (.aload_n 0, 1) := by decide +kernel
theorem dX6_keepWay_29 : decode cX6_keepWay 29 = .ok (.getfield 53, 3) := by decide +kernel
theorem dX6_keepWay_32 : decode cX6_keepWay 32 = .ok (.ishl, 1) := by decide +kernel
theorem dX6_keepWay_33 : decode cX6_keepWay 33 = .ok (.iload_n 1, 1) := by decide +kernel
theorem dX6_keepWay_34 : decode cX6_keepWay 34 = .ok (.iadd, 1) := by decide +kernel
theorem dX6_keepWay_35 : decode cX6_keepWay 35 = .ok (.iaload, 1) := by decide +kernel
theorem dX6_keepWay_36 : decode cX6_keepWay 36 = .ok (.iload_n 2, 1) := by decide +kernel
theorem dX6_keepWay_37 : decode cX6_keepWay 37 = .ok (.iadd, 1) := by decide +kernel
theorem dX6_keepWay_38 : decode cX6_keepWay 38 = .ok (.putfield 189, 3) := by decide +kernel
theorem dX6_keepWay_41 : decode cX6_keepWay 41 = .ok (.aload_n 0, 1) := by decide +kernel
theorem dX6_keepWay_42 : decode cX6_keepWay 42 = .ok (.aload_n 0, 1) := by decide +kernel
theorem dX6_keepWay_43 : decode cX6_keepWay 43 = .ok (.aload_n 0, 1) := by decide +kernel
theorem dX6_keepWay_44 : decode cX6_keepWay 44 = .ok (.getfield 53, 3) := by decide +kernel
theorem dX6_keepWay_47 : decode cX6_keepWay 47 = .ok (.iload_n 1, 1) := by decide +kernel
theorem dX6_keepWay_48 : decode cX6_keepWay 48 = .ok (.invokevirtual 195, 3) := by decide +kernel
theorem dX6_keepWay_51 : decode cX6_keepWay 51 = .ok (.iload_n 2, 1) := by decide +kernel
theorem dX6_keepWay_52 : decode cX6_keepWay 52 = .ok (.iadd, 1) := by decide +kernel
theorem dX6_keepWay_53 : decode cX6_keepWay 53 = .ok (.putfield 192, 3) := by decide +kernel
theorem dX6_keepWay_56 : decode cX6_keepWay 56 = .ok (.return_, 1) := by decide +kernel
theorem dX6_freeAntennas_0 : decode cX6_freeAntennas 0 = .ok (.aload_n 0, 1) := by decide +kernel
theorem dX6_freeAntennas_1 : decode cX6_freeAntennas 1 = .ok (.getfield 18, 3) := by decide +kernel
theorem dX6_freeAntennas_4 : decode cX6_freeAntennas 4 = .ok (.iload_n 1, 1) := by decide +kernel
theorem dX6_freeAntennas_5 : decode cX6_freeAntennas 5 = .ok (.iaload, 1) := by decide +kernel
theorem dX6_freeAntennas_6 : decode cX6_freeAntennas 6 = .ok (.iload_n 2, 1) := by decide +kernel
theorem dX6_freeAntennas_7 : decode cX6_freeAntennas 7 = .ok (.iand, 1) := by decide +kernel
theorem dX6_freeAntennas_8 : decode cX6_freeAntennas 8 = .ok (.ifCond .eq 5, 3) := by decide +kernel
theorem dX6_freeAntennas_11 : decode cX6_freeAntennas 11 = .ok (.iconst 0, 1) := by decide +kernel
theorem dX6_freeAntennas_12 : decode cX6_freeAntennas 12 = .ok (.ireturn, 1) := by decide +kernel
theorem dX6_freeAntennas_13 : decode cX6_freeAntennas 13 = .ok (.aload_n 0, 1) := by decide +kernel
theorem dX6_freeAntennas_14 : decode cX6_freeAntennas 14 = .ok (.getfield 9, 3) := by decide +kernel
theorem dX6_freeAntennas_17 : decode cX6_freeAntennas 17 = .ok (.iload_n 1, 1) := by decide +kernel
theorem dX6_freeAntennas_18 : decode cX6_freeAntennas 18 = .ok (.iaload, 1) := by decide +kernel
theorem dX6_freeAntennas_19 : decode cX6_freeAntennas 19 = .ok (.istore_n 3, 1) := by decide +kernel
theorem dX6_freeAntennas_20 : decode cX6_freeAntennas 20 = .ok (.iconst 0, 1) := by decide +kernel
theorem dX6_freeAntennas_21 : decode cX6_freeAntennas 21 = .ok (.istore 4, 2) := by decide +kernel
theorem dX6_freeAntennas_23 : decode cX6_freeAntennas 23 = .ok (.iload 4, 2) := by decide +kernel
theorem dX6_freeAntennas_25 : decode cX6_freeAntennas 25 = .ok (.iload_n 1, 1) := by decide +kernel
theorem dX6_freeAntennas_26 : decode cX6_freeAntennas 26 = .ok (.if_icmp .ge 45, 3) := by decide +kernel
theorem dX6_freeAntennas_29 : decode cX6_freeAntennas 29 = .ok (.iload_n 2, 1) := by decide +kernel
theorem dX6_freeAntennas_30 : decode cX6_freeAntennas 30 = .ok (.iload 4, 2) := by decide +kernel
theorem dX6_freeAntennas_32 : decode cX6_freeAntennas 32 = .ok (.ishr, 1) := by decide +kernel
theorem dX6_freeAntennas_33 : decode cX6_freeAntennas 33 = .ok (.iconst 1, 1) := by decide +kernel
theorem dX6_freeAntennas_34 : decode cX6_freeAntennas 34 = .ok (.iand, 1) := by decide +kernel
theorem dX6_freeAntennas_35 : decode cX6_freeAntennas 35 = .ok (.ifCond .eq 30, 3) := by decide +kernel
theorem dX6_freeAntennas_38 : decode cX6_freeAntennas 38 = .ok (.iload_n 3, 1) := by decide +kernel
theorem dX6_freeAntennas_39 : decode cX6_freeAntennas 39 = .ok (.aload_n 0, 1) := by decide +kernel
theorem dX6_freeAntennas_40 : decode cX6_freeAntennas 40 = .ok (.getfield 15, 3) := by decide +kernel
theorem dX6_freeAntennas_43 : decode cX6_freeAntennas 43 = .ok (.iload 4, 2) := by decide +kernel
theorem dX6_freeAntennas_45 : decode cX6_freeAntennas 45 = .ok (.bipush 6, 2) := by decide +kernel
theorem dX6_freeAntennas_47 : decode cX6_freeAntennas 47 = .ok (.imul, 1) := by decide +kernel
theorem dX6_freeAntennas_48 : decode cX6_freeAntennas 48 = .ok (.iload_n 1, 1) := by decide +kernel
theorem dX6_freeAntennas_49 : decode cX6_freeAntennas 49 = .ok (.iadd, 1) := by decide +kernel
theorem dX6_freeAntennas_50 : decode cX6_freeAntennas 50 = .ok (.iaload, 1) := by decide +kernel
theorem dX6_freeAntennas_51 : decode cX6_freeAntennas 51 = .ok (.iconst 1, 1) := by decide +kernel
theorem dX6_freeAntennas_52 : decode cX6_freeAntennas 52 = .ok (.aload_n 0, 1) := by decide +kernel
theorem dX6_freeAntennas_53 : decode cX6_freeAntennas 53 = .ok (.getfield 27, 3) := by decide +kernel
theorem dX6_freeAntennas_56 : decode cX6_freeAntennas 56 = .ok (.iload 4, 2) := by decide +kernel
theorem dX6_freeAntennas_58 : decode cX6_freeAntennas 58 = .ok (.iaload, 1) := by decide +kernel
theorem dX6_freeAntennas_59 : decode cX6_freeAntennas 59 = .ok (.ishl, 1) := by decide +kernel
theorem dX6_freeAntennas_60 : decode cX6_freeAntennas 60 = .ok (.iand, 1) := by decide +kernel
theorem dX6_freeAntennas_61 : decode cX6_freeAntennas 61 = .ok (.iconst (-1), 1) := by decide +kernel
theorem dX6_freeAntennas_62 : decode cX6_freeAntennas 62 = .ok (.ixor, 1) := by decide +kernel
theorem dX6_freeAntennas_63 : decode cX6_freeAntennas 63 = .ok (.iand, 1) := by decide +kernel
theorem dX6_freeAntennas_64 : decode cX6_freeAntennas 64 = .ok (.istore_n 3, 1) := by decide +kernel
theorem dX6_freeAntennas_65 : decode cX6_freeAntennas 65 = .ok (.iinc 4 1, 3) := by decide +kernel
theorem dX6_freeAntennas_68 : decode cX6_freeAntennas 68 = .ok (.goto (-45), 3) := by decide +kernel
theorem dX6_freeAntennas_71 : decode cX6_freeAntennas 71 = .ok (.iload_n 3, 1) := by decide +kernel
theorem dX6_freeAntennas_72 : decode cX6_freeAntennas 72 = .ok (.ireturn, 1) := by decide +kernel
theorem dX7_init_0 : decode cX7_init 0 = .ok (.aload_n 0, 1) := by decide +kernel
theorem dX7_init_1 : decode cX7_init 1 = .ok (.invokespecial 3, 3) := by decide +kernel
theorem dX7_init_4 : decode cX7_init 4 = .ok (.aload_n 0, 1) := by decide +kernel
theorem dX7_init_5 : decode cX7_init 5 = .ok (.new 9, 3) := by decide +kernel
theorem dX7_init_8 : decode cX7_init 8 = .ok (.dup, 1) := by decide +kernel
theorem dX7_init_9 : decode cX7_init 9 = .ok (.iconst 4, 1) := by decide +kernel
theorem dX7_init_10 : decode cX7_init 10 = .ok (.getstatic 11, 3) := by decide +kernel
theorem dX7_init_13 : decode cX7_init 13 = .ok (.getstatic 15, 3) := by decide +kernel
theorem dX7_init_16 : decode cX7_init 16 = .ok (.invokespecial 18, 3) := by decide +kernel
theorem dX7_init_19 : decode cX7_init 19 = .ok (.putfield 21, 3) := by decide +kernel
theorem dX7_init_22 : decode cX7_init 22 = .ok (.aload_n 0, 1) := by decide +kernel
theorem dX7_init_23 : decode cX7_init 23 = .ok (.new 9, 3) := by decide +kernel
theorem dX7_init_26 : decode cX7_init 26 = .ok (.dup, 1) := by decide +kernel
theorem dX7_init_27 : decode cX7_init 27 = .ok (.iconst 3, 1) := by decide +kernel
theorem dX7_init_28 : decode cX7_init 28 = .ok (.getstatic 27, 3) := by decide +kernel
theorem dX7_init_31 : decode cX7_init 31 = .ok (.getstatic 30, 3) := by decide +kernel
theorem dX7_init_34 : decode cX7_init 34 = .ok (.invokespecial 18, 3) := by decide +kernel
theorem dX7_init_37 : decode cX7_init 37 = .ok (.putfield 33, 3) := by decide +kernel
theorem dX7_init_40 : decode cX7_init 40 = .ok (.aload_n 0, 1) := by decide +kernel
theorem dX7_init_41 : decode cX7_init 41 = .ok (.new 9, 3) := by decide +kernel
theorem dX7_init_44 : decode cX7_init 44 = .ok (.dup, 1) := by decide +kernel
theorem dX7_init_45 : decode cX7_init 45 = .ok (.iconst 4, 1) := by decide +kernel
theorem dX7_init_46 : decode cX7_init 46 = .ok (.getstatic 36, 3) := by decide +kernel
theorem dX7_init_49 : decode cX7_init 49 = .ok (.getstatic 39, 3) := by decide +kernel
theorem dX7_init_52 : decode cX7_init 52 = .ok (.invokespecial 18, 3) := by decide +kernel
theorem dX7_init_55 : decode cX7_init 55 = .ok (.putfield 42, 3) := by decide +kernel
theorem dX7_init_58 : decode cX7_init 58 = .ok (.return_, 1) := by decide +kernel
theorem dX7_readAll_0 : decode cX7_readAll 0 = .ok (.aload_n 0, 1) := by decide +kernel
theorem dX7_readAll_1 : decode cX7_readAll 1 = .ok (.getfield 21, 3) := by decide +kernel
theorem dX7_readAll_4 : decode cX7_readAll 4 = .ok (.iconst 0, 1) := by decide +kernel
theorem dX7_readAll_5 : decode cX7_readAll 5 = .ok (.putfield 45, 3) := by decide +kernel
theorem dX7_readAll_8 : decode cX7_readAll 8 = .ok (.aload_n 0, 1) := by decide +kernel
theorem dX7_readAll_9 : decode cX7_readAll 9 = .ok (.getfield 33, 3) := by decide +kernel
theorem dX7_readAll_12 : decode cX7_readAll 12 = .ok (.iconst 0, 1) := by decide +kernel
theorem dX7_readAll_13 : decode cX7_readAll 13 = .ok (.putfield 45, 3) := by decide +kernel
theorem dX7_readAll_16 : decode cX7_readAll 16 = .ok (.aload_n 0, 1) := by decide +kernel
theorem dX7_readAll_17 : decode cX7_readAll 17 = .ok (.getfield 42, 3) := by decide +kernel
theorem dX7_readAll_20 : decode cX7_readAll 20 = .ok (.iconst 0, 1) := by decide +kernel
theorem dX7_readAll_21 : decode cX7_readAll 21 = .ok (.putfield 45, 3) := by decide +kernel
theorem dX7_readAll_24 : decode cX7_readAll 24 = .ok (.iconst 0, 1) := by decide +kernel
theorem dX7_readAll_25 : decode cX7_readAll 25 = .ok (.istore_n 2, 1) := by decide +kernel
theorem dX7_readAll_26 : decode cX7_readAll 26 = .ok (.iload_n 2, 1) := by decide +kernel
theorem dX7_readAll_27 : decode cX7_readAll 27 = .ok (.aload_n 1, 1) := by decide +kernel
theorem dX7_readAll_28 : decode cX7_readAll 28 = .ok (.getfield 49, 3) := by decide +kernel
theorem dX7_readAll_31 : decode cX7_readAll 31 = .ok (.if_icmp .ge 22, 3) := by decide +kernel
theorem dX7_readAll_34 : decode cX7_readAll 34 = .ok (.aload_n 0, 1) := by decide +kernel
theorem dX7_readAll_35 : decode cX7_readAll 35 = .ok (.aload_n 1, 1) := by decide +kernel
theorem dX7_readAll_36 : decode cX7_readAll 36 = .ok (.iload_n 2, 1) := by decide +kernel
theorem dX7_readAll_37 : decode cX7_readAll 37 = .ok (.invokevirtual 54, 3) := by decide +kernel
theorem dX7_readAll_40 : decode cX7_readAll 40 = .ok (.istore_n 3, 1) := by decide +kernel
theorem dX7_readAll_41 : decode cX7_readAll 41 = .ok (.iload_n 3, 1) := by decide +kernel
theorem dX7_readAll_42 : decode cX7_readAll 42 = .ok (.iload_n 2, 1) := by decide +kernel
theorem dX7_readAll_43 : decode cX7_readAll 43 = .ok (.if_icmp .gt 5, 3) := by decide +kernel
theorem dX7_readAll_46 : decode cX7_readAll 46 = .ok (.iload_n 2, 1) := by decide +kernel
theorem dX7_readAll_47 : decode cX7_readAll 47 = .ok (.ireturn, 1) := by decide +kernel
theorem dX7_readAll_48 : decode cX7_readAll 48 = .ok (.iload_n 3, 1) := by decide +kernel
theorem dX7_readAll_49 : decode cX7_readAll 49 = .ok (.istore_n 2, 1) := by decide +kernel
theorem dX7_readAll_50 : decode cX7_readAll 50 = .ok (.goto (-24), 3) := by decide +kernel
theorem dX7_readAll_53 : decode cX7_readAll 53 = .ok (.bipush (-4), 2) := by decide +kernel
theorem dX7_readAll_55 : decode cX7_readAll 55 = .ok (.ireturn, 1) := by decide +kernel
theorem dX7_readItem_0 : decode cX7_readItem 0 = .ok (.aload_n 1, 1) := by decide +kernel
theorem dX7_readItem_1 : decode cX7_readItem 1 = .ok (.iload_n 2, 1) := by decide +kernel
theorem dX7_readItem_2 : decode cX7_readItem 2 = .ok (.invokevirtual 58, 3) := by decide +kernel
theorem dX7_readItem_5 : decode cX7_readItem 5 = .ok (.istore_n 3, 1) := by decide +kernel
theorem dX7_readItem_6 : decode cX7_readItem 6 = .ok (.aload_n 0, 1) := by decide +kernel
theorem dX7_readItem_7 : decode cX7_readItem 7 = .ok (.iload_n 3, 1) := by decide +kernel
theorem dX7_readItem_8 : decode cX7_readItem 8 = .ok (.invokevirtual 62, 3) := by decide +kernel
theorem dX7_readItem_11 : decode cX7_readItem 11 = .ok (.astore 4, 2) := by decide +kernel
theorem dX7_readItem_13 : decode cX7_readItem 13 = .ok (.aload 4, 2) := by decide +kernel
theorem dX7_readItem_15 : decode cX7_readItem 15 = .ok (.ifnull 11, 3) := by decide +kernel
theorem dX7_readItem_18 : decode cX7_readItem 18 = .ok (.aload 4, 2) := by decide +kernel
theorem dX7_readItem_20 : decode cX7_readItem 20 = .ok (.invokevirtual 66, 3) := by decide +kernel
theorem dX7_readItem_23 : decode cX7_readItem 23 = .ok (.ifCond .eq 6, 3) := by decide +kernel
theorem dX7_readItem_26 : decode cX7_readItem 26 = .ok (.bipush (-4), 2) := by decide +kernel
theorem dX7_readItem_28 : decode cX7_readItem 28 = .ok (.ireturn, 1) := by decide +kernel
theorem dX7_readItem_29 : decode cX7_readItem 29 = .ok (.aload 4, 2) := by decide +kernel
theorem dX7_readItem_31 : decode cX7_readItem 31 = .ok (.getfield 70, 3) := by decide +kernel
theorem dX7_readItem_34 : decode cX7_readItem 34 = .ok (.aload 4, 2) := by decide +kernel
theorem dX7_readItem_36 : decode cX7_readItem 36 = .ok (.getfield 45, 3) := by decide +kernel
theorem dX7_readItem_39 : decode cX7_readItem 39 = .ok (.aaload, 1) := by decide +kernel
theorem dX7_readItem_40 : decode cX7_readItem 40 = .ok (.astore 5, 2) := by decide +kernel
theorem dX7_readItem_42 : decode cX7_readItem 42 = .ok (.aload_n 1, 1) := by decide +kernel
theorem dX7_readItem_43 : decode cX7_readItem 43 = .ok (.iload_n 2, 1) := by decide +kernel
theorem dX7_readItem_44 : decode cX7_readItem 44 = .ok (.iconst 1, 1) := by decide +kernel
theorem dX7_readItem_45 : decode cX7_readItem 45 = .ok (.iadd, 1) := by decide +kernel
theorem dX7_readItem_46 : decode cX7_readItem 46 = .ok (.aload 4, 2) := by decide +kernel
theorem dX7_readItem_48 : decode cX7_readItem 48 = .ok (.aload 5, 2) := by decide +kernel
theorem dX7_readItem_50 : decode cX7_readItem 50 = .ok (.invokestatic 74, 3) := by decide +kernel
theorem dX7_readItem_53 : decode cX7_readItem 53 = .ok (.istore 6, 2) := by decide +kernel
theorem dX7_readItem_55 : decode cX7_readItem 55 = .ok (.iload 6, 2) := by decide +kernel
theorem dX7_readItem_57 : decode cX7_readItem 57 = .ok (.bipush (-4), 2) := by decide +kernel
theorem dX7_readItem_59 : decode cX7_readItem 59 = .ok (.if_icmp .eq 23, 3) := by decide +kernel
theorem dX7_readItem_62 : decode cX7_readItem 62 = .ok (.iload_n 3, 1) := by decide +kernel
theorem dX7_readItem_63 : decode cX7_readItem 63 = .ok (.bipush 97, 2) := by decide +kernel
theorem dX7_readItem_65 : decode cX7_readItem 65 = .ok (.if_icmp .ne 20, 3) := by decide +kernel
theorem dX7_readItem_68 : decode cX7_readItem 68 = .ok (.aload_n 0, 1) := by decide +kernel
theorem dX7_readItem_69 : decode cX7_readItem 69 = .ok (.getfield 33, 3) := by decide +kernel
theorem dX7_readItem_72 : decode cX7_readItem 72 = .ok (.aload 5, 2) := by decide +kernel
theorem dX7_readItem_74 : decode cX7_readItem 74 = .ok (.iconst 0, 1) := by decide +kernel
theorem dX7_readItem_75 : decode cX7_readItem 75 = .ok (.iaload, 1) := by decide +kernel
theorem dX7_readItem_76 : decode cX7_readItem 76 = .ok (.invokevirtual 78, 3) := by decide +kernel
theorem dX7_readItem_79 : decode cX7_readItem 79 = .ok (.ifCond .ne 6, 3) := by decide +kernel
theorem dX7_readItem_82 : decode cX7_readItem 82 = .ok (.bipush (-4), 2) := by decide +kernel
theorem dX7_readItem_84 : decode cX7_readItem 84 = .ok (.ireturn, 1) := by decide +kernel
theorem dX7_readItem_85 : decode cX7_readItem 85 = .ok (.aload 4, 2) := by decide +kernel
theorem dX7_readItem_87 : decode cX7_readItem 87 = .ok (.dup, 1) := by decide +kernel
theorem dX7_readItem_88 : decode cX7_readItem 88 = .ok (.getfield 45, 3) := by decide +kernel
theorem dX7_readItem_91 : decode cX7_readItem 91 = .ok (.iconst 1, 1) := by decide +kernel
theorem dX7_readItem_92 : decode cX7_readItem 92 = .ok (.iadd, 1) := by decide +kernel
theorem dX7_readItem_93 : decode cX7_readItem 93 = .ok (.putfield 45, 3) := by decide +kernel
theorem dX7_readItem_96 : decode cX7_readItem 96 = .ok (.iload 6, 2) := by decide +kernel
theorem dX7_readItem_98 : decode cX7_readItem 98 = .ok (.ireturn, 1) := by decide +kernel
theorem dX7_itemsOf_0 : decode cX7_itemsOf 0 = .ok (.iload_n 1, 1) := by decide +kernel
theorem dX7_itemsOf_1 : decode cX7_itemsOf 1 = .ok (.bipush 115, 2) := by decide +kernel
theorem dX7_itemsOf_3 : decode cX7_itemsOf 3 = .ok (.if_icmp .ne 8, 3) := by decide +kernel
theorem dX7_itemsOf_6 : decode cX7_itemsOf 6 = .ok (.aload_n 0, 1) := by decide +kernel
theorem dX7_itemsOf_7 : decode cX7_itemsOf 7 = .ok (.getfield 21, 3) := by decide +kernel
theorem dX7_itemsOf_10 : decode cX7_itemsOf 10 = .ok (.areturn, 1) := by decide +kernel
theorem dX7_itemsOf_11 : decode cX7_itemsOf 11 = .ok (.iload_n 1, 1) := by decide +kernel
theorem dX7_itemsOf_12 : decode cX7_itemsOf 12 = .ok (.bipush 103, 2) := by decide +kernel
theorem dX7_itemsOf_14 : decode cX7_itemsOf 14 = .ok (.if_icmp .ne 8, 3) := by decide +kernel
theorem dX7_itemsOf_17 : decode cX7_itemsOf 17 = .ok (.aload_n 0, 1) := by decide +kernel
theorem dX7_itemsOf_18 : decode cX7_itemsOf 18 = .ok (.getfield 33, 3) := by decide +kernel
theorem dX7_itemsOf_21 : decode cX7_itemsOf 21 = .ok (.areturn, 1) := by decide +kernel
theorem dX7_itemsOf_22 : decode cX7_itemsOf 22 = .ok (.iload_n 1, 1) := by decide +kernel
