theorem dX11_out_66 : decode cX11_out 66 = .ok (.iload_n 1, 1) := by decide +kernel
theorem dX11_out_67 : decode cX11_out 67 = .ok (.imul, 1) := by decide +kernel
theorem dX11_out_68 : decode cX11_out 68 = .ok (.iadd, 1) := by decide +kernel
theorem dX11_out_69 : decode cX11_out 69 = .ok (.iconst 1, 1) := by decide +kernel
theorem dX11_out_70 : decode cX11_out 70 = .ok (.iadd, 1) := by decide +kernel
theorem dX11_out_71 : decode cX11_out 71 = .ok (.iload_n 2, 1) := by decide +kernel
theorem dX11_out_72 : decode cX11_out 72 = .ok (.iload_n 3, 1) := by decide +kernel
theorem dX11_out_73 : decode cX11_out 73 = .ok (.if_icmp .le 7, 3) := by decide +kernel
theorem dX11_out_76 : decode cX11_out 76 = .ok (.iconst 0, 1) := by decide +kernel
theorem dX11_out_77 : decode cX11_out 77 = .ok (.goto 4, 3) := by decide +kernel
theorem dX11_out_80 : decode cX11_out 80 = .ok (.iload_n 3, 1) := by decide +kernel
theorem dX11_out_81 : decode cX11_out 81 = .ok (.iastore, 1) := by decide +kernel
theorem dX11_out_82 : decode cX11_out 82 = .ok (.iconst 0, 1) := by decide +kernel
theorem dX11_out_83 : decode cX11_out 83 = .ok (.istore 4, 2) := by decide +kernel
theorem dX11_out_85 : decode cX11_out 85 = .ok (.iconst 0, 1) := by decide +kernel
theorem dX11_out_86 : decode cX11_out 86 = .ok (.istore 5, 2) := by decide +kernel
theorem dX11_out_88 : decode cX11_out 88 = .ok (.iload 5, 2) := by decide +kernel
theorem dX11_out_90 : decode cX11_out 90 = .ok (.aload_n 0, 1) := by decide +kernel
theorem dX11_out_91 : decode cX11_out 91 = .ok (.getfield 124, 3) := by decide +kernel
theorem dX11_out_94 : decode cX11_out 94 = .ok (.if_icmp .ge 42, 3) := by decide +kernel
theorem dX11_out_97 : decode cX11_out 97 = .ok (.aload_n 0, 1) := by decide +kernel
theorem dX11_out_98 : decode cX11_out 98 = .ok (.getfield 52, 3) := by decide +kernel
theorem dX11_out_101 : decode cX11_out 101 = .ok (.iload 5, 2) := by decide +kernel
theorem dX11_out_103 : decode cX11_out 103 = .ok (.iaload, 1) := by decide +kernel
theorem dX11_out_104 : decode cX11_out 104 = .ok (.iload_n 1, 1) := by decide +kernel
theorem dX11_out_105 : decode cX11_out 105 = .ok (.if_icmp .ne 25, 3) := by decide +kernel
theorem dX11_out_108 : decode cX11_out 108 = .ok (.aload_n 0, 1) := by decide +kernel
theorem dX11_out_109 : decode cX11_out 109 = .ok (.iload 5, 2) := by decide +kernel
theorem dX11_out_111 : decode cX11_out 111 = .ok (.iload_n 1, 1) := by decide +kernel
theorem dX11_out_112 : decode cX11_out 112 = .ok (.invokevirtual 152, 3) := by decide +kernel
theorem dX11_out_115 : decode cX11_out 115 = .ok (.ifCond .ne 15, 3) := by decide +kernel
theorem dX11_out_118 : decode cX11_out 118 = .ok (.aload_n 0, 1) := by decide +kernel
theorem dX11_out_119 : decode cX11_out 119 = .ok (.getfield 52, 3) := by decide +kernel
theorem dX11_out_122 : decode cX11_out 122 = .ok (.iload 5, 2) := by decide +kernel
theorem dX11_out_124 : decode cX11_out 124 = .ok (.bipush (-4), 2) := by decide +kernel
theorem dX11_out_126 : decode cX11_out 126 = .ok (.iastore, 1) := by decide +kernel
theorem dX11_out_127 : decode cX11_out 127 = .ok (.iinc 4 1, 3) := by decide +kernel
theorem dX11_out_130 : decode cX11_out 130 = .ok (.iinc 5 1, 3) := by decide +kernel
theorem dX11_out_133 : decode cX11_out 133 = .ok (.goto (-45), 3) := by decide +kernel
theorem dX11_out_136 : decode cX11_out 136 = .ok (.iload 4, 2) := by decide +kernel
theorem dX11_out_138 : decode cX11_out 138 = .ok (.ireturn, 1) := by decide +kernel
theorem dX11_bestBehind_0 : decode cX11_bestBehind 0 = .ok (.bipush 24, 2) := by decide +kernel
theorem dX11_bestBehind_2 : decode cX11_bestBehind 2 = .ok (.istore_n 3, 1) := by decide +kernel
theorem dX11_bestBehind_3 : decode cX11_bestBehind 3 = .ok (.iload_n 2, 1) := by decide +kernel
theorem dX11_bestBehind_4 : decode cX11_bestBehind 4 = .ok (.iconst 1, 1) := by decide +kernel
theorem dX11_bestBehind_5 : decode cX11_bestBehind 5 = .ok (.iadd, 1) := by decide +kernel
theorem dX11_bestBehind_6 : decode cX11_bestBehind 6 = .ok (.istore 4, 2) := by decide +kernel
theorem dX11_bestBehind_8 : decode cX11_bestBehind 8 = .ok (.iload 4, 2) := by decide +kernel
theorem dX11_bestBehind_10 : decode cX11_bestBehind 10 = .ok (.aload_n 0, 1) := by decide +kernel
theorem dX11_bestBehind_11 : decode cX11_bestBehind 11 = .ok (.getfield 124, 3) := by decide +kernel
theorem dX11_bestBehind_14 : decode cX11_bestBehind 14 = .ok (.if_icmp .ge 129, 3) := by decide +kernel
theorem dX11_bestBehind_17 : decode cX11_bestBehind 17 = .ok (.aload_n 0, 1) := by decide +kernel
theorem dX11_bestBehind_18 : decode cX11_bestBehind 18 = .ok (.iload 4, 2) := by decide +kernel
theorem dX11_bestBehind_20 : decode cX11_bestBehind 20 = .ok (.iload_n 1, 1) := by decide +kernel
theorem dX11_bestBehind_21 : decode cX11_bestBehind 21 = .ok (.invokevirtual 152, 3) := by decide +kernel
theorem dX11_bestBehind_24 : decode cX11_bestBehind 24 = .ok (.ifCond .eq 38, 3) := by decide +kernel
theorem dX11_bestBehind_27 : decode cX11_bestBehind 27 = .ok (.iload_n 2, 1) := by decide +kernel
theorem dX11_bestBehind_28 : decode cX11_bestBehind 28 = .ok (.ifCond .lt 30, 3) := by decide +kernel
theorem dX11_bestBehind_31 : decode cX11_bestBehind 31 = .ok (.aload_n 0, 1) := by decide +kernel
theorem dX11_bestBehind_32 : decode cX11_bestBehind 32 = .ok (.getfield 37, 3) := by decide +kernel
theorem dX11_bestBehind_35 : decode cX11_bestBehind 35 = .ok (.iload 4, 2) := by decide +kernel
theorem dX11_bestBehind_37 : decode cX11_bestBehind 37 = .ok (.iaload, 1) := by decide +kernel
theorem dX11_bestBehind_38 : decode cX11_bestBehind 38 = .ok (.aload_n 0, 1) := by decide +kernel
theorem dX11_bestBehind_39 : decode cX11_bestBehind 39 = .ok (.getfield 40, 3) := by decide +kernel
theorem dX11_bestBehind_42 : decode cX11_bestBehind 42 = .ok (.iload_n 2, 1) := by decide +kernel
theorem dX11_bestBehind_43 : decode cX11_bestBehind 43 = .ok (.iaload, 1) := by decide +kernel
theorem dX11_bestBehind_44 : decode cX11_bestBehind 44 = .ok (.isub, 1) := by decide +kernel
theorem dX11_bestBehind_45 : decode cX11_bestBehind 45 = .ok (.aload_n 0, 1) := by decide +kernel
theorem dX11_bestBehind_46 : decode cX11_bestBehind 46 = .ok (.getfield 19, 3) := by decide +kernel
theorem dX11_bestBehind_49 : decode cX11_bestBehind 49 = .ok (.iconst 3, 1) := by decide +kernel
theorem dX11_bestBehind_50 : decode cX11_bestBehind 50 = .ok (.iload_n 1, 1) := by decide +kernel
theorem dX11_bestBehind_51 : decode cX11_bestBehind 51 = .ok (.imul, 1) := by decide +kernel
theorem dX11_bestBehind_52 : decode cX11_bestBehind 52 = .ok (.iconst 2, 1) := by decide +kernel
theorem dX11_bestBehind_53 : decode cX11_bestBehind 53 = .ok (.iadd, 1) := by decide +kernel
theorem dX11_bestBehind_54 : decode cX11_bestBehind 54 = .ok (.iaload, 1) := by decide +kernel
theorem dX11_bestBehind_55 : decode cX11_bestBehind 55 = .ok (.if_icmp .le 7, 3) := by decide +kernel
theorem dX11_bestBehind_58 : decode cX11_bestBehind 58 = .ok (.iconst 1, 1) := by decide +kernel
theorem dX11_bestBehind_59 : decode cX11_bestBehind 59 = .ok (.goto 4, 3) := by decide +kernel
theorem dX11_bestBehind_62 : decode cX11_bestBehind 62 = .ok (.iconst 0, 1) := by decide +kernel
theorem dX11_bestBehind_63 : decode cX11_bestBehind 63 = .ok (.istore 5, 2) := by decide +kernel
theorem dX11_bestBehind_65 : decode cX11_bestBehind 65 = .ok (.aload_n 0, 1) := by decide +kernel
theorem dX11_bestBehind_66 : decode cX11_bestBehind 66 = .ok (.getfield 58, 3) := by decide +kernel
theorem dX11_bestBehind_69 : decode cX11_bestBehind 69 = .ok (.iload 4, 2) := by decide +kernel
theorem dX11_bestBehind_71 : decode cX11_bestBehind 71 = .ok (.iaload, 1) := by decide +kernel
theorem dX11_bestBehind_72 : decode cX11_bestBehind 72 = .ok (.aload_n 0, 1) := by decide +kernel
theorem dX11_bestBehind_73 : decode cX11_bestBehind 73 = .ok (.getfield 58, 3) := by decide +kernel
theorem dX11_bestBehind_76 : decode cX11_bestBehind 76 = .ok (.iload_n 3, 1) := by decide +kernel
theorem dX11_bestBehind_77 : decode cX11_bestBehind 77 = .ok (.iaload, 1) := by decide +kernel
theorem dX11_bestBehind_78 : decode cX11_bestBehind 78 = .ok (.if_icmp .gt 35, 3) := by decide +kernel
theorem dX11_bestBehind_81 : decode cX11_bestBehind 81 = .ok (.aload_n 0, 1) := by decide +kernel
theorem dX11_bestBehind_82 : decode cX11_bestBehind 82 = .ok (.getfield 58, 3) := by decide +kernel
theorem dX11_bestBehind_85 : decode cX11_bestBehind 85 = .ok (.iload 4, 2) := by decide +kernel
theorem dX11_bestBehind_87 : decode cX11_bestBehind 87 = .ok (.iaload, 1) := by decide +kernel
theorem dX11_bestBehind_88 : decode cX11_bestBehind 88 = .ok (.aload_n 0, 1) := by decide +kernel
theorem dX11_bestBehind_89 : decode cX11_bestBehind 89 = .ok (.getfield 58, 3) := by decide +kernel
theorem dX11_bestBehind_92 : decode cX11_bestBehind 92 = .ok (.iload_n 3, 1) := by decide +kernel
theorem dX11_bestBehind_93 : decode cX11_bestBehind 93 = .ok (.iaload, 1) := by decide +kernel
theorem dX11_bestBehind_94 : decode cX11_bestBehind 94 = .ok (.if_icmp .ne 23, 3) := by decide +kernel
theorem dX11_bestBehind_97 : decode cX11_bestBehind 97 = .ok (.aload_n 0, 1) := by decide +kernel
theorem dX11_bestBehind_98 : decode cX11_bestBehind 98 = .ok (.getfield 61, 3) := by decide +kernel
theorem dX11_bestBehind_101 : decode cX11_bestBehind 101 = .ok (.iload 4, 2) := by decide +kernel
theorem dX11_bestBehind_103 : decode cX11_bestBehind 103 = .ok (.iaload, 1) := by decide +kernel
theorem dX11_bestBehind_104 : decode cX11_bestBehind 104 = .ok (.aload_n 0, 1) := by decide +kernel
theorem dX11_bestBehind_105 : decode cX11_bestBehind 105 = .ok (.getfield 61, 3) := by decide +kernel
theorem dX11_bestBehind_108 : decode cX11_bestBehind 108 = .ok (.iload_n 3, 1) := by decide +kernel
theorem dX11_bestBehind_109 : decode cX11_bestBehind 109 = .ok (.iaload, 1) := by decide +kernel
theorem dX11_bestBehind_110 : decode cX11_bestBehind 110 = .ok (.if_icmp .ge 7, 3) := by decide +kernel
theorem dX11_bestBehind_113 : decode cX11_bestBehind 113 = .ok (.iconst 1, 1) := by decide +kernel
theorem dX11_bestBehind_114 : decode cX11_bestBehind 114 = .ok (.goto 4, 3) := by decide +kernel
theorem dX11_bestBehind_117 : decode cX11_bestBehind 117 = .ok (.iconst 0, 1) := by decide +kernel
theorem dX11_bestBehind_118 : decode cX11_bestBehind 118 = .ok (.istore 6, 2) := by decide +kernel
theorem dX11_bestBehind_120 : decode cX11_bestBehind 120 = .ok (.iload 5, 2) := by decide +kernel
theorem dX11_bestBehind_122 : decode cX11_bestBehind 122 = .ok (.ifCond .eq 13, 3) := by decide +kernel
theorem dX11_bestBehind_125 : decode cX11_bestBehind 125 = .ok (.iload 6, 2) := by decide +kernel
theorem dX11_bestBehind_127 : decode cX11_bestBehind 127 = .ok (.ifCond .eq 8, 3) := by decide +kernel
theorem dX11_bestBehind_130 : decode cX11_bestBehind 130 = .ok (.iload 4, 2) := by decide +kernel
theorem dX11_bestBehind_132 : decode cX11_bestBehind 132 = .ok (.goto 4, 3) := by decide +kernel
theorem dX11_bestBehind_135 : decode cX11_bestBehind 135 = .ok (.iload_n 3, 1) := by decide +kernel
theorem dX11_bestBehind_136 : decode cX11_bestBehind 136 = .ok (.istore_n 3, 1) := by decide +kernel
theorem dX11_bestBehind_137 : decode cX11_bestBehind 137 = .ok (.iinc 4 1, 3) := by decide +kernel
theorem dX11_bestBehind_140 : decode cX11_bestBehind 140 = .ok (.goto (-132), 3) := by decide +kernel
theorem dX11_bestBehind_143 : decode cX11_bestBehind 143 = .ok (.iload_n 3, 1) := by decide +kernel
theorem dX11_bestBehind_144 : decode cX11_bestBehind 144 = .ok (.ireturn, 1) := by decide +kernel
theorem dX11_bests_0 : decode cX11_bests 0 = .ok (.aload_n 0, 1) := by decide +kernel
theorem dX11_bests_1 : decode cX11_bests 1 = .ok (.getfield 58, 3) := by decide +kernel
theorem dX11_bests_4 : decode cX11_bests 4 = .ok (.bipush 24, 2) := by decide +kernel
theorem dX11_bests_6 : decode cX11_bests 6 = .ok (.iconst 0, 1) := by decide +kernel
theorem dX11_bests_7 : decode cX11_bests 7 = .ok (.iastore, 1) := by decide +kernel
theorem dX11_bests_8 : decode cX11_bests 8 = .ok (.aload_n 0, 1) := by decide +kernel
theorem dX11_bests_9 : decode cX11_bests 9 = .ok (.getfield 61, 3) := by decide +kernel
theorem dX11_bests_12 : decode cX11_bests 12 = .ok (.bipush 24, 2) := by decide +kernel
theorem dX11_bests_14 : decode cX11_bests 14 = .ok (.iconst 0, 1) := by decide +kernel
theorem dX11_bests_15 : decode cX11_bests 15 = .ok (.iastore, 1) := by decide +kernel
theorem dX11_bests_16 : decode cX11_bests 16 = .ok (.aload_n 0, 1) := by decide +kernel
theorem dX11_bests_17 : decode cX11_bests 17 = .ok (.getfield 124, 3) := by decide +kernel
theorem dX11_bests_20 : decode cX11_bests 20 = .ok (.iconst 1, 1) := by decide +kernel
theorem dX11_bests_21 : decode cX11_bests 21 = .ok (.isub, 1) := by decide +kernel
theorem dX11_bests_22 : decode cX11_bests 22 = .ok (.istore_n 2, 1) := by decide +kernel
theorem dX11_bests_23 : decode cX11_bests 23 = .ok (.iload_n 2, 1) := by decide +kernel
theorem dX11_bests_24 : decode cX11_bests 24 = .ok (.ifCond .lt 64, 3) := by decide +kernel
theorem dX11_bests_27 : decode cX11_bests 27 = .ok (.aload_n 0, 1) := by decide +kernel
theorem dX11_bests_28 : decode cX11_bests 28 = .ok (.getfield 64, 3) := by decide +kernel
theorem dX11_bests_31 : decode cX11_bests 31 = .ok (.iload_n 2, 1) := by decide +kernel
theorem dX11_bests_32 : decode cX11_bests 32 = .ok (.aload_n 0, 1) := by decide +kernel
theorem dX11_bests_33 : decode cX11_bests 33 = .ok (.iload_n 1, 1) := by decide +kernel
theorem dX11_bests_34 : decode cX11_bests 34 = .ok (.iload_n 2, 1) := by decide +kernel
theorem dX11_bests_35 : decode cX11_bests 35 = .ok (.invokevirtual 174, 3) := by decide +kernel
theorem dX11_bests_38 : decode cX11_bests 38 = .ok (.iastore, 1) := by decide +kernel
theorem dX11_bests_39 : decode cX11_bests 39 = .ok (.aload_n 0, 1) := by decide +kernel
theorem dX11_bests_40 : decode cX11_bests 40 = .ok (.getfield 58, 3) := by decide +kernel
theorem dX11_bests_43 : decode cX11_bests 43 = .ok (.iload_n 2, 1) := by decide +kernel
theorem dX11_bests_44 : decode cX11_bests 44 = .ok (.aload_n 0, 1) := by decide +kernel
theorem dX11_bests_45 : decode cX11_bests 45 = .ok (.getfield 49, 3) := by decide +kernel
theorem dX11_bests_48 : decode cX11_bests 48 = .ok (.iload_n 2, 1) := by decide +kernel
theorem dX11_bests_49 : decode cX11_bests 49 = .ok (.iaload, 1) := by decide +kernel
theorem dX11_bests_50 : decode cX11_bests 50 = .ok (.aload_n 0, 1) := by decide +kernel
theorem dX11_bests_51 : decode cX11_bests 51 = .ok (.getfield 58, 3) := by decide +kernel
theorem dX11_bests_54 : decode cX11_bests 54 = .ok (.aload_n 0, 1) := by decide +kernel
theorem dX11_bests_55 : decode cX11_bests 55 = .ok (.getfield 64, 3) := by decide +kernel
theorem dX11_bests_58 : decode cX11_bests 58 = .ok (.iload_n 2, 1) := by decide +kernel
theorem dX11_bests_59 : decode cX11_bests 59 = .ok (.iaload, 1) := by decide +kernel
theorem dX11_bests_60 : decode cX11_bests 60 = .ok (.iaload, 1) := by decide +kernel
theorem dX11_bests_61 : decode cX11_bests 61 = .ok (.iadd, 1) := by decide +kernel
theorem dX11_bests_62 : decode cX11_bests 62 = .ok (.iastore, 1) := by decide +kernel
theorem dX11_bests_63 : decode cX11_bests 63 = .ok (.aload_n 0, 1) := by decide +kernel
theorem dX11_bests_64 : decode cX11_bests 64 = .ok (.getfield 61, 3) := by decide +kernel
theorem dX11_bests_67 : decode cX11_bests 67 = .ok (.iload_n 2, 1) := by decide +kernel
theorem dX11_bests_68 : decode cX11_bests 68 = .ok (.iconst 1, 1) := by decide +kernel
theorem dX11_bests_69 : decode cX11_bests 69 = .ok (.aload_n 0, 1) := by decide +kernel
theorem dX11_bests_70 : decode cX11_bests 70 = .ok (.getfield 61, 3) := by decide +kernel
theorem dX11_bests_73 : decode cX11_bests 73 = .ok (.aload_n 0, 1) := by decide +kernel
theorem dX11_bests_74 : decode cX11_bests 74 = .ok (.getfield 64, 3) := by decide +kernel
theorem dX11_bests_77 : decode cX11_bests 77 = .ok (.iload_n 2, 1) := by decide +kernel
theorem dX11_bests_78 : decode cX11_bests 78 = .ok (.iaload, 1) := by decide +kernel
theorem dX11_bests_79 : decode cX11_bests 79 = .ok (.iaload, 1) := by decide +kernel
theorem dX11_bests_80 : decode cX11_bests 80 = .ok (.iadd, 1) := by decide +kernel
theorem dX11_bests_81 : decode cX11_bests 81 = .ok (.iastore, 1) := by decide +kernel
theorem dX11_bests_82 : decode cX11_bests 82 = .ok (.iinc 2 (-1), 3) := by decide +kernel
theorem dX11_bests_85 : decode cX11_bests 85 = .ok (.goto (-62), 3) := by decide +kernel
theorem dX11_bests_88 : decode cX11_bests 88 = .ok (.return_, 1) := by decide +kernel
theorem dX11_best_0 : decode cX11_best 0 = .ok (.aload_n 0, 1) := by decide +kernel
theorem dX11_best_1 : decode cX11_best 1 = .ok (.iload_n 1, 1) := by decide +kernel
theorem dX11_best_2 : decode cX11_best 2 = .ok (.invokevirtual 144, 3) := by decide +kernel
theorem dX11_best_5 : decode cX11_best 5 = .ok (.ifCond .eq 9, 3) := by decide +kernel
theorem dX11_best_8 : decode cX11_best 8 = .ok (.iload_n 2, 1) := by decide +kernel
theorem dX11_best_9 : decode cX11_best 9 = .ok (.bipush (-2), 2) := by decide +kernel
theorem dX11_best_11 : decode cX11_best 11 = .ok (.if_icmp .ge 5, 3) := by decide +kernel
theorem dX11_best_14 : decode cX11_best 14 = .ok (.iconst (-1), 1) := by decide +kernel
theorem dX11_best_15 : decode cX11_best 15 = .ok (.ireturn, 1) := by decide +kernel
theorem dX11_best_16 : decode cX11_best 16 = .ok (.aload_n 0, 1) := by decide +kernel
theorem dX11_best_17 : decode cX11_best 17 = .ok (.iload_n 1, 1) := by decide +kernel
theorem dX11_best_18 : decode cX11_best 18 = .ok (.invokevirtual 177, 3) := by decide +kernel
theorem dX11_best_21 : decode cX11_best 21 = .ok (.aload_n 0, 1) := by decide +kernel
theorem dX11_best_22 : decode cX11_best 22 = .ok (.iload_n 1, 1) := by decide +kernel
theorem dX11_best_23 : decode cX11_best 23 = .ok (.iconst (-1), 1) := by decide +kernel
theorem dX11_best_24 : decode cX11_best 24 = .ok (.invokevirtual 174, 3) := by decide +kernel
theorem dX11_best_27 : decode cX11_best 27 = .ok (.istore_n 3, 1) := by decide +kernel
theorem dX11_best_28 : decode cX11_best 28 = .ok (.iload_n 2, 1) := by decide +kernel
theorem dX11_best_29 : decode cX11_best 29 = .ok (.ifCond .ge 24, 3) := by decide +kernel
theorem dX11_best_32 : decode cX11_best 32 = .ok (.iload_n 2, 1) := by decide +kernel
theorem dX11_best_33 : decode cX11_best 33 = .ok (.iconst (-1), 1) := by decide +kernel
theorem dX11_best_34 : decode cX11_best 34 = .ok (.if_icmp .ne 12, 3) := by decide +kernel
theorem dX11_best_37 : decode cX11_best 37 = .ok (.aload_n 0, 1) := by decide +kernel
theorem dX11_best_38 : decode cX11_best 38 = .ok (.getfield 58, 3) := by decide +kernel
theorem dX11_best_41 : decode cX11_best 41 = .ok (.iload_n 3, 1) := by decide +kernel
theorem dX11_best_42 : decode cX11_best 42 = .ok (.iaload, 1) := by decide +kernel
theorem dX11_best_43 : decode cX11_best 43 = .ok (.goto 9, 3) := by decide +kernel
theorem dX11_best_46 : decode cX11_best 46 = .ok (.aload_n 0, 1) := by decide +kernel
theorem dX11_best_47 : decode cX11_best 47 = .ok (.getfield 61, 3) := by decide +kernel
theorem dX11_best_50 : decode cX11_best 50 = .ok (.iload_n 3, 1) := by decide +kernel
theorem dX11_best_51 : decode cX11_best 51 = .ok (.iaload, 1) := by decide +kernel
theorem dX11_best_52 : decode cX11_best 52 = .ok (.ireturn, 1) := by decide +kernel
theorem dX11_best_53 : decode cX11_best 53 = .ok (.iconst 0, 1) := by decide +kernel
theorem dX11_best_54 : decode cX11_best 54 = .ok (.istore 4, 2) := by decide +kernel
theorem dX11_best_56 : decode cX11_best 56 = .ok (.iload 4, 2) := by decide +kernel
theorem dX11_best_58 : decode cX11_best 58 = .ok (.iload_n 2, 1) := by decide +kernel
theorem dX11_best_59 : decode cX11_best 59 = .ok (.if_icmp .ge 22, 3) := by decide +kernel
theorem dX11_best_62 : decode cX11_best 62 = .ok (.iload_n 3, 1) := by decide +kernel
theorem dX11_best_63 : decode cX11_best 63 = .ok (.bipush 24, 2) := by decide +kernel
theorem dX11_best_65 : decode cX11_best 65 = .ok (.if_icmp .ge 16, 3) := by decide +kernel
theorem dX11_best_68 : decode cX11_best 68 = .ok (.aload_n 0, 1) := by decide +kernel
theorem dX11_best_69 : decode cX11_best 69 = .ok (.getfield 64, 3) := by decide +kernel
theorem dX11_best_72 : decode cX11_best 72 = .ok (.iload_n 3, 1) := by decide +kernel
theorem dX11_best_73 : decode cX11_best 73 = .ok (.iaload, 1) := by decide +kernel
theorem dX11_best_74 : decode cX11_best 74 = .ok (.istore_n 3, 1) := by decide +kernel
theorem dX11_best_75 : decode cX11_best 75 = .ok (.iinc 4 1, 3) := by decide +kernel
theorem dX11_best_78 : decode cX11_best 78 = .ok (.goto (-22), 3) := by decide +kernel
theorem dX11_best_81 : decode cX11_best 81 = .ok (.iload_n 3, 1) := by decide +kernel
theorem dX11_best_82 : decode cX11_best 82 = .ok (.bipush 24, 2) := by decide +kernel
theorem dX11_best_84 : decode cX11_best 84 = .ok (.if_icmp .ge 7, 3) := by decide +kernel
theorem dX11_best_87 : decode cX11_best 87 = .ok (.iload_n 3, 1) := by decide +kernel
theorem dX11_best_88 : decode cX11_best 88 = .ok (.goto 5, 3) := by decide +kernel
theorem dX11_best_91 : decode cX11_best 91 = .ok (.bipush (-4), 2) := by decide +kernel
theorem dX11_best_93 : decode cX11_best 93 = .ok (.ireturn, 1) := by decide +kernel
theorem dX11_wide_0 : decode cX11_wide 0 = .ok (.aload_n 0, 1) := by decide +kernel
theorem dX11_wide_1 : decode cX11_wide 1 = .ok (.getfield 124, 3) := by decide +kernel
theorem dX11_wide_4 : decode cX11_wide 4 = .ok (.iload_n 1, 1) := by decide +kernel
theorem dX11_wide_5 : decode cX11_wide 5 = .ok (.isub, 1) := by decide +kernel
theorem dX11_wide_6 : decode cX11_wide 6 = .ok (.bipush 6, 2) := by decide +kernel
theorem dX11_wide_8 : decode cX11_wide 8 = .ok (.if_icmp .ge 12, 3) := by decide +kernel
theorem dX11_wide_11 : decode cX11_wide 11 = .ok (.aload_n 0, 1) := by decide +kernel
theorem dX11_wide_12 : decode cX11_wide 12 = .ok (.getfield 124, 3) := by decide +kernel
theorem dX11_wide_15 : decode cX11_wide 15 = .ok (.iload_n 1, 1) := by decide +kernel
theorem dX11_wide_16 : decode cX11_wide 16 = .ok (.isub, 1) := by decide +kernel
theorem dX11_wide_17 : decode cX11_wide 17 = .ok (.goto 5, 3) := by decide +kernel
theorem dX11_wide_20 : decode cX11_wide 20 = .ok (.bipush 6, 2) := by decide +kernel
theorem dX11_wide_22 : decode cX11_wide 22 = .ok (.ireturn, 1) := by decide +kernel
theorem dX11_isWay_0 : decode cX11_isWay 0 = .ok (.iload_n 1, 1) := by decide +kernel
theorem dX11_isWay_1 : decode cX11_isWay 1 = .ok (.istore_n 3, 1) := by decide +kernel
theorem dX11_isWay_2 : decode cX11_isWay 2 = .ok (.iload_n 3, 1) := by decide +kernel
theorem dX11_isWay_3 : decode cX11_isWay 3 = .ok (.iload_n 1, 1) := by decide +kernel
theorem dX11_isWay_4 : decode cX11_isWay 4 = .ok (.iload_n 2, 1) := by decide +kernel
theorem dX11_isWay_5 : decode cX11_isWay 5 = .ok (.iadd, 1) := by decide +kernel
theorem dX11_isWay_6 : decode cX11_isWay 6 = .ok (.if_icmp .ge 162, 3) := by decide +kernel
theorem dX11_isWay_9 : decode cX11_isWay 9 = .ok (.aload_n 0, 1) := by decide +kernel
theorem dX11_isWay_10 : decode cX11_isWay 10 = .ok (.getfield 67, 3) := by decide +kernel
theorem dX11_isWay_13 : decode cX11_isWay 13 = .ok (.iload_n 3, 1) := by decide +kernel
theorem dX11_isWay_14 : decode cX11_isWay 14 = .ok (.iaload, 1) := by decide +kernel
theorem dX11_isWay_15 : decode cX11_isWay 15 = .ok (.bipush (-4), 2) := by decide +kernel
theorem dX11_isWay_17 : decode cX11_isWay 17 = .ok (.if_icmp .eq 145, 3) := by decide +kernel
theorem dX11_isWay_20 : decode cX11_isWay 20 = .ok (.aload_n 0, 1) := by decide +kernel
theorem dX11_isWay_21 : decode cX11_isWay 21 = .ok (.iload_n 3, 1) := by decide +kernel
theorem dX11_isWay_22 : decode cX11_isWay 22 = .ok (.aload_n 0, 1) := by decide +kernel
theorem dX11_isWay_23 : decode cX11_isWay 23 = .ok (.getfield 67, 3) := by decide +kernel
theorem dX11_isWay_26 : decode cX11_isWay 26 = .ok (.iload_n 3, 1) := by decide +kernel
theorem dX11_isWay_27 : decode cX11_isWay 27 = .ok (.iaload, 1) := by decide +kernel
theorem dX11_isWay_28 : decode cX11_isWay 28 = .ok (.invokevirtual 152, 3) := by decide +kernel
theorem dX11_isWay_31 : decode cX11_isWay 31 = .ok (.ifCond .ne 5, 3) := by decide +kernel
theorem dX11_isWay_34 : decode cX11_isWay 34 = .ok (.iconst 0, 1) := by decide +kernel
theorem dX11_isWay_35 : decode cX11_isWay 35 = .ok (.ireturn, 1) := by decide +kernel
theorem dX11_isWay_36 : decode cX11_isWay 36 = .ok (.iconst 0, 1) := by decide +kernel
theorem dX11_isWay_37 : decode cX11_isWay 37 = .ok (.istore 4, 2) := by decide +kernel
theorem dX11_isWay_39 : decode cX11_isWay 39 = .ok (.iload 4, 2) := by decide +kernel
theorem dX11_isWay_41 : decode cX11_isWay 41 = .ok (.aload_n 0, 1) := by decide +kernel
theorem dX11_isWay_42 : decode cX11_isWay 42 = .ok (.getfield 124, 3) := by decide +kernel
theorem dX11_isWay_45 : decode cX11_isWay 45 = .ok (.if_icmp .ge 117, 3) := by decide +kernel
theorem dX11_isWay_48 : decode cX11_isWay 48 = .ok (.iload 4, 2) := by decide +kernel
theorem dX11_isWay_50 : decode cX11_isWay 50 = .ok (.iload_n 3, 1) := by decide +kernel
theorem dX11_isWay_51 : decode cX11_isWay 51 = .ok (.if_icmp .eq 39, 3) := by decide +kernel
theorem dX11_isWay_54 : decode cX11_isWay 54 = .ok (.aload_n 0, 1) := by decide +kernel
theorem dX11_isWay_55 : decode cX11_isWay 55 = .ok (.getfield 67, 3) := by decide +kernel
theorem dX11_isWay_58 : decode cX11_isWay 58 = .ok (.iload 4, 2) := by decide +kernel
theorem dX11_isWay_60 : decode cX11_isWay 60 = .ok (.iaload, 1) := by decide +kernel
theorem dX11_isWay_61 : decode cX11_isWay 61 = .ok (.aload_n 0, 1) := by decide +kernel
theorem dX11_isWay_62 : decode cX11_isWay 62 = .ok (.getfield 67, 3) := by decide +kernel
theorem dX11_isWay_65 : decode cX11_isWay 65 = .ok (.iload_n 3, 1) := by decide +kernel
theorem dX11_isWay_66 : decode cX11_isWay 66 = .ok (.iaload, 1) := by decide +kernel
theorem dX11_isWay_67 : decode cX11_isWay 67 = .ok (.if_icmp .ne 23, 3) := by decide +kernel
theorem dX11_isWay_70 : decode cX11_isWay 70 = .ok (.aload_n 0, 1) := by decide +kernel
theorem dX11_isWay_71 : decode cX11_isWay 71 = .ok (.iload 4, 2) := by decide +kernel
theorem dX11_isWay_73 : decode cX11_isWay 73 = .ok (.iload_n 3, 1) := by decide +kernel
theorem dX11_isWay_74 : decode cX11_isWay 74 = .ok (.aload_n 0, 1) := by decide +kernel
theorem dX11_isWay_75 : decode cX11_isWay 75 = .ok (.getfield 67, 3) := by decide +kernel
theorem dX11_isWay_78 : decode cX11_isWay 78 = .ok (.iload_n 3, 1) := by decide +kernel
theorem dX11_isWay_79 : decode cX11_isWay 79 = .ok (.iaload, 1) := by decide +kernel
theorem dX11_isWay_80 : decode cX11_isWay 80 = .ok (.invokevirtual 159, 3) := by decide +kernel
theorem dX11_isWay_83 : decode cX11_isWay 83 = .ok (.ifCond .ne 7, 3) := by decide +kernel
theorem dX11_isWay_86 : decode cX11_isWay 86 = .ok (.iconst 1, 1) := by decide +kernel
theorem dX11_isWay_87 : decode cX11_isWay 87 = .ok (.goto 4, 3) := by decide +kernel
theorem dX11_isWay_90 : decode cX11_isWay 90 = .ok (.iconst 0, 1) := by decide +kernel
theorem dX11_isWay_91 : decode cX11_isWay 91 = .ok (.istore 5, 2) := by decide +kernel
theorem dX11_isWay_93 : decode cX11_isWay 93 = .ok (.iload 4, 2) := by decide +kernel
theorem dX11_isWay_95 : decode cX11_isWay 95 = .ok (.iload_n 3, 1) := by decide +kernel
theorem dX11_isWay_96 : decode cX11_isWay 96 = .ok (.if_icmp .eq 45, 3) := by decide +kernel
theorem dX11_isWay_99 : decode cX11_isWay 99 = .ok (.aload_n 0, 1) := by decide +kernel
theorem dX11_isWay_100 : decode cX11_isWay 100 = .ok (.getfield 67, 3) := by decide +kernel
theorem dX11_isWay_103 : decode cX11_isWay 103 = .ok (.iload 4, 2) := by decide +kernel
theorem dX11_isWay_105 : decode cX11_isWay 105 = .ok (.iaload, 1) := by decide +kernel
theorem dX11_isWay_106 : decode cX11_isWay 106 = .ok (.bipush (-4), 2) := by decide +kernel
theorem dX11_isWay_108 : decode cX11_isWay 108 = .ok (.if_icmp .eq 33, 3) := by decide +kernel
theorem dX11_isWay_111 : decode cX11_isWay 111 = .ok (.aload_n 0, 1) := by decide +kernel
theorem dX11_isWay_112 : decode cX11_isWay 112 = .ok (.getfield 43, 3) := by decide +kernel
theorem dX11_isWay_115 : decode cX11_isWay 115 = .ok (.iload 4, 2) := by decide +kernel
theorem dX11_isWay_117 : decode cX11_isWay 117 = .ok (.iaload, 1) := by decide +kernel
theorem dX11_isWay_118 : decode cX11_isWay 118 = .ok (.aload_n 0, 1) := by decide +kernel
theorem dX11_isWay_119 : decode cX11_isWay 119 = .ok (.getfield 43, 3) := by decide +kernel
theorem dX11_isWay_122 : decode cX11_isWay 122 = .ok (.iload_n 3, 1) := by decide +kernel
theorem dX11_isWay_123 : decode cX11_isWay 123 = .ok (.iaload, 1) := by decide +kernel
theorem dX11_isWay_124 : decode cX11_isWay 124 = .ok (.if_icmp .ne 17, 3) := by decide +kernel
theorem dX11_isWay_127 : decode cX11_isWay 127 = .ok (.aload_n 0, 1) := by decide +kernel
theorem dX11_isWay_128 : decode cX11_isWay 128 = .ok (.iload 4, 2) := by decide +kernel
theorem dX11_isWay_130 : decode cX11_isWay 130 = .ok (.iload_n 3, 1) := by decide +kernel
theorem dX11_isWay_131 : decode cX11_isWay 131 = .ok (.invokevirtual 162, 3) := by decide +kernel
theorem dX11_isWay_134 : decode cX11_isWay 134 = .ok (.ifCond .eq 7, 3) := by decide +kernel
theorem dX11_isWay_137 : decode cX11_isWay 137 = .ok (.iconst 1, 1) := by decide +kernel
theorem dX11_isWay_138 : decode cX11_isWay 138 = .ok (.goto 4, 3) := by decide +kernel
theorem dX11_isWay_141 : decode cX11_isWay 141 = .ok (.iconst 0, 1) := by decide +kernel
theorem dX11_isWay_142 : decode cX11_isWay 142 = .ok (.istore 6, 2) := by decide +kernel
theorem dX11_isWay_144 : decode cX11_isWay 144 = .ok (.iload 5, 2) := by decide +kernel
theorem dX11_isWay_146 : decode cX11_isWay 146 = .ok (.ifCond .ne 8, 3) := by decide +kernel
theorem dX11_isWay_149 : decode cX11_isWay 149 = .ok (.iload 6, 2) := by decide +kernel
theorem dX11_isWay_151 : decode cX11_isWay 151 = .ok (.ifCond .eq 5, 3) := by decide +kernel
theorem dX11_isWay_154 : decode cX11_isWay 154 = .ok (.iconst 0, 1) := by decide +kernel
theorem dX11_isWay_155 : decode cX11_isWay 155 = .ok (.ireturn, 1) := by decide +kernel
theorem dX11_isWay_156 : decode cX11_isWay 156 = .ok (.iinc 4 1, 3) := by decide +kernel
theorem dX11_isWay_159 : decode cX11_isWay 159 = .ok (.goto (-120), 3) := by decide +kernel
theorem dX11_isWay_162 : decode cX11_isWay 162 = .ok (.iinc 3 1, 3) := by decide +kernel
theorem dX11_isWay_165 : decode cX11_isWay 165 = .ok (.goto (-163), 3) := by decide +kernel
theorem dX11_isWay_168 : decode cX11_isWay 168 = .ok (.iconst 1, 1) := by decide +kernel
theorem dX11_isWay_169 : decode cX11_isWay 169 = .ok (.ireturn, 1) := by decide +kernel
theorem dX11_fills_0 : decode cX11_fills 0 = .ok (.iconst 0, 1) := by decide +kernel
theorem dX11_fills_1 : decode cX11_fills 1 = .ok (.istore_n 2, 1) := by decide +kernel
theorem dX11_fills_2 : decode cX11_fills 2 = .ok (.iload_n 2, 1) := by decide +kernel
theorem dX11_fills_3 : decode cX11_fills 3 = .ok (.sipush 240, 3) := by decide +kernel
theorem dX11_fills_6 : decode cX11_fills 6 = .ok (.if_icmp .ge 16, 3) := by decide +kernel
theorem dX11_fills_9 : decode cX11_fills 9 = .ok (.aload_n 0, 1) := by decide +kernel
theorem dX11_fills_10 : decode cX11_fills 10 = .ok (.getfield 79, 3) := by decide +kernel
theorem dX11_fills_13 : decode cX11_fills 13 = .ok (.iload_n 2, 1) := by decide +kernel
theorem dX11_fills_14 : decode cX11_fills 14 = .ok (.iconst 0, 1) := by decide +kernel
theorem dX11_fills_15 : decode cX11_fills 15 = .ok (.iastore, 1) := by decide +kernel
theorem dX11_fills_16 : decode cX11_fills 16 = .ok (.iinc 2 1, 3) := by decide +kernel
theorem dX11_fills_19 : decode cX11_fills 19 = .ok (.goto (-17), 3) := by decide +kernel
theorem dX11_fills_22 : decode cX11_fills 22 = .ok (.iconst 0, 1) := by decide +kernel
theorem dX11_fills_23 : decode cX11_fills 23 = .ok (.istore_n 2, 1) := by decide +kernel
theorem dX11_fills_24 : decode cX11_fills 24 = .ok (.iload_n 2, 1) := by decide +kernel
theorem dX11_fills_25 : decode cX11_fills 25 = .ok (.aload_n 0, 1) := by decide +kernel
theorem dX11_fills_26 : decode cX11_fills 26 = .ok (.getfield 124, 3) := by decide +kernel
theorem dX11_fills_29 : decode cX11_fills 29 = .ok (.if_icmp .ge 62, 3) := by decide +kernel
theorem dX11_fills_32 : decode cX11_fills 32 = .ok (.aload_n 0, 1) := by decide +kernel
theorem dX11_fills_33 : decode cX11_fills 33 = .ok (.getfield 37, 3) := by decide +kernel
theorem dX11_fills_36 : decode cX11_fills 36 = .ok (.iload_n 2, 1) := by decide +kernel
theorem dX11_fills_37 : decode cX11_fills 37 = .ok (.iaload, 1) := by decide +kernel
theorem dX11_fills_38 : decode cX11_fills 38 = .ok (.istore_n 3, 1) := by decide +kernel
theorem dX11_fills_39 : decode cX11_fills 39 = .ok (.iload_n 3, 1) := by decide +kernel
theorem dX11_fills_40 : decode cX11_fills 40 = .ok (.aload_n 0, 1) := by decide +kernel
theorem dX11_fills_41 : decode cX11_fills 41 = .ok (.getfield 40, 3) := by decide +kernel
theorem dX11_fills_44 : decode cX11_fills 44 = .ok (.iload_n 2, 1) := by decide +kernel
theorem dX11_fills_45 : decode cX11_fills 45 = .ok (.iaload, 1) := by decide +kernel
theorem dX11_fills_46 : decode cX11_fills 46 = .ok (.if_icmp .gt 39, 3) := by decide +kernel
theorem dX11_fills_49 : decode cX11_fills 49 = .ok (.aload_n 1, 1) := by decide +kernel
theorem dX11_fills_50 : decode cX11_fills 50 = .ok (.iload_n 2, 1) := by decide +kernel
theorem dX11_fills_51 : decode cX11_fills 51 = .ok (.iaload, 1) := by decide +kernel
theorem dX11_fills_52 : decode cX11_fills 52 = .ok (.bipush (-4), 2) := by decide +kernel
theorem dX11_fills_54 : decode cX11_fills 54 = .ok (.if_icmp .eq 31, 3) := by decide +kernel
theorem dX11_fills_57 : decode cX11_fills 57 = .ok (.aload_n 0, 1) := by decide +kernel
theorem dX11_fills_58 : decode cX11_fills 58 = .ok (.getfield 79, 3) := by decide +kernel
theorem dX11_fills_61 : decode cX11_fills 61 = .ok (.bipush 60, 2) := by decide +kernel
theorem dX11_fills_63 : decode cX11_fills 63 = .ok (.aload_n 0, 1) := by decide +kernel
theorem dX11_fills_64 : decode cX11_fills 64 = .ok (.getfield 43, 3) := by decide +kernel
theorem dX11_fills_67 : decode cX11_fills 67 = .ok (.iload_n 2, 1) := by decide +kernel
theorem dX11_fills_68 : decode cX11_fills 68 = .ok (.iaload, 1) := by decide +kernel
theorem dX11_fills_69 : decode cX11_fills 69 = .ok (.imul, 1) := by decide +kernel
theorem dX11_fills_70 : decode cX11_fills 70 = .ok (.iload_n 3, 1) := by decide +kernel
theorem dX11_fills_71 : decode cX11_fills 71 = .ok (.iadd, 1) := by decide +kernel
theorem dX11_fills_72 : decode cX11_fills 72 = .ok (.aload_n 0, 1) := by decide +kernel
theorem dX11_fills_73 : decode cX11_fills 73 = .ok (.iload_n 2, 1) := by decide +kernel
theorem dX11_fills_74 : decode cX11_fills 74 = .ok (.iload_n 3, 1) := by decide +kernel
theorem dX11_fills_75 : decode cX11_fills 75 = .ok (.invokevirtual 156, 3) := by decide +kernel
theorem dX11_fills_78 : decode cX11_fills 78 = .ok (.iastore, 1) := by decide +kernel
theorem dX11_fills_79 : decode cX11_fills 79 = .ok (.iinc 3 1, 3) := by decide +kernel
theorem dX11_fills_82 : decode cX11_fills 82 = .ok (.goto (-43), 3) := by decide +kernel
theorem dX11_fills_85 : decode cX11_fills 85 = .ok (.iinc 2 1, 3) := by decide +kernel
theorem dX11_fills_88 : decode cX11_fills 88 = .ok (.goto (-64), 3) := by decide +kernel
theorem dX11_fills_91 : decode cX11_fills 91 = .ok (.return_, 1) := by decide +kernel
theorem dX11_flows_0 : decode cX11_flows 0 = .ok (.aload_n 0, 1) := by decide +kernel
theorem dX11_flows_1 : decode cX11_flows 1 = .ok (.getfield 76, 3) := by decide +kernel
theorem dX11_flows_4 : decode cX11_flows 4 = .ok (.iconst 0, 1) := by decide +kernel
theorem dX11_flows_5 : decode cX11_flows 5 = .ok (.iconst 0, 1) := by decide +kernel
theorem dX11_flows_6 : decode cX11_flows 6 = .ok (.iastore, 1) := by decide +kernel
theorem dX11_flows_7 : decode cX11_flows 7 = .ok (.aload_n 0, 1) := by decide +kernel
theorem dX11_flows_8 : decode cX11_flows 8 = .ok (.getfield 76, 3) := by decide +kernel
theorem dX11_flows_11 : decode cX11_flows 11 = .ok (.iconst 1, 1) := by decide +kernel
theorem dX11_flows_12 : decode cX11_flows 12 = .ok (.iconst 0, 1) := by decide +kernel
theorem dX11_flows_13 : decode cX11_flows 13 = .ok (.iastore, 1) := by decide +kernel
theorem dX11_flows_14 : decode cX11_flows 14 = .ok (.aload_n 0, 1) := by decide +kernel
theorem dX11_flows_15 : decode cX11_flows 15 = .ok (.getfield 76, 3) := by decide +kernel
theorem dX11_flows_18 : decode cX11_flows 18 = .ok (.iconst 2, 1) := by decide +kernel
theorem dX11_flows_19 : decode cX11_flows 19 = .ok (.iconst 0, 1) := by decide +kernel
theorem dX11_flows_20 : decode cX11_flows 20 = .ok (.iastore, 1) := by decide +kernel
theorem dX11_flows_21 : decode cX11_flows 21 = .ok (.aload_n 0, 1) := by decide +kernel
theorem dX11_flows_22 : decode cX11_flows 22 = .ok (.getfield 76, 3) := by decide +kernel
theorem dX11_flows_25 : decode cX11_flows 25 = .ok (.iconst 3, 1) := by decide +kernel
theorem dX11_flows_26 : decode cX11_flows 26 = .ok (.bipush (-4), 2) := by decide +kernel
theorem dX11_flows_28 : decode cX11_flows 28 = .ok (.iastore, 1) := by decide +kernel
theorem dX11_flows_29 : decode cX11_flows 29 = .ok (.iconst 0, 1) := by decide +kernel
theorem dX11_flows_30 : decode cX11_flows 30 = .ok (.istore_n 3, 1) := by decide +kernel
theorem dX11_flows_31 : decode cX11_flows 31 = .ok (.iload_n 3, 1) := by decide +kernel
theorem dX11_flows_32 : decode cX11_flows 32 = .ok (.iload_n 2, 1) := by decide +kernel
theorem dX11_flows_33 : decode cX11_flows 33 = .ok (.if_icmp .gt 169, 3) := by decide +kernel
theorem dX11_flows_36 : decode cX11_flows 36 = .ok (.aload_n 0, 1) := by decide +kernel
theorem dX11_flows_37 : decode cX11_flows 37 = .ok (.getfield 76, 3) := by decide +kernel
theorem dX11_flows_40 : decode cX11_flows 40 = .ok (.iconst 0, 1) := by decide +kernel
theorem dX11_flows_41 : decode cX11_flows 41 = .ok (.dup2, 1) := by decide +kernel
theorem dX11_flows_42 : decode cX11_flows 42 = .ok (.iaload, 1) := by decide +kernel
theorem dX11_flows_43 : decode cX11_flows 43 = .ok (.iconst 2, 1) := by decide +kernel
theorem dX11_flows_44 : decode cX11_flows 44 = .ok (.aload_n 0, 1) := by decide +kernel
theorem dX11_flows_45 : decode cX11_flows 45 = .ok (.getfield 13, 3) := by decide +kernel
theorem dX11_flows_48 : decode cX11_flows 48 = .ok (.iconst 5, 1) := by decide +kernel
theorem dX11_flows_49 : decode cX11_flows 49 = .ok (.iload_n 1, 1) := by decide +kernel
theorem dX11_flows_50 : decode cX11_flows 50 = .ok (.imul, 1) := by decide +kernel
theorem dX11_flows_51 : decode cX11_flows 51 = .ok (.iconst 4, 1) := by decide +kernel
theorem dX11_flows_52 : decode cX11_flows 52 = .ok (.iadd, 1) := by decide +kernel
theorem dX11_flows_53 : decode cX11_flows 53 = .ok (.iaload, 1) := by decide +kernel
theorem dX11_flows_54 : decode cX11_flows 54 = .ok (.imul, 1) := by decide +kernel
theorem dX11_flows_55 : decode cX11_flows 55 = .ok (.iadd, 1) := by decide +kernel
theorem dX11_flows_56 : decode cX11_flows 56 = .ok (.iastore, 1) := by decide +kernel
theorem dX11_flows_57 : decode cX11_flows 57 = .ok (.aload_n 0, 1) := by decide +kernel
theorem dX11_flows_58 : decode cX11_flows 58 = .ok (.getfield 79, 3) := by decide +kernel
theorem dX11_flows_61 : decode cX11_flows 61 = .ok (.bipush 60, 2) := by decide +kernel
theorem dX11_flows_63 : decode cX11_flows 63 = .ok (.iload_n 1, 1) := by decide +kernel
theorem dX11_flows_64 : decode cX11_flows 64 = .ok (.imul, 1) := by decide +kernel
theorem dX11_flows_65 : decode cX11_flows 65 = .ok (.iload_n 3, 1) := by decide +kernel
theorem dX11_flows_66 : decode cX11_flows 66 = .ok (.iadd, 1) := by decide +kernel
theorem dX11_flows_67 : decode cX11_flows 67 = .ok (.iaload, 1) := by decide +kernel
theorem dX11_flows_68 : decode cX11_flows 68 = .ok (.aload_n 0, 1) := by decide +kernel
theorem dX11_flows_69 : decode cX11_flows 69 = .ok (.getfield 76, 3) := by decide +kernel
theorem dX11_flows_72 : decode cX11_flows 72 = .ok (.iconst 0, 1) := by decide +kernel
theorem dX11_flows_73 : decode cX11_flows 73 = .ok (.iaload, 1) := by decide +kernel
theorem dX11_flows_74 : decode cX11_flows 74 = .ok (.if_icmp .ge 17, 3) := by decide +kernel
theorem dX11_flows_77 : decode cX11_flows 77 = .ok (.aload_n 0, 1) := by decide +kernel
theorem dX11_flows_78 : decode cX11_flows 78 = .ok (.getfield 79, 3) := by decide +kernel
theorem dX11_flows_81 : decode cX11_flows 81 = .ok (.bipush 60, 2) := by decide +kernel
theorem dX11_flows_83 : decode cX11_flows 83 = .ok (.iload_n 1, 1) := by decide +kernel
theorem dX11_flows_84 : decode cX11_flows 84 = .ok (.imul, 1) := by decide +kernel
theorem dX11_flows_85 : decode cX11_flows 85 = .ok (.iload_n 3, 1) := by decide +kernel
theorem dX11_flows_86 : decode cX11_flows 86 = .ok (.iadd, 1) := by decide +kernel
theorem dX11_flows_87 : decode cX11_flows 87 = .ok (.iaload, 1) := by decide +kernel
theorem dX11_flows_88 : decode cX11_flows 88 = .ok (.goto 9, 3) := by decide +kernel
theorem dX11_flows_91 : decode cX11_flows 91 = .ok (.aload_n 0, 1) := by decide +kernel
theorem dX11_flows_92 : decode cX11_flows 92 = .ok (.getfield 76, 3) := by decide +kernel
theorem dX11_flows_95 : decode cX11_flows 95 = .ok (.iconst 0, 1) := by decide +kernel
theorem dX11_flows_96 : decode cX11_flows 96 = .ok (.iaload, 1) := by decide +kernel
theorem dX11_flows_97 : decode cX11_flows 97 = .ok (.istore 4, 2) := by decide +kernel
theorem dX11_flows_99 : decode cX11_flows 99 = .ok (.aload_n 0, 1) := by decide +kernel
theorem dX11_flows_100 : decode cX11_flows 100 = .ok (.getfield 76, 3) := by decide +kernel
theorem dX11_flows_103 : decode cX11_flows 103 = .ok (.iconst 0, 1) := by decide +kernel
theorem dX11_flows_104 : decode cX11_flows 104 = .ok (.dup2, 1) := by decide +kernel
theorem dX11_flows_105 : decode cX11_flows 105 = .ok (.iaload, 1) := by decide +kernel
theorem dX11_flows_106 : decode cX11_flows 106 = .ok (.iload 4, 2) := by decide +kernel
theorem dX11_flows_108 : decode cX11_flows 108 = .ok (.isub, 1) := by decide +kernel
theorem dX11_flows_109 : decode cX11_flows 109 = .ok (.iastore, 1) := by decide +kernel
theorem dX11_flows_110 : decode cX11_flows 110 = .ok (.aload_n 0, 1) := by decide +kernel
theorem dX11_flows_111 : decode cX11_flows 111 = .ok (.getfield 76, 3) := by decide +kernel
theorem dX11_flows_114 : decode cX11_flows 114 = .ok (.iconst 2, 1) := by decide +kernel
theorem dX11_flows_115 : decode cX11_flows 115 = .ok (.dup2, 1) := by decide +kernel
theorem dX11_flows_116 : decode cX11_flows 116 = .ok (.iaload, 1) := by decide +kernel
theorem dX11_flows_117 : decode cX11_flows 117 = .ok (.iload 4, 2) := by decide +kernel
theorem dX11_flows_119 : decode cX11_flows 119 = .ok (.iadd, 1) := by decide +kernel
theorem dX11_flows_120 : decode cX11_flows 120 = .ok (.iastore, 1) := by decide +kernel
theorem dX11_flows_121 : decode cX11_flows 121 = .ok (.aload_n 0, 1) := by decide +kernel
theorem dX11_flows_122 : decode cX11_flows 122 = .ok (.getfield 76, 3) := by decide +kernel
theorem dX11_flows_125 : decode cX11_flows 125 = .ok (.iconst 0, 1) := by decide +kernel
theorem dX11_flows_126 : decode cX11_flows 126 = .ok (.iaload, 1) := by decide +kernel
theorem dX11_flows_127 : decode cX11_flows 127 = .ok (.iconst 2, 1) := by decide +kernel
theorem dX11_flows_128 : decode cX11_flows 128 = .ok (.aload_n 0, 1) := by decide +kernel
theorem dX11_flows_129 : decode cX11_flows 129 = .ok (.getfield 13, 3) := by decide +kernel
theorem dX11_flows_132 : decode cX11_flows 132 = .ok (.iconst 5, 1) := by decide +kernel
theorem dX11_flows_133 : decode cX11_flows 133 = .ok (.iload_n 1, 1) := by decide +kernel
theorem dX11_flows_134 : decode cX11_flows 134 = .ok (.imul, 1) := by decide +kernel
theorem dX11_flows_135 : decode cX11_flows 135 = .ok (.iconst 3, 1) := by decide +kernel
theorem dX11_flows_136 : decode cX11_flows 136 = .ok (.iadd, 1) := by decide +kernel
theorem dX11_flows_137 : decode cX11_flows 137 = .ok (.iaload, 1) := by decide +kernel
theorem dX11_flows_138 : decode cX11_flows 138 = .ok (.imul, 1) := by decide +kernel
theorem dX11_flows_139 : decode cX11_flows 139 = .ok (.isub, 1) := by decide +kernel
theorem dX11_flows_140 : decode cX11_flows 140 = .ok (.istore 5, 2) := by decide +kernel
theorem dX11_flows_142 : decode cX11_flows 142 = .ok (.iload 5, 2) := by decide +kernel
theorem dX11_flows_144 : decode cX11_flows 144 = .ok (.ifCond .le 52, 3) := by decide +kernel
theorem dX11_flows_147 : decode cX11_flows 147 = .ok (.aload_n 0, 1) := by decide +kernel
theorem dX11_flows_148 : decode cX11_flows 148 = .ok (.getfield 76, 3) := by decide +kernel
theorem dX11_flows_151 : decode cX11_flows 151 = .ok (.iconst 0, 1) := by decide +kernel
theorem dX11_flows_152 : decode cX11_flows 152 = .ok (.dup2, 1) := by decide +kernel
theorem dX11_flows_153 : decode cX11_flows 153 = .ok (.iaload, 1) := by decide +kernel
theorem dX11_flows_154 : decode cX11_flows 154 = .ok (.iload 5, 2) := by decide +kernel
theorem dX11_flows_156 : decode cX11_flows 156 = .ok (.isub, 1) := by decide +kernel
theorem dX11_flows_157 : decode cX11_flows 157 = .ok (.iastore, 1) := by decide +kernel
theorem dX11_flows_158 : decode cX11_flows 158 = .ok (.aload_n 0, 1) := by decide +kernel
theorem dX11_flows_159 : decode cX11_flows 159 = .ok (.getfield 76, 3) := by decide +kernel
theorem dX11_flows_162 : decode cX11_flows 162 = .ok (.iconst 1, 1) := by decide +kernel
theorem dX11_flows_163 : decode cX11_flows 163 = .ok (.dup2, 1) := by decide +kernel
theorem dX11_flows_164 : decode cX11_flows 164 = .ok (.iaload, 1) := by decide +kernel
theorem dX11_flows_165 : decode cX11_flows 165 = .ok (.iload 5, 2) := by decide +kernel
theorem dX11_flows_167 : decode cX11_flows 167 = .ok (.iadd, 1) := by decide +kernel
theorem dX11_flows_168 : decode cX11_flows 168 = .ok (.iastore, 1) := by decide +kernel
theorem dX11_flows_169 : decode cX11_flows 169 = .ok (.aload_n 0, 1) := by decide +kernel
theorem dX11_flows_170 : decode cX11_flows 170 = .ok (.getfield 76, 3) := by decide +kernel
theorem dX11_flows_173 : decode cX11_flows 173 = .ok (.iconst 3, 1) := by decide +kernel
theorem dX11_flows_174 : decode cX11_flows 174 = .ok (.aload_n 0, 1) := by decide +kernel
theorem dX11_flows_175 : decode cX11_flows 175 = .ok (.getfield 76, 3) := by decide +kernel
theorem dX11_flows_178 : decode cX11_flows 178 = .ok (.iconst 3, 1) := by decide +kernel
theorem dX11_flows_179 : decode cX11_flows 179 = .ok (.iaload, 1) := by decide +kernel
theorem dX11_flows_180 : decode cX11_flows 180 = .ok (.bipush (-4), 2) := by decide +kernel
theorem dX11_flows_182 : decode cX11_flows 182 = .ok (.if_icmp .ne 7, 3) := by decide +kernel
theorem dX11_flows_185 : decode cX11_flows 185 = .ok (.iload_n 3, 1) := by decide +kernel
theorem dX11_flows_186 : decode cX11_flows 186 = .ok (.goto 9, 3) := by decide +kernel
theorem dX11_flows_189 : decode cX11_flows 189 = .ok (.aload_n 0, 1) := by decide +kernel
theorem dX11_flows_190 : decode cX11_flows 190 = .ok (.getfield 76, 3) := by decide +kernel
theorem dX11_flows_193 : decode cX11_flows 193 = .ok (.iconst 3, 1) := by decide +kernel
theorem dX11_flows_194 : decode cX11_flows 194 = .ok (.iaload, 1) := by decide +kernel
theorem dX11_flows_195 : decode cX11_flows 195 = .ok (.iastore, 1) := by decide +kernel
theorem dX11_flows_196 : decode cX11_flows 196 = .ok (.iinc 3 1, 3) := by decide +kernel
theorem dX11_flows_199 : decode cX11_flows 199 = .ok (.goto (-168), 3) := by decide +kernel
theorem dX11_flows_202 : decode cX11_flows 202 = .ok (.return_, 1) := by decide +kernel
theorem dX11_lost_0 : decode cX11_lost 0 = .ok (.iconst 0, 1) := by decide +kernel
theorem dX11_lost_1 : decode cX11_lost 1 = .ok (.istore_n 2, 1) := by decide +kernel
theorem dX11_lost_2 : decode cX11_lost 2 = .ok (.aload_n 0, 1) := by decide +kernel
theorem dX11_lost_3 : decode cX11_lost 3 = .ok (.aload_n 1, 1) := by decide +kernel
theorem dX11_lost_4 : decode cX11_lost 4 = .ok (.invokevirtual 181, 3) := by decide +kernel
theorem dX11_lost_7 : decode cX11_lost 7 = .ok (.iconst 0, 1) := by decide +kernel
theorem dX11_lost_8 : decode cX11_lost 8 = .ok (.istore_n 3, 1) := by decide +kernel
theorem dX11_lost_9 : decode cX11_lost 9 = .ok (.iload_n 3, 1) := by decide +kernel
theorem dX11_lost_10 : decode cX11_lost 10 = .ok (.aload_n 0, 1) := by decide +kernel
theorem dX11_lost_11 : decode cX11_lost 11 = .ok (.getfield 22, 3) := by decide +kernel
theorem dX11_lost_14 : decode cX11_lost 14 = .ok (.iconst 0, 1) := by decide +kernel
theorem dX11_lost_15 : decode cX11_lost 15 = .ok (.iaload, 1) := by decide +kernel
theorem dX11_lost_16 : decode cX11_lost 16 = .ok (.if_icmp .ge 25, 3) := by decide +kernel
theorem dX11_lost_19 : decode cX11_lost 19 = .ok (.aload_n 0, 1) := by decide +kernel
theorem dX11_lost_20 : decode cX11_lost 20 = .ok (.iload_n 3, 1) := by decide +kernel
theorem dX11_lost_21 : decode cX11_lost 21 = .ok (.bipush 59, 2) := by decide +kernel
theorem dX11_lost_23 : decode cX11_lost 23 = .ok (.invokevirtual 185, 3) := by decide +kernel
theorem dX11_lost_26 : decode cX11_lost 26 = .ok (.iload_n 2, 1) := by decide +kernel
theorem dX11_lost_27 : decode cX11_lost 27 = .ok (.aload_n 0, 1) := by decide +kernel
theorem dX11_lost_28 : decode cX11_lost 28 = .ok (.getfield 76, 3) := by decide +kernel
theorem dX11_lost_31 : decode cX11_lost 31 = .ok (.iconst 1, 1) := by decide +kernel
theorem dX11_lost_32 : decode cX11_lost 32 = .ok (.iaload, 1) := by decide +kernel
theorem dX11_lost_33 : decode cX11_lost 33 = .ok (.iadd, 1) := by decide +kernel
theorem dX11_lost_34 : decode cX11_lost 34 = .ok (.istore_n 2, 1) := by decide +kernel
theorem dX11_lost_35 : decode cX11_lost 35 = .ok (.iinc 3 1, 3) := by decide +kernel
theorem dX11_lost_38 : decode cX11_lost 38 = .ok (.goto (-29), 3) := by decide +kernel
theorem dX11_lost_41 : decode cX11_lost 41 = .ok (.iload_n 2, 1) := by decide +kernel
theorem dX11_lost_42 : decode cX11_lost 42 = .ok (.ireturn, 1) := by decide +kernel
theorem dX11_volumeOf_0 : decode cX11_volumeOf 0 = .ok (.iconst 0, 1) := by decide +kernel
theorem dX11_volumeOf_1 : decode cX11_volumeOf 1 = .ok (.istore 4, 2) := by decide +kernel
theorem dX11_volumeOf_3 : decode cX11_volumeOf 3 = .ok (.iload_n 2, 1) := by decide +kernel
theorem dX11_volumeOf_4 : decode cX11_volumeOf 4 = .ok (.istore 5, 2) := by decide +kernel
theorem dX11_volumeOf_6 : decode cX11_volumeOf 6 = .ok (.iload 5, 2) := by decide +kernel
theorem dX11_volumeOf_8 : decode cX11_volumeOf 8 = .ok (.iload_n 3, 1) := by decide +kernel
theorem dX11_volumeOf_9 : decode cX11_volumeOf 9 = .ok (.if_icmp .ge 34, 3) := by decide +kernel
theorem dX11_volumeOf_12 : decode cX11_volumeOf 12 = .ok (.iload 4, 2) := by decide +kernel
theorem dX11_volumeOf_14 : decode cX11_volumeOf 14 = .ok (.aload_n 1, 1) := by decide +kernel
theorem dX11_volumeOf_15 : decode cX11_volumeOf 15 = .ok (.iload 5, 2) := by decide +kernel
theorem dX11_volumeOf_17 : decode cX11_volumeOf 17 = .ok (.iaload, 1) := by decide +kernel
theorem dX11_volumeOf_18 : decode cX11_volumeOf 18 = .ok (.bipush (-4), 2) := by decide +kernel
theorem dX11_volumeOf_20 : decode cX11_volumeOf 20 = .ok (.if_icmp .eq 13, 3) := by decide +kernel
theorem dX11_volumeOf_23 : decode cX11_volumeOf 23 = .ok (.aload_n 0, 1) := by decide +kernel
theorem dX11_volumeOf_24 : decode cX11_volumeOf 24 = .ok (.getfield 49, 3) := by decide +kernel
theorem dX11_volumeOf_27 : decode cX11_volumeOf 27 = .ok (.iload 5, 2) := by decide +kernel
theorem dX11_volumeOf_29 : decode cX11_volumeOf 29 = .ok (.iaload, 1) := by decide +kernel
theorem dX11_volumeOf_30 : decode cX11_volumeOf 30 = .ok (.goto 4, 3) := by decide +kernel
theorem dX11_volumeOf_33 : decode cX11_volumeOf 33 = .ok (.iconst 0, 1) := by decide +kernel
theorem dX11_volumeOf_34 : decode cX11_volumeOf 34 = .ok (.iadd, 1) := by decide +kernel
theorem dX11_volumeOf_35 : decode cX11_volumeOf 35 = .ok (.istore 4, 2) := by decide +kernel
theorem dX11_volumeOf_37 : decode cX11_volumeOf 37 = .ok (.iinc 5 1, 3) := by decide +kernel
theorem dX11_volumeOf_40 : decode cX11_volumeOf 40 = .ok (.goto (-34), 3) := by decide +kernel
theorem dX11_volumeOf_43 : decode cX11_volumeOf 43 = .ok (.iload 4, 2) := by decide +kernel
theorem dX11_volumeOf_45 : decode cX11_volumeOf 45 = .ok (.ireturn, 1) := by decide +kernel
theorem dX11_isLess_0 : decode cX11_isLess 0 = .ok (.iload_n 1, 1) := by decide +kernel
theorem dX11_isLess_1 : decode cX11_isLess 1 = .ok (.aload_n 0, 1) := by decide +kernel
theorem dX11_isLess_2 : decode cX11_isLess 2 = .ok (.getfield 73, 3) := by decide +kernel
theorem dX11_isLess_5 : decode cX11_isLess 5 = .ok (.iconst 0, 1) := by decide +kernel
theorem dX11_isLess_6 : decode cX11_isLess 6 = .ok (.iaload, 1) := by decide +kernel
theorem dX11_isLess_7 : decode cX11_isLess 7 = .ok (.if_icmp .eq 21, 3) := by decide +kernel
theorem dX11_isLess_10 : decode cX11_isLess 10 = .ok (.iload_n 1, 1) := by decide +kernel
theorem dX11_isLess_11 : decode cX11_isLess 11 = .ok (.aload_n 0, 1) := by decide +kernel
theorem dX11_isLess_12 : decode cX11_isLess 12 = .ok (.getfield 73, 3) := by decide +kernel
theorem dX11_isLess_15 : decode cX11_isLess 15 = .ok (.iconst 0, 1) := by decide +kernel
theorem dX11_isLess_16 : decode cX11_isLess 16 = .ok (.iaload, 1) := by decide +kernel
theorem dX11_isLess_17 : decode cX11_isLess 17 = .ok (.if_icmp .ge 7, 3) := by decide +kernel
theorem dX11_isLess_20 : decode cX11_isLess 20 = .ok (.iconst 1, 1) := by decide +kernel
theorem dX11_isLess_21 : decode cX11_isLess 21 = .ok (.goto 50, 3) := by decide +kernel
theorem dX11_isLess_24 : decode cX11_isLess 24 = .ok (.iconst 0, 1) := by decide +kernel
theorem dX11_isLess_25 : decode cX11_isLess 25 = .ok (.goto 46, 3) := by decide +kernel
theorem dX11_isLess_28 : decode cX11_isLess 28 = .ok (.iload_n 2, 1) := by decide +kernel
theorem dX11_isLess_29 : decode cX11_isLess 29 = .ok (.aload_n 0, 1) := by decide +kernel
theorem dX11_isLess_30 : decode cX11_isLess 30 = .ok (.getfield 73, 3) := by decide +kernel
theorem dX11_isLess_33 : decode cX11_isLess 33 = .ok (.iconst 1, 1) := by decide +kernel
theorem dX11_isLess_34 : decode cX11_isLess 34 = .ok (.iaload, 1) := by decide +kernel
theorem dX11_isLess_35 : decode cX11_isLess 35 = .ok (.if_icmp .eq 21, 3) := by decide +kernel
theorem dX11_isLess_38 : decode cX11_isLess 38 = .ok (.iload_n 2, 1) := by decide +kernel
theorem dX11_isLess_39 : decode cX11_isLess 39 = .ok (.aload_n 0, 1) := by decide +kernel
theorem dX11_isLess_40 : decode cX11_isLess 40 = .ok (.getfield 73, 3) := by decide +kernel
theorem dX11_isLess_43 : decode cX11_isLess 43 = .ok (.iconst 1, 1) := by decide +kernel
theorem dX11_isLess_44 : decode cX11_isLess 44 = .ok (.iaload, 1) := by decide +kernel
theorem dX11_isLess_45 : decode cX11_isLess 45 = .ok (.if_icmp .ge 7, 3) := by decide +kernel
theorem dX11_isLess_48 : decode cX11_isLess 48 = .ok (.iconst 1, 1) := by decide +kernel
theorem dX11_isLess_49 : decode cX11_isLess 49 = .ok (.goto 22, 3) := by decide +kernel
theorem dX11_isLess_52 : decode cX11_isLess 52 = .ok (.iconst 0, 1) := by decide +kernel
theorem dX11_isLess_53 : decode cX11_isLess 53 = .ok (.goto 18, 3) := by decide +kernel
theorem dX11_isLess_56 : decode cX11_isLess 56 = .ok (.iload_n 3, 1) := by decide +kernel
theorem dX11_isLess_57 : decode cX11_isLess 57 = .ok (.aload_n 0, 1) := by decide +kernel
theorem dX11_isLess_58 : decode cX11_isLess 58 = .ok (.getfield 73, 3) := by decide +kernel
theorem dX11_isLess_61 : decode cX11_isLess 61 = .ok (.iconst 2, 1) := by decide +kernel
theorem dX11_isLess_62 : decode cX11_isLess 62 = .ok (.iaload, 1) := by decide +kernel
theorem dX11_isLess_63 : decode cX11_isLess 63 = .ok (.if_icmp .ge 7, 3) := by decide +kernel
theorem dX11_isLess_66 : decode cX11_isLess 66 = .ok (.iconst 1, 1) := by decide +kernel
theorem dX11_isLess_67 : decode cX11_isLess 67 = .ok (.goto 4, 3) := by decide +kernel
theorem dX11_isLess_70 : decode cX11_isLess 70 = .ok (.iconst 0, 1) := by decide +kernel
theorem dX11_isLess_71 : decode cX11_isLess 71 = .ok (.ireturn, 1) := by decide +kernel
theorem dX11_plans_0 : decode cX11_plans 0 = .ok (.aload_n 0, 1) := by decide +kernel
theorem dX11_plans_1 : decode cX11_plans 1 = .ok (.iload_n 2, 1) := by decide +kernel
theorem dX11_plans_2 : decode cX11_plans 2 = .ok (.invokevirtual 189, 3) := by decide +kernel
theorem dX11_plans_5 : decode cX11_plans 5 = .ok (.istore 4, 2) := by decide +kernel
theorem dX11_plans_7 : decode cX11_plans 7 = .ok (.iconst 1, 1) := by decide +kernel
theorem dX11_plans_8 : decode cX11_plans 8 = .ok (.istore 5, 2) := by decide +kernel
theorem dX11_plans_10 : decode cX11_plans 10 = .ok (.iconst 0, 1) := by decide +kernel
theorem dX11_plans_11 : decode cX11_plans 11 = .ok (.istore 6, 2) := by decide +kernel
theorem dX11_plans_13 : decode cX11_plans 13 = .ok (.iload 6, 2) := by decide +kernel
theorem dX11_plans_15 : decode cX11_plans 15 = .ok (.iload 4, 2) := by decide +kernel
theorem dX11_plans_17 : decode cX11_plans 17 = .ok (.if_icmp .ge 22, 3) := by decide +kernel
theorem dX11_plans_20 : decode cX11_plans 20 = .ok (.iload 5, 2) := by decide +kernel
theorem dX11_plans_22 : decode cX11_plans 22 = .ok (.aload_n 0, 1) := by decide +kernel
theorem dX11_plans_23 : decode cX11_plans 23 = .ok (.getfield 22, 3) := by decide +kernel
theorem dX11_plans_26 : decode cX11_plans 26 = .ok (.iconst 2, 1) := by decide +kernel
theorem dX11_plans_27 : decode cX11_plans 27 = .ok (.iaload, 1) := by decide +kernel
theorem dX11_plans_28 : decode cX11_plans 28 = .ok (.iconst 1, 1) := by decide +kernel
theorem dX11_plans_29 : decode cX11_plans 29 = .ok (.iadd, 1) := by decide +kernel
theorem dX11_plans_30 : decode cX11_plans 30 = .ok (.imul, 1) := by decide +kernel
theorem dX11_plans_31 : decode cX11_plans 31 = .ok (.istore 5, 2) := by decide +kernel
theorem dX11_plans_33 : decode cX11_plans 33 = .ok (.iinc 6 1, 3) := by decide +kernel
theorem dX11_plans_36 : decode cX11_plans 36 = .ok (.goto (-23), 3) := by decide +kernel
theorem dX11_plans_39 : decode cX11_plans 39 = .ok (.aload_n 0, 1) := by decide +kernel
theorem dX11_plans_40 : decode cX11_plans 40 = .ok (.getfield 73, 3) := by decide +kernel
theorem dX11_plans_43 : decode cX11_plans 43 = .ok (.iconst 0, 1) := by decide +kernel
theorem dX11_plans_44 : decode cX11_plans 44 = .ok (.ldc 192, 2) := by decide +kernel
theorem dX11_plans_46 : decode cX11_plans 46 = .ok (.iastore, 1) := by decide +kernel
theorem dX11_plans_47 : decode cX11_plans 47 = .ok (.iconst 0, 1) := by decide +kernel
theorem dX11_plans_48 : decode cX11_plans 48 = .ok (.istore 6, 2) := by decide +kernel
theorem dX11_plans_50 : decode cX11_plans 50 = .ok (.iload 6, 2) := by decide +kernel
theorem dX11_plans_52 : decode cX11_plans 52 = .ok (.aload_n 0, 1) := by decide +kernel
theorem dX11_plans_53 : decode cX11_plans 53 = .ok (.getfield 124, 3) := by decide +kernel
theorem dX11_plans_56 : decode cX11_plans 56 = .ok (.if_icmp .ge 23, 3) := by decide +kernel
theorem dX11_plans_59 : decode cX11_plans 59 = .ok (.aload_n 0, 1) := by decide +kernel
theorem dX11_plans_60 : decode cX11_plans 60 = .ok (.getfield 67, 3) := by decide +kernel
theorem dX11_plans_63 : decode cX11_plans 63 = .ok (.iload 6, 2) := by decide +kernel
theorem dX11_plans_65 : decode cX11_plans 65 = .ok (.aload_n 0, 1) := by decide +kernel
theorem dX11_plans_66 : decode cX11_plans 66 = .ok (.getfield 52, 3) := by decide +kernel
theorem dX11_plans_69 : decode cX11_plans 69 = .ok (.iload 6, 2) := by decide +kernel
theorem dX11_plans_71 : decode cX11_plans 71 = .ok (.iaload, 1) := by decide +kernel
theorem dX11_plans_72 : decode cX11_plans 72 = .ok (.iastore, 1) := by decide +kernel
theorem dX11_plans_73 : decode cX11_plans 73 = .ok (.iinc 6 1, 3) := by decide +kernel
theorem dX11_plans_76 : decode cX11_plans 76 = .ok (.goto (-26), 3) := by decide +kernel
theorem dX11_plans_79 : decode cX11_plans 79 = .ok (.iconst 0, 1) := by decide +kernel
theorem dX11_plans_80 : decode cX11_plans 80 = .ok (.istore 6, 2) := by decide +kernel
theorem dX11_plans_82 : decode cX11_plans 82 = .ok (.iload 6, 2) := by decide +kernel
theorem dX11_plans_84 : decode cX11_plans 84 = .ok (.iload 5, 2) := by decide +kernel
theorem dX11_plans_86 : decode cX11_plans 86 = .ok (.if_icmp .ge 247, 3) := by decide +kernel
theorem dX11_plans_89 : decode cX11_plans 89 = .ok (.iload 6, 2) := by decide +kernel
theorem dX11_plans_91 : decode cX11_plans 91 = .ok (.istore 7, 2) := by decide +kernel
theorem dX11_plans_93 : decode cX11_plans 93 = .ok (.iconst 0, 1) := by decide +kernel
theorem dX11_plans_94 : decode cX11_plans 94 = .ok (.istore 8, 2) := by decide +kernel
theorem dX11_plans_96 : decode cX11_plans 96 = .ok (.iconst 0, 1) := by decide +kernel
theorem dX11_plans_97 : decode cX11_plans 97 = .ok (.istore 9, 2) := by decide +kernel
theorem dX11_plans_99 : decode cX11_plans 99 = .ok (.iload 4, 2) := by decide +kernel
theorem dX11_plans_101 : decode cX11_plans 101 = .ok (.iconst 1, 1) := by decide +kernel
theorem dX11_plans_102 : decode cX11_plans 102 = .ok (.isub, 1) := by decide +kernel
theorem dX11_plans_103 : decode cX11_plans 103 = .ok (.istore 10, 2) := by decide +kernel
theorem dX11_plans_105 : decode cX11_plans 105 = .ok (.iload 10, 2) := by decide +kernel
theorem dX11_plans_107 : decode cX11_plans 107 = .ok (.ifCond .lt 104, 3) := by decide +kernel
theorem dX11_plans_110 : decode cX11_plans 110 = .ok (.iload 7, 2) := by decide +kernel
theorem dX11_plans_112 : decode cX11_plans 112 = .ok (.aload_n 0, 1) := by decide +kernel
theorem dX11_plans_113 : decode cX11_plans 113 = .ok (.getfield 22, 3) := by decide +kernel
theorem dX11_plans_116 : decode cX11_plans 116 = .ok (.iconst 2, 1) := by decide +kernel
theorem dX11_plans_117 : decode cX11_plans 117 = .ok (.iaload, 1) := by decide +kernel
theorem dX11_plans_118 : decode cX11_plans 118 = .ok (.iconst 1, 1) := by decide +kernel
theorem dX11_plans_119 : decode cX11_plans 119 = .ok (.iadd, 1) := by decide +kernel
theorem dX11_plans_120 : decode cX11_plans 120 = .ok (.irem, 1) := by decide +kernel
theorem dX11_plans_121 : decode cX11_plans 121 = .ok (.iconst 1, 1) := by decide +kernel
theorem dX11_plans_122 : decode cX11_plans 122 = .ok (.isub, 1) := by decide +kernel
theorem dX11_plans_123 : decode cX11_plans 123 = .ok (.istore 11, 2) := by decide +kernel
theorem dX11_plans_125 : decode cX11_plans 125 = .ok (.iload 7, 2) := by decide +kernel
theorem dX11_plans_127 : decode cX11_plans 127 = .ok (.aload_n 0, 1) := by decide +kernel
theorem dX11_plans_128 : decode cX11_plans 128 = .ok (.getfield 22, 3) := by decide +kernel
theorem dX11_plans_131 : decode cX11_plans 131 = .ok (.iconst 2, 1) := by decide +kernel
theorem dX11_plans_132 : decode cX11_plans 132 = .ok (.iaload, 1) := by decide +kernel
theorem dX11_plans_133 : decode cX11_plans 133 = .ok (.iconst 1, 1) := by decide +kernel
theorem dX11_plans_134 : decode cX11_plans 134 = .ok (.iadd, 1) := by decide +kernel
theorem dX11_plans_135 : decode cX11_plans 135 = .ok (.idiv, 1) := by decide +kernel
theorem dX11_plans_136 : decode cX11_plans 136 = .ok (.istore 7, 2) := by decide +kernel
theorem dX11_plans_138 : decode cX11_plans 138 = .ok (.aload_n 0, 1) := by decide +kernel
theorem dX11_plans_139 : decode cX11_plans 139 = .ok (.getfield 67, 3) := by decide +kernel
theorem dX11_plans_142 : decode cX11_plans 142 = .ok (.iload_n 2, 1) := by decide +kernel
theorem dX11_plans_143 : decode cX11_plans 143 = .ok (.iload 10, 2) := by decide +kernel
theorem dX11_plans_145 : decode cX11_plans 145 = .ok (.iadd, 1) := by decide +kernel
theorem dX11_plans_146 : decode cX11_plans 146 = .ok (.iload 11, 2) := by decide +kernel
theorem dX11_plans_148 : decode cX11_plans 148 = .ok (.ifCond .ge 8, 3) := by decide +kernel
theorem dX11_plans_151 : decode cX11_plans 151 = .ok (.bipush (-4), 2) := by decide +kernel
theorem dX11_plans_153 : decode cX11_plans 153 = .ok (.goto 5, 3) := by decide +kernel
theorem dX11_plans_156 : decode cX11_plans 156 = .ok (.iload 11, 2) := by decide +kernel
theorem dX11_plans_158 : decode cX11_plans 158 = .ok (.iastore, 1) := by decide +kernel
theorem dX11_plans_159 : decode cX11_plans 159 = .ok (.iload 8, 2) := by decide +kernel
theorem dX11_plans_161 : decode cX11_plans 161 = .ok (.iload 11, 2) := by decide +kernel
theorem dX11_plans_163 : decode cX11_plans 163 = .ok (.ifCond .ge 7, 3) := by decide +kernel
theorem dX11_plans_166 : decode cX11_plans 166 = .ok (.iconst 0, 1) := by decide +kernel
theorem dX11_plans_167 : decode cX11_plans 167 = .ok (.goto 4, 3) := by decide +kernel
theorem dX11_plans_170 : decode cX11_plans 170 = .ok (.iconst 1, 1) := by decide +kernel
theorem dX11_plans_171 : decode cX11_plans 171 = .ok (.iadd, 1) := by decide +kernel
theorem dX11_plans_172 : decode cX11_plans 172 = .ok (.istore 8, 2) := by decide +kernel
theorem dX11_plans_174 : decode cX11_plans 174 = .ok (.iload 9, 2) := by decide +kernel
theorem dX11_plans_176 : decode cX11_plans 176 = .ok (.aload_n 0, 1) := by decide +kernel
theorem dX11_plans_177 : decode cX11_plans 177 = .ok (.getfield 67, 3) := by decide +kernel
theorem dX11_plans_180 : decode cX11_plans 180 = .ok (.iload_n 2, 1) := by decide +kernel
theorem dX11_plans_181 : decode cX11_plans 181 = .ok (.iload 10, 2) := by decide +kernel
theorem dX11_plans_183 : decode cX11_plans 183 = .ok (.iadd, 1) := by decide +kernel
theorem dX11_plans_184 : decode cX11_plans 184 = .ok (.iaload, 1) := by decide +kernel
theorem dX11_plans_185 : decode cX11_plans 185 = .ok (.aload_n 0, 1) := by decide +kernel
theorem dX11_plans_186 : decode cX11_plans 186 = .ok (.getfield 52, 3) := by decide +kernel
theorem dX11_plans_189 : decode cX11_plans 189 = .ok (.iload_n 2, 1) := by decide +kernel
theorem dX11_plans_190 : decode cX11_plans 190 = .ok (.iload 10, 2) := by decide +kernel
theorem dX11_plans_192 : decode cX11_plans 192 = .ok (.iadd, 1) := by decide +kernel
theorem dX11_plans_193 : decode cX11_plans 193 = .ok (.iaload, 1) := by decide +kernel
theorem dX11_plans_194 : decode cX11_plans 194 = .ok (.if_icmp .ne 7, 3) := by decide +kernel
theorem dX11_plans_197 : decode cX11_plans 197 = .ok (.iconst 0, 1) := by decide +kernel
theorem dX11_plans_198 : decode cX11_plans 198 = .ok (.goto 4, 3) := by decide +kernel
theorem dX11_plans_201 : decode cX11_plans 201 = .ok (.iconst 1, 1) := by decide +kernel
theorem dX11_plans_202 : decode cX11_plans 202 = .ok (.iadd, 1) := by decide +kernel
theorem dX11_plans_203 : decode cX11_plans 203 = .ok (.istore 9, 2) := by decide +kernel
theorem dX11_plans_205 : decode cX11_plans 205 = .ok (.iinc 10 (-1), 3) := by decide +kernel
theorem dX11_plans_208 : decode cX11_plans 208 = .ok (.goto (-103), 3) := by decide +kernel
theorem dX11_plans_211 : decode cX11_plans 211 = .ok (.iload 9, 2) := by decide +kernel
theorem dX11_plans_213 : decode cX11_plans 213 = .ok (.iload_n 3, 1) := by decide +kernel
theorem dX11_plans_214 : decode cX11_plans 214 = .ok (.if_icmp .gt 113, 3) := by decide +kernel
theorem dX11_plans_217 : decode cX11_plans 217 = .ok (.aload_n 0, 1) := by decide +kernel
theorem dX11_plans_218 : decode cX11_plans 218 = .ok (.iload_n 2, 1) := by decide +kernel
theorem dX11_plans_219 : decode cX11_plans 219 = .ok (.iload 4, 2) := by decide +kernel
theorem dX11_plans_221 : decode cX11_plans 221 = .ok (.invokevirtual 193, 3) := by decide +kernel
theorem dX11_plans_224 : decode cX11_plans 224 = .ok (.ifCond .eq 103, 3) := by decide +kernel
theorem dX11_plans_227 : decode cX11_plans 227 = .ok (.iload_n 1, 1) := by decide +kernel
theorem dX11_plans_228 : decode cX11_plans 228 = .ok (.ifCond .ne 20, 3) := by decide +kernel
theorem dX11_plans_231 : decode cX11_plans 231 = .ok (.aload_n 0, 1) := by decide +kernel
theorem dX11_plans_232 : decode cX11_plans 232 = .ok (.aload_n 0, 1) := by decide +kernel
theorem dX11_plans_233 : decode cX11_plans 233 = .ok (.getfield 67, 3) := by decide +kernel
theorem dX11_plans_236 : decode cX11_plans 236 = .ok (.iload_n 2, 1) := by decide +kernel
theorem dX11_plans_237 : decode cX11_plans 237 = .ok (.iload_n 2, 1) := by decide +kernel
theorem dX11_plans_238 : decode cX11_plans 238 = .ok (.iload 4, 2) := by decide +kernel
theorem dX11_plans_240 : decode cX11_plans 240 = .ok (.iadd, 1) := by decide +kernel
theorem dX11_plans_241 : decode cX11_plans 241 = .ok (.invokevirtual 196, 3) := by decide +kernel
theorem dX11_plans_244 : decode cX11_plans 244 = .ok (.ineg, 1) := by decide +kernel
theorem dX11_plans_245 : decode cX11_plans 245 = .ok (.goto 11, 3) := by decide +kernel
theorem dX11_plans_248 : decode cX11_plans 248 = .ok (.aload_n 0, 1) := by decide +kernel
theorem dX11_plans_249 : decode cX11_plans 249 = .ok (.aload_n 0, 1) := by decide +kernel
theorem dX11_plans_250 : decode cX11_plans 250 = .ok (.getfield 67, 3) := by decide +kernel
theorem dX11_plans_253 : decode cX11_plans 253 = .ok (.invokevirtual 200, 3) := by decide +kernel
theorem dX11_plans_256 : decode cX11_plans 256 = .ok (.istore 10, 2) := by decide +kernel
theorem dX11_plans_258 : decode cX11_plans 258 = .ok (.aload_n 0, 1) := by decide +kernel
theorem dX11_plans_259 : decode cX11_plans 259 = .ok (.iload 10, 2) := by decide +kernel
theorem dX11_plans_261 : decode cX11_plans 261 = .ok (.iload 8, 2) := by decide +kernel
theorem dX11_plans_263 : decode cX11_plans 263 = .ok (.iload 9, 2) := by decide +kernel
theorem dX11_plans_265 : decode cX11_plans 265 = .ok (.invokevirtual 204, 3) := by decide +kernel
theorem dX11_plans_268 : decode cX11_plans 268 = .ok (.ifCond .eq 59, 3) := by decide +kernel
theorem dX11_plans_271 : decode cX11_plans 271 = .ok (.aload_n 0, 1) := by decide +kernel
theorem dX11_plans_272 : decode cX11_plans 272 = .ok (.getfield 73, 3) := by decide +kernel
theorem dX11_plans_275 : decode cX11_plans 275 = .ok (.iconst 0, 1) := by decide +kernel
theorem dX11_plans_276 : decode cX11_plans 276 = .ok (.iload 10, 2) := by decide +kernel
theorem dX11_plans_278 : decode cX11_plans 278 = .ok (.iastore, 1) := by decide +kernel
theorem dX11_plans_279 : decode cX11_plans 279 = .ok (.aload_n 0, 1) := by decide +kernel
theorem dX11_plans_280 : decode cX11_plans 280 = .ok (.getfield 73, 3) := by decide +kernel
theorem dX11_plans_283 : decode cX11_plans 283 = .ok (.iconst 1, 1) := by decide +kernel
theorem dX11_plans_284 : decode cX11_plans 284 = .ok (.iload 8, 2) := by decide +kernel
theorem dX11_plans_286 : decode cX11_plans 286 = .ok (.iastore, 1) := by decide +kernel
theorem dX11_plans_287 : decode cX11_plans 287 = .ok (.aload_n 0, 1) := by decide +kernel
theorem dX11_plans_288 : decode cX11_plans 288 = .ok (.getfield 73, 3) := by decide +kernel
theorem dX11_plans_291 : decode cX11_plans 291 = .ok (.iconst 2, 1) := by decide +kernel
theorem dX11_plans_292 : decode cX11_plans 292 = .ok (.iload 9, 2) := by decide +kernel
theorem dX11_plans_294 : decode cX11_plans 294 = .ok (.iastore, 1) := by decide +kernel
theorem dX11_plans_295 : decode cX11_plans 295 = .ok (.iconst 0, 1) := by decide +kernel
theorem dX11_plans_296 : decode cX11_plans 296 = .ok (.istore 11, 2) := by decide +kernel
theorem dX11_plans_298 : decode cX11_plans 298 = .ok (.iload 11, 2) := by decide +kernel
theorem dX11_plans_300 : decode cX11_plans 300 = .ok (.iload 4, 2) := by decide +kernel
theorem dX11_plans_302 : decode cX11_plans 302 = .ok (.if_icmp .ge 25, 3) := by decide +kernel
theorem dX11_plans_305 : decode cX11_plans 305 = .ok (.aload_n 0, 1) := by decide +kernel
theorem dX11_plans_306 : decode cX11_plans 306 = .ok (.getfield 70, 3) := by decide +kernel
theorem dX11_plans_309 : decode cX11_plans 309 = .ok (.iload 11, 2) := by decide +kernel
theorem dX11_plans_311 : decode cX11_plans 311 = .ok (.aload_n 0, 1) := by decide +kernel
theorem dX11_plans_312 : decode cX11_plans 312 = .ok (.getfield 67, 3) := by decide +kernel
theorem dX11_plans_315 : decode cX11_plans 315 = .ok (.iload_n 2, 1) := by decide +kernel
theorem dX11_plans_316 : decode cX11_plans 316 = .ok (.iload 11, 2) := by decide +kernel
theorem dX11_plans_318 : decode cX11_plans 318 = .ok (.iadd, 1) := by decide +kernel
theorem dX11_plans_319 : decode cX11_plans 319 = .ok (.iaload, 1) := by decide +kernel
theorem dX11_plans_320 : decode cX11_plans 320 = .ok (.iastore, 1) := by decide +kernel
theorem dX11_plans_321 : decode cX11_plans 321 = .ok (.iinc 11 1, 3) := by decide +kernel
theorem dX11_plans_324 : decode cX11_plans 324 = .ok (.goto (-26), 3) := by decide +kernel
theorem dX11_plans_327 : decode cX11_plans 327 = .ok (.iinc 6 1, 3) := by decide +kernel
theorem dX11_plans_330 : decode cX11_plans 330 = .ok (.goto (-248), 3) := by decide +kernel
theorem dX11_plans_333 : decode cX11_plans 333 = .ok (.iconst 0, 1) := by decide +kernel
theorem dX11_plans_334 : decode cX11_plans 334 = .ok (.istore 6, 2) := by decide +kernel
theorem dX11_plans_336 : decode cX11_plans 336 = .ok (.iload 6, 2) := by decide +kernel
theorem dX11_plans_338 : decode cX11_plans 338 = .ok (.iload 4, 2) := by decide +kernel
theorem dX11_plans_340 : decode cX11_plans 340 = .ok (.if_icmp .ge 25, 3) := by decide +kernel
theorem dX11_plans_343 : decode cX11_plans 343 = .ok (.aload_n 0, 1) := by decide +kernel
theorem dX11_plans_344 : decode cX11_plans 344 = .ok (.getfield 67, 3) := by decide +kernel
theorem dX11_plans_347 : decode cX11_plans 347 = .ok (.iload_n 2, 1) := by decide +kernel
theorem dX11_plans_348 : decode cX11_plans 348 = .ok (.iload 6, 2) := by decide +kernel
theorem dX11_plans_350 : decode cX11_plans 350 = .ok (.iadd, 1) := by decide +kernel
theorem dX11_plans_351 : decode cX11_plans 351 = .ok (.aload_n 0, 1) := by decide +kernel
theorem dX11_plans_352 : decode cX11_plans 352 = .ok (.getfield 70, 3) := by decide +kernel
theorem dX11_plans_355 : decode cX11_plans 355 = .ok (.iload 6, 2) := by decide +kernel
theorem dX11_plans_357 : decode cX11_plans 357 = .ok (.iaload, 1) := by decide +kernel
theorem dX11_plans_358 : decode cX11_plans 358 = .ok (.iastore, 1) := by decide +kernel
theorem dX11_plans_359 : decode cX11_plans 359 = .ok (.iinc 6 1, 3) := by decide +kernel
theorem dX11_plans_362 : decode cX11_plans 362 = .ok (.goto (-26), 3) := by decide +kernel
theorem dX11_plans_365 : decode cX11_plans 365 = .ok (.return_, 1) := by decide +kernel
theorem dX11_plan_0 : decode cX11_plan 0 = .ok (.iload_n 1, 1) := by decide +kernel
theorem dX11_plan_1 : decode cX11_plan 1 = .ok (.i2l, 1) := by decide +kernel
theorem dX11_plan_2 : decode cX11_plan 2 = .ok (.lconst 0, 1) := by decide +kernel
theorem dX11_plan_3 : decode cX11_plan 3 = .ok (.lconst 1, 1) := by decide +kernel
theorem dX11_plan_4 : decode cX11_plan 4 = .ok (.invokestatic 93, 3) := by decide +kernel
theorem dX11_plan_7 : decode cX11_plan 7 = .ok (.ifCond .eq 43, 3) := by decide +kernel
theorem dX11_plan_10 : decode cX11_plan 10 = .ok (.aload_n 0, 1) := by decide +kernel
theorem dX11_plan_11 : decode cX11_plan 11 = .ok (.iload_n 2, 1) := by decide +kernel
theorem dX11_plan_12 : decode cX11_plan 12 = .ok (.invokevirtual 149, 3) := by decide +kernel
theorem dX11_plan_15 : decode cX11_plan 15 = .ok (.ifCond .eq 35, 3) := by decide +kernel
theorem dX11_plan_18 : decode cX11_plan 18 = .ok (.iload_n 3, 1) := by decide +kernel
theorem dX11_plan_19 : decode cX11_plan 19 = .ok (.i2l, 1) := by decide +kernel
theorem dX11_plan_20 : decode cX11_plan 20 = .ok (.lconst 0, 1) := by decide +kernel
theorem dX11_plan_21 : decode cX11_plan 21 = .ok (.ldc2_w 138, 3) := by decide +kernel
theorem dX11_plan_24 : decode cX11_plan 24 = .ok (.invokestatic 93, 3) := by decide +kernel
theorem dX11_plan_27 : decode cX11_plan 27 = .ok (.ifCond .eq 23, 3) := by decide +kernel
theorem dX11_plan_30 : decode cX11_plan 30 = .ok (.iload 4, 2) := by decide +kernel
theorem dX11_plan_32 : decode cX11_plan 32 = .ok (.i2l, 1) := by decide +kernel
theorem dX11_plan_33 : decode cX11_plan 33 = .ok (.ldc2_w 207, 3) := by decide +kernel
theorem dX11_plan_36 : decode cX11_plan 36 = .ok (.aload_n 0, 1) := by decide +kernel
theorem dX11_plan_37 : decode cX11_plan 37 = .ok (.iload_n 2, 1) := by decide +kernel
theorem dX11_plan_38 : decode cX11_plan 38 = .ok (.invokevirtual 189, 3) := by decide +kernel
theorem dX11_plan_41 : decode cX11_plan 41 = .ok (.iconst 1, 1) := by decide +kernel
theorem dX11_plan_42 : decode cX11_plan 42 = .ok (.isub, 1) := by decide +kernel
theorem dX11_plan_43 : decode cX11_plan 43 = .ok (.i2l, 1) := by decide +kernel
theorem dX11_plan_44 : decode cX11_plan 44 = .ok (.invokestatic 93, 3) := by decide +kernel
theorem dX11_plan_47 : decode cX11_plan 47 = .ok (.ifCond .ne 5, 3) := by decide +kernel
theorem dX11_plan_50 : decode cX11_plan 50 = .ok (.iconst (-1), 1) := by decide +kernel
theorem dX11_plan_51 : decode cX11_plan 51 = .ok (.ireturn, 1) := by decide +kernel
theorem dX11_plan_52 : decode cX11_plan 52 = .ok (.aload_n 0, 1) := by decide +kernel
theorem dX11_plan_53 : decode cX11_plan 53 = .ok (.iload_n 1, 1) := by decide +kernel
theorem dX11_plan_54 : decode cX11_plan 54 = .ok (.iload_n 2, 1) := by decide +kernel
theorem dX11_plan_55 : decode cX11_plan 55 = .ok (.iload_n 3, 1) := by decide +kernel
theorem dX11_plan_56 : decode cX11_plan 56 = .ok (.invokevirtual 209, 3) := by decide +kernel
theorem dX11_plan_59 : decode cX11_plan 59 = .ok (.iload 4, 2) := by decide +kernel
theorem dX11_plan_61 : decode cX11_plan 61 = .ok (.tableswitch 71 (-4) (-1) #[64, 57, 48, 31], 31) := by decide +kernel
theorem dX11_plan_92 : decode cX11_plan 92 = .ok (.aload_n 0, 1) := by decide +kernel
theorem dX11_plan_93 : decode cX11_plan 93 = .ok (.aload_n 0, 1) := by decide +kernel
theorem dX11_plan_94 : decode cX11_plan 94 = .ok (.getfield 67, 3) := by decide +kernel
theorem dX11_plan_97 : decode cX11_plan 97 = .ok (.iload_n 2, 1) := by decide +kernel
theorem dX11_plan_98 : decode cX11_plan 98 = .ok (.iload_n 2, 1) := by decide +kernel
theorem dX11_plan_99 : decode cX11_plan 99 = .ok (.aload_n 0, 1) := by decide +kernel
theorem dX11_plan_100 : decode cX11_plan 100 = .ok (.iload_n 2, 1) := by decide +kernel
theorem dX11_plan_101 : decode cX11_plan 101 = .ok (.invokevirtual 189, 3) := by decide +kernel
theorem dX11_plan_104 : decode cX11_plan 104 = .ok (.iadd, 1) := by decide +kernel
theorem dX11_plan_105 : decode cX11_plan 105 = .ok (.invokevirtual 196, 3) := by decide +kernel
theorem dX11_plan_108 : decode cX11_plan 108 = .ok (.ireturn, 1) := by decide +kernel
theorem dX11_plan_109 : decode cX11_plan 109 = .ok (.aload_n 0, 1) := by decide +kernel
theorem dX11_plan_110 : decode cX11_plan 110 = .ok (.aload_n 0, 1) := by decide +kernel
theorem dX11_plan_111 : decode cX11_plan 111 = .ok (.getfield 67, 3) := by decide +kernel
theorem dX11_plan_114 : decode cX11_plan 114 = .ok (.invokevirtual 200, 3) := by decide +kernel
theorem dX11_plan_117 : decode cX11_plan 117 = .ok (.ireturn, 1) := by decide +kernel
theorem dX11_plan_118 : decode cX11_plan 118 = .ok (.aload_n 0, 1) := by decide +kernel
theorem dX11_plan_119 : decode cX11_plan 119 = .ok (.getfield 73, 3) := by decide +kernel
theorem dX11_plan_122 : decode cX11_plan 122 = .ok (.iconst 1, 1) := by decide +kernel
theorem dX11_plan_123 : decode cX11_plan 123 = .ok (.iaload, 1) := by decide +kernel
theorem dX11_plan_124 : decode cX11_plan 124 = .ok (.ireturn, 1) := by decide +kernel
theorem dX11_plan_125 : decode cX11_plan 125 = .ok (.aload_n 0, 1) := by decide +kernel
theorem dX11_plan_126 : decode cX11_plan 126 = .ok (.getfield 73, 3) := by decide +kernel
theorem dX11_plan_129 : decode cX11_plan 129 = .ok (.iconst 2, 1) := by decide +kernel
theorem dX11_plan_130 : decode cX11_plan 130 = .ok (.iaload, 1) := by decide +kernel
theorem dX11_plan_131 : decode cX11_plan 131 = .ok (.ireturn, 1) := by decide +kernel
theorem dX11_plan_132 : decode cX11_plan 132 = .ok (.aload_n 0, 1) := by decide +kernel
theorem dX11_plan_133 : decode cX11_plan 133 = .ok (.getfield 70, 3) := by decide +kernel
theorem dX11_plan_136 : decode cX11_plan 136 = .ok (.iload 4, 2) := by decide +kernel
theorem dX11_plan_138 : decode cX11_plan 138 = .ok (.iaload, 1) := by decide +kernel
theorem dX11_plan_139 : decode cX11_plan 139 = .ok (.ireturn, 1) := by decide +kernel
theorem dX11_adopt_0 : decode cX11_adopt 0 = .ok (.iload_n 1, 1) := by decide +kernel
theorem dX11_adopt_1 : decode cX11_adopt 1 = .ok (.i2l, 1) := by decide +kernel
theorem dX11_adopt_2 : decode cX11_adopt 2 = .ok (.lconst 0, 1) := by decide +kernel
theorem dX11_adopt_3 : decode cX11_adopt 3 = .ok (.lconst 1, 1) := by decide +kernel
theorem dX11_adopt_4 : decode cX11_adopt 4 = .ok (.invokestatic 93, 3) := by decide +kernel
theorem dX11_adopt_7 : decode cX11_adopt 7 = .ok (.ifCond .eq 23, 3) := by decide +kernel
theorem dX11_adopt_10 : decode cX11_adopt 10 = .ok (.aload_n 0, 1) := by decide +kernel
theorem dX11_adopt_11 : decode cX11_adopt 11 = .ok (.iload_n 2, 1) := by decide +kernel
theorem dX11_adopt_12 : decode cX11_adopt 12 = .ok (.invokevirtual 149, 3) := by decide +kernel
theorem dX11_adopt_15 : decode cX11_adopt 15 = .ok (.ifCond .eq 15, 3) := by decide +kernel
theorem dX11_adopt_18 : decode cX11_adopt 18 = .ok (.iload_n 3, 1) := by decide +kernel
theorem dX11_adopt_19 : decode cX11_adopt 19 = .ok (.i2l, 1) := by decide +kernel
theorem dX11_adopt_20 : decode cX11_adopt 20 = .ok (.lconst 0, 1) := by decide +kernel
theorem dX11_adopt_21 : decode cX11_adopt 21 = .ok (.ldc2_w 138, 3) := by decide +kernel
theorem dX11_adopt_24 : decode cX11_adopt 24 = .ok (.invokestatic 93, 3) := by decide +kernel
theorem dX11_adopt_27 : decode cX11_adopt 27 = .ok (.ifCond .ne 5, 3) := by decide +kernel
theorem dX11_adopt_30 : decode cX11_adopt 30 = .ok (.iconst (-1), 1) := by decide +kernel
theorem dX11_adopt_31 : decode cX11_adopt 31 = .ok (.ireturn, 1) := by decide +kernel
theorem dX11_adopt_32 : decode cX11_adopt 32 = .ok (.aload_n 0, 1) := by decide +kernel
theorem dX11_adopt_33 : decode cX11_adopt 33 = .ok (.iload_n 1, 1) := by decide +kernel
theorem dX11_adopt_34 : decode cX11_adopt 34 = .ok (.iload_n 2, 1) := by decide +kernel
theorem dX11_adopt_35 : decode cX11_adopt 35 = .ok (.iload_n 3, 1) := by decide +kernel
theorem dX11_adopt_36 : decode cX11_adopt 36 = .ok (.invokevirtual 209, 3) := by decide +kernel
theorem dX11_adopt_39 : decode cX11_adopt 39 = .ok (.aload_n 0, 1) := by decide +kernel
theorem dX11_adopt_40 : decode cX11_adopt 40 = .ok (.invokevirtual 168, 3) := by decide +kernel
theorem dX11_adopt_43 : decode cX11_adopt 43 = .ok (.iconst 0, 1) := by decide +kernel
theorem dX11_adopt_44 : decode cX11_adopt 44 = .ok (.istore 4, 2) := by decide +kernel
theorem dX11_adopt_46 : decode cX11_adopt 46 = .ok (.iload 4, 2) := by decide +kernel
theorem dX11_adopt_48 : decode cX11_adopt 48 = .ok (.aload_n 0, 1) := by decide +kernel
theorem dX11_adopt_49 : decode cX11_adopt 49 = .ok (.iload_n 2, 1) := by decide +kernel
theorem dX11_adopt_50 : decode cX11_adopt 50 = .ok (.invokevirtual 189, 3) := by decide +kernel
theorem dX11_adopt_53 : decode cX11_adopt 53 = .ok (.if_icmp .ge 25, 3) := by decide +kernel
theorem dX11_adopt_56 : decode cX11_adopt 56 = .ok (.aload_n 0, 1) := by decide +kernel
theorem dX11_adopt_57 : decode cX11_adopt 57 = .ok (.getfield 52, 3) := by decide +kernel
theorem dX11_adopt_60 : decode cX11_adopt 60 = .ok (.iload_n 2, 1) := by decide +kernel
theorem dX11_adopt_61 : decode cX11_adopt 61 = .ok (.iload 4, 2) := by decide +kernel
theorem dX11_adopt_63 : decode cX11_adopt 63 = .ok (.iadd, 1) := by decide +kernel
theorem dX11_adopt_64 : decode cX11_adopt 64 = .ok (.aload_n 0, 1) := by decide +kernel
theorem dX11_adopt_65 : decode cX11_adopt 65 = .ok (.getfield 70, 3) := by decide +kernel
theorem dX11_adopt_68 : decode cX11_adopt 68 = .ok (.iload 4, 2) := by decide +kernel
theorem dX11_adopt_70 : decode cX11_adopt 70 = .ok (.iaload, 1) := by decide +kernel
theorem dX11_adopt_71 : decode cX11_adopt 71 = .ok (.iastore, 1) := by decide +kernel
theorem dX11_adopt_72 : decode cX11_adopt 72 = .ok (.iinc 4 1, 3) := by decide +kernel
theorem dX11_adopt_75 : decode cX11_adopt 75 = .ok (.goto (-29), 3) := by decide +kernel
theorem dX11_adopt_78 : decode cX11_adopt 78 = .ok (.aload_n 0, 1) := by decide +kernel
theorem dX11_adopt_79 : decode cX11_adopt 79 = .ok (.getfield 73, 3) := by decide +kernel
theorem dX11_adopt_82 : decode cX11_adopt 82 = .ok (.iconst 2, 1) := by decide +kernel
theorem dX11_adopt_83 : decode cX11_adopt 83 = .ok (.iaload, 1) := by decide +kernel
theorem dX11_adopt_84 : decode cX11_adopt 84 = .ok (.ireturn, 1) := by decide +kernel
theorem dX11_bound_0 : decode cX11_bound 0 = .ok (.aload_n 0, 1) := by decide +kernel
theorem dX11_bound_1 : decode cX11_bound 1 = .ok (.iload_n 1, 1) := by decide +kernel
theorem dX11_bound_2 : decode cX11_bound 2 = .ok (.invokevirtual 149, 3) := by decide +kernel
theorem dX11_bound_5 : decode cX11_bound 5 = .ok (.ifCond .ne 5, 3) := by decide +kernel
theorem dX11_bound_8 : decode cX11_bound 8 = .ok (.iconst (-1), 1) := by decide +kernel
theorem dX11_bound_9 : decode cX11_bound 9 = .ok (.ireturn, 1) := by decide +kernel
theorem dX11_bound_10 : decode cX11_bound 10 = .ok (.iconst 0, 1) := by decide +kernel
theorem dX11_bound_11 : decode cX11_bound 11 = .ok (.istore_n 2, 1) := by decide +kernel
theorem dX11_bound_12 : decode cX11_bound 12 = .ok (.iload_n 1, 1) := by decide +kernel
theorem dX11_bound_13 : decode cX11_bound 13 = .ok (.istore_n 3, 1) := by decide +kernel
theorem dX11_bound_14 : decode cX11_bound 14 = .ok (.iload_n 3, 1) := by decide +kernel
theorem dX11_bound_15 : decode cX11_bound 15 = .ok (.iload_n 1, 1) := by decide +kernel
theorem dX11_bound_16 : decode cX11_bound 16 = .ok (.aload_n 0, 1) := by decide +kernel
theorem dX11_bound_17 : decode cX11_bound 17 = .ok (.iload_n 1, 1) := by decide +kernel
theorem dX11_bound_18 : decode cX11_bound 18 = .ok (.invokevirtual 189, 3) := by decide +kernel
theorem dX11_bound_21 : decode cX11_bound 21 = .ok (.iadd, 1) := by decide +kernel
theorem dX11_bound_22 : decode cX11_bound 22 = .ok (.if_icmp .ge 72, 3) := by decide +kernel
theorem dX11_bound_25 : decode cX11_bound 25 = .ok (.iconst 0, 1) := by decide +kernel
theorem dX11_bound_26 : decode cX11_bound 26 = .ok (.istore 4, 2) := by decide +kernel
theorem dX11_bound_28 : decode cX11_bound 28 = .ok (.iconst 0, 1) := by decide +kernel
theorem dX11_bound_29 : decode cX11_bound 29 = .ok (.istore 5, 2) := by decide +kernel
theorem dX11_bound_31 : decode cX11_bound 31 = .ok (.iload 5, 2) := by decide +kernel
theorem dX11_bound_33 : decode cX11_bound 33 = .ok (.aload_n 0, 1) := by decide +kernel
theorem dX11_bound_34 : decode cX11_bound 34 = .ok (.getfield 22, 3) := by decide +kernel
theorem dX11_bound_37 : decode cX11_bound 37 = .ok (.iconst 2, 1) := by decide +kernel
theorem dX11_bound_38 : decode cX11_bound 38 = .ok (.iaload, 1) := by decide +kernel
theorem dX11_bound_39 : decode cX11_bound 39 = .ok (.if_icmp .ge 31, 3) := by decide +kernel
theorem dX11_bound_42 : decode cX11_bound 42 = .ok (.iload 4, 2) := by decide +kernel
theorem dX11_bound_44 : decode cX11_bound 44 = .ok (.ifCond .ne 13, 3) := by decide +kernel
theorem dX11_bound_47 : decode cX11_bound 47 = .ok (.aload_n 0, 1) := by decide +kernel
theorem dX11_bound_48 : decode cX11_bound 48 = .ok (.iload_n 3, 1) := by decide +kernel
theorem dX11_bound_49 : decode cX11_bound 49 = .ok (.iload 5, 2) := by decide +kernel
theorem dX11_bound_51 : decode cX11_bound 51 = .ok (.invokevirtual 152, 3) := by decide +kernel
theorem dX11_bound_54 : decode cX11_bound 54 = .ok (.ifCond .eq 7, 3) := by decide +kernel
theorem dX11_bound_57 : decode cX11_bound 57 = .ok (.iconst 1, 1) := by decide +kernel
theorem dX11_bound_58 : decode cX11_bound 58 = .ok (.goto 4, 3) := by decide +kernel
theorem dX11_bound_61 : decode cX11_bound 61 = .ok (.iconst 0, 1) := by decide +kernel
theorem dX11_bound_62 : decode cX11_bound 62 = .ok (.istore 4, 2) := by decide +kernel
theorem dX11_bound_64 : decode cX11_bound 64 = .ok (.iinc 5 1, 3) := by decide +kernel
theorem dX11_bound_67 : decode cX11_bound 67 = .ok (.goto (-36), 3) := by decide +kernel
theorem dX11_bound_70 : decode cX11_bound 70 = .ok (.iload_n 2, 1) := by decide +kernel
theorem dX11_bound_71 : decode cX11_bound 71 = .ok (.iload 4, 2) := by decide +kernel
theorem dX11_bound_73 : decode cX11_bound 73 = .ok (.ifCond .eq 12, 3) := by decide +kernel
theorem dX11_bound_76 : decode cX11_bound 76 = .ok (.aload_n 0, 1) := by decide +kernel
theorem dX11_bound_77 : decode cX11_bound 77 = .ok (.getfield 49, 3) := by decide +kernel
theorem dX11_bound_80 : decode cX11_bound 80 = .ok (.iload_n 3, 1) := by decide +kernel
theorem dX11_bound_81 : decode cX11_bound 81 = .ok (.iaload, 1) := by decide +kernel
theorem dX11_bound_82 : decode cX11_bound 82 = .ok (.goto 4, 3) := by decide +kernel
theorem dX11_bound_85 : decode cX11_bound 85 = .ok (.iconst 0, 1) := by decide +kernel
theorem dX11_bound_86 : decode cX11_bound 86 = .ok (.iadd, 1) := by decide +kernel
theorem dX11_bound_87 : decode cX11_bound 87 = .ok (.istore_n 2, 1) := by decide +kernel
theorem dX11_bound_88 : decode cX11_bound 88 = .ok (.iinc 3 1, 3) := by decide +kernel
theorem dX11_bound_91 : decode cX11_bound 91 = .ok (.goto (-77), 3) := by decide +kernel
theorem dX11_bound_94 : decode cX11_bound 94 = .ok (.iload_n 2, 1) := by decide +kernel
