theorem dX0_init_0 : decode cX0_init 0 = .ok (.aload_n 0, 1) := by decide +kernel
theorem dX0_init_1 : decode cX0_init 1 = .ok (.invokespecial 3, 3) := by decide +kernel
theorem dX0_init_4 : decode cX0_init 4 = .ok (.aload_n 0, 1) := by decide +kernel
theorem dX0_init_5 : decode cX0_init 5 = .ok (.bipush 25, 2) := by decide +kernel
theorem dX0_init_7 : decode cX0_init 7 = .ok (.newarray .int, 2) := by decide +kernel
theorem dX0_init_9 : decode cX0_init 9 = .ok (.putfield 9, 3) := by decide +kernel
theorem dX0_init_12 : decode cX0_init 12 = .ok (.aload_n 0, 1) := by decide +kernel
theorem dX0_init_13 : decode cX0_init 13 = .ok (.bipush 25, 2) := by decide +kernel
theorem dX0_init_15 : decode cX0_init 15 = .ok (.newarray .int, 2) := by decide +kernel
theorem dX0_init_17 : decode cX0_init 17 = .ok (.putfield 15, 3) := by decide +kernel
theorem dX0_init_20 : decode cX0_init 20 = .ok (.aload_n 0, 1) := by decide +kernel
theorem dX0_init_21 : decode cX0_init 21 = .ok (.bipush 25, 2) := by decide +kernel
theorem dX0_init_23 : decode cX0_init 23 = .ok (.newarray .int, 2) := by decide +kernel
theorem dX0_init_25 : decode cX0_init 25 = .ok (.putfield 18, 3) := by decide +kernel
theorem dX0_init_28 : decode cX0_init 28 = .ok (.aload_n 0, 1) := by decide +kernel
theorem dX0_init_29 : decode cX0_init 29 = .ok (.bipush 25, 2) := by decide +kernel
theorem dX0_init_31 : decode cX0_init 31 = .ok (.newarray .int, 2) := by decide +kernel
theorem dX0_init_33 : decode cX0_init 33 = .ok (.putfield 21, 3) := by decide +kernel
theorem dX0_init_36 : decode cX0_init 36 = .ok (.return_, 1) := by decide +kernel
theorem dX0_find_0 : decode cX0_find 0 = .ok (.aload_n 1, 1) := by decide +kernel
theorem dX0_find_1 : decode cX0_find 1 = .ok (.getfield 24, 3) := by decide +kernel
theorem dX0_find_4 : decode cX0_find 4 = .ok (.getfield 30, 3) := by decide +kernel
theorem dX0_find_7 : decode cX0_find 7 = .ok (.istore_n 3, 1) := by decide +kernel
theorem dX0_find_8 : decode cX0_find 8 = .ok (.aload_n 0, 1) := by decide +kernel
theorem dX0_find_9 : decode cX0_find 9 = .ok (.getfield 9, 3) := by decide +kernel
theorem dX0_find_12 : decode cX0_find 12 = .ok (.iload_n 3, 1) := by decide +kernel
theorem dX0_find_13 : decode cX0_find 13 = .ok (.iconst 0, 1) := by decide +kernel
theorem dX0_find_14 : decode cX0_find 14 = .ok (.iastore, 1) := by decide +kernel
theorem dX0_find_15 : decode cX0_find 15 = .ok (.aload_n 0, 1) := by decide +kernel
theorem dX0_find_16 : decode cX0_find 16 = .ok (.getfield 15, 3) := by decide +kernel
theorem dX0_find_19 : decode cX0_find 19 = .ok (.iload_n 3, 1) := by decide +kernel
theorem dX0_find_20 : decode cX0_find 20 = .ok (.iconst 0, 1) := by decide +kernel
theorem dX0_find_21 : decode cX0_find 21 = .ok (.iastore, 1) := by decide +kernel
theorem dX0_find_22 : decode cX0_find 22 = .ok (.aload_n 0, 1) := by decide +kernel
theorem dX0_find_23 : decode cX0_find 23 = .ok (.getfield 18, 3) := by decide +kernel
theorem dX0_find_26 : decode cX0_find 26 = .ok (.iload_n 3, 1) := by decide +kernel
theorem dX0_find_27 : decode cX0_find 27 = .ok (.iload_n 3, 1) := by decide +kernel
theorem dX0_find_28 : decode cX0_find 28 = .ok (.iastore, 1) := by decide +kernel
theorem dX0_find_29 : decode cX0_find 29 = .ok (.aload_n 0, 1) := by decide +kernel
theorem dX0_find_30 : decode cX0_find 30 = .ok (.getfield 21, 3) := by decide +kernel
theorem dX0_find_33 : decode cX0_find 33 = .ok (.iload_n 3, 1) := by decide +kernel
theorem dX0_find_34 : decode cX0_find 34 = .ok (.iload_n 3, 1) := by decide +kernel
theorem dX0_find_35 : decode cX0_find 35 = .ok (.iastore, 1) := by decide +kernel
theorem dX0_find_36 : decode cX0_find 36 = .ok (.iload_n 3, 1) := by decide +kernel
theorem dX0_find_37 : decode cX0_find 37 = .ok (.iconst 1, 1) := by decide +kernel
theorem dX0_find_38 : decode cX0_find 38 = .ok (.isub, 1) := by decide +kernel
theorem dX0_find_39 : decode cX0_find 39 = .ok (.istore 4, 2) := by decide +kernel
theorem dX0_find_41 : decode cX0_find 41 = .ok (.iload 4, 2) := by decide +kernel
theorem dX0_find_43 : decode cX0_find 43 = .ok (.ifCond .lt 91, 3) := by decide +kernel
theorem dX0_find_46 : decode cX0_find 46 = .ok (.aload_n 0, 1) := by decide +kernel
theorem dX0_find_47 : decode cX0_find 47 = .ok (.getfield 9, 3) := by decide +kernel
theorem dX0_find_50 : decode cX0_find 50 = .ok (.iload 4, 2) := by decide +kernel
theorem dX0_find_52 : decode cX0_find 52 = .ok (.aload_n 0, 1) := by decide +kernel
theorem dX0_find_53 : decode cX0_find 53 = .ok (.getfield 9, 3) := by decide +kernel
theorem dX0_find_56 : decode cX0_find 56 = .ok (.iload 4, 2) := by decide +kernel
theorem dX0_find_58 : decode cX0_find 58 = .ok (.iconst 1, 1) := by decide +kernel
theorem dX0_find_59 : decode cX0_find 59 = .ok (.iadd, 1) := by decide +kernel
theorem dX0_find_60 : decode cX0_find 60 = .ok (.iaload, 1) := by decide +kernel
theorem dX0_find_61 : decode cX0_find 61 = .ok (.iastore, 1) := by decide +kernel
theorem dX0_find_62 : decode cX0_find 62 = .ok (.aload_n 0, 1) := by decide +kernel
theorem dX0_find_63 : decode cX0_find 63 = .ok (.getfield 15, 3) := by decide +kernel
theorem dX0_find_66 : decode cX0_find 66 = .ok (.iload 4, 2) := by decide +kernel
theorem dX0_find_68 : decode cX0_find 68 = .ok (.aload_n 0, 1) := by decide +kernel
theorem dX0_find_69 : decode cX0_find 69 = .ok (.getfield 15, 3) := by decide +kernel
theorem dX0_find_72 : decode cX0_find 72 = .ok (.iload 4, 2) := by decide +kernel
theorem dX0_find_74 : decode cX0_find 74 = .ok (.iconst 1, 1) := by decide +kernel
theorem dX0_find_75 : decode cX0_find 75 = .ok (.iadd, 1) := by decide +kernel
theorem dX0_find_76 : decode cX0_find 76 = .ok (.iaload, 1) := by decide +kernel
theorem dX0_find_77 : decode cX0_find 77 = .ok (.iastore, 1) := by decide +kernel
theorem dX0_find_78 : decode cX0_find 78 = .ok (.aload_n 0, 1) := by decide +kernel
theorem dX0_find_79 : decode cX0_find 79 = .ok (.getfield 18, 3) := by decide +kernel
theorem dX0_find_82 : decode cX0_find 82 = .ok (.iload 4, 2) := by decide +kernel
theorem dX0_find_84 : decode cX0_find 84 = .ok (.aload_n 0, 1) := by decide +kernel
theorem dX0_find_85 : decode cX0_find 85 = .ok (.getfield 18, 3) := by decide +kernel
theorem dX0_find_88 : decode cX0_find 88 = .ok (.iload 4, 2) := by decide +kernel
theorem dX0_find_90 : decode cX0_find 90 = .ok (.iconst 1, 1) := by decide +kernel
theorem dX0_find_91 : decode cX0_find 91 = .ok (.iadd, 1) := by decide +kernel
theorem dX0_find_92 : decode cX0_find 92 = .ok (.iaload, 1) := by decide +kernel
theorem dX0_find_93 : decode cX0_find 93 = .ok (.iastore, 1) := by decide +kernel
theorem dX0_find_94 : decode cX0_find 94 = .ok (.aload_n 0, 1) := by decide +kernel
theorem dX0_find_95 : decode cX0_find 95 = .ok (.getfield 21, 3) := by decide +kernel
theorem dX0_find_98 : decode cX0_find 98 = .ok (.iload 4, 2) := by decide +kernel
theorem dX0_find_100 : decode cX0_find 100 = .ok (.aload_n 0, 1) := by decide +kernel
theorem dX0_find_101 : decode cX0_find 101 = .ok (.getfield 21, 3) := by decide +kernel
theorem dX0_find_104 : decode cX0_find 104 = .ok (.iload 4, 2) := by decide +kernel
theorem dX0_find_106 : decode cX0_find 106 = .ok (.iconst 1, 1) := by decide +kernel
theorem dX0_find_107 : decode cX0_find 107 = .ok (.iadd, 1) := by decide +kernel
theorem dX0_find_108 : decode cX0_find 108 = .ok (.iaload, 1) := by decide +kernel
theorem dX0_find_109 : decode cX0_find 109 = .ok (.iastore, 1) := by decide +kernel
theorem dX0_find_110 : decode cX0_find 110 = .ok (.aload_n 1, 1) := by decide +kernel
theorem dX0_find_111 : decode cX0_find 111 = .ok (.iload 4, 2) := by decide +kernel
theorem dX0_find_113 : decode cX0_find 113 = .ok (.iload_n 2, 1) := by decide +kernel
theorem dX0_find_114 : decode cX0_find 114 = .ok (.invokevirtual 36, 3) := by decide +kernel
theorem dX0_find_117 : decode cX0_find 117 = .ok (.ifCond .eq 11, 3) := by decide +kernel
theorem dX0_find_120 : decode cX0_find 120 = .ok (.aload_n 0, 1) := by decide +kernel
theorem dX0_find_121 : decode cX0_find 121 = .ok (.aload_n 1, 1) := by decide +kernel
theorem dX0_find_122 : decode cX0_find 122 = .ok (.iload_n 2, 1) := by decide +kernel
theorem dX0_find_123 : decode cX0_find 123 = .ok (.iload 4, 2) := by decide +kernel
theorem dX0_find_125 : decode cX0_find 125 = .ok (.invokevirtual 40, 3) := by decide +kernel
theorem dX0_find_128 : decode cX0_find 128 = .ok (.iinc 4 (-1), 3) := by decide +kernel
theorem dX0_find_131 : decode cX0_find 131 = .ok (.goto (-90), 3) := by decide +kernel
theorem dX0_find_134 : decode cX0_find 134 = .ok (.return_, 1) := by decide +kernel
theorem dX0_tryHead_0 : decode cX0_tryHead 0 = .ok (.iload_n 3, 1) := by decide +kernel
theorem dX0_tryHead_1 : decode cX0_tryHead 1 = .ok (.iconst 1, 1) := by decide +kernel
theorem dX0_tryHead_2 : decode cX0_tryHead 2 = .ok (.iadd, 1) := by decide +kernel
theorem dX0_tryHead_3 : decode cX0_tryHead 3 = .ok (.istore 4, 2) := by decide +kernel
theorem dX0_tryHead_5 : decode cX0_tryHead 5 = .ok (.iload 4, 2) := by decide +kernel
theorem dX0_tryHead_7 : decode cX0_tryHead 7 = .ok (.aload_n 1, 1) := by decide +kernel
theorem dX0_tryHead_8 : decode cX0_tryHead 8 = .ok (.getfield 24, 3) := by decide +kernel
theorem dX0_tryHead_11 : decode cX0_tryHead 11 = .ok (.getfield 30, 3) := by decide +kernel
theorem dX0_tryHead_14 : decode cX0_tryHead 14 = .ok (.if_icmp .ge 20, 3) := by decide +kernel
theorem dX0_tryHead_17 : decode cX0_tryHead 17 = .ok (.aload_n 1, 1) := by decide +kernel
theorem dX0_tryHead_18 : decode cX0_tryHead 18 = .ok (.iload_n 3, 1) := by decide +kernel
theorem dX0_tryHead_19 : decode cX0_tryHead 19 = .ok (.iload 4, 2) := by decide +kernel
theorem dX0_tryHead_21 : decode cX0_tryHead 21 = .ok (.iload_n 2, 1) := by decide +kernel
theorem dX0_tryHead_22 : decode cX0_tryHead 22 = .ok (.invokevirtual 44, 3) := by decide +kernel
theorem dX0_tryHead_25 : decode cX0_tryHead 25 = .ok (.ifCond .ne 9, 3) := by decide +kernel
theorem dX0_tryHead_28 : decode cX0_tryHead 28 = .ok (.iinc 4 1, 3) := by decide +kernel
theorem dX0_tryHead_31 : decode cX0_tryHead 31 = .ok (.goto (-26), 3) := by decide +kernel
theorem dX0_tryHead_34 : decode cX0_tryHead 34 = .ok (.aload_n 1, 1) := by decide +kernel
theorem dX0_tryHead_35 : decode cX0_tryHead 35 = .ok (.getfield 24, 3) := by decide +kernel
theorem dX0_tryHead_38 : decode cX0_tryHead 38 = .ok (.getfield 48, 3) := by decide +kernel
theorem dX0_tryHead_41 : decode cX0_tryHead 41 = .ok (.iload_n 3, 1) := by decide +kernel
theorem dX0_tryHead_42 : decode cX0_tryHead 42 = .ok (.iaload, 1) := by decide +kernel
theorem dX0_tryHead_43 : decode cX0_tryHead 43 = .ok (.aload_n 0, 1) := by decide +kernel
theorem dX0_tryHead_44 : decode cX0_tryHead 44 = .ok (.getfield 9, 3) := by decide +kernel
theorem dX0_tryHead_47 : decode cX0_tryHead 47 = .ok (.iload 4, 2) := by decide +kernel
theorem dX0_tryHead_49 : decode cX0_tryHead 49 = .ok (.iaload, 1) := by decide +kernel
theorem dX0_tryHead_50 : decode cX0_tryHead 50 = .ok (.iadd, 1) := by decide +kernel
theorem dX0_tryHead_51 : decode cX0_tryHead 51 = .ok (.istore 5, 2) := by decide +kernel
theorem dX0_tryHead_53 : decode cX0_tryHead 53 = .ok (.iconst 1, 1) := by decide +kernel
theorem dX0_tryHead_54 : decode cX0_tryHead 54 = .ok (.aload_n 0, 1) := by decide +kernel
theorem dX0_tryHead_55 : decode cX0_tryHead 55 = .ok (.getfield 15, 3) := by decide +kernel
theorem dX0_tryHead_58 : decode cX0_tryHead 58 = .ok (.iload 4, 2) := by decide +kernel
theorem dX0_tryHead_60 : decode cX0_tryHead 60 = .ok (.iaload, 1) := by decide +kernel
theorem dX0_tryHead_61 : decode cX0_tryHead 61 = .ok (.iadd, 1) := by decide +kernel
theorem dX0_tryHead_62 : decode cX0_tryHead 62 = .ok (.istore 6, 2) := by decide +kernel
theorem dX0_tryHead_64 : decode cX0_tryHead 64 = .ok (.iload 5, 2) := by decide +kernel
theorem dX0_tryHead_66 : decode cX0_tryHead 66 = .ok (.aload_n 0, 1) := by decide +kernel
theorem dX0_tryHead_67 : decode cX0_tryHead 67 = .ok (.getfield 9, 3) := by decide +kernel
theorem dX0_tryHead_70 : decode cX0_tryHead 70 = .ok (.iload_n 3, 1) := by decide +kernel
theorem dX0_tryHead_71 : decode cX0_tryHead 71 = .ok (.iaload, 1) := by decide +kernel
theorem dX0_tryHead_72 : decode cX0_tryHead 72 = .ok (.if_icmp .gt 25, 3) := by decide +kernel
theorem dX0_tryHead_75 : decode cX0_tryHead 75 = .ok (.iload 5, 2) := by decide +kernel
theorem dX0_tryHead_77 : decode cX0_tryHead 77 = .ok (.aload_n 0, 1) := by decide +kernel
theorem dX0_tryHead_78 : decode cX0_tryHead 78 = .ok (.getfield 9, 3) := by decide +kernel
theorem dX0_tryHead_81 : decode cX0_tryHead 81 = .ok (.iload_n 3, 1) := by decide +kernel
theorem dX0_tryHead_82 : decode cX0_tryHead 82 = .ok (.iaload, 1) := by decide +kernel
theorem dX0_tryHead_83 : decode cX0_tryHead 83 = .ok (.if_icmp .ne 45, 3) := by decide +kernel
theorem dX0_tryHead_86 : decode cX0_tryHead 86 = .ok (.iload 6, 2) := by decide +kernel
theorem dX0_tryHead_88 : decode cX0_tryHead 88 = .ok (.aload_n 0, 1) := by decide +kernel
theorem dX0_tryHead_89 : decode cX0_tryHead 89 = .ok (.getfield 15, 3) := by decide +kernel
theorem dX0_tryHead_92 : decode cX0_tryHead 92 = .ok (.iload_n 3, 1) := by decide +kernel
theorem dX0_tryHead_93 : decode cX0_tryHead 93 = .ok (.iaload, 1) := by decide +kernel
theorem dX0_tryHead_94 : decode cX0_tryHead 94 = .ok (.if_icmp .gt 34, 3) := by decide +kernel
theorem dX0_tryHead_97 : decode cX0_tryHead 97 = .ok (.aload_n 0, 1) := by decide +kernel
theorem dX0_tryHead_98 : decode cX0_tryHead 98 = .ok (.getfield 9, 3) := by decide +kernel
theorem dX0_tryHead_101 : decode cX0_tryHead 101 = .ok (.iload_n 3, 1) := by decide +kernel
theorem dX0_tryHead_102 : decode cX0_tryHead 102 = .ok (.iload 5, 2) := by decide +kernel
theorem dX0_tryHead_104 : decode cX0_tryHead 104 = .ok (.iastore, 1) := by decide +kernel
theorem dX0_tryHead_105 : decode cX0_tryHead 105 = .ok (.aload_n 0, 1) := by decide +kernel
theorem dX0_tryHead_106 : decode cX0_tryHead 106 = .ok (.getfield 15, 3) := by decide +kernel
theorem dX0_tryHead_109 : decode cX0_tryHead 109 = .ok (.iload_n 3, 1) := by decide +kernel
theorem dX0_tryHead_110 : decode cX0_tryHead 110 = .ok (.iload 6, 2) := by decide +kernel
theorem dX0_tryHead_112 : decode cX0_tryHead 112 = .ok (.iastore, 1) := by decide +kernel
theorem dX0_tryHead_113 : decode cX0_tryHead 113 = .ok (.aload_n 0, 1) := by decide +kernel
theorem dX0_tryHead_114 : decode cX0_tryHead 114 = .ok (.getfield 18, 3) := by decide +kernel
theorem dX0_tryHead_117 : decode cX0_tryHead 117 = .ok (.iload_n 3, 1) := by decide +kernel
theorem dX0_tryHead_118 : decode cX0_tryHead 118 = .ok (.iload_n 3, 1) := by decide +kernel
theorem dX0_tryHead_119 : decode cX0_tryHead 119 = .ok (.iastore, 1) := by decide +kernel
theorem dX0_tryHead_120 : decode cX0_tryHead 120 = .ok (.aload_n 0, 1) := by decide +kernel
theorem dX0_tryHead_121 : decode cX0_tryHead 121 = .ok (.getfield 21, 3) := by decide +kernel
theorem dX0_tryHead_124 : decode cX0_tryHead 124 = .ok (.iload_n 3, 1) := by decide +kernel
theorem dX0_tryHead_125 : decode cX0_tryHead 125 = .ok (.iload 4, 2) := by decide +kernel
theorem dX0_tryHead_127 : decode cX0_tryHead 127 = .ok (.iastore, 1) := by decide +kernel
theorem dX0_tryHead_128 : decode cX0_tryHead 128 = .ok (.return_, 1) := by decide +kernel
theorem dX0_member_0 : decode cX0_member 0 = .ok (.iload_n 1, 1) := by decide +kernel
theorem dX0_member_1 : decode cX0_member 1 = .ok (.ifCond .lt 13, 3) := by decide +kernel
theorem dX0_member_4 : decode cX0_member 4 = .ok (.iload_n 1, 1) := by decide +kernel
theorem dX0_member_5 : decode cX0_member 5 = .ok (.aload_n 0, 1) := by decide +kernel
theorem dX0_member_6 : decode cX0_member 6 = .ok (.getfield 15, 3) := by decide +kernel
theorem dX0_member_9 : decode cX0_member 9 = .ok (.iconst 0, 1) := by decide +kernel
theorem dX0_member_10 : decode cX0_member 10 = .ok (.iaload, 1) := by decide +kernel
theorem dX0_member_11 : decode cX0_member 11 = .ok (.if_icmp .lt 6, 3) := by decide +kernel
theorem dX0_member_14 : decode cX0_member 14 = .ok (.bipush (-4), 2) := by decide +kernel
theorem dX0_member_16 : decode cX0_member 16 = .ok (.ireturn, 1) := by decide +kernel
theorem dX0_member_17 : decode cX0_member 17 = .ok (.iconst 0, 1) := by decide +kernel
theorem dX0_member_18 : decode cX0_member 18 = .ok (.istore_n 2, 1) := by decide +kernel
theorem dX0_member_19 : decode cX0_member 19 = .ok (.iconst 0, 1) := by decide +kernel
theorem dX0_member_20 : decode cX0_member 20 = .ok (.istore_n 3, 1) := by decide +kernel
theorem dX0_member_21 : decode cX0_member 21 = .ok (.iload_n 3, 1) := by decide +kernel
theorem dX0_member_22 : decode cX0_member 22 = .ok (.iload_n 1, 1) := by decide +kernel
theorem dX0_member_23 : decode cX0_member 23 = .ok (.if_icmp .ge 16, 3) := by decide +kernel
theorem dX0_member_26 : decode cX0_member 26 = .ok (.aload_n 0, 1) := by decide +kernel
theorem dX0_member_27 : decode cX0_member 27 = .ok (.getfield 21, 3) := by decide +kernel
theorem dX0_member_30 : decode cX0_member 30 = .ok (.iload_n 2, 1) := by decide +kernel
theorem dX0_member_31 : decode cX0_member 31 = .ok (.iaload, 1) := by decide +kernel
theorem dX0_member_32 : decode cX0_member 32 = .ok (.istore_n 2, 1) := by decide +kernel
theorem dX0_member_33 : decode cX0_member 33 = .ok (.iinc 3 1, 3) := by decide +kernel
theorem dX0_member_36 : decode cX0_member 36 = .ok (.goto (-15), 3) := by decide +kernel
theorem dX0_member_39 : decode cX0_member 39 = .ok (.aload_n 0, 1) := by decide +kernel
theorem dX0_member_40 : decode cX0_member 40 = .ok (.getfield 18, 3) := by decide +kernel
theorem dX0_member_43 : decode cX0_member 43 = .ok (.iload_n 2, 1) := by decide +kernel
theorem dX0_member_44 : decode cX0_member 44 = .ok (.iaload, 1) := by decide +kernel
theorem dX0_member_45 : decode cX0_member 45 = .ok (.ireturn, 1) := by decide +kernel
theorem dX1_init_0 : decode cX1_init 0 = .ok (.aload_n 0, 1) := by decide +kernel
theorem dX1_init_1 : decode cX1_init 1 = .ok (.invokespecial 3, 3) := by decide +kernel
theorem dX1_init_4 : decode cX1_init 4 = .ok (.aload_n 0, 1) := by decide +kernel
theorem dX1_init_5 : decode cX1_init 5 = .ok (.bipush 6, 2) := by decide +kernel
theorem dX1_init_7 : decode cX1_init 7 = .ok (.anewarray 9, 3) := by decide +kernel
theorem dX1_init_10 : decode cX1_init 10 = .ok (.putfield 11, 3) := by decide +kernel
theorem dX1_init_13 : decode cX1_init 13 = .ok (.iconst 0, 1) := by decide +kernel
theorem dX1_init_14 : decode cX1_init 14 = .ok (.istore_n 1, 1) := by decide +kernel
theorem dX1_init_15 : decode cX1_init 15 = .ok (.iload_n 1, 1) := by decide +kernel
theorem dX1_init_16 : decode cX1_init 16 = .ok (.aload_n 0, 1) := by decide +kernel
theorem dX1_init_17 : decode cX1_init 17 = .ok (.getfield 11, 3) := by decide +kernel
theorem dX1_init_20 : decode cX1_init 20 = .ok (.arraylength, 1) := by decide +kernel
theorem dX1_init_21 : decode cX1_init 21 = .ok (.if_icmp .ge 22, 3) := by decide +kernel
theorem dX1_init_24 : decode cX1_init 24 = .ok (.aload_n 0, 1) := by decide +kernel
theorem dX1_init_25 : decode cX1_init 25 = .ok (.getfield 11, 3) := by decide +kernel
theorem dX1_init_28 : decode cX1_init 28 = .ok (.iload_n 1, 1) := by decide +kernel
theorem dX1_init_29 : decode cX1_init 29 = .ok (.new 9, 3) := by decide +kernel
theorem dX1_init_32 : decode cX1_init 32 = .ok (.dup, 1) := by decide +kernel
theorem dX1_init_33 : decode cX1_init 33 = .ok (.invokespecial 17, 3) := by decide +kernel
theorem dX1_init_36 : decode cX1_init 36 = .ok (.aastore, 1) := by decide +kernel
theorem dX1_init_37 : decode cX1_init 37 = .ok (.iinc 1 1, 3) := by decide +kernel
theorem dX1_init_40 : decode cX1_init 40 = .ok (.goto (-25), 3) := by decide +kernel
theorem dX1_init_43 : decode cX1_init 43 = .ok (.return_, 1) := by decide +kernel
theorem dX1_clear_0 : decode cX1_clear 0 = .ok (.aload_n 0, 1) := by decide +kernel
theorem dX1_clear_1 : decode cX1_clear 1 = .ok (.iconst 0, 1) := by decide +kernel
theorem dX1_clear_2 : decode cX1_clear 2 = .ok (.putfield 18, 3) := by decide +kernel
theorem dX1_clear_5 : decode cX1_clear 5 = .ok (.return_, 1) := by decide +kernel
theorem dX1_keep_0 : decode cX1_keep 0 = .ok (.aload_n 0, 1) := by decide +kernel
theorem dX1_keep_1 : decode cX1_keep 1 = .ok (.getfield 11, 3) := by decide +kernel
theorem dX1_keep_4 : decode cX1_keep 4 = .ok (.aload_n 0, 1) := by decide +kernel
theorem dX1_keep_5 : decode cX1_keep 5 = .ok (.getfield 22, 3) := by decide +kernel
theorem dX1_keep_8 : decode cX1_keep 8 = .ok (.aaload, 1) := by decide +kernel
theorem dX1_keep_9 : decode cX1_keep 9 = .ok (.aload_n 1, 1) := by decide +kernel
theorem dX1_keep_10 : decode cX1_keep 10 = .ok (.invokevirtual 25, 3) := by decide +kernel
theorem dX1_keep_13 : decode cX1_keep 13 = .ok (.aload_n 0, 1) := by decide +kernel
theorem dX1_keep_14 : decode cX1_keep 14 = .ok (.aload_n 0, 1) := by decide +kernel
theorem dX1_keep_15 : decode cX1_keep 15 = .ok (.getfield 22, 3) := by decide +kernel
theorem dX1_keep_18 : decode cX1_keep 18 = .ok (.iconst 1, 1) := by decide +kernel
theorem dX1_keep_19 : decode cX1_keep 19 = .ok (.iadd, 1) := by decide +kernel
theorem dX1_keep_20 : decode cX1_keep 20 = .ok (.bipush 6, 2) := by decide +kernel
theorem dX1_keep_22 : decode cX1_keep 22 = .ok (.irem, 1) := by decide +kernel
theorem dX1_keep_23 : decode cX1_keep 23 = .ok (.putfield 22, 3) := by decide +kernel
theorem dX1_keep_26 : decode cX1_keep 26 = .ok (.aload_n 0, 1) := by decide +kernel
theorem dX1_keep_27 : decode cX1_keep 27 = .ok (.aload_n 0, 1) := by decide +kernel
theorem dX1_keep_28 : decode cX1_keep 28 = .ok (.getfield 18, 3) := by decide +kernel
theorem dX1_keep_31 : decode cX1_keep 31 = .ok (.iconst 1, 1) := by decide +kernel
theorem dX1_keep_32 : decode cX1_keep 32 = .ok (.iadd, 1) := by decide +kernel
theorem dX1_keep_33 : decode cX1_keep 33 = .ok (.bipush 6, 2) := by decide +kernel
theorem dX1_keep_35 : decode cX1_keep 35 = .ok (.invokestatic 29, 3) := by decide +kernel
theorem dX1_keep_38 : decode cX1_keep 38 = .ok (.putfield 18, 3) := by decide +kernel
theorem dX1_keep_41 : decode cX1_keep 41 = .ok (.return_, 1) := by decide +kernel
theorem dX1_bringBack_0 : decode cX1_bringBack 0 = .ok (.aload_n 0, 1) := by decide +kernel
theorem dX1_bringBack_1 : decode cX1_bringBack 1 = .ok (.aload_n 0, 1) := by decide +kernel
theorem dX1_bringBack_2 : decode cX1_bringBack 2 = .ok (.getfield 22, 3) := by decide +kernel
theorem dX1_bringBack_5 : decode cX1_bringBack 5 = .ok (.bipush 6, 2) := by decide +kernel
theorem dX1_bringBack_7 : decode cX1_bringBack 7 = .ok (.iadd, 1) := by decide +kernel
theorem dX1_bringBack_8 : decode cX1_bringBack 8 = .ok (.iconst 1, 1) := by decide +kernel
theorem dX1_bringBack_9 : decode cX1_bringBack 9 = .ok (.isub, 1) := by decide +kernel
theorem dX1_bringBack_10 : decode cX1_bringBack 10 = .ok (.bipush 6, 2) := by decide +kernel
theorem dX1_bringBack_12 : decode cX1_bringBack 12 = .ok (.irem, 1) := by decide +kernel
theorem dX1_bringBack_13 : decode cX1_bringBack 13 = .ok (.putfield 22, 3) := by decide +kernel
theorem dX1_bringBack_16 : decode cX1_bringBack 16 = .ok (.aload_n 0, 1) := by decide +kernel
theorem dX1_bringBack_17 : decode cX1_bringBack 17 = .ok (.dup, 1) := by decide +kernel
theorem dX1_bringBack_18 : decode cX1_bringBack 18 = .ok (.getfield 18, 3) := by decide +kernel
theorem dX1_bringBack_21 : decode cX1_bringBack 21 = .ok (.iconst 1, 1) := by decide +kernel
theorem dX1_bringBack_22 : decode cX1_bringBack 22 = .ok (.isub, 1) := by decide +kernel
theorem dX1_bringBack_23 : decode cX1_bringBack 23 = .ok (.putfield 18, 3) := by decide +kernel
theorem dX1_bringBack_26 : decode cX1_bringBack 26 = .ok (.aload_n 1, 1) := by decide +kernel
theorem dX1_bringBack_27 : decode cX1_bringBack 27 = .ok (.aload_n 0, 1) := by decide +kernel
theorem dX1_bringBack_28 : decode cX1_bringBack 28 = .ok (.getfield 11, 3) := by decide +kernel
theorem dX1_bringBack_31 : decode cX1_bringBack 31 = .ok (.aload_n 0, 1) := by decide +kernel
theorem dX1_bringBack_32 : decode cX1_bringBack 32 = .ok (.getfield 22, 3) := by decide +kernel
theorem dX1_bringBack_35 : decode cX1_bringBack 35 = .ok (.aaload, 1) := by decide +kernel
theorem dX1_bringBack_36 : decode cX1_bringBack 36 = .ok (.invokevirtual 25, 3) := by decide +kernel
theorem dX1_bringBack_39 : decode cX1_bringBack 39 = .ok (.return_, 1) := by decide +kernel
theorem dX2_init_0 : decode cX2_init 0 = .ok (.aload_n 0, 1) := by decide +kernel
theorem dX2_init_1 : decode cX2_init 1 = .ok (.invokespecial 1, 3) := by decide +kernel
theorem dX2_init_4 : decode cX2_init 4 = .ok (.aload_n 0, 1) := by decide +kernel
theorem dX2_init_5 : decode cX2_init 5 = .ok (.aload_n 2, 1) := by decide +kernel
theorem dX2_init_6 : decode cX2_init 6 = .ok (.putfield 7, 3) := by decide +kernel
theorem dX2_init_9 : decode cX2_init 9 = .ok (.aload_n 0, 1) := by decide +kernel
theorem dX2_init_10 : decode cX2_init 10 = .ok (.aload_n 3, 1) := by decide +kernel
theorem dX2_init_11 : decode cX2_init 11 = .ok (.putfield 13, 3) := by decide +kernel
theorem dX2_init_14 : decode cX2_init 14 = .ok (.aload_n 0, 1) := by decide +kernel
theorem dX2_init_15 : decode cX2_init 15 = .ok (.iload_n 1, 1) := by decide +kernel
theorem dX2_init_16 : decode cX2_init 16 = .ok (.aload_n 2, 1) := by decide +kernel
theorem dX2_init_17 : decode cX2_init 17 = .ok (.arraylength, 1) := by decide +kernel
theorem dX2_init_18 : decode cX2_init 18 = .ok (.multianewarray 16 2, 4) := by decide +kernel
theorem dX2_init_22 : decode cX2_init 22 = .ok (.putfield 18, 3) := by decide +kernel
theorem dX2_init_25 : decode cX2_init 25 = .ok (.return_, 1) := by decide +kernel
theorem dX2_has_0 : decode cX2_has 0 = .ok (.iload_n 1, 1) := by decide +kernel
theorem dX2_has_1 : decode cX2_has 1 = .ok (.ifCond .lt 15, 3) := by decide +kernel
theorem dX2_has_4 : decode cX2_has 4 = .ok (.iload_n 1, 1) := by decide +kernel
theorem dX2_has_5 : decode cX2_has 5 = .ok (.aload_n 0, 1) := by decide +kernel
theorem dX2_has_6 : decode cX2_has 6 = .ok (.getfield 21, 3) := by decide +kernel
theorem dX2_has_9 : decode cX2_has 9 = .ok (.if_icmp .ge 7, 3) := by decide +kernel
theorem dX2_has_12 : decode cX2_has 12 = .ok (.iconst 1, 1) := by decide +kernel
theorem dX2_has_13 : decode cX2_has 13 = .ok (.goto 4, 3) := by decide +kernel
theorem dX2_has_16 : decode cX2_has 16 = .ok (.iconst 0, 1) := by decide +kernel
theorem dX2_has_17 : decode cX2_has 17 = .ok (.ireturn, 1) := by decide +kernel
theorem dX2_number_0 : decode cX2_number 0 = .ok (.aload_n 0, 1) := by decide +kernel
theorem dX2_number_1 : decode cX2_number 1 = .ok (.getfield 18, 3) := by decide +kernel
theorem dX2_number_4 : decode cX2_number 4 = .ok (.iload_n 1, 1) := by decide +kernel
theorem dX2_number_5 : decode cX2_number 5 = .ok (.aaload, 1) := by decide +kernel
theorem dX2_number_6 : decode cX2_number 6 = .ok (.iload_n 2, 1) := by decide +kernel
theorem dX2_number_7 : decode cX2_number 7 = .ok (.iaload, 1) := by decide +kernel
theorem dX2_number_8 : decode cX2_number 8 = .ok (.ireturn, 1) := by decide +kernel
theorem dX2_isFull_0 : decode cX2_isFull 0 = .ok (.aload_n 0, 1) := by decide +kernel
theorem dX2_isFull_1 : decode cX2_isFull 1 = .ok (.getfield 21, 3) := by decide +kernel
theorem dX2_isFull_4 : decode cX2_isFull 4 = .ok (.aload_n 0, 1) := by decide +kernel
theorem dX2_isFull_5 : decode cX2_isFull 5 = .ok (.getfield 18, 3) := by decide +kernel
theorem dX2_isFull_8 : decode cX2_isFull 8 = .ok (.arraylength, 1) := by decide +kernel
theorem dX2_isFull_9 : decode cX2_isFull 9 = .ok (.if_icmp .lt 7, 3) := by decide +kernel
theorem dX2_isFull_12 : decode cX2_isFull 12 = .ok (.iconst 1, 1) := by decide +kernel
theorem dX2_isFull_13 : decode cX2_isFull 13 = .ok (.goto 4, 3) := by decide +kernel
theorem dX2_isFull_16 : decode cX2_isFull 16 = .ok (.iconst 0, 1) := by decide +kernel
theorem dX2_isFull_17 : decode cX2_isFull 17 = .ok (.ireturn, 1) := by decide +kernel
theorem dX2_allows_0 : decode cX2_allows 0 = .ok (.iload_n 2, 1) := by decide +kernel
theorem dX2_allows_1 : decode cX2_allows 1 = .ok (.aload_n 0, 1) := by decide +kernel
theorem dX2_allows_2 : decode cX2_allows 2 = .ok (.getfield 7, 3) := by decide +kernel
theorem dX2_allows_5 : decode cX2_allows 5 = .ok (.iload_n 1, 1) := by decide +kernel
theorem dX2_allows_6 : decode cX2_allows 6 = .ok (.iaload, 1) := by decide +kernel
theorem dX2_allows_7 : decode cX2_allows 7 = .ok (.if_icmp .lt 17, 3) := by decide +kernel
theorem dX2_allows_10 : decode cX2_allows 10 = .ok (.iload_n 2, 1) := by decide +kernel
theorem dX2_allows_11 : decode cX2_allows 11 = .ok (.aload_n 0, 1) := by decide +kernel
theorem dX2_allows_12 : decode cX2_allows 12 = .ok (.getfield 13, 3) := by decide +kernel
theorem dX2_allows_15 : decode cX2_allows 15 = .ok (.iload_n 1, 1) := by decide +kernel
theorem dX2_allows_16 : decode cX2_allows 16 = .ok (.iaload, 1) := by decide +kernel
theorem dX2_allows_17 : decode cX2_allows 17 = .ok (.if_icmp .gt 7, 3) := by decide +kernel
theorem dX2_allows_20 : decode cX2_allows 20 = .ok (.iconst 1, 1) := by decide +kernel
theorem dX2_allows_21 : decode cX2_allows 21 = .ok (.goto 4, 3) := by decide +kernel
theorem dX2_allows_24 : decode cX2_allows 24 = .ok (.iconst 0, 1) := by decide +kernel
theorem dX2_allows_25 : decode cX2_allows 25 = .ok (.ireturn, 1) := by decide +kernel
theorem dX3_init_0 : decode cX3_init 0 = .ok (.aload_n 0, 1) := by decide +kernel
theorem dX3_init_1 : decode cX3_init 1 = .ok (.invokespecial 3, 3) := by decide +kernel
theorem dX3_init_4 : decode cX3_init 4 = .ok (.aload_n 0, 1) := by decide +kernel
theorem dX3_init_5 : decode cX3_init 5 = .ok (.sipush 200, 3) := by decide +kernel
theorem dX3_init_8 : decode cX3_init 8 = .ok (.newarray .char, 2) := by decide +kernel
theorem dX3_init_10 : decode cX3_init 10 = .ok (.putfield 9, 3) := by decide +kernel
theorem dX3_init_13 : decode cX3_init 13 = .ok (.return_, 1) := by decide +kernel
theorem dX3_append_0 : decode cX3_append 0 = .ok (.aload_n 0, 1) := by decide +kernel
theorem dX3_append_1 : decode cX3_append 1 = .ok (.getfield 15, 3) := by decide +kernel
theorem dX3_append_4 : decode cX3_append 4 = .ok (.aload_n 0, 1) := by decide +kernel
theorem dX3_append_5 : decode cX3_append 5 = .ok (.getfield 9, 3) := by decide +kernel
theorem dX3_append_8 : decode cX3_append 8 = .ok (.arraylength, 1) := by decide +kernel
theorem dX3_append_9 : decode cX3_append 9 = .ok (.if_icmp .ge 23, 3) := by decide +kernel
theorem dX3_append_12 : decode cX3_append 12 = .ok (.aload_n 0, 1) := by decide +kernel
theorem dX3_append_13 : decode cX3_append 13 = .ok (.getfield 9, 3) := by decide +kernel
theorem dX3_append_16 : decode cX3_append 16 = .ok (.aload_n 0, 1) := by decide +kernel
theorem dX3_append_17 : decode cX3_append 17 = .ok (.getfield 15, 3) := by decide +kernel
theorem dX3_append_20 : decode cX3_append 20 = .ok (.iload_n 1, 1) := by decide +kernel
theorem dX3_append_21 : decode cX3_append 21 = .ok (.castore, 1) := by decide +kernel
theorem dX3_append_22 : decode cX3_append 22 = .ok (.aload_n 0, 1) := by decide +kernel
theorem dX3_append_23 : decode cX3_append 23 = .ok (.dup, 1) := by decide +kernel
theorem dX3_append_24 : decode cX3_append 24 = .ok (.getfield 15, 3) := by decide +kernel
theorem dX3_append_27 : decode cX3_append 27 = .ok (.iconst 1, 1) := by decide +kernel
theorem dX3_append_28 : decode cX3_append 28 = .ok (.iadd, 1) := by decide +kernel
theorem dX3_append_29 : decode cX3_append 29 = .ok (.putfield 15, 3) := by decide +kernel
theorem dX3_append_32 : decode cX3_append 32 = .ok (.return_, 1) := by decide +kernel
theorem dX3_clear_0 : decode cX3_clear 0 = .ok (.aload_n 0, 1) := by decide +kernel
theorem dX3_clear_1 : decode cX3_clear 1 = .ok (.iconst 0, 1) := by decide +kernel
theorem dX3_clear_2 : decode cX3_clear 2 = .ok (.putfield 15, 3) := by decide +kernel
theorem dX3_clear_5 : decode cX3_clear 5 = .ok (.return_, 1) := by decide +kernel
theorem dX3_letterAt_0 : decode cX3_letterAt 0 = .ok (.iload_n 1, 1) := by decide +kernel
theorem dX3_letterAt_1 : decode cX3_letterAt 1 = .ok (.ifCond .lt 20, 3) := by decide +kernel
theorem dX3_letterAt_4 : decode cX3_letterAt 4 = .ok (.iload_n 1, 1) := by decide +kernel
theorem dX3_letterAt_5 : decode cX3_letterAt 5 = .ok (.aload_n 0, 1) := by decide +kernel
theorem dX3_letterAt_6 : decode cX3_letterAt 6 = .ok (.getfield 15, 3) := by decide +kernel
theorem dX3_letterAt_9 : decode cX3_letterAt 9 = .ok (.if_icmp .ge 12, 3) := by decide +kernel
theorem dX3_letterAt_12 : decode cX3_letterAt 12 = .ok (.aload_n 0, 1) := by decide +kernel
theorem dX3_letterAt_13 : decode cX3_letterAt 13 = .ok (.getfield 9, 3) := by decide +kernel
theorem dX3_letterAt_16 : decode cX3_letterAt 16 = .ok (.iload_n 1, 1) := by decide +kernel
theorem dX3_letterAt_17 : decode cX3_letterAt 17 = .ok (.caload, 1) := by decide +kernel
theorem dX3_letterAt_18 : decode cX3_letterAt 18 = .ok (.goto 4, 3) := by decide +kernel
theorem dX3_letterAt_21 : decode cX3_letterAt 21 = .ok (.iconst 0, 1) := by decide +kernel
theorem dX3_letterAt_22 : decode cX3_letterAt 22 = .ok (.ireturn, 1) := by decide +kernel
theorem dX3_figuresAt_0 : decode cX3_figuresAt 0 = .ok (.aload_n 0, 1) := by decide +kernel
theorem dX3_figuresAt_1 : decode cX3_figuresAt 1 = .ok (.iload_n 1, 1) := by decide +kernel
theorem dX3_figuresAt_2 : decode cX3_figuresAt 2 = .ok (.invokevirtual 19, 3) := by decide +kernel
theorem dX3_figuresAt_5 : decode cX3_figuresAt 5 = .ok (.invokestatic 23, 3) := by decide +kernel
theorem dX3_figuresAt_8 : decode cX3_figuresAt 8 = .ok (.ifCond .ne 5, 3) := by decide +kernel
theorem dX3_figuresAt_11 : decode cX3_figuresAt 11 = .ok (.iconst 0, 1) := by decide +kernel
theorem dX3_figuresAt_12 : decode cX3_figuresAt 12 = .ok (.ireturn, 1) := by decide +kernel
theorem dX3_figuresAt_13 : decode cX3_figuresAt 13 = .ok (.aload_n 0, 1) := by decide +kernel
theorem dX3_figuresAt_14 : decode cX3_figuresAt 14 = .ok (.iload_n 1, 1) := by decide +kernel
theorem dX3_figuresAt_15 : decode cX3_figuresAt 15 = .ok (.iconst 1, 1) := by decide +kernel
theorem dX3_figuresAt_16 : decode cX3_figuresAt 16 = .ok (.iadd, 1) := by decide +kernel
theorem dX3_figuresAt_17 : decode cX3_figuresAt 17 = .ok (.invokevirtual 19, 3) := by decide +kernel
theorem dX3_figuresAt_20 : decode cX3_figuresAt 20 = .ok (.invokestatic 23, 3) := by decide +kernel
theorem dX3_figuresAt_23 : decode cX3_figuresAt 23 = .ok (.ifCond .eq 7, 3) := by decide +kernel
theorem dX3_figuresAt_26 : decode cX3_figuresAt 26 = .ok (.iconst 2, 1) := by decide +kernel
theorem dX3_figuresAt_27 : decode cX3_figuresAt 27 = .ok (.goto 4, 3) := by decide +kernel
theorem dX3_figuresAt_30 : decode cX3_figuresAt 30 = .ok (.iconst 1, 1) := by decide +kernel
theorem dX3_figuresAt_31 : decode cX3_figuresAt 31 = .ok (.ireturn, 1) := by decide +kernel
theorem dX3_numberAt_0 : decode cX3_numberAt 0 = .ok (.iconst 0, 1) := by decide +kernel
theorem dX3_numberAt_1 : decode cX3_numberAt 1 = .ok (.istore_n 3, 1) := by decide +kernel
theorem dX3_numberAt_2 : decode cX3_numberAt 2 = .ok (.iload_n 1, 1) := by decide +kernel
theorem dX3_numberAt_3 : decode cX3_numberAt 3 = .ok (.istore 4, 2) := by decide +kernel
theorem dX3_numberAt_5 : decode cX3_numberAt 5 = .ok (.iload 4, 2) := by decide +kernel
theorem dX3_numberAt_7 : decode cX3_numberAt 7 = .ok (.iload_n 1, 1) := by decide +kernel
theorem dX3_numberAt_8 : decode cX3_numberAt 8 = .ok (.iload_n 2, 1) := by decide +kernel
theorem dX3_numberAt_9 : decode cX3_numberAt 9 = .ok (.iadd, 1) := by decide +kernel
theorem dX3_numberAt_10 : decode cX3_numberAt 10 = .ok (.if_icmp .ge 24, 3) := by decide +kernel
theorem dX3_numberAt_13 : decode cX3_numberAt 13 = .ok (.bipush 10, 2) := by decide +kernel
theorem dX3_numberAt_15 : decode cX3_numberAt 15 = .ok (.iload_n 3, 1) := by decide +kernel
theorem dX3_numberAt_16 : decode cX3_numberAt 16 = .ok (.imul, 1) := by decide +kernel
theorem dX3_numberAt_17 : decode cX3_numberAt 17 = .ok (.aload_n 0, 1) := by decide +kernel
theorem dX3_numberAt_18 : decode cX3_numberAt 18 = .ok (.iload 4, 2) := by decide +kernel
theorem dX3_numberAt_20 : decode cX3_numberAt 20 = .ok (.invokevirtual 19, 3) := by decide +kernel
theorem dX3_numberAt_23 : decode cX3_numberAt 23 = .ok (.iadd, 1) := by decide +kernel
theorem dX3_numberAt_24 : decode cX3_numberAt 24 = .ok (.bipush 48, 2) := by decide +kernel
theorem dX3_numberAt_26 : decode cX3_numberAt 26 = .ok (.isub, 1) := by decide +kernel
theorem dX3_numberAt_27 : decode cX3_numberAt 27 = .ok (.istore_n 3, 1) := by decide +kernel
theorem dX3_numberAt_28 : decode cX3_numberAt 28 = .ok (.iinc 4 1, 3) := by decide +kernel
theorem dX3_numberAt_31 : decode cX3_numberAt 31 = .ok (.goto (-26), 3) := by decide +kernel
theorem dX3_numberAt_34 : decode cX3_numberAt 34 = .ok (.iload_n 3, 1) := by decide +kernel
theorem dX3_numberAt_35 : decode cX3_numberAt 35 = .ok (.ireturn, 1) := by decide +kernel
theorem dX3_isFigure_0 : decode cX3_isFigure 0 = .ok (.iload_n 0, 1) := by decide +kernel
theorem dX3_isFigure_1 : decode cX3_isFigure 1 = .ok (.bipush 48, 2) := by decide +kernel
theorem dX3_isFigure_3 : decode cX3_isFigure 3 = .ok (.if_icmp .lt 13, 3) := by decide +kernel
theorem dX3_isFigure_6 : decode cX3_isFigure 6 = .ok (.iload_n 0, 1) := by decide +kernel
theorem dX3_isFigure_7 : decode cX3_isFigure 7 = .ok (.bipush 57, 2) := by decide +kernel
theorem dX3_isFigure_9 : decode cX3_isFigure 9 = .ok (.if_icmp .gt 7, 3) := by decide +kernel
theorem dX3_isFigure_12 : decode cX3_isFigure 12 = .ok (.iconst 1, 1) := by decide +kernel
theorem dX3_isFigure_13 : decode cX3_isFigure 13 = .ok (.goto 4, 3) := by decide +kernel
theorem dX3_isFigure_16 : decode cX3_isFigure 16 = .ok (.iconst 0, 1) := by decide +kernel
theorem dX3_isFigure_17 : decode cX3_isFigure 17 = .ok (.ireturn, 1) := by decide +kernel
theorem dX4_init_0 : decode cX4_init 0 = .ok (.aload_n 0, 1) := by decide +kernel
theorem dX4_init_1 : decode cX4_init 1 = .ok (.invokespecial 3, 3) := by decide +kernel
theorem dX4_init_4 : decode cX4_init 4 = .ok (.aload_n 0, 1) := by decide +kernel
theorem dX4_init_5 : decode cX4_init 5 = .ok (.new 9, 3) := by decide +kernel
theorem dX4_init_8 : decode cX4_init 8 = .ok (.dup, 1) := by decide +kernel
theorem dX4_init_9 : decode cX4_init 9 = .ok (.invokespecial 11, 3) := by decide +kernel
theorem dX4_init_12 : decode cX4_init 12 = .ok (.putfield 12, 3) := by decide +kernel
theorem dX4_init_15 : decode cX4_init 15 = .ok (.aload_n 0, 1) := by decide +kernel
theorem dX4_init_16 : decode cX4_init 16 = .ok (.new 18, 3) := by decide +kernel
theorem dX4_init_19 : decode cX4_init 19 = .ok (.dup, 1) := by decide +kernel
theorem dX4_init_20 : decode cX4_init 20 = .ok (.invokespecial 20, 3) := by decide +kernel
theorem dX4_init_23 : decode cX4_init 23 = .ok (.putfield 21, 3) := by decide +kernel
theorem dX4_init_26 : decode cX4_init 26 = .ok (.aload_n 0, 1) := by decide +kernel
theorem dX4_init_27 : decode cX4_init 27 = .ok (.new 25, 3) := by decide +kernel
theorem dX4_init_30 : decode cX4_init 30 = .ok (.dup, 1) := by decide +kernel
theorem dX4_init_31 : decode cX4_init 31 = .ok (.invokespecial 27, 3) := by decide +kernel
theorem dX4_init_34 : decode cX4_init 34 = .ok (.putfield 28, 3) := by decide +kernel
theorem dX4_init_37 : decode cX4_init 37 = .ok (.return_, 1) := by decide +kernel
theorem dX4_layOut_0 : decode cX4_layOut 0 = .ok (.aload_n 0, 1) := by decide +kernel
theorem dX4_layOut_1 : decode cX4_layOut 1 = .ok (.aload_n 1, 1) := by decide +kernel
theorem dX4_layOut_2 : decode cX4_layOut 2 = .ok (.putfield 12, 3) := by decide +kernel
theorem dX4_layOut_5 : decode cX4_layOut 5 = .ok (.aload_n 0, 1) := by decide +kernel
theorem dX4_layOut_6 : decode cX4_layOut 6 = .ok (.getfield 21, 3) := by decide +kernel
theorem dX4_layOut_9 : decode cX4_layOut 9 = .ok (.aload_n 1, 1) := by decide +kernel
theorem dX4_layOut_10 : decode cX4_layOut 10 = .ok (.invokevirtual 32, 3) := by decide +kernel
theorem dX4_layOut_13 : decode cX4_layOut 13 = .ok (.aload_n 0, 1) := by decide +kernel
theorem dX4_layOut_14 : decode cX4_layOut 14 = .ok (.getfield 28, 3) := by decide +kernel
theorem dX4_layOut_17 : decode cX4_layOut 17 = .ok (.invokevirtual 36, 3) := by decide +kernel
theorem dX4_layOut_20 : decode cX4_layOut 20 = .ok (.return_, 1) := by decide +kernel
theorem dX4_windowSize_0 : decode cX4_windowSize 0 = .ok (.bipush 6, 2) := by decide +kernel
theorem dX4_windowSize_2 : decode cX4_windowSize 2 = .ok (.aload_n 0, 1) := by decide +kernel
theorem dX4_windowSize_3 : decode cX4_windowSize 3 = .ok (.getfield 21, 3) := by decide +kernel
theorem dX4_windowSize_6 : decode cX4_windowSize 6 = .ok (.getfield 39, 3) := by decide +kernel
theorem dX4_windowSize_9 : decode cX4_windowSize 9 = .ok (.iload_n 1, 1) := by decide +kernel
theorem dX4_windowSize_10 : decode cX4_windowSize 10 = .ok (.isub, 1) := by decide +kernel
theorem dX4_windowSize_11 : decode cX4_windowSize 11 = .ok (.invokestatic 43, 3) := by decide +kernel
theorem dX4_windowSize_14 : decode cX4_windowSize 14 = .ok (.ireturn, 1) := by decide +kernel
theorem dX4_contactBits_0 : decode cX4_contactBits 0 = .ok (.iconst 0, 1) := by decide +kernel
theorem dX4_contactBits_1 : decode cX4_contactBits 1 = .ok (.istore_n 1, 1) := by decide +kernel
theorem dX4_contactBits_2 : decode cX4_contactBits 2 = .ok (.iconst 0, 1) := by decide +kernel
theorem dX4_contactBits_3 : decode cX4_contactBits 3 = .ok (.istore_n 2, 1) := by decide +kernel
theorem dX4_contactBits_4 : decode cX4_contactBits 4 = .ok (.iload_n 2, 1) := by decide +kernel
theorem dX4_contactBits_5 : decode cX4_contactBits 5 = .ok (.aload_n 0, 1) := by decide +kernel
theorem dX4_contactBits_6 : decode cX4_contactBits 6 = .ok (.getfield 21, 3) := by decide +kernel
theorem dX4_contactBits_9 : decode cX4_contactBits 9 = .ok (.getfield 39, 3) := by decide +kernel
theorem dX4_contactBits_12 : decode cX4_contactBits 12 = .ok (.if_icmp .ge 28, 3) := by decide +kernel
theorem dX4_contactBits_15 : decode cX4_contactBits 15 = .ok (.aload_n 0, 1) := by decide +kernel
theorem dX4_contactBits_16 : decode cX4_contactBits 16 = .ok (.getfield 28, 3) := by decide +kernel
theorem dX4_contactBits_19 : decode cX4_contactBits 19 = .ok (.getfield 49, 3) := by decide +kernel
theorem dX4_contactBits_22 : decode cX4_contactBits 22 = .ok (.iload_n 2, 1) := by decide +kernel
theorem dX4_contactBits_23 : decode cX4_contactBits 23 = .ok (.iaload, 1) := by decide +kernel
theorem dX4_contactBits_24 : decode cX4_contactBits 24 = .ok (.iconst (-1), 1) := by decide +kernel
theorem dX4_contactBits_25 : decode cX4_contactBits 25 = .ok (.if_icmp .eq 9, 3) := by decide +kernel
theorem dX4_contactBits_28 : decode cX4_contactBits 28 = .ok (.iload_n 1, 1) := by decide +kernel
theorem dX4_contactBits_29 : decode cX4_contactBits 29 = .ok (.iconst 1, 1) := by decide +kernel
theorem dX4_contactBits_30 : decode cX4_contactBits 30 = .ok (.iload_n 2, 1) := by decide +kernel
theorem dX4_contactBits_31 : decode cX4_contactBits 31 = .ok (.ishl, 1) := by decide +kernel
theorem dX4_contactBits_32 : decode cX4_contactBits 32 = .ok (.ior, 1) := by decide +kernel
theorem dX4_contactBits_33 : decode cX4_contactBits 33 = .ok (.istore_n 1, 1) := by decide +kernel
theorem dX4_contactBits_34 : decode cX4_contactBits 34 = .ok (.iinc 2 1, 3) := by decide +kernel
theorem dX4_contactBits_37 : decode cX4_contactBits 37 = .ok (.goto (-33), 3) := by decide +kernel
theorem dX4_contactBits_40 : decode cX4_contactBits 40 = .ok (.iload_n 1, 1) := by decide +kernel
theorem dX4_contactBits_41 : decode cX4_contactBits 41 = .ok (.ireturn, 1) := by decide +kernel
theorem dX4_volumeOf_0 : decode cX4_volumeOf 0 = .ok (.iconst 0, 1) := by decide +kernel
theorem dX4_volumeOf_1 : decode cX4_volumeOf 1 = .ok (.istore_n 2, 1) := by decide +kernel
theorem dX4_volumeOf_2 : decode cX4_volumeOf 2 = .ok (.iconst 0, 1) := by decide +kernel
theorem dX4_volumeOf_3 : decode cX4_volumeOf 3 = .ok (.istore_n 3, 1) := by decide +kernel
theorem dX4_volumeOf_4 : decode cX4_volumeOf 4 = .ok (.iload_n 3, 1) := by decide +kernel
theorem dX4_volumeOf_5 : decode cX4_volumeOf 5 = .ok (.aload_n 0, 1) := by decide +kernel
theorem dX4_volumeOf_6 : decode cX4_volumeOf 6 = .ok (.getfield 21, 3) := by decide +kernel
theorem dX4_volumeOf_9 : decode cX4_volumeOf 9 = .ok (.getfield 39, 3) := by decide +kernel
theorem dX4_volumeOf_12 : decode cX4_volumeOf 12 = .ok (.if_icmp .ge 29, 3) := by decide +kernel
theorem dX4_volumeOf_15 : decode cX4_volumeOf 15 = .ok (.iload_n 1, 1) := by decide +kernel
theorem dX4_volumeOf_16 : decode cX4_volumeOf 16 = .ok (.iload_n 3, 1) := by decide +kernel
theorem dX4_volumeOf_17 : decode cX4_volumeOf 17 = .ok (.ishr, 1) := by decide +kernel
theorem dX4_volumeOf_18 : decode cX4_volumeOf 18 = .ok (.iconst 1, 1) := by decide +kernel
theorem dX4_volumeOf_19 : decode cX4_volumeOf 19 = .ok (.iand, 1) := by decide +kernel
theorem dX4_volumeOf_20 : decode cX4_volumeOf 20 = .ok (.ifCond .eq 15, 3) := by decide +kernel
theorem dX4_volumeOf_23 : decode cX4_volumeOf 23 = .ok (.iload_n 2, 1) := by decide +kernel
theorem dX4_volumeOf_24 : decode cX4_volumeOf 24 = .ok (.aload_n 0, 1) := by decide +kernel
theorem dX4_volumeOf_25 : decode cX4_volumeOf 25 = .ok (.getfield 21, 3) := by decide +kernel
theorem dX4_volumeOf_28 : decode cX4_volumeOf 28 = .ok (.getfield 53, 3) := by decide +kernel
theorem dX4_volumeOf_31 : decode cX4_volumeOf 31 = .ok (.iload_n 3, 1) := by decide +kernel
theorem dX4_volumeOf_32 : decode cX4_volumeOf 32 = .ok (.iaload, 1) := by decide +kernel
theorem dX4_volumeOf_33 : decode cX4_volumeOf 33 = .ok (.iadd, 1) := by decide +kernel
theorem dX4_volumeOf_34 : decode cX4_volumeOf 34 = .ok (.istore_n 2, 1) := by decide +kernel
theorem dX4_volumeOf_35 : decode cX4_volumeOf 35 = .ok (.iinc 3 1, 3) := by decide +kernel
theorem dX4_volumeOf_38 : decode cX4_volumeOf 38 = .ok (.goto (-34), 3) := by decide +kernel
theorem dX4_volumeOf_41 : decode cX4_volumeOf 41 = .ok (.iload_n 2, 1) := by decide +kernel
theorem dX4_volumeOf_42 : decode cX4_volumeOf 42 = .ok (.ireturn, 1) := by decide +kernel
theorem dX4_passesOfSat_0 : decode cX4_passesOfSat 0 = .ok (.iconst 0, 1) := by decide +kernel
theorem dX4_passesOfSat_1 : decode cX4_passesOfSat 1 = .ok (.istore_n 2, 1) := by decide +kernel
theorem dX4_passesOfSat_2 : decode cX4_passesOfSat 2 = .ok (.iconst 0, 1) := by decide +kernel
theorem dX4_passesOfSat_3 : decode cX4_passesOfSat 3 = .ok (.istore_n 3, 1) := by decide +kernel
theorem dX4_passesOfSat_4 : decode cX4_passesOfSat 4 = .ok (.iload_n 3, 1) := by decide +kernel
theorem dX4_passesOfSat_5 : decode cX4_passesOfSat 5 = .ok (.aload_n 0, 1) := by decide +kernel
theorem dX4_passesOfSat_6 : decode cX4_passesOfSat 6 = .ok (.getfield 21, 3) := by decide +kernel
theorem dX4_passesOfSat_9 : decode cX4_passesOfSat 9 = .ok (.getfield 39, 3) := by decide +kernel
theorem dX4_passesOfSat_12 : decode cX4_passesOfSat 12 = .ok (.if_icmp .ge 30, 3) := by decide +kernel
theorem dX4_passesOfSat_15 : decode cX4_passesOfSat 15 = .ok (.iload_n 2, 1) := by decide +kernel
theorem dX4_passesOfSat_16 : decode cX4_passesOfSat 16 = .ok (.aload_n 0, 1) := by decide +kernel
theorem dX4_passesOfSat_17 : decode cX4_passesOfSat 17 = .ok (.getfield 21, 3) := by decide +kernel
theorem dX4_passesOfSat_20 : decode cX4_passesOfSat 20 = .ok (.getfield 56, 3) := by decide +kernel
theorem dX4_passesOfSat_23 : decode cX4_passesOfSat 23 = .ok (.iload_n 3, 1) := by decide +kernel
theorem dX4_passesOfSat_24 : decode cX4_passesOfSat 24 = .ok (.iaload, 1) := by decide +kernel
theorem dX4_passesOfSat_25 : decode cX4_passesOfSat 25 = .ok (.iload_n 1, 1) := by decide +kernel
theorem dX4_passesOfSat_26 : decode cX4_passesOfSat 26 = .ok (.if_icmp .ne 7, 3) := by decide +kernel
theorem dX4_passesOfSat_29 : decode cX4_passesOfSat 29 = .ok (.iconst 1, 1) := by decide +kernel
theorem dX4_passesOfSat_30 : decode cX4_passesOfSat 30 = .ok (.goto 4, 3) := by decide +kernel
theorem dX4_passesOfSat_33 : decode cX4_passesOfSat 33 = .ok (.iconst 0, 1) := by decide +kernel
theorem dX4_passesOfSat_34 : decode cX4_passesOfSat 34 = .ok (.iadd, 1) := by decide +kernel
theorem dX4_passesOfSat_35 : decode cX4_passesOfSat 35 = .ok (.istore_n 2, 1) := by decide +kernel
theorem dX4_passesOfSat_36 : decode cX4_passesOfSat 36 = .ok (.iinc 3 1, 3) := by decide +kernel
theorem dX4_passesOfSat_39 : decode cX4_passesOfSat 39 = .ok (.goto (-35), 3) := by decide +kernel
theorem dX4_passesOfSat_42 : decode cX4_passesOfSat 42 = .ok (.iload_n 2, 1) := by decide +kernel
theorem dX4_passesOfSat_43 : decode cX4_passesOfSat 43 = .ok (.ireturn, 1) := by decide +kernel
theorem dX4_contactsOfSat_0 : decode cX4_contactsOfSat 0 = .ok (.iconst 0, 1) := by decide +kernel
theorem dX4_contactsOfSat_1 : decode cX4_contactsOfSat 1 = .ok (.istore_n 2, 1) := by decide +kernel
theorem dX4_contactsOfSat_2 : decode cX4_contactsOfSat 2 = .ok (.iconst 0, 1) := by decide +kernel
theorem dX4_contactsOfSat_3 : decode cX4_contactsOfSat 3 = .ok (.istore_n 3, 1) := by decide +kernel
theorem dX4_contactsOfSat_4 : decode cX4_contactsOfSat 4 = .ok (.iload_n 3, 1) := by decide +kernel
theorem dX4_contactsOfSat_5 : decode cX4_contactsOfSat 5 = .ok (.aload_n 0, 1) := by decide +kernel
theorem dX4_contactsOfSat_6 : decode cX4_contactsOfSat 6 = .ok (.getfield 21, 3) := by decide +kernel
theorem dX4_contactsOfSat_9 : decode cX4_contactsOfSat 9 = .ok (.getfield 39, 3) := by decide +kernel
theorem dX4_contactsOfSat_12 : decode cX4_contactsOfSat 12 = .ok (.if_icmp .ge 43, 3) := by decide +kernel
theorem dX4_contactsOfSat_15 : decode cX4_contactsOfSat 15 = .ok (.iload_n 2, 1) := by decide +kernel
theorem dX4_contactsOfSat_16 : decode cX4_contactsOfSat 16 = .ok (.aload_n 0, 1) := by decide +kernel
theorem dX4_contactsOfSat_17 : decode cX4_contactsOfSat 17 = .ok (.getfield 21, 3) := by decide +kernel
theorem dX4_contactsOfSat_20 : decode cX4_contactsOfSat 20 = .ok (.getfield 56, 3) := by decide +kernel
theorem dX4_contactsOfSat_23 : decode cX4_contactsOfSat 23 = .ok (.iload_n 3, 1) := by decide +kernel
theorem dX4_contactsOfSat_24 : decode cX4_contactsOfSat 24 = .ok (.iaload, 1) := by decide +kernel
theorem dX4_contactsOfSat_25 : decode cX4_contactsOfSat 25 = .ok (.iload_n 1, 1) := by decide +kernel
theorem dX4_contactsOfSat_26 : decode cX4_contactsOfSat 26 = .ok (.if_icmp .ne 20, 3) := by decide +kernel
theorem dX4_contactsOfSat_29 : decode cX4_contactsOfSat 29 = .ok (.aload_n 0, 1) := by decide +kernel
theorem dX4_contactsOfSat_30 : decode cX4_contactsOfSat 30 = .ok (.getfield 28, 3) := by decide +kernel
theorem dX4_contactsOfSat_33 : decode cX4_contactsOfSat 33 = .ok (.getfield 49, 3) := by decide +kernel
theorem dX4_contactsOfSat_36 : decode cX4_contactsOfSat 36 = .ok (.iload_n 3, 1) := by decide +kernel
theorem dX4_contactsOfSat_37 : decode cX4_contactsOfSat 37 = .ok (.iaload, 1) := by decide +kernel
theorem dX4_contactsOfSat_38 : decode cX4_contactsOfSat 38 = .ok (.iconst (-1), 1) := by decide +kernel
theorem dX4_contactsOfSat_39 : decode cX4_contactsOfSat 39 = .ok (.if_icmp .eq 7, 3) := by decide +kernel
theorem dX4_contactsOfSat_42 : decode cX4_contactsOfSat 42 = .ok (.iconst 1, 1) := by decide +kernel
theorem dX4_contactsOfSat_43 : decode cX4_contactsOfSat 43 = .ok (.goto 4, 3) := by decide +kernel
theorem dX4_contactsOfSat_46 : decode cX4_contactsOfSat 46 = .ok (.iconst 0, 1) := by decide +kernel
theorem dX4_contactsOfSat_47 : decode cX4_contactsOfSat 47 = .ok (.iadd, 1) := by decide +kernel
theorem dX4_contactsOfSat_48 : decode cX4_contactsOfSat 48 = .ok (.istore_n 2, 1) := by decide +kernel
theorem dX4_contactsOfSat_49 : decode cX4_contactsOfSat 49 = .ok (.iinc 3 1, 3) := by decide +kernel
theorem dX4_contactsOfSat_52 : decode cX4_contactsOfSat 52 = .ok (.goto (-48), 3) := by decide +kernel
theorem dX4_contactsOfSat_55 : decode cX4_contactsOfSat 55 = .ok (.iload_n 2, 1) := by decide +kernel
theorem dX4_contactsOfSat_56 : decode cX4_contactsOfSat 56 = .ok (.ireturn, 1) := by decide +kernel
theorem dX4_contactsOfAntenna_0 : decode cX4_contactsOfAntenna 0 = .ok (.iconst 0, 1) := by decide +kernel
theorem dX4_contactsOfAntenna_1 : decode cX4_contactsOfAntenna 1 = .ok (.istore_n 2, 1) := by decide +kernel
theorem dX4_contactsOfAntenna_2 : decode cX4_contactsOfAntenna 2 = .ok (.iconst 0, 1) := by decide +kernel
theorem dX4_contactsOfAntenna_3 : decode cX4_contactsOfAntenna 3 = .ok (.istore_n 3, 1) := by decide +kernel
theorem dX4_contactsOfAntenna_4 : decode cX4_contactsOfAntenna 4 = .ok (.iload_n 3, 1) := by decide +kernel
theorem dX4_contactsOfAntenna_5 : decode cX4_contactsOfAntenna 5 = .ok (.aload_n 0, 1) := by decide +kernel
theorem dX4_contactsOfAntenna_6 : decode cX4_contactsOfAntenna 6 = .ok (.getfield 21, 3) := by decide +kernel
theorem dX4_contactsOfAntenna_9 : decode cX4_contactsOfAntenna 9 = .ok (.getfield 39, 3) := by decide +kernel
theorem dX4_contactsOfAntenna_12 : decode cX4_contactsOfAntenna 12 = .ok (.if_icmp .ge 30, 3) := by decide +kernel
theorem dX4_contactsOfAntenna_15 : decode cX4_contactsOfAntenna 15 = .ok (.iload_n 2, 1) := by decide +kernel
theorem dX4_contactsOfAntenna_16 : decode cX4_contactsOfAntenna 16 = .ok (.aload_n 0, 1) := by decide +kernel
theorem dX4_contactsOfAntenna_17 : decode cX4_contactsOfAntenna 17 = .ok (.getfield 28, 3) := by decide +kernel
theorem dX4_contactsOfAntenna_20 : decode cX4_contactsOfAntenna 20 = .ok (.getfield 49, 3) := by decide +kernel
theorem dX4_contactsOfAntenna_23 : decode cX4_contactsOfAntenna 23 = .ok (.iload_n 3, 1) := by decide +kernel
theorem dX4_contactsOfAntenna_24 : decode cX4_contactsOfAntenna 24 = .ok (.iaload, 1) := by decide +kernel
theorem dX4_contactsOfAntenna_25 : decode cX4_contactsOfAntenna 25 = .ok (.iload_n 1, 1) := by decide +kernel
theorem dX4_contactsOfAntenna_26 : decode cX4_contactsOfAntenna 26 = .ok (.if_icmp .ne 7, 3) := by decide +kernel
theorem dX4_contactsOfAntenna_29 : decode cX4_contactsOfAntenna 29 = .ok (.iconst 1, 1) := by decide +kernel
theorem dX4_contactsOfAntenna_30 : decode cX4_contactsOfAntenna 30 = .ok (.goto 4, 3) := by decide +kernel
theorem dX4_contactsOfAntenna_33 : decode cX4_contactsOfAntenna 33 = .ok (.iconst 0, 1) := by decide +kernel
theorem dX4_contactsOfAntenna_34 : decode cX4_contactsOfAntenna 34 = .ok (.iadd, 1) := by decide +kernel
theorem dX4_contactsOfAntenna_35 : decode cX4_contactsOfAntenna 35 = .ok (.istore_n 2, 1) := by decide +kernel
theorem dX4_contactsOfAntenna_36 : decode cX4_contactsOfAntenna 36 = .ok (.iinc 3 1, 3) := by decide +kernel
theorem dX4_contactsOfAntenna_39 : decode cX4_contactsOfAntenna 39 = .ok (.goto (-35), 3) := by decide +kernel
theorem dX4_contactsOfAntenna_42 : decode cX4_contactsOfAntenna 42 = .ok (.iload_n 2, 1) := by decide +kernel
theorem dX4_contactsOfAntenna_43 : decode cX4_contactsOfAntenna 43 = .ok (.ireturn, 1) := by decide +kernel
theorem dX4_busySlotsOfAntenna_0 : decode cX4_busySlotsOfAntenna 0 = .ok (.iconst 0, 1) := by decide +kernel
theorem dX4_busySlotsOfAntenna_1 : decode cX4_busySlotsOfAntenna 1 = .ok (.istore_n 2, 1) := by decide +kernel
theorem dX4_busySlotsOfAntenna_2 : decode cX4_busySlotsOfAntenna 2 = .ok (.iconst 0, 1) := by decide +kernel
theorem dX4_busySlotsOfAntenna_3 : decode cX4_busySlotsOfAntenna 3 = .ok (.istore_n 3, 1) := by decide +kernel
theorem dX4_busySlotsOfAntenna_4 : decode cX4_busySlotsOfAntenna 4 = .ok (.iload_n 3, 1) := by decide +kernel
theorem dX4_busySlotsOfAntenna_5 : decode cX4_busySlotsOfAntenna 5 = .ok (.aload_n 0, 1) := by decide +kernel
theorem dX4_busySlotsOfAntenna_6 : decode cX4_busySlotsOfAntenna 6 = .ok (.getfield 21, 3) := by decide +kernel
theorem dX4_busySlotsOfAntenna_9 : decode cX4_busySlotsOfAntenna 9 = .ok (.getfield 39, 3) := by decide +kernel
theorem dX4_busySlotsOfAntenna_12 : decode cX4_busySlotsOfAntenna 12 = .ok (.if_icmp .ge 50, 3) := by decide +kernel
theorem dX4_busySlotsOfAntenna_15 : decode cX4_busySlotsOfAntenna 15 = .ok (.iload_n 2, 1) := by decide +kernel
theorem dX4_busySlotsOfAntenna_16 : decode cX4_busySlotsOfAntenna 16 = .ok (.aload_n 0, 1) := by decide +kernel
theorem dX4_busySlotsOfAntenna_17 : decode cX4_busySlotsOfAntenna 17 = .ok (.getfield 28, 3) := by decide +kernel
theorem dX4_busySlotsOfAntenna_20 : decode cX4_busySlotsOfAntenna 20 = .ok (.getfield 49, 3) := by decide +kernel
theorem dX4_busySlotsOfAntenna_23 : decode cX4_busySlotsOfAntenna 23 = .ok (.iload_n 3, 1) := by decide +kernel
theorem dX4_busySlotsOfAntenna_24 : decode cX4_busySlotsOfAntenna 24 = .ok (.iaload, 1) := by decide +kernel
theorem dX4_busySlotsOfAntenna_25 : decode cX4_busySlotsOfAntenna 25 = .ok (.iload_n 1, 1) := by decide +kernel
theorem dX4_busySlotsOfAntenna_26 : decode cX4_busySlotsOfAntenna 26 = .ok (.if_icmp .ne 27, 3) := by decide +kernel
theorem dX4_busySlotsOfAntenna_29 : decode cX4_busySlotsOfAntenna 29 = .ok (.aload_n 0, 1) := by decide +kernel
theorem dX4_busySlotsOfAntenna_30 : decode cX4_busySlotsOfAntenna 30 = .ok (.getfield 21, 3) := by decide +kernel
theorem dX4_busySlotsOfAntenna_33 : decode cX4_busySlotsOfAntenna 33 = .ok (.getfield 59, 3) := by decide +kernel
theorem dX4_busySlotsOfAntenna_36 : decode cX4_busySlotsOfAntenna 36 = .ok (.iload_n 3, 1) := by decide +kernel
theorem dX4_busySlotsOfAntenna_37 : decode cX4_busySlotsOfAntenna 37 = .ok (.iaload, 1) := by decide +kernel
theorem dX4_busySlotsOfAntenna_38 : decode cX4_busySlotsOfAntenna 38 = .ok (.aload_n 0, 1) := by decide +kernel
theorem dX4_busySlotsOfAntenna_39 : decode cX4_busySlotsOfAntenna 39 = .ok (.getfield 21, 3) := by decide +kernel
theorem dX4_busySlotsOfAntenna_42 : decode cX4_busySlotsOfAntenna 42 = .ok (.getfield 62, 3) := by decide +kernel
theorem dX4_busySlotsOfAntenna_45 : decode cX4_busySlotsOfAntenna 45 = .ok (.iload_n 3, 1) := by decide +kernel
theorem dX4_busySlotsOfAntenna_46 : decode cX4_busySlotsOfAntenna 46 = .ok (.iaload, 1) := by decide +kernel
theorem dX4_busySlotsOfAntenna_47 : decode cX4_busySlotsOfAntenna 47 = .ok (.isub, 1) := by decide +kernel
theorem dX4_busySlotsOfAntenna_48 : decode cX4_busySlotsOfAntenna 48 = .ok (.iconst 1, 1) := by decide +kernel
theorem dX4_busySlotsOfAntenna_49 : decode cX4_busySlotsOfAntenna 49 = .ok (.iadd, 1) := by decide +kernel
theorem dX4_busySlotsOfAntenna_50 : decode cX4_busySlotsOfAntenna 50 = .ok (.goto 4, 3) := by decide +kernel
theorem dX4_busySlotsOfAntenna_53 : decode cX4_busySlotsOfAntenna 53 = .ok (.iconst 0, 1) := by decide +kernel
theorem dX4_busySlotsOfAntenna_54 : decode cX4_busySlotsOfAntenna 54 = .ok (.iadd, 1) := by decide +kernel
theorem dX4_busySlotsOfAntenna_55 : decode cX4_busySlotsOfAntenna 55 = .ok (.istore_n 2, 1) := by decide +kernel
theorem dX4_busySlotsOfAntenna_56 : decode cX4_busySlotsOfAntenna 56 = .ok (.iinc 3 1, 3) := by decide +kernel
theorem dX4_busySlotsOfAntenna_59 : decode cX4_busySlotsOfAntenna 59 = .ok (.goto (-55), 3) := by decide +kernel
theorem dX4_busySlotsOfAntenna_62 : decode cX4_busySlotsOfAntenna 62 = .ok (.iload_n 2, 1) := by decide +kernel
theorem dX4_busySlotsOfAntenna_63 : decode cX4_busySlotsOfAntenna 63 = .ok (.ireturn, 1) := by decide +kernel
theorem dX4_fits_0 : decode cX4_fits 0 = .ok (.aload_n 0, 1) := by decide +kernel
theorem dX4_fits_1 : decode cX4_fits 1 = .ok (.getfield 12, 3) := by decide +kernel
theorem dX4_fits_4 : decode cX4_fits 4 = .ok (.getfield 65, 3) := by decide +kernel
theorem dX4_fits_7 : decode cX4_fits 7 = .ok (.iload_n 2, 1) := by decide +kernel
theorem dX4_fits_8 : decode cX4_fits 8 = .ok (.iconst 0, 1) := by decide +kernel
theorem dX4_fits_9 : decode cX4_fits 9 = .ok (.invokevirtual 69, 3) := by decide +kernel
theorem dX4_fits_12 : decode cX4_fits 12 = .ok (.aload_n 0, 1) := by decide +kernel
theorem dX4_fits_13 : decode cX4_fits 13 = .ok (.getfield 21, 3) := by decide +kernel
theorem dX4_fits_16 : decode cX4_fits 16 = .ok (.getfield 74, 3) := by decide +kernel
theorem dX4_fits_19 : decode cX4_fits 19 = .ok (.iload_n 1, 1) := by decide +kernel
theorem dX4_fits_20 : decode cX4_fits 20 = .ok (.iaload, 1) := by decide +kernel
theorem dX4_fits_21 : decode cX4_fits 21 = .ok (.if_icmp .ne 23, 3) := by decide +kernel
theorem dX4_fits_24 : decode cX4_fits 24 = .ok (.aload_n 0, 1) := by decide +kernel
theorem dX4_fits_25 : decode cX4_fits 25 = .ok (.getfield 12, 3) := by decide +kernel
theorem dX4_fits_28 : decode cX4_fits 28 = .ok (.iload_n 2, 1) := by decide +kernel
theorem dX4_fits_29 : decode cX4_fits 29 = .ok (.aload_n 0, 1) := by decide +kernel
theorem dX4_fits_30 : decode cX4_fits 30 = .ok (.getfield 21, 3) := by decide +kernel
theorem dX4_fits_33 : decode cX4_fits 33 = .ok (.getfield 56, 3) := by decide +kernel
theorem dX4_fits_36 : decode cX4_fits 36 = .ok (.iload_n 1, 1) := by decide +kernel
theorem dX4_fits_37 : decode cX4_fits 37 = .ok (.iaload, 1) := by decide +kernel
theorem dX4_fits_38 : decode cX4_fits 38 = .ok (.invokevirtual 77, 3) := by decide +kernel
theorem dX4_fits_41 : decode cX4_fits 41 = .ok (.ifCond .ne 5, 3) := by decide +kernel
theorem dX4_fits_44 : decode cX4_fits 44 = .ok (.iconst 0, 1) := by decide +kernel
theorem dX4_fits_45 : decode cX4_fits 45 = .ok (.ireturn, 1) := by decide +kernel
theorem dX4_fits_46 : decode cX4_fits 46 = .ok (.aload_n 0, 1) := by decide +kernel
theorem dX4_fits_47 : decode cX4_fits 47 = .ok (.getfield 28, 3) := by decide +kernel
theorem dX4_fits_50 : decode cX4_fits 50 = .ok (.iload_n 2, 1) := by decide +kernel
theorem dX4_fits_51 : decode cX4_fits 51 = .ok (.invokevirtual 81, 3) := by decide +kernel
theorem dX4_fits_54 : decode cX4_fits 54 = .ok (.ifCond .eq 45, 3) := by decide +kernel
theorem dX4_fits_57 : decode cX4_fits 57 = .ok (.aload_n 0, 1) := by decide +kernel
theorem dX4_fits_58 : decode cX4_fits 58 = .ok (.getfield 28, 3) := by decide +kernel
theorem dX4_fits_61 : decode cX4_fits 61 = .ok (.getfield 85, 3) := by decide +kernel
theorem dX4_fits_64 : decode cX4_fits 64 = .ok (.iload_n 2, 1) := by decide +kernel
theorem dX4_fits_65 : decode cX4_fits 65 = .ok (.iaload, 1) := by decide +kernel
theorem dX4_fits_66 : decode cX4_fits 66 = .ok (.aload_n 0, 1) := by decide +kernel
theorem dX4_fits_67 : decode cX4_fits 67 = .ok (.getfield 21, 3) := by decide +kernel
theorem dX4_fits_70 : decode cX4_fits 70 = .ok (.getfield 62, 3) := by decide +kernel
theorem dX4_fits_73 : decode cX4_fits 73 = .ok (.iload_n 1, 1) := by decide +kernel
theorem dX4_fits_74 : decode cX4_fits 74 = .ok (.iaload, 1) := by decide +kernel
theorem dX4_fits_75 : decode cX4_fits 75 = .ok (.if_icmp .lt 24, 3) := by decide +kernel
theorem dX4_fits_78 : decode cX4_fits 78 = .ok (.aload_n 0, 1) := by decide +kernel
theorem dX4_fits_79 : decode cX4_fits 79 = .ok (.getfield 28, 3) := by decide +kernel
theorem dX4_fits_82 : decode cX4_fits 82 = .ok (.getfield 88, 3) := by decide +kernel
theorem dX4_fits_85 : decode cX4_fits 85 = .ok (.iload_n 2, 1) := by decide +kernel
theorem dX4_fits_86 : decode cX4_fits 86 = .ok (.iaload, 1) := by decide +kernel
theorem dX4_fits_87 : decode cX4_fits 87 = .ok (.aload_n 0, 1) := by decide +kernel
theorem dX4_fits_88 : decode cX4_fits 88 = .ok (.getfield 21, 3) := by decide +kernel
theorem dX4_fits_91 : decode cX4_fits 91 = .ok (.getfield 59, 3) := by decide +kernel
theorem dX4_fits_94 : decode cX4_fits 94 = .ok (.iload_n 1, 1) := by decide +kernel
theorem dX4_fits_95 : decode cX4_fits 95 = .ok (.iaload, 1) := by decide +kernel
theorem dX4_fits_96 : decode cX4_fits 96 = .ok (.if_icmp .le 7, 3) := by decide +kernel
theorem dX4_fits_99 : decode cX4_fits 99 = .ok (.iconst 1, 1) := by decide +kernel
theorem dX4_fits_100 : decode cX4_fits 100 = .ok (.goto 4, 3) := by decide +kernel
theorem dX4_fits_103 : decode cX4_fits 103 = .ok (.iconst 0, 1) := by decide +kernel
theorem dX4_fits_104 : decode cX4_fits 104 = .ok (.ireturn, 1) := by decide +kernel
theorem dX4_fittingAntennas_0 : decode cX4_fittingAntennas 0 = .ok (.iconst 0, 1) := by decide +kernel
theorem dX4_fittingAntennas_1 : decode cX4_fittingAntennas 1 = .ok (.istore_n 2, 1) := by decide +kernel
theorem dX4_fittingAntennas_2 : decode cX4_fittingAntennas 2 = .ok (.iconst 0, 1) := by decide +kernel
theorem dX4_fittingAntennas_3 : decode cX4_fittingAntennas 3 = .ok (.istore_n 3, 1) := by decide +kernel
theorem dX4_fittingAntennas_4 : decode cX4_fittingAntennas 4 = .ok (.iload_n 3, 1) := by decide +kernel
theorem dX4_fittingAntennas_5 : decode cX4_fittingAntennas 5 = .ok (.aload_n 0, 1) := by decide +kernel
theorem dX4_fittingAntennas_6 : decode cX4_fittingAntennas 6 = .ok (.getfield 12, 3) := by decide +kernel
theorem dX4_fittingAntennas_9 : decode cX4_fittingAntennas 9 = .ok (.getfield 65, 3) := by decide +kernel
theorem dX4_fittingAntennas_12 : decode cX4_fittingAntennas 12 = .ok (.getfield 91, 3) := by decide +kernel
theorem dX4_fittingAntennas_15 : decode cX4_fittingAntennas 15 = .ok (.if_icmp .ge 24, 3) := by decide +kernel
theorem dX4_fittingAntennas_18 : decode cX4_fittingAntennas 18 = .ok (.aload_n 0, 1) := by decide +kernel
theorem dX4_fittingAntennas_19 : decode cX4_fittingAntennas 19 = .ok (.iload_n 1, 1) := by decide +kernel
theorem dX4_fittingAntennas_20 : decode cX4_fittingAntennas 20 = .ok (.iload_n 3, 1) := by decide +kernel
theorem dX4_fittingAntennas_21 : decode cX4_fittingAntennas 21 = .ok (.invokevirtual 94, 3) := by decide +kernel
theorem dX4_fittingAntennas_24 : decode cX4_fittingAntennas 24 = .ok (.ifCond .eq 9, 3) := by decide +kernel
theorem dX4_fittingAntennas_27 : decode cX4_fittingAntennas 27 = .ok (.iload_n 2, 1) := by decide +kernel
theorem dX4_fittingAntennas_28 : decode cX4_fittingAntennas 28 = .ok (.iconst 1, 1) := by decide +kernel
theorem dX4_fittingAntennas_29 : decode cX4_fittingAntennas 29 = .ok (.iload_n 3, 1) := by decide +kernel
theorem dX4_fittingAntennas_30 : decode cX4_fittingAntennas 30 = .ok (.ishl, 1) := by decide +kernel
theorem dX4_fittingAntennas_31 : decode cX4_fittingAntennas 31 = .ok (.ior, 1) := by decide +kernel
theorem dX4_fittingAntennas_32 : decode cX4_fittingAntennas 32 = .ok (.istore_n 2, 1) := by decide +kernel
theorem dX4_fittingAntennas_33 : decode cX4_fittingAntennas 33 = .ok (.iinc 3 1, 3) := by decide +kernel
theorem dX4_fittingAntennas_36 : decode cX4_fittingAntennas 36 = .ok (.goto (-32), 3) := by decide +kernel
theorem dX4_fittingAntennas_39 : decode cX4_fittingAntennas 39 = .ok (.iload_n 2, 1) := by decide +kernel
theorem dX4_fittingAntennas_40 : decode cX4_fittingAntennas 40 = .ok (.ireturn, 1) := by decide +kernel
theorem dX4_goTogether_0 : decode cX4_goTogether 0 = .ok (.iload_n 1, 1) := by decide +kernel
theorem dX4_goTogether_1 : decode cX4_goTogether 1 = .ok (.iload_n 2, 1) := by decide +kernel
theorem dX4_goTogether_2 : decode cX4_goTogether 2 = .ok (.invokestatic 43, 3) := by decide +kernel
theorem dX4_goTogether_5 : decode cX4_goTogether 5 = .ok (.istore 4, 2) := by decide +kernel
theorem dX4_goTogether_7 : decode cX4_goTogether 7 = .ok (.iload_n 1, 1) := by decide +kernel
theorem dX4_goTogether_8 : decode cX4_goTogether 8 = .ok (.iload_n 2, 1) := by decide +kernel
theorem dX4_goTogether_9 : decode cX4_goTogether 9 = .ok (.invokestatic 97, 3) := by decide +kernel
theorem dX4_goTogether_12 : decode cX4_goTogether 12 = .ok (.istore 5, 2) := by decide +kernel
theorem dX4_goTogether_14 : decode cX4_goTogether 14 = .ok (.aload_n 0, 1) := by decide +kernel
theorem dX4_goTogether_15 : decode cX4_goTogether 15 = .ok (.getfield 21, 3) := by decide +kernel
theorem dX4_goTogether_18 : decode cX4_goTogether 18 = .ok (.getfield 62, 3) := by decide +kernel
theorem dX4_goTogether_21 : decode cX4_goTogether 21 = .ok (.iload 5, 2) := by decide +kernel
theorem dX4_goTogether_23 : decode cX4_goTogether 23 = .ok (.iaload, 1) := by decide +kernel
theorem dX4_goTogether_24 : decode cX4_goTogether 24 = .ok (.aload_n 0, 1) := by decide +kernel
theorem dX4_goTogether_25 : decode cX4_goTogether 25 = .ok (.getfield 21, 3) := by decide +kernel
theorem dX4_goTogether_28 : decode cX4_goTogether 28 = .ok (.getfield 59, 3) := by decide +kernel
theorem dX4_goTogether_31 : decode cX4_goTogether 31 = .ok (.iload 4, 2) := by decide +kernel
theorem dX4_goTogether_33 : decode cX4_goTogether 33 = .ok (.iaload, 1) := by decide +kernel
theorem dX4_goTogether_34 : decode cX4_goTogether 34 = .ok (.isub, 1) := by decide +kernel
theorem dX4_goTogether_35 : decode cX4_goTogether 35 = .ok (.aload_n 0, 1) := by decide +kernel
theorem dX4_goTogether_36 : decode cX4_goTogether 36 = .ok (.getfield 12, 3) := by decide +kernel
theorem dX4_goTogether_39 : decode cX4_goTogether 39 = .ok (.getfield 65, 3) := by decide +kernel
theorem dX4_goTogether_42 : decode cX4_goTogether 42 = .ok (.iload_n 3, 1) := by decide +kernel
theorem dX4_goTogether_43 : decode cX4_goTogether 43 = .ok (.iconst 2, 1) := by decide +kernel
theorem dX4_goTogether_44 : decode cX4_goTogether 44 = .ok (.invokevirtual 69, 3) := by decide +kernel
theorem dX4_goTogether_47 : decode cX4_goTogether 47 = .ok (.if_icmp .le 7, 3) := by decide +kernel
theorem dX4_goTogether_50 : decode cX4_goTogether 50 = .ok (.iconst 1, 1) := by decide +kernel
theorem dX4_goTogether_51 : decode cX4_goTogether 51 = .ok (.goto 4, 3) := by decide +kernel
theorem dX4_goTogether_54 : decode cX4_goTogether 54 = .ok (.iconst 0, 1) := by decide +kernel
theorem dX4_goTogether_55 : decode cX4_goTogether 55 = .ok (.ireturn, 1) := by decide +kernel
theorem dX4_clash_0 : decode cX4_clash 0 = .ok (.iload_n 2, 1) := by decide +kernel
theorem dX4_clash_1 : decode cX4_clash 1 = .ok (.iload 4, 2) := by decide +kernel
theorem dX4_clash_3 : decode cX4_clash 3 = .ok (.if_icmp .ne 15, 3) := by decide +kernel
theorem dX4_clash_6 : decode cX4_clash 6 = .ok (.aload_n 0, 1) := by decide +kernel
theorem dX4_clash_7 : decode cX4_clash 7 = .ok (.iload_n 1, 1) := by decide +kernel
theorem dX4_clash_8 : decode cX4_clash 8 = .ok (.iload_n 3, 1) := by decide +kernel
theorem dX4_clash_9 : decode cX4_clash 9 = .ok (.iload_n 2, 1) := by decide +kernel
theorem dX4_clash_10 : decode cX4_clash 10 = .ok (.invokevirtual 100, 3) := by decide +kernel
theorem dX4_clash_13 : decode cX4_clash 13 = .ok (.ifCond .ne 5, 3) := by decide +kernel
theorem dX4_clash_16 : decode cX4_clash 16 = .ok (.iconst 3, 1) := by decide +kernel
theorem dX4_clash_17 : decode cX4_clash 17 = .ok (.ireturn, 1) := by decide +kernel
theorem dX4_clash_18 : decode cX4_clash 18 = .ok (.aload_n 0, 1) := by decide +kernel
theorem dX4_clash_19 : decode cX4_clash 19 = .ok (.iload_n 1, 1) := by decide +kernel
theorem dX4_clash_20 : decode cX4_clash 20 = .ok (.iload_n 3, 1) := by decide +kernel
theorem dX4_clash_21 : decode cX4_clash 21 = .ok (.invokevirtual 104, 3) := by decide +kernel
theorem dX4_clash_24 : decode cX4_clash 24 = .ok (.ifCond .eq 7, 3) := by decide +kernel
theorem dX4_clash_27 : decode cX4_clash 27 = .ok (.iconst 4, 1) := by decide +kernel
theorem dX4_clash_28 : decode cX4_clash 28 = .ok (.goto 4, 3) := by decide +kernel
theorem dX4_clash_31 : decode cX4_clash 31 = .ok (.iconst 0, 1) := by decide +kernel
theorem dX4_clash_32 : decode cX4_clash 32 = .ok (.ireturn, 1) := by decide +kernel
theorem dX4_shareSatAndSlot_0 : decode cX4_shareSatAndSlot 0 = .ok (.aload_n 0, 1) := by decide +kernel
theorem dX4_shareSatAndSlot_1 : decode cX4_shareSatAndSlot 1 = .ok (.getfield 21, 3) := by decide +kernel
theorem dX4_shareSatAndSlot_4 : decode cX4_shareSatAndSlot 4 = .ok (.getfield 56, 3) := by decide +kernel
theorem dX4_shareSatAndSlot_7 : decode cX4_shareSatAndSlot 7 = .ok (.iload_n 1, 1) := by decide +kernel
theorem dX4_shareSatAndSlot_8 : decode cX4_shareSatAndSlot 8 = .ok (.iaload, 1) := by decide +kernel
theorem dX4_shareSatAndSlot_9 : decode cX4_shareSatAndSlot 9 = .ok (.aload_n 0, 1) := by decide +kernel
theorem dX4_shareSatAndSlot_10 : decode cX4_shareSatAndSlot 10 = .ok (.getfield 21, 3) := by decide +kernel
theorem dX4_shareSatAndSlot_13 : decode cX4_shareSatAndSlot 13 = .ok (.getfield 56, 3) := by decide +kernel
theorem dX4_shareSatAndSlot_16 : decode cX4_shareSatAndSlot 16 = .ok (.iload_n 2, 1) := by decide +kernel
theorem dX4_shareSatAndSlot_17 : decode cX4_shareSatAndSlot 17 = .ok (.iaload, 1) := by decide +kernel
theorem dX4_shareSatAndSlot_18 : decode cX4_shareSatAndSlot 18 = .ok (.if_icmp .ne 49, 3) := by decide +kernel
theorem dX4_shareSatAndSlot_21 : decode cX4_shareSatAndSlot 21 = .ok (.aload_n 0, 1) := by decide +kernel
theorem dX4_shareSatAndSlot_22 : decode cX4_shareSatAndSlot 22 = .ok (.getfield 21, 3) := by decide +kernel
theorem dX4_shareSatAndSlot_25 : decode cX4_shareSatAndSlot 25 = .ok (.getfield 62, 3) := by decide +kernel
theorem dX4_shareSatAndSlot_28 : decode cX4_shareSatAndSlot 28 = .ok (.iload_n 1, 1) := by decide +kernel
theorem dX4_shareSatAndSlot_29 : decode cX4_shareSatAndSlot 29 = .ok (.iaload, 1) := by decide +kernel
theorem dX4_shareSatAndSlot_30 : decode cX4_shareSatAndSlot 30 = .ok (.aload_n 0, 1) := by decide +kernel
theorem dX4_shareSatAndSlot_31 : decode cX4_shareSatAndSlot 31 = .ok (.getfield 21, 3) := by decide +kernel
theorem dX4_shareSatAndSlot_34 : decode cX4_shareSatAndSlot 34 = .ok (.getfield 59, 3) := by decide +kernel
theorem dX4_shareSatAndSlot_37 : decode cX4_shareSatAndSlot 37 = .ok (.iload_n 2, 1) := by decide +kernel
theorem dX4_shareSatAndSlot_38 : decode cX4_shareSatAndSlot 38 = .ok (.iaload, 1) := by decide +kernel
theorem dX4_shareSatAndSlot_39 : decode cX4_shareSatAndSlot 39 = .ok (.if_icmp .gt 28, 3) := by decide +kernel
theorem dX4_shareSatAndSlot_42 : decode cX4_shareSatAndSlot 42 = .ok (.aload_n 0, 1) := by decide +kernel
theorem dX4_shareSatAndSlot_43 : decode cX4_shareSatAndSlot 43 = .ok (.getfield 21, 3) := by decide +kernel
theorem dX4_shareSatAndSlot_46 : decode cX4_shareSatAndSlot 46 = .ok (.getfield 62, 3) := by decide +kernel
theorem dX4_shareSatAndSlot_49 : decode cX4_shareSatAndSlot 49 = .ok (.iload_n 2, 1) := by decide +kernel
theorem dX4_shareSatAndSlot_50 : decode cX4_shareSatAndSlot 50 = .ok (.iaload, 1) := by decide +kernel
theorem dX4_shareSatAndSlot_51 : decode cX4_shareSatAndSlot 51 = .ok (.aload_n 0, 1) := by decide +kernel
theorem dX4_shareSatAndSlot_52 : decode cX4_shareSatAndSlot 52 = .ok (.getfield 21, 3) := by decide +kernel
theorem dX4_shareSatAndSlot_55 : decode cX4_shareSatAndSlot 55 = .ok (.getfield 59, 3) := by decide +kernel
theorem dX4_shareSatAndSlot_58 : decode cX4_shareSatAndSlot 58 = .ok (.iload_n 1, 1) := by decide +kernel
theorem dX4_shareSatAndSlot_59 : decode cX4_shareSatAndSlot 59 = .ok (.iaload, 1) := by decide +kernel
theorem dX4_shareSatAndSlot_60 : decode cX4_shareSatAndSlot 60 = .ok (.if_icmp .gt 7, 3) := by decide +kernel
theorem dX4_shareSatAndSlot_63 : decode cX4_shareSatAndSlot 63 = .ok (.iconst 1, 1) := by decide +kernel
theorem dX4_shareSatAndSlot_64 : decode cX4_shareSatAndSlot 64 = .ok (.goto 4, 3) := by decide +kernel
theorem dX4_shareSatAndSlot_67 : decode cX4_shareSatAndSlot 67 = .ok (.iconst 0, 1) := by decide +kernel
theorem dX4_shareSatAndSlot_68 : decode cX4_shareSatAndSlot 68 = .ok (.ireturn, 1) := by decide +kernel
theorem dX4_whyNot_0 : decode cX4_whyNot 0 = .ok (.aload_n 0, 1) := by decide +kernel
theorem dX4_whyNot_1 : decode cX4_whyNot 1 = .ok (.getfield 28, 3) := by decide +kernel
theorem dX4_whyNot_4 : decode cX4_whyNot 4 = .ok (.getfield 49, 3) := by decide +kernel
theorem dX4_whyNot_7 : decode cX4_whyNot 7 = .ok (.iload_n 1, 1) := by decide +kernel
theorem dX4_whyNot_8 : decode cX4_whyNot 8 = .ok (.iaload, 1) := by decide +kernel
theorem dX4_whyNot_9 : decode cX4_whyNot 9 = .ok (.iconst (-1), 1) := by decide +kernel
theorem dX4_whyNot_10 : decode cX4_whyNot 10 = .ok (.if_icmp .eq 5, 3) := by decide +kernel
theorem dX4_whyNot_13 : decode cX4_whyNot 13 = .ok (.iconst 1, 1) := by decide +kernel
theorem dX4_whyNot_14 : decode cX4_whyNot 14 = .ok (.ireturn, 1) := by decide +kernel
theorem dX4_whyNot_15 : decode cX4_whyNot 15 = .ok (.aload_n 0, 1) := by decide +kernel
theorem dX4_whyNot_16 : decode cX4_whyNot 16 = .ok (.iload_n 1, 1) := by decide +kernel
theorem dX4_whyNot_17 : decode cX4_whyNot 17 = .ok (.iload_n 2, 1) := by decide +kernel
theorem dX4_whyNot_18 : decode cX4_whyNot 18 = .ok (.invokevirtual 94, 3) := by decide +kernel
theorem dX4_whyNot_21 : decode cX4_whyNot 21 = .ok (.ifCond .eq 16, 3) := by decide +kernel
theorem dX4_whyNot_24 : decode cX4_whyNot 24 = .ok (.aload_n 0, 1) := by decide +kernel
theorem dX4_whyNot_25 : decode cX4_whyNot 25 = .ok (.aload_n 0, 1) := by decide +kernel
theorem dX4_whyNot_26 : decode cX4_whyNot 26 = .ok (.invokevirtual 107, 3) := by decide +kernel
theorem dX4_whyNot_29 : decode cX4_whyNot 29 = .ok (.iload_n 1, 1) := by decide +kernel
theorem dX4_whyNot_30 : decode cX4_whyNot 30 = .ok (.iload_n 2, 1) := by decide +kernel
theorem dX4_whyNot_31 : decode cX4_whyNot 31 = .ok (.invokevirtual 111, 3) := by decide +kernel
theorem dX4_whyNot_34 : decode cX4_whyNot 34 = .ok (.goto 4, 3) := by decide +kernel
theorem dX4_whyNot_37 : decode cX4_whyNot 37 = .ok (.iconst 2, 1) := by decide +kernel
theorem dX4_whyNot_38 : decode cX4_whyNot 38 = .ok (.ireturn, 1) := by decide +kernel
theorem dX4_clashWith_0 : decode cX4_clashWith 0 = .ok (.iconst 0, 1) := by decide +kernel
theorem dX4_clashWith_1 : decode cX4_clashWith 1 = .ok (.istore 4, 2) := by decide +kernel
theorem dX4_clashWith_3 : decode cX4_clashWith 3 = .ok (.iconst 0, 1) := by decide +kernel
theorem dX4_clashWith_4 : decode cX4_clashWith 4 = .ok (.istore 5, 2) := by decide +kernel
theorem dX4_clashWith_6 : decode cX4_clashWith 6 = .ok (.iload 5, 2) := by decide +kernel
theorem dX4_clashWith_8 : decode cX4_clashWith 8 = .ok (.aload_n 0, 1) := by decide +kernel
theorem dX4_clashWith_9 : decode cX4_clashWith 9 = .ok (.getfield 21, 3) := by decide +kernel
theorem dX4_clashWith_12 : decode cX4_clashWith 12 = .ok (.getfield 39, 3) := by decide +kernel
theorem dX4_clashWith_15 : decode cX4_clashWith 15 = .ok (.if_icmp .ge 63, 3) := by decide +kernel
theorem dX4_clashWith_18 : decode cX4_clashWith 18 = .ok (.iload_n 1, 1) := by decide +kernel
theorem dX4_clashWith_19 : decode cX4_clashWith 19 = .ok (.iload 5, 2) := by decide +kernel
theorem dX4_clashWith_21 : decode cX4_clashWith 21 = .ok (.ishr, 1) := by decide +kernel
theorem dX4_clashWith_22 : decode cX4_clashWith 22 = .ok (.iconst 1, 1) := by decide +kernel
theorem dX4_clashWith_23 : decode cX4_clashWith 23 = .ok (.iand, 1) := by decide +kernel
theorem dX4_clashWith_24 : decode cX4_clashWith 24 = .ok (.ifCond .eq 24, 3) := by decide +kernel
theorem dX4_clashWith_27 : decode cX4_clashWith 27 = .ok (.aload_n 0, 1) := by decide +kernel
theorem dX4_clashWith_28 : decode cX4_clashWith 28 = .ok (.iload_n 2, 1) := by decide +kernel
theorem dX4_clashWith_29 : decode cX4_clashWith 29 = .ok (.iload_n 3, 1) := by decide +kernel
theorem dX4_clashWith_30 : decode cX4_clashWith 30 = .ok (.iload 5, 2) := by decide +kernel
theorem dX4_clashWith_32 : decode cX4_clashWith 32 = .ok (.aload_n 0, 1) := by decide +kernel
theorem dX4_clashWith_33 : decode cX4_clashWith 33 = .ok (.getfield 28, 3) := by decide +kernel
theorem dX4_clashWith_36 : decode cX4_clashWith 36 = .ok (.getfield 49, 3) := by decide +kernel
theorem dX4_clashWith_39 : decode cX4_clashWith 39 = .ok (.iload 5, 2) := by decide +kernel
theorem dX4_clashWith_41 : decode cX4_clashWith 41 = .ok (.iaload, 1) := by decide +kernel
theorem dX4_clashWith_42 : decode cX4_clashWith 42 = .ok (.invokevirtual 115, 3) := by decide +kernel
theorem dX4_clashWith_45 : decode cX4_clashWith 45 = .ok (.goto 4, 3) := by decide +kernel
theorem dX4_clashWith_48 : decode cX4_clashWith 48 = .ok (.iconst 0, 1) := by decide +kernel
theorem dX4_clashWith_49 : decode cX4_clashWith 49 = .ok (.istore 6, 2) := by decide +kernel
theorem dX4_clashWith_51 : decode cX4_clashWith 51 = .ok (.iload 6, 2) := by decide +kernel
theorem dX4_clashWith_53 : decode cX4_clashWith 53 = .ok (.ifCond .eq 19, 3) := by decide +kernel
theorem dX4_clashWith_56 : decode cX4_clashWith 56 = .ok (.iload 4, 2) := by decide +kernel
theorem dX4_clashWith_58 : decode cX4_clashWith 58 = .ok (.ifCond .eq 10, 3) := by decide +kernel
theorem dX4_clashWith_61 : decode cX4_clashWith 61 = .ok (.iload 6, 2) := by decide +kernel
theorem dX4_clashWith_63 : decode cX4_clashWith 63 = .ok (.iload 4, 2) := by decide +kernel
theorem dX4_clashWith_65 : decode cX4_clashWith 65 = .ok (.if_icmp .ge 7, 3) := by decide +kernel
theorem dX4_clashWith_68 : decode cX4_clashWith 68 = .ok (.iload 6, 2) := by decide +kernel
theorem dX4_clashWith_70 : decode cX4_clashWith 70 = .ok (.istore 4, 2) := by decide +kernel
theorem dX4_clashWith_72 : decode cX4_clashWith 72 = .ok (.iinc 5 1, 3) := by decide +kernel
theorem dX4_clashWith_75 : decode cX4_clashWith 75 = .ok (.goto (-69), 3) := by decide +kernel
theorem dX4_clashWith_78 : decode cX4_clashWith 78 = .ok (.iload 4, 2) := by decide +kernel
theorem dX4_clashWith_80 : decode cX4_clashWith 80 = .ok (.ireturn, 1) := by decide +kernel
theorem dX4_dropContactsThatDoNotFit_0 : decode cX4_dropContactsThatDoNotFit 0 = .ok (.iconst 0, 1) := by decide +kernel
theorem dX4_dropContactsThatDoNotFit_1 : decode cX4_dropContactsThatDoNotFit 1 = .ok (.istore_n 2, 1) := by decide +kernel
theorem dX4_dropContactsThatDoNotFit_2 : decode cX4_dropContactsThatDoNotFit 2 = .ok (.iconst 0, 1) := by decide +kernel
theorem dX4_dropContactsThatDoNotFit_3 : decode cX4_dropContactsThatDoNotFit 3 = .ok (.istore_n 3, 1) := by decide +kernel
theorem dX4_dropContactsThatDoNotFit_4 : decode cX4_dropContactsThatDoNotFit 4 = .ok (.iload_n 3, 1) := by decide +kernel
theorem dX4_dropContactsThatDoNotFit_5 : decode cX4_dropContactsThatDoNotFit 5 = .ok (.aload_n 0, 1) := by decide +kernel
theorem dX4_dropContactsThatDoNotFit_6 : decode cX4_dropContactsThatDoNotFit 6 = .ok (.getfield 21, 3) := by decide +kernel
theorem dX4_dropContactsThatDoNotFit_9 : decode cX4_dropContactsThatDoNotFit 9 = .ok (.getfield 39, 3) := by decide +kernel
theorem dX4_dropContactsThatDoNotFit_12 : decode cX4_dropContactsThatDoNotFit 12 = .ok (.if_icmp .ge 44, 3) := by decide +kernel
theorem dX4_dropContactsThatDoNotFit_15 : decode cX4_dropContactsThatDoNotFit 15 = .ok (.aload_n 0, 1) := by decide +kernel
theorem dX4_dropContactsThatDoNotFit_16 : decode cX4_dropContactsThatDoNotFit 16 = .ok (.getfield 28, 3) := by decide +kernel
theorem dX4_dropContactsThatDoNotFit_19 : decode cX4_dropContactsThatDoNotFit 19 = .ok (.getfield 49, 3) := by decide +kernel
theorem dX4_dropContactsThatDoNotFit_22 : decode cX4_dropContactsThatDoNotFit 22 = .ok (.iload_n 3, 1) := by decide +kernel
theorem dX4_dropContactsThatDoNotFit_23 : decode cX4_dropContactsThatDoNotFit 23 = .ok (.iaload, 1) := by decide +kernel
theorem dX4_dropContactsThatDoNotFit_24 : decode cX4_dropContactsThatDoNotFit 24 = .ok (.iload_n 1, 1) := by decide +kernel
theorem dX4_dropContactsThatDoNotFit_25 : decode cX4_dropContactsThatDoNotFit 25 = .ok (.if_icmp .ne 25, 3) := by decide +kernel
theorem dX4_dropContactsThatDoNotFit_28 : decode cX4_dropContactsThatDoNotFit 28 = .ok (.aload_n 0, 1) := by decide +kernel
theorem dX4_dropContactsThatDoNotFit_29 : decode cX4_dropContactsThatDoNotFit 29 = .ok (.iload_n 3, 1) := by decide +kernel
theorem dX4_dropContactsThatDoNotFit_30 : decode cX4_dropContactsThatDoNotFit 30 = .ok (.iload_n 1, 1) := by decide +kernel
theorem dX4_dropContactsThatDoNotFit_31 : decode cX4_dropContactsThatDoNotFit 31 = .ok (.invokevirtual 94, 3) := by decide +kernel
theorem dX4_dropContactsThatDoNotFit_34 : decode cX4_dropContactsThatDoNotFit 34 = .ok (.ifCond .ne 16, 3) := by decide +kernel
theorem dX4_dropContactsThatDoNotFit_37 : decode cX4_dropContactsThatDoNotFit 37 = .ok (.aload_n 0, 1) := by decide +kernel
theorem dX4_dropContactsThatDoNotFit_38 : decode cX4_dropContactsThatDoNotFit 38 = .ok (.getfield 28, 3) := by decide +kernel
theorem dX4_dropContactsThatDoNotFit_41 : decode cX4_dropContactsThatDoNotFit 41 = .ok (.getfield 49, 3) := by decide +kernel
theorem dX4_dropContactsThatDoNotFit_44 : decode cX4_dropContactsThatDoNotFit 44 = .ok (.iload_n 3, 1) := by decide +kernel
theorem dX4_dropContactsThatDoNotFit_45 : decode cX4_dropContactsThatDoNotFit 45 = .ok (.iconst (-1), 1) := by decide +kernel
theorem dX4_dropContactsThatDoNotFit_46 : decode cX4_dropContactsThatDoNotFit 46 = .ok (.iastore, 1) := by decide +kernel
theorem dX4_dropContactsThatDoNotFit_47 : decode cX4_dropContactsThatDoNotFit 47 = .ok (.iinc 2 1, 3) := by decide +kernel
theorem dX4_dropContactsThatDoNotFit_50 : decode cX4_dropContactsThatDoNotFit 50 = .ok (.iinc 3 1, 3) := by decide +kernel
theorem dX4_dropContactsThatDoNotFit_53 : decode cX4_dropContactsThatDoNotFit 53 = .ok (.goto (-49), 3) := by decide +kernel
theorem dX4_dropContactsThatDoNotFit_56 : decode cX4_dropContactsThatDoNotFit 56 = .ok (.iload_n 2, 1) := by decide +kernel
theorem dX4_dropContactsThatDoNotFit_57 : decode cX4_dropContactsThatDoNotFit 57 = .ok (.ireturn, 1) := by decide +kernel
theorem dX5_init_0 : decode cX5_init 0 = .ok (.aload_n 0, 1) := by decide +kernel
theorem dX5_init_1 : decode cX5_init 1 = .ok (.invokespecial 3, 3) := by decide +kernel
theorem dX5_init_4 : decode cX5_init 4 = .ok (.aload_n 0, 1) := by decide +kernel
theorem dX5_init_5 : decode cX5_init 5 = .ok (.bipush 24, 2) := by decide +kernel
theorem dX5_init_7 : decode cX5_init 7 = .ok (.newarray .int, 2) := by decide +kernel
theorem dX5_init_9 : decode cX5_init 9 = .ok (.putfield 9, 3) := by decide +kernel
theorem dX5_init_12 : decode cX5_init 12 = .ok (.aload_n 0, 1) := by decide +kernel
theorem dX5_init_13 : decode cX5_init 13 = .ok (.bipush 24, 2) := by decide +kernel
theorem dX5_init_15 : decode cX5_init 15 = .ok (.newarray .int, 2) := by decide +kernel
theorem dX5_init_17 : decode cX5_init 17 = .ok (.putfield 15, 3) := by decide +kernel
theorem dX5_init_20 : decode cX5_init 20 = .ok (.aload_n 0, 1) := by decide +kernel
theorem dX5_init_21 : decode cX5_init 21 = .ok (.bipush 24, 2) := by decide +kernel
theorem dX5_init_23 : decode cX5_init 23 = .ok (.newarray .int, 2) := by decide +kernel
theorem dX5_init_25 : decode cX5_init 25 = .ok (.putfield 18, 3) := by decide +kernel
theorem dX5_init_28 : decode cX5_init 28 = .ok (.aload_n 0, 1) := by decide +kernel
theorem dX5_init_29 : decode cX5_init 29 = .ok (.bipush 24, 2) := by decide +kernel
theorem dX5_init_31 : decode cX5_init 31 = .ok (.newarray .int, 2) := by decide +kernel
theorem dX5_init_33 : decode cX5_init 33 = .ok (.putfield 21, 3) := by decide +kernel
theorem dX5_init_36 : decode cX5_init 36 = .ok (.aload_n 0, 1) := by decide +kernel
theorem dX5_init_37 : decode cX5_init 37 = .ok (.bipush 24, 2) := by decide +kernel
theorem dX5_init_39 : decode cX5_init 39 = .ok (.newarray .int, 2) := by decide +kernel
theorem dX5_init_41 : decode cX5_init 41 = .ok (.putfield 24, 3) := by decide +kernel
theorem dX5_init_44 : decode cX5_init 44 = .ok (.aload_n 0, 1) := by decide +kernel
theorem dX5_init_45 : decode cX5_init 45 = .ok (.bipush 24, 2) := by decide +kernel
theorem dX5_init_47 : decode cX5_init 47 = .ok (.newarray .int, 2) := by decide +kernel
theorem dX5_init_49 : decode cX5_init 49 = .ok (.putfield 27, 3) := by decide +kernel
theorem dX5_init_52 : decode cX5_init 52 = .ok (.return_, 1) := by decide +kernel
theorem dX5_find_0 : decode cX5_find 0 = .ok (.aload_n 0, 1) := by decide +kernel
theorem dX5_find_1 : decode cX5_find 1 = .ok (.iconst 0, 1) := by decide +kernel
theorem dX5_find_2 : decode cX5_find 2 = .ok (.putfield 30, 3) := by decide +kernel
theorem dX5_find_5 : decode cX5_find 5 = .ok (.iconst 0, 1) := by decide +kernel
theorem dX5_find_6 : decode cX5_find 6 = .ok (.istore_n 2, 1) := by decide +kernel
theorem dX5_find_7 : decode cX5_find 7 = .ok (.iload_n 2, 1) := by decide +kernel
theorem dX5_find_8 : decode cX5_find 8 = .ok (.bipush 60, 2) := by decide +kernel
theorem dX5_find_10 : decode cX5_find 10 = .ok (.if_icmp .ge 86, 3) := by decide +kernel
theorem dX5_find_13 : decode cX5_find 13 = .ok (.iconst 0, 1) := by decide +kernel
theorem dX5_find_14 : decode cX5_find 14 = .ok (.istore_n 3, 1) := by decide +kernel
theorem dX5_find_15 : decode cX5_find 15 = .ok (.iload_n 3, 1) := by decide +kernel
theorem dX5_find_16 : decode cX5_find 16 = .ok (.aload_n 1, 1) := by decide +kernel
theorem dX5_find_17 : decode cX5_find 17 = .ok (.getfield 34, 3) := by decide +kernel
theorem dX5_find_20 : decode cX5_find 20 = .ok (.getfield 40, 3) := by decide +kernel
theorem dX5_find_23 : decode cX5_find 23 = .ok (.if_icmp .ge 67, 3) := by decide +kernel
theorem dX5_find_26 : decode cX5_find 26 = .ok (.iconst 0, 1) := by decide +kernel
theorem dX5_find_27 : decode cX5_find 27 = .ok (.istore 4, 2) := by decide +kernel
theorem dX5_find_29 : decode cX5_find 29 = .ok (.iload 4, 2) := by decide +kernel
theorem dX5_find_31 : decode cX5_find 31 = .ok (.aload_n 1, 1) := by decide +kernel
theorem dX5_find_32 : decode cX5_find 32 = .ok (.getfield 45, 3) := by decide +kernel
theorem dX5_find_35 : decode cX5_find 35 = .ok (.getfield 40, 3) := by decide +kernel
theorem dX5_find_38 : decode cX5_find 38 = .ok (.if_icmp .ge 46, 3) := by decide +kernel
theorem dX5_find_41 : decode cX5_find 41 = .ok (.aload_n 1, 1) := by decide +kernel
theorem dX5_find_42 : decode cX5_find 42 = .ok (.iload_n 3, 1) := by decide +kernel
theorem dX5_find_43 : decode cX5_find 43 = .ok (.iload 4, 2) := by decide +kernel
theorem dX5_find_45 : decode cX5_find 45 = .ok (.iload_n 2, 1) := by decide +kernel
theorem dX5_find_46 : decode cX5_find 46 = .ok (.invokevirtual 48, 3) := by decide +kernel
theorem dX5_find_49 : decode cX5_find 49 = .ok (.ifCond .eq 29, 3) := by decide +kernel
theorem dX5_find_52 : decode cX5_find 52 = .ok (.iload_n 2, 1) := by decide +kernel
theorem dX5_find_53 : decode cX5_find 53 = .ok (.ifCond .eq 16, 3) := by decide +kernel
theorem dX5_find_56 : decode cX5_find 56 = .ok (.aload_n 1, 1) := by decide +kernel
theorem dX5_find_57 : decode cX5_find 57 = .ok (.iload_n 3, 1) := by decide +kernel
theorem dX5_find_58 : decode cX5_find 58 = .ok (.iload 4, 2) := by decide +kernel
theorem dX5_find_60 : decode cX5_find 60 = .ok (.iload_n 2, 1) := by decide +kernel
theorem dX5_find_61 : decode cX5_find 61 = .ok (.iconst 1, 1) := by decide +kernel
theorem dX5_find_62 : decode cX5_find 62 = .ok (.isub, 1) := by decide +kernel
theorem dX5_find_63 : decode cX5_find 63 = .ok (.invokevirtual 48, 3) := by decide +kernel
theorem dX5_find_66 : decode cX5_find 66 = .ok (.ifCond .ne 12, 3) := by decide +kernel
theorem dX5_find_69 : decode cX5_find 69 = .ok (.aload_n 0, 1) := by decide +kernel
theorem dX5_find_70 : decode cX5_find 70 = .ok (.aload_n 1, 1) := by decide +kernel
theorem dX5_find_71 : decode cX5_find 71 = .ok (.iload_n 3, 1) := by decide +kernel
theorem dX5_find_72 : decode cX5_find 72 = .ok (.iload 4, 2) := by decide +kernel
theorem dX5_find_74 : decode cX5_find 74 = .ok (.iload_n 2, 1) := by decide +kernel
theorem dX5_find_75 : decode cX5_find 75 = .ok (.invokevirtual 52, 3) := by decide +kernel
theorem dX5_find_78 : decode cX5_find 78 = .ok (.iinc 4 1, 3) := by decide +kernel
theorem dX5_find_81 : decode cX5_find 81 = .ok (.goto (-52), 3) := by decide +kernel
theorem dX5_find_84 : decode cX5_find 84 = .ok (.iinc 3 1, 3) := by decide +kernel
theorem dX5_find_87 : decode cX5_find 87 = .ok (.goto (-72), 3) := by decide +kernel
theorem dX5_find_90 : decode cX5_find 90 = .ok (.iinc 2 1, 3) := by decide +kernel
theorem dX5_find_93 : decode cX5_find 93 = .ok (.goto (-86), 3) := by decide +kernel
theorem dX5_find_96 : decode cX5_find 96 = .ok (.return_, 1) := by decide +kernel
theorem dX5_append_0 : decode cX5_append 0 = .ok (.aload_n 0, 1) := by decide +kernel
theorem dX5_append_1 : decode cX5_append 1 = .ok (.getfield 30, 3) := by decide +kernel
theorem dX5_append_4 : decode cX5_append 4 = .ok (.bipush 24, 2) := by decide +kernel
theorem dX5_append_6 : decode cX5_append 6 = .ok (.if_icmp .lt 4, 3) := by decide +kernel
theorem dX5_append_9 : decode cX5_append 9 = .ok (.return_, 1) := by decide +kernel
theorem dX5_append_10 : decode cX5_append 10 = .ok (.aload_n 0, 1) := by decide +kernel
theorem dX5_append_11 : decode cX5_append 11 = .ok (.getfield 30, 3) := by decide +kernel
theorem dX5_append_14 : decode cX5_append 14 = .ok (.istore 5, 2) := by decide +kernel
theorem dX5_append_16 : decode cX5_append 16 = .ok (.aload_n 0, 1) := by decide +kernel
theorem dX5_append_17 : decode cX5_append 17 = .ok (.getfield 9, 3) := by decide +kernel
theorem dX5_append_20 : decode cX5_append 20 = .ok (.iload 5, 2) := by decide +kernel
theorem dX5_append_22 : decode cX5_append 22 = .ok (.iload 4, 2) := by decide +kernel
theorem dX5_append_24 : decode cX5_append 24 = .ok (.iastore, 1) := by decide +kernel
theorem dX5_append_25 : decode cX5_append 25 = .ok (.aload_n 0, 1) := by decide +kernel
