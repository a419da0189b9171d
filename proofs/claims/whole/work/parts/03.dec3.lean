theorem dX10_bound_17 : decode cX10_bound 17 = .ok (.istore_n 2, 1) := by decide +kernel
theorem dX10_bound_18 : decode cX10_bound 18 = .ok (.iload_n 1, 1) := by decide +kernel
theorem dX10_bound_19 : decode cX10_bound 19 = .ok (.istore_n 3, 1) := by decide +kernel
theorem dX10_bound_20 : decode cX10_bound 20 = .ok (.iload_n 3, 1) := by decide +kernel
theorem dX10_bound_21 : decode cX10_bound 21 = .ok (.iload_n 1, 1) := by decide +kernel
theorem dX10_bound_22 : decode cX10_bound 22 = .ok (.aload_n 0, 1) := by decide +kernel
theorem dX10_bound_23 : decode cX10_bound 23 = .ok (.getfield 19, 3) := by decide +kernel
theorem dX10_bound_26 : decode cX10_bound 26 = .ok (.iload_n 1, 1) := by decide +kernel
theorem dX10_bound_27 : decode cX10_bound 27 = .ok (.invokevirtual 224, 3) := by decide +kernel
theorem dX10_bound_30 : decode cX10_bound 30 = .ok (.iadd, 1) := by decide +kernel
theorem dX10_bound_31 : decode cX10_bound 31 = .ok (.if_icmp .ge 35, 3) := by decide +kernel
theorem dX10_bound_34 : decode cX10_bound 34 = .ok (.aload_n 0, 1) := by decide +kernel
theorem dX10_bound_35 : decode cX10_bound 35 = .ok (.getfield 19, 3) := by decide +kernel
theorem dX10_bound_38 : decode cX10_bound 38 = .ok (.iload_n 3, 1) := by decide +kernel
theorem dX10_bound_39 : decode cX10_bound 39 = .ok (.invokevirtual 174, 3) := by decide +kernel
theorem dX10_bound_42 : decode cX10_bound 42 = .ok (.ifCond .eq 18, 3) := by decide +kernel
theorem dX10_bound_45 : decode cX10_bound 45 = .ok (.iload_n 2, 1) := by decide +kernel
theorem dX10_bound_46 : decode cX10_bound 46 = .ok (.aload_n 0, 1) := by decide +kernel
theorem dX10_bound_47 : decode cX10_bound 47 = .ok (.getfield 19, 3) := by decide +kernel
theorem dX10_bound_50 : decode cX10_bound 50 = .ok (.getfield 146, 3) := by decide +kernel
theorem dX10_bound_53 : decode cX10_bound 53 = .ok (.getfield 165, 3) := by decide +kernel
theorem dX10_bound_56 : decode cX10_bound 56 = .ok (.iload_n 3, 1) := by decide +kernel
theorem dX10_bound_57 : decode cX10_bound 57 = .ok (.iaload, 1) := by decide +kernel
theorem dX10_bound_58 : decode cX10_bound 58 = .ok (.iadd, 1) := by decide +kernel
theorem dX10_bound_59 : decode cX10_bound 59 = .ok (.istore_n 2, 1) := by decide +kernel
theorem dX10_bound_60 : decode cX10_bound 60 = .ok (.iinc 3 1, 3) := by decide +kernel
theorem dX10_bound_63 : decode cX10_bound 63 = .ok (.goto (-43), 3) := by decide +kernel
theorem dX10_bound_66 : decode cX10_bound 66 = .ok (.iload_n 2, 1) := by decide +kernel
theorem dX10_bound_67 : decode cX10_bound 67 = .ok (.ireturn, 1) := by decide +kernel
theorem dX10_store_0 : decode cX10_store 0 = .ok (.aload_n 0, 1) := by decide +kernel
theorem dX10_store_1 : decode cX10_store 1 = .ok (.getfield 19, 3) := by decide +kernel
theorem dX10_store_4 : decode cX10_store 4 = .ok (.getfield 87, 3) := by decide +kernel
theorem dX10_store_7 : decode cX10_store 7 = .ok (.getfield 90, 3) := by decide +kernel
theorem dX10_store_10 : decode cX10_store 10 = .ok (.iload_n 1, 1) := by decide +kernel
theorem dX10_store_11 : decode cX10_store 11 = .ok (.invokevirtual 94, 3) := by decide +kernel
theorem dX10_store_14 : decode cX10_store 14 = .ok (.ifCond .eq 10, 3) := by decide +kernel
theorem dX10_store_17 : decode cX10_store 17 = .ok (.iload_n 2, 1) := by decide +kernel
theorem dX10_store_18 : decode cX10_store 18 = .ok (.invokestatic 139, 3) := by decide +kernel
theorem dX10_store_21 : decode cX10_store 21 = .ok (.ifCond .ne 5, 3) := by decide +kernel
theorem dX10_store_24 : decode cX10_store 24 = .ok (.iconst (-1), 1) := by decide +kernel
theorem dX10_store_25 : decode cX10_store 25 = .ok (.ireturn, 1) := by decide +kernel
theorem dX10_store_26 : decode cX10_store 26 = .ok (.aload_n 0, 1) := by decide +kernel
theorem dX10_store_27 : decode cX10_store 27 = .ok (.getfield 33, 3) := by decide +kernel
theorem dX10_store_30 : decode cX10_store 30 = .ok (.aload_n 0, 1) := by decide +kernel
theorem dX10_store_31 : decode cX10_store 31 = .ok (.getfield 19, 3) := by decide +kernel
theorem dX10_store_34 : decode cX10_store 34 = .ok (.iload_n 1, 1) := by decide +kernel
theorem dX10_store_35 : decode cX10_store 35 = .ok (.aload_n 0, 1) := by decide +kernel
theorem dX10_store_36 : decode cX10_store 36 = .ok (.getfield 19, 3) := by decide +kernel
theorem dX10_store_39 : decode cX10_store 39 = .ok (.invokevirtual 190, 3) := by decide +kernel
theorem dX10_store_42 : decode cX10_store 42 = .ok (.iload_n 2, 1) := by decide +kernel
theorem dX10_store_43 : decode cX10_store 43 = .ok (.invokevirtual 254, 3) := by decide +kernel
theorem dX10_store_46 : decode cX10_store 46 = .ok (.iload_n 3, 1) := by decide +kernel
theorem dX10_store_47 : decode cX10_store 47 = .ok (.tableswitch 49 0 2 #[25, 33, 41], 25) := by decide +kernel
theorem dX10_store_72 : decode cX10_store 72 = .ok (.aload_n 0, 1) := by decide +kernel
theorem dX10_store_73 : decode cX10_store 73 = .ok (.getfield 33, 3) := by decide +kernel
theorem dX10_store_76 : decode cX10_store 76 = .ok (.getfield 258, 3) := by decide +kernel
theorem dX10_store_79 : decode cX10_store 79 = .ok (.ireturn, 1) := by decide +kernel
theorem dX10_store_80 : decode cX10_store 80 = .ok (.aload_n 0, 1) := by decide +kernel
theorem dX10_store_81 : decode cX10_store 81 = .ok (.getfield 33, 3) := by decide +kernel
theorem dX10_store_84 : decode cX10_store 84 = .ok (.getfield 261, 3) := by decide +kernel
theorem dX10_store_87 : decode cX10_store 87 = .ok (.ireturn, 1) := by decide +kernel
theorem dX10_store_88 : decode cX10_store 88 = .ok (.aload_n 0, 1) := by decide +kernel
theorem dX10_store_89 : decode cX10_store 89 = .ok (.getfield 33, 3) := by decide +kernel
theorem dX10_store_92 : decode cX10_store 92 = .ok (.getfield 264, 3) := by decide +kernel
theorem dX10_store_95 : decode cX10_store 95 = .ok (.ireturn, 1) := by decide +kernel
theorem dX10_store_96 : decode cX10_store 96 = .ok (.iconst (-1), 1) := by decide +kernel
theorem dX10_store_97 : decode cX10_store 97 = .ok (.ireturn, 1) := by decide +kernel
theorem dX10_over_0 : decode cX10_over 0 = .ok (.aload_n 0, 1) := by decide +kernel
theorem dX10_over_1 : decode cX10_over 1 = .ok (.getfield 19, 3) := by decide +kernel
theorem dX10_over_4 : decode cX10_over 4 = .ok (.getfield 87, 3) := by decide +kernel
theorem dX10_over_7 : decode cX10_over 7 = .ok (.getfield 90, 3) := by decide +kernel
theorem dX10_over_10 : decode cX10_over 10 = .ok (.iload_n 1, 1) := by decide +kernel
theorem dX10_over_11 : decode cX10_over 11 = .ok (.invokevirtual 94, 3) := by decide +kernel
theorem dX10_over_14 : decode cX10_over 14 = .ok (.ifCond .ne 5, 3) := by decide +kernel
theorem dX10_over_17 : decode cX10_over 17 = .ok (.iconst (-1), 1) := by decide +kernel
theorem dX10_over_18 : decode cX10_over 18 = .ok (.ireturn, 1) := by decide +kernel
theorem dX10_over_19 : decode cX10_over 19 = .ok (.aload_n 0, 1) := by decide +kernel
theorem dX10_over_20 : decode cX10_over 20 = .ok (.getfield 33, 3) := by decide +kernel
theorem dX10_over_23 : decode cX10_over 23 = .ok (.aload_n 0, 1) := by decide +kernel
theorem dX10_over_24 : decode cX10_over 24 = .ok (.getfield 19, 3) := by decide +kernel
theorem dX10_over_27 : decode cX10_over 27 = .ok (.iload_n 1, 1) := by decide +kernel
theorem dX10_over_28 : decode cX10_over 28 = .ok (.aload_n 0, 1) := by decide +kernel
theorem dX10_over_29 : decode cX10_over 29 = .ok (.getfield 19, 3) := by decide +kernel
theorem dX10_over_32 : decode cX10_over 32 = .ok (.invokevirtual 190, 3) := by decide +kernel
theorem dX10_over_35 : decode cX10_over 35 = .ok (.bipush 59, 2) := by decide +kernel
theorem dX10_over_37 : decode cX10_over 37 = .ok (.invokevirtual 254, 3) := by decide +kernel
theorem dX10_over_40 : decode cX10_over 40 = .ok (.aload_n 0, 1) := by decide +kernel
theorem dX10_over_41 : decode cX10_over 41 = .ok (.getfield 33, 3) := by decide +kernel
theorem dX10_over_44 : decode cX10_over 44 = .ok (.getfield 267, 3) := by decide +kernel
theorem dX10_over_47 : decode cX10_over 47 = .ok (.ireturn, 1) := by decide +kernel
theorem dX10_count_0 : decode cX10_count 0 = .ok (.iload_n 1, 1) := by decide +kernel
theorem dX10_count_1 : decode cX10_count 1 = .ok (.tableswitch 188 0 9 #[55, 69, 83, 97, 108, 119, 127, 135, 154, 173], 55) := by decide +kernel
theorem dX10_count_56 : decode cX10_count 56 = .ok (.aload_n 0, 1) := by decide +kernel
theorem dX10_count_57 : decode cX10_count 57 = .ok (.getfield 19, 3) := by decide +kernel
theorem dX10_count_60 : decode cX10_count 60 = .ok (.getfield 87, 3) := by decide +kernel
theorem dX10_count_63 : decode cX10_count 63 = .ok (.getfield 90, 3) := by decide +kernel
theorem dX10_count_66 : decode cX10_count 66 = .ok (.getfield 270, 3) := by decide +kernel
theorem dX10_count_69 : decode cX10_count 69 = .ok (.ireturn, 1) := by decide +kernel
theorem dX10_count_70 : decode cX10_count 70 = .ok (.aload_n 0, 1) := by decide +kernel
theorem dX10_count_71 : decode cX10_count 71 = .ok (.getfield 19, 3) := by decide +kernel
theorem dX10_count_74 : decode cX10_count 74 = .ok (.getfield 87, 3) := by decide +kernel
theorem dX10_count_77 : decode cX10_count 77 = .ok (.getfield 136, 3) := by decide +kernel
theorem dX10_count_80 : decode cX10_count 80 = .ok (.getfield 270, 3) := by decide +kernel
theorem dX10_count_83 : decode cX10_count 83 = .ok (.ireturn, 1) := by decide +kernel
theorem dX10_count_84 : decode cX10_count 84 = .ok (.aload_n 0, 1) := by decide +kernel
theorem dX10_count_85 : decode cX10_count 85 = .ok (.getfield 19, 3) := by decide +kernel
theorem dX10_count_88 : decode cX10_count 88 = .ok (.getfield 87, 3) := by decide +kernel
theorem dX10_count_91 : decode cX10_count 91 = .ok (.getfield 111, 3) := by decide +kernel
theorem dX10_count_94 : decode cX10_count 94 = .ok (.getfield 270, 3) := by decide +kernel
theorem dX10_count_97 : decode cX10_count 97 = .ok (.ireturn, 1) := by decide +kernel
theorem dX10_count_98 : decode cX10_count 98 = .ok (.aload_n 0, 1) := by decide +kernel
theorem dX10_count_99 : decode cX10_count 99 = .ok (.getfield 19, 3) := by decide +kernel
theorem dX10_count_102 : decode cX10_count 102 = .ok (.getfield 146, 3) := by decide +kernel
theorem dX10_count_105 : decode cX10_count 105 = .ok (.getfield 273, 3) := by decide +kernel
theorem dX10_count_108 : decode cX10_count 108 = .ok (.ireturn, 1) := by decide +kernel
theorem dX10_count_109 : decode cX10_count 109 = .ok (.aload_n 0, 1) := by decide +kernel
theorem dX10_count_110 : decode cX10_count 110 = .ok (.getfield 19, 3) := by decide +kernel
theorem dX10_count_113 : decode cX10_count 113 = .ok (.invokevirtual 190, 3) := by decide +kernel
theorem dX10_count_116 : decode cX10_count 116 = .ok (.invokestatic 193, 3) := by decide +kernel
theorem dX10_count_119 : decode cX10_count 119 = .ok (.ireturn, 1) := by decide +kernel
theorem dX10_count_120 : decode cX10_count 120 = .ok (.aload_n 0, 1) := by decide +kernel
theorem dX10_count_121 : decode cX10_count 121 = .ok (.getfield 26, 3) := by decide +kernel
theorem dX10_count_124 : decode cX10_count 124 = .ok (.getfield 201, 3) := by decide +kernel
theorem dX10_count_127 : decode cX10_count 127 = .ok (.ireturn, 1) := by decide +kernel
theorem dX10_count_128 : decode cX10_count 128 = .ok (.aload_n 0, 1) := by decide +kernel
theorem dX10_count_129 : decode cX10_count 129 = .ok (.getfield 10, 3) := by decide +kernel
theorem dX10_count_132 : decode cX10_count 132 = .ok (.getfield 80, 3) := by decide +kernel
theorem dX10_count_135 : decode cX10_count 135 = .ok (.ireturn, 1) := by decide +kernel
theorem dX10_count_136 : decode cX10_count 136 = .ok (.aload_n 0, 1) := by decide +kernel
theorem dX10_count_137 : decode cX10_count 137 = .ok (.getfield 33, 3) := by decide +kernel
theorem dX10_count_140 : decode cX10_count 140 = .ok (.aload_n 0, 1) := by decide +kernel
theorem dX10_count_141 : decode cX10_count 141 = .ok (.getfield 19, 3) := by decide +kernel
theorem dX10_count_144 : decode cX10_count 144 = .ok (.aload_n 0, 1) := by decide +kernel
theorem dX10_count_145 : decode cX10_count 145 = .ok (.getfield 19, 3) := by decide +kernel
theorem dX10_count_148 : decode cX10_count 148 = .ok (.invokevirtual 190, 3) := by decide +kernel
theorem dX10_count_151 : decode cX10_count 151 = .ok (.invokevirtual 276, 3) := by decide +kernel
theorem dX10_count_154 : decode cX10_count 154 = .ok (.ireturn, 1) := by decide +kernel
theorem dX10_count_155 : decode cX10_count 155 = .ok (.aload_n 0, 1) := by decide +kernel
theorem dX10_count_156 : decode cX10_count 156 = .ok (.getfield 33, 3) := by decide +kernel
theorem dX10_count_159 : decode cX10_count 159 = .ok (.aload_n 0, 1) := by decide +kernel
theorem dX10_count_160 : decode cX10_count 160 = .ok (.getfield 19, 3) := by decide +kernel
theorem dX10_count_163 : decode cX10_count 163 = .ok (.aload_n 0, 1) := by decide +kernel
theorem dX10_count_164 : decode cX10_count 164 = .ok (.getfield 19, 3) := by decide +kernel
theorem dX10_count_167 : decode cX10_count 167 = .ok (.invokevirtual 190, 3) := by decide +kernel
theorem dX10_count_170 : decode cX10_count 170 = .ok (.invokevirtual 238, 3) := by decide +kernel
theorem dX10_count_173 : decode cX10_count 173 = .ok (.ireturn, 1) := by decide +kernel
theorem dX10_count_174 : decode cX10_count 174 = .ok (.aload_n 0, 1) := by decide +kernel
theorem dX10_count_175 : decode cX10_count 175 = .ok (.getfield 19, 3) := by decide +kernel
theorem dX10_count_178 : decode cX10_count 178 = .ok (.aload_n 0, 1) := by decide +kernel
theorem dX10_count_179 : decode cX10_count 179 = .ok (.getfield 19, 3) := by decide +kernel
theorem dX10_count_182 : decode cX10_count 182 = .ok (.invokevirtual 190, 3) := by decide +kernel
theorem dX10_count_185 : decode cX10_count 185 = .ok (.invokevirtual 233, 3) := by decide +kernel
theorem dX10_count_188 : decode cX10_count 188 = .ok (.ireturn, 1) := by decide +kernel
theorem dX10_count_189 : decode cX10_count 189 = .ok (.iconst (-1), 1) := by decide +kernel
theorem dX10_count_190 : decode cX10_count 190 = .ok (.ireturn, 1) := by decide +kernel
theorem dX10_layText_0 : decode cX10_layText 0 = .ok (.aload_n 0, 1) := by decide +kernel
theorem dX10_layText_1 : decode cX10_layText 1 = .ok (.getfield 54, 3) := by decide +kernel
theorem dX10_layText_4 : decode cX10_layText 4 = .ok (.aload_n 0, 1) := by decide +kernel
theorem dX10_layText_5 : decode cX10_layText 5 = .ok (.getfield 10, 3) := by decide +kernel
theorem dX10_layText_8 : decode cX10_layText 8 = .ok (.invokevirtual 83, 3) := by decide +kernel
theorem dX10_layText_11 : decode cX10_layText 11 = .ok (.bipush (-4), 2) := by decide +kernel
theorem dX10_layText_13 : decode cX10_layText 13 = .ok (.if_icmp .eq 6, 3) := by decide +kernel
theorem dX10_layText_16 : decode cX10_layText 16 = .ok (.bipush (-2), 2) := by decide +kernel
theorem dX10_layText_18 : decode cX10_layText 18 = .ok (.ireturn, 1) := by decide +kernel
theorem dX10_layText_19 : decode cX10_layText 19 = .ok (.aload_n 0, 1) := by decide +kernel
theorem dX10_layText_20 : decode cX10_layText 20 = .ok (.getfield 19, 3) := by decide +kernel
theorem dX10_layText_23 : decode cX10_layText 23 = .ok (.getfield 87, 3) := by decide +kernel
theorem dX10_layText_26 : decode cX10_layText 26 = .ok (.astore_n 1, 1) := by decide +kernel
theorem dX10_layText_27 : decode cX10_layText 27 = .ok (.aload_n 0, 1) := by decide +kernel
theorem dX10_layText_28 : decode cX10_layText 28 = .ok (.getfield 19, 3) := by decide +kernel
theorem dX10_layText_31 : decode cX10_layText 31 = .ok (.aload_n 0, 1) := by decide +kernel
theorem dX10_layText_32 : decode cX10_layText 32 = .ok (.getfield 54, 3) := by decide +kernel
theorem dX10_layText_35 : decode cX10_layText 35 = .ok (.invokevirtual 279, 3) := by decide +kernel
theorem dX10_layText_38 : decode cX10_layText 38 = .ok (.aload_n 0, 1) := by decide +kernel
theorem dX10_layText_39 : decode cX10_layText 39 = .ok (.aload_n 1, 1) := by decide +kernel
theorem dX10_layText_40 : decode cX10_layText 40 = .ok (.putfield 54, 3) := by decide +kernel
theorem dX10_layText_43 : decode cX10_layText 43 = .ok (.aload_n 0, 1) := by decide +kernel
theorem dX10_layText_44 : decode cX10_layText 44 = .ok (.getfield 26, 3) := by decide +kernel
theorem dX10_layText_47 : decode cX10_layText 47 = .ok (.invokevirtual 283, 3) := by decide +kernel
theorem dX10_layText_50 : decode cX10_layText 50 = .ok (.aload_n 0, 1) := by decide +kernel
theorem dX10_layText_51 : decode cX10_layText 51 = .ok (.getfield 47, 3) := by decide +kernel
theorem dX10_layText_54 : decode cX10_layText 54 = .ok (.invokevirtual 204, 3) := by decide +kernel
theorem dX10_layText_57 : decode cX10_layText 57 = .ok (.aload_n 0, 1) := by decide +kernel
theorem dX10_layText_58 : decode cX10_layText 58 = .ok (.getfield 19, 3) := by decide +kernel
theorem dX10_layText_61 : decode cX10_layText 61 = .ok (.getfield 146, 3) := by decide +kernel
theorem dX10_layText_64 : decode cX10_layText 64 = .ok (.getfield 273, 3) := by decide +kernel
theorem dX10_layText_67 : decode cX10_layText 67 = .ok (.ireturn, 1) := by decide +kernel
theorem dX10_prepareChange_0 : decode cX10_prepareChange 0 = .ok (.aload_n 0, 1) := by decide +kernel
theorem dX10_prepareChange_1 : decode cX10_prepareChange 1 = .ok (.getfield 26, 3) := by decide +kernel
theorem dX10_prepareChange_4 : decode cX10_prepareChange 4 = .ok (.aload_n 0, 1) := by decide +kernel
theorem dX10_prepareChange_5 : decode cX10_prepareChange 5 = .ok (.getfield 19, 3) := by decide +kernel
theorem dX10_prepareChange_8 : decode cX10_prepareChange 8 = .ok (.getfield 114, 3) := by decide +kernel
theorem dX10_prepareChange_11 : decode cX10_prepareChange 11 = .ok (.invokevirtual 284, 3) := by decide +kernel
theorem dX10_prepareChange_14 : decode cX10_prepareChange 14 = .ok (.aload_n 0, 1) := by decide +kernel
theorem dX10_prepareChange_15 : decode cX10_prepareChange 15 = .ok (.getfield 47, 3) := by decide +kernel
theorem dX10_prepareChange_18 : decode cX10_prepareChange 18 = .ok (.invokevirtual 204, 3) := by decide +kernel
theorem dX10_prepareChange_21 : decode cX10_prepareChange 21 = .ok (.return_, 1) := by decide +kernel
theorem dX10_isBadPlan_0 : decode cX10_isBadPlan 0 = .ok (.iload_n 1, 1) := by decide +kernel
theorem dX10_isBadPlan_1 : decode cX10_isBadPlan 1 = .ok (.ifCond .lt 32, 3) := by decide +kernel
theorem dX10_isBadPlan_4 : decode cX10_isBadPlan 4 = .ok (.iload_n 1, 1) := by decide +kernel
theorem dX10_isBadPlan_5 : decode cX10_isBadPlan 5 = .ok (.iconst 1, 1) := by decide +kernel
theorem dX10_isBadPlan_6 : decode cX10_isBadPlan 6 = .ok (.if_icmp .gt 27, 3) := by decide +kernel
theorem dX10_isBadPlan_9 : decode cX10_isBadPlan 9 = .ok (.aload_n 0, 1) := by decide +kernel
theorem dX10_isBadPlan_10 : decode cX10_isBadPlan 10 = .ok (.getfield 19, 3) := by decide +kernel
theorem dX10_isBadPlan_13 : decode cX10_isBadPlan 13 = .ok (.getfield 146, 3) := by decide +kernel
theorem dX10_isBadPlan_16 : decode cX10_isBadPlan 16 = .ok (.iload_n 2, 1) := by decide +kernel
theorem dX10_isBadPlan_17 : decode cX10_isBadPlan 17 = .ok (.invokevirtual 150, 3) := by decide +kernel
theorem dX10_isBadPlan_20 : decode cX10_isBadPlan 20 = .ok (.ifCond .eq 13, 3) := by decide +kernel
theorem dX10_isBadPlan_23 : decode cX10_isBadPlan 23 = .ok (.iload_n 3, 1) := by decide +kernel
theorem dX10_isBadPlan_24 : decode cX10_isBadPlan 24 = .ok (.ifCond .lt 9, 3) := by decide +kernel
theorem dX10_isBadPlan_27 : decode cX10_isBadPlan 27 = .ok (.iload_n 3, 1) := by decide +kernel
theorem dX10_isBadPlan_28 : decode cX10_isBadPlan 28 = .ok (.bipush 6, 2) := by decide +kernel
theorem dX10_isBadPlan_30 : decode cX10_isBadPlan 30 = .ok (.if_icmp .le 7, 3) := by decide +kernel
theorem dX10_isBadPlan_33 : decode cX10_isBadPlan 33 = .ok (.iconst 1, 1) := by decide +kernel
theorem dX10_isBadPlan_34 : decode cX10_isBadPlan 34 = .ok (.goto 4, 3) := by decide +kernel
theorem dX10_isBadPlan_37 : decode cX10_isBadPlan 37 = .ok (.iconst 0, 1) := by decide +kernel
theorem dX10_isBadPlan_38 : decode cX10_isBadPlan 38 = .ok (.ireturn, 1) := by decide +kernel
theorem dX10_isSlot_0 : decode cX10_isSlot 0 = .ok (.iload_n 0, 1) := by decide +kernel
theorem dX10_isSlot_1 : decode cX10_isSlot 1 = .ok (.ifCond .lt 13, 3) := by decide +kernel
theorem dX10_isSlot_4 : decode cX10_isSlot 4 = .ok (.iload_n 0, 1) := by decide +kernel
theorem dX10_isSlot_5 : decode cX10_isSlot 5 = .ok (.bipush 60, 2) := by decide +kernel
theorem dX10_isSlot_7 : decode cX10_isSlot 7 = .ok (.if_icmp .ge 7, 3) := by decide +kernel
theorem dX10_isSlot_10 : decode cX10_isSlot 10 = .ok (.iconst 1, 1) := by decide +kernel
theorem dX10_isSlot_11 : decode cX10_isSlot 11 = .ok (.goto 4, 3) := by decide +kernel
theorem dX10_isSlot_14 : decode cX10_isSlot 14 = .ok (.iconst 0, 1) := by decide +kernel
theorem dX10_isSlot_15 : decode cX10_isSlot 15 = .ok (.ireturn, 1) := by decide +kernel
theorem dX10_antennaOrNone_0 : decode cX10_antennaOrNone 0 = .ok (.iload_n 0, 1) := by decide +kernel
theorem dX10_antennaOrNone_1 : decode cX10_antennaOrNone 1 = .ok (.iconst (-1), 1) := by decide +kernel
theorem dX10_antennaOrNone_2 : decode cX10_antennaOrNone 2 = .ok (.if_icmp .ne 8, 3) := by decide +kernel
theorem dX10_antennaOrNone_5 : decode cX10_antennaOrNone 5 = .ok (.bipush (-4), 2) := by decide +kernel
theorem dX10_antennaOrNone_7 : decode cX10_antennaOrNone 7 = .ok (.goto 4, 3) := by decide +kernel
theorem dX10_antennaOrNone_10 : decode cX10_antennaOrNone 10 = .ok (.iload_n 0, 1) := by decide +kernel
theorem dX10_antennaOrNone_11 : decode cX10_antennaOrNone 11 = .ok (.ireturn, 1) := by decide +kernel
theorem dX11_init_0 : decode cX11_init 0 = .ok (.aload_n 0, 1) := by decide +kernel
theorem dX11_init_1 : decode cX11_init 1 = .ok (.invokespecial 1, 3) := by decide +kernel
theorem dX11_init_4 : decode cX11_init 4 = .ok (.aload_n 0, 1) := by decide +kernel
theorem dX11_init_5 : decode cX11_init 5 = .ok (.sipush 200, 3) := by decide +kernel
theorem dX11_init_8 : decode cX11_init 8 = .ok (.newarray .int, 2) := by decide +kernel
theorem dX11_init_10 : decode cX11_init 10 = .ok (.putfield 7, 3) := by decide +kernel
theorem dX11_init_13 : decode cX11_init 13 = .ok (.aload_n 0, 1) := by decide +kernel
theorem dX11_init_14 : decode cX11_init 14 = .ok (.bipush 20, 2) := by decide +kernel
theorem dX11_init_16 : decode cX11_init 16 = .ok (.newarray .int, 2) := by decide +kernel
theorem dX11_init_18 : decode cX11_init 18 = .ok (.putfield 13, 3) := by decide +kernel
theorem dX11_init_21 : decode cX11_init 21 = .ok (.aload_n 0, 1) := by decide +kernel
theorem dX11_init_22 : decode cX11_init 22 = .ok (.bipush 6, 2) := by decide +kernel
theorem dX11_init_24 : decode cX11_init 24 = .ok (.newarray .int, 2) := by decide +kernel
theorem dX11_init_26 : decode cX11_init 26 = .ok (.putfield 16, 3) := by decide +kernel
theorem dX11_init_29 : decode cX11_init 29 = .ok (.aload_n 0, 1) := by decide +kernel
theorem dX11_init_30 : decode cX11_init 30 = .ok (.bipush 12, 2) := by decide +kernel
theorem dX11_init_32 : decode cX11_init 32 = .ok (.newarray .int, 2) := by decide +kernel
theorem dX11_init_34 : decode cX11_init 34 = .ok (.putfield 19, 3) := by decide +kernel
theorem dX11_init_37 : decode cX11_init 37 = .ok (.aload_n 0, 1) := by decide +kernel
theorem dX11_init_38 : decode cX11_init 38 = .ok (.iconst 3, 1) := by decide +kernel
theorem dX11_init_39 : decode cX11_init 39 = .ok (.newarray .int, 2) := by decide +kernel
theorem dX11_init_41 : decode cX11_init 41 = .ok (.putfield 22, 3) := by decide +kernel
theorem dX11_init_44 : decode cX11_init 44 = .ok (.aload_n 0, 1) := by decide +kernel
theorem dX11_init_45 : decode cX11_init 45 = .ok (.bipush 20, 2) := by decide +kernel
theorem dX11_init_47 : decode cX11_init 47 = .ok (.newarray .int, 2) := by decide +kernel
theorem dX11_init_49 : decode cX11_init 49 = .ok (.putfield 25, 3) := by decide +kernel
theorem dX11_init_52 : decode cX11_init 52 = .ok (.aload_n 0, 1) := by decide +kernel
theorem dX11_init_53 : decode cX11_init 53 = .ok (.bipush 6, 2) := by decide +kernel
theorem dX11_init_55 : decode cX11_init 55 = .ok (.newarray .int, 2) := by decide +kernel
theorem dX11_init_57 : decode cX11_init 57 = .ok (.putfield 28, 3) := by decide +kernel
theorem dX11_init_60 : decode cX11_init 60 = .ok (.aload_n 0, 1) := by decide +kernel
theorem dX11_init_61 : decode cX11_init 61 = .ok (.bipush 12, 2) := by decide +kernel
theorem dX11_init_63 : decode cX11_init 63 = .ok (.newarray .int, 2) := by decide +kernel
theorem dX11_init_65 : decode cX11_init 65 = .ok (.putfield 31, 3) := by decide +kernel
theorem dX11_init_68 : decode cX11_init 68 = .ok (.aload_n 0, 1) := by decide +kernel
theorem dX11_init_69 : decode cX11_init 69 = .ok (.iconst 3, 1) := by decide +kernel
theorem dX11_init_70 : decode cX11_init 70 = .ok (.newarray .int, 2) := by decide +kernel
theorem dX11_init_72 : decode cX11_init 72 = .ok (.putfield 34, 3) := by decide +kernel
theorem dX11_init_75 : decode cX11_init 75 = .ok (.aload_n 0, 1) := by decide +kernel
theorem dX11_init_76 : decode cX11_init 76 = .ok (.bipush 24, 2) := by decide +kernel
theorem dX11_init_78 : decode cX11_init 78 = .ok (.newarray .int, 2) := by decide +kernel
theorem dX11_init_80 : decode cX11_init 80 = .ok (.putfield 37, 3) := by decide +kernel
theorem dX11_init_83 : decode cX11_init 83 = .ok (.aload_n 0, 1) := by decide +kernel
theorem dX11_init_84 : decode cX11_init 84 = .ok (.bipush 24, 2) := by decide +kernel
theorem dX11_init_86 : decode cX11_init 86 = .ok (.newarray .int, 2) := by decide +kernel
theorem dX11_init_88 : decode cX11_init 88 = .ok (.putfield 40, 3) := by decide +kernel
theorem dX11_init_91 : decode cX11_init 91 = .ok (.aload_n 0, 1) := by decide +kernel
theorem dX11_init_92 : decode cX11_init 92 = .ok (.bipush 24, 2) := by decide +kernel
theorem dX11_init_94 : decode cX11_init 94 = .ok (.newarray .int, 2) := by decide +kernel
theorem dX11_init_96 : decode cX11_init 96 = .ok (.putfield 43, 3) := by decide +kernel
theorem dX11_init_99 : decode cX11_init 99 = .ok (.aload_n 0, 1) := by decide +kernel
theorem dX11_init_100 : decode cX11_init 100 = .ok (.bipush 24, 2) := by decide +kernel
theorem dX11_init_102 : decode cX11_init 102 = .ok (.newarray .int, 2) := by decide +kernel
theorem dX11_init_104 : decode cX11_init 104 = .ok (.putfield 46, 3) := by decide +kernel
theorem dX11_init_107 : decode cX11_init 107 = .ok (.aload_n 0, 1) := by decide +kernel
theorem dX11_init_108 : decode cX11_init 108 = .ok (.bipush 24, 2) := by decide +kernel
theorem dX11_init_110 : decode cX11_init 110 = .ok (.newarray .int, 2) := by decide +kernel
theorem dX11_init_112 : decode cX11_init 112 = .ok (.putfield 49, 3) := by decide +kernel
theorem dX11_init_115 : decode cX11_init 115 = .ok (.aload_n 0, 1) := by decide +kernel
theorem dX11_init_116 : decode cX11_init 116 = .ok (.bipush 32, 2) := by decide +kernel
theorem dX11_init_118 : decode cX11_init 118 = .ok (.newarray .int, 2) := by decide +kernel
theorem dX11_init_120 : decode cX11_init 120 = .ok (.putfield 52, 3) := by decide +kernel
theorem dX11_init_123 : decode cX11_init 123 = .ok (.aload_n 0, 1) := by decide +kernel
theorem dX11_init_124 : decode cX11_init 124 = .ok (.sipush 192, 3) := by decide +kernel
theorem dX11_init_127 : decode cX11_init 127 = .ok (.newarray .int, 2) := by decide +kernel
theorem dX11_init_129 : decode cX11_init 129 = .ok (.putfield 55, 3) := by decide +kernel
theorem dX11_init_132 : decode cX11_init 132 = .ok (.aload_n 0, 1) := by decide +kernel
theorem dX11_init_133 : decode cX11_init 133 = .ok (.bipush 25, 2) := by decide +kernel
theorem dX11_init_135 : decode cX11_init 135 = .ok (.newarray .int, 2) := by decide +kernel
theorem dX11_init_137 : decode cX11_init 137 = .ok (.putfield 58, 3) := by decide +kernel
theorem dX11_init_140 : decode cX11_init 140 = .ok (.aload_n 0, 1) := by decide +kernel
theorem dX11_init_141 : decode cX11_init 141 = .ok (.bipush 25, 2) := by decide +kernel
theorem dX11_init_143 : decode cX11_init 143 = .ok (.newarray .int, 2) := by decide +kernel
theorem dX11_init_145 : decode cX11_init 145 = .ok (.putfield 61, 3) := by decide +kernel
theorem dX11_init_148 : decode cX11_init 148 = .ok (.aload_n 0, 1) := by decide +kernel
theorem dX11_init_149 : decode cX11_init 149 = .ok (.bipush 25, 2) := by decide +kernel
theorem dX11_init_151 : decode cX11_init 151 = .ok (.newarray .int, 2) := by decide +kernel
theorem dX11_init_153 : decode cX11_init 153 = .ok (.putfield 64, 3) := by decide +kernel
theorem dX11_init_156 : decode cX11_init 156 = .ok (.aload_n 0, 1) := by decide +kernel
theorem dX11_init_157 : decode cX11_init 157 = .ok (.bipush 24, 2) := by decide +kernel
theorem dX11_init_159 : decode cX11_init 159 = .ok (.newarray .int, 2) := by decide +kernel
theorem dX11_init_161 : decode cX11_init 161 = .ok (.putfield 67, 3) := by decide +kernel
theorem dX11_init_164 : decode cX11_init 164 = .ok (.aload_n 0, 1) := by decide +kernel
theorem dX11_init_165 : decode cX11_init 165 = .ok (.bipush 6, 2) := by decide +kernel
theorem dX11_init_167 : decode cX11_init 167 = .ok (.newarray .int, 2) := by decide +kernel
theorem dX11_init_169 : decode cX11_init 169 = .ok (.putfield 70, 3) := by decide +kernel
theorem dX11_init_172 : decode cX11_init 172 = .ok (.aload_n 0, 1) := by decide +kernel
theorem dX11_init_173 : decode cX11_init 173 = .ok (.iconst 4, 1) := by decide +kernel
theorem dX11_init_174 : decode cX11_init 174 = .ok (.newarray .int, 2) := by decide +kernel
theorem dX11_init_176 : decode cX11_init 176 = .ok (.putfield 73, 3) := by decide +kernel
theorem dX11_init_179 : decode cX11_init 179 = .ok (.aload_n 0, 1) := by decide +kernel
theorem dX11_init_180 : decode cX11_init 180 = .ok (.iconst 4, 1) := by decide +kernel
theorem dX11_init_181 : decode cX11_init 181 = .ok (.newarray .int, 2) := by decide +kernel
theorem dX11_init_183 : decode cX11_init 183 = .ok (.putfield 76, 3) := by decide +kernel
theorem dX11_init_186 : decode cX11_init 186 = .ok (.aload_n 0, 1) := by decide +kernel
theorem dX11_init_187 : decode cX11_init 187 = .ok (.sipush 240, 3) := by decide +kernel
theorem dX11_init_190 : decode cX11_init 190 = .ok (.newarray .int, 2) := by decide +kernel
theorem dX11_init_192 : decode cX11_init 192 = .ok (.putfield 79, 3) := by decide +kernel
theorem dX11_init_195 : decode cX11_init 195 = .ok (.aload_n 0, 1) := by decide +kernel
theorem dX11_init_196 : decode cX11_init 196 = .ok (.iconst 0, 1) := by decide +kernel
theorem dX11_init_197 : decode cX11_init 197 = .ok (.iconst 0, 1) := by decide +kernel
theorem dX11_init_198 : decode cX11_init 198 = .ok (.bipush 20, 2) := by decide +kernel
theorem dX11_init_200 : decode cX11_init 200 = .ok (.iconst 0, 1) := by decide +kernel
theorem dX11_init_201 : decode cX11_init 201 = .ok (.bipush 30, 2) := by decide +kernel
theorem dX11_init_203 : decode cX11_init 203 = .ok (.iconst 1, 1) := by decide +kernel
theorem dX11_init_204 : decode cX11_init 204 = .ok (.invokevirtual 82, 3) := by decide +kernel
theorem dX11_init_207 : decode cX11_init 207 = .ok (.aload_n 0, 1) := by decide +kernel
theorem dX11_init_208 : decode cX11_init 208 = .ok (.iconst 1, 1) := by decide +kernel
theorem dX11_init_209 : decode cX11_init 209 = .ok (.bipush 7, 2) := by decide +kernel
theorem dX11_init_211 : decode cX11_init 211 = .ok (.bipush 25, 2) := by decide +kernel
theorem dX11_init_213 : decode cX11_init 213 = .ok (.iconst 1, 1) := by decide +kernel
theorem dX11_init_214 : decode cX11_init 214 = .ok (.bipush 40, 2) := by decide +kernel
theorem dX11_init_216 : decode cX11_init 216 = .ok (.iconst 2, 1) := by decide +kernel
theorem dX11_init_217 : decode cX11_init 217 = .ok (.invokevirtual 82, 3) := by decide +kernel
theorem dX11_init_220 : decode cX11_init 220 = .ok (.aload_n 0, 1) := by decide +kernel
theorem dX11_init_221 : decode cX11_init 221 = .ok (.iconst 2, 1) := by decide +kernel
theorem dX11_init_222 : decode cX11_init 222 = .ok (.bipush 13, 2) := by decide +kernel
theorem dX11_init_224 : decode cX11_init 224 = .ok (.bipush 18, 2) := by decide +kernel
theorem dX11_init_226 : decode cX11_init 226 = .ok (.iconst 1, 1) := by decide +kernel
theorem dX11_init_227 : decode cX11_init 227 = .ok (.bipush 20, 2) := by decide +kernel
theorem dX11_init_229 : decode cX11_init 229 = .ok (.iconst 1, 1) := by decide +kernel
theorem dX11_init_230 : decode cX11_init 230 = .ok (.invokevirtual 82, 3) := by decide +kernel
theorem dX11_init_233 : decode cX11_init 233 = .ok (.aload_n 0, 1) := by decide +kernel
theorem dX11_init_234 : decode cX11_init 234 = .ok (.getfield 16, 3) := by decide +kernel
theorem dX11_init_237 : decode cX11_init 237 = .ok (.iconst 1, 1) := by decide +kernel
theorem dX11_init_238 : decode cX11_init 238 = .ok (.bipush 6, 2) := by decide +kernel
theorem dX11_init_240 : decode cX11_init 240 = .ok (.iastore, 1) := by decide +kernel
theorem dX11_init_241 : decode cX11_init 241 = .ok (.aload_n 0, 1) := by decide +kernel
theorem dX11_init_242 : decode cX11_init 242 = .ok (.getfield 16, 3) := by decide +kernel
theorem dX11_init_245 : decode cX11_init 245 = .ok (.iconst 2, 1) := by decide +kernel
theorem dX11_init_246 : decode cX11_init 246 = .ok (.bipush 9, 2) := by decide +kernel
theorem dX11_init_248 : decode cX11_init 248 = .ok (.iastore, 1) := by decide +kernel
theorem dX11_init_249 : decode cX11_init 249 = .ok (.aload_n 0, 1) := by decide +kernel
theorem dX11_init_250 : decode cX11_init 250 = .ok (.getfield 16, 3) := by decide +kernel
theorem dX11_init_253 : decode cX11_init 253 = .ok (.iconst 3, 1) := by decide +kernel
theorem dX11_init_254 : decode cX11_init 254 = .ok (.bipush 8, 2) := by decide +kernel
theorem dX11_init_256 : decode cX11_init 256 = .ok (.iastore, 1) := by decide +kernel
theorem dX11_init_257 : decode cX11_init 257 = .ok (.aload_n 0, 1) := by decide +kernel
theorem dX11_init_258 : decode cX11_init 258 = .ok (.getfield 19, 3) := by decide +kernel
theorem dX11_init_261 : decode cX11_init 261 = .ok (.iconst 1, 1) := by decide +kernel
theorem dX11_init_262 : decode cX11_init 262 = .ok (.iconst 2, 1) := by decide +kernel
theorem dX11_init_263 : decode cX11_init 263 = .ok (.iastore, 1) := by decide +kernel
theorem dX11_init_264 : decode cX11_init 264 = .ok (.aload_n 0, 1) := by decide +kernel
theorem dX11_init_265 : decode cX11_init 265 = .ok (.getfield 19, 3) := by decide +kernel
theorem dX11_init_268 : decode cX11_init 268 = .ok (.iconst 2, 1) := by decide +kernel
theorem dX11_init_269 : decode cX11_init 269 = .ok (.iconst 1, 1) := by decide +kernel
theorem dX11_init_270 : decode cX11_init 270 = .ok (.iastore, 1) := by decide +kernel
theorem dX11_init_271 : decode cX11_init 271 = .ok (.aload_n 0, 1) := by decide +kernel
theorem dX11_init_272 : decode cX11_init 272 = .ok (.getfield 19, 3) := by decide +kernel
theorem dX11_init_275 : decode cX11_init 275 = .ok (.bipush 6, 2) := by decide +kernel
theorem dX11_init_277 : decode cX11_init 277 = .ok (.iconst 1, 1) := by decide +kernel
theorem dX11_init_278 : decode cX11_init 278 = .ok (.iastore, 1) := by decide +kernel
theorem dX11_init_279 : decode cX11_init 279 = .ok (.aload_n 0, 1) := by decide +kernel
theorem dX11_init_280 : decode cX11_init 280 = .ok (.getfield 19, 3) := by decide +kernel
theorem dX11_init_283 : decode cX11_init 283 = .ok (.bipush 7, 2) := by decide +kernel
theorem dX11_init_285 : decode cX11_init 285 = .ok (.iconst 1, 1) := by decide +kernel
theorem dX11_init_286 : decode cX11_init 286 = .ok (.iastore, 1) := by decide +kernel
theorem dX11_init_287 : decode cX11_init 287 = .ok (.aload_n 0, 1) := by decide +kernel
theorem dX11_init_288 : decode cX11_init 288 = .ok (.getfield 19, 3) := by decide +kernel
theorem dX11_init_291 : decode cX11_init 291 = .ok (.bipush 8, 2) := by decide +kernel
theorem dX11_init_293 : decode cX11_init 293 = .ok (.iconst 2, 1) := by decide +kernel
theorem dX11_init_294 : decode cX11_init 294 = .ok (.iastore, 1) := by decide +kernel
theorem dX11_init_295 : decode cX11_init 295 = .ok (.aload_n 0, 1) := by decide +kernel
theorem dX11_init_296 : decode cX11_init 296 = .ok (.getfield 22, 3) := by decide +kernel
theorem dX11_init_299 : decode cX11_init 299 = .ok (.iconst 0, 1) := by decide +kernel
theorem dX11_init_300 : decode cX11_init 300 = .ok (.iconst 3, 1) := by decide +kernel
theorem dX11_init_301 : decode cX11_init 301 = .ok (.iastore, 1) := by decide +kernel
theorem dX11_init_302 : decode cX11_init 302 = .ok (.aload_n 0, 1) := by decide +kernel
theorem dX11_init_303 : decode cX11_init 303 = .ok (.getfield 22, 3) := by decide +kernel
theorem dX11_init_306 : decode cX11_init 306 = .ok (.iconst 1, 1) := by decide +kernel
theorem dX11_init_307 : decode cX11_init 307 = .ok (.iconst 2, 1) := by decide +kernel
theorem dX11_init_308 : decode cX11_init 308 = .ok (.iastore, 1) := by decide +kernel
theorem dX11_init_309 : decode cX11_init 309 = .ok (.aload_n 0, 1) := by decide +kernel
theorem dX11_init_310 : decode cX11_init 310 = .ok (.getfield 22, 3) := by decide +kernel
theorem dX11_init_313 : decode cX11_init 313 = .ok (.iconst 2, 1) := by decide +kernel
theorem dX11_init_314 : decode cX11_init 314 = .ok (.iconst 3, 1) := by decide +kernel
theorem dX11_init_315 : decode cX11_init 315 = .ok (.iastore, 1) := by decide +kernel
theorem dX11_init_316 : decode cX11_init 316 = .ok (.aload_n 0, 1) := by decide +kernel
theorem dX11_init_317 : decode cX11_init 317 = .ok (.invokevirtual 86, 3) := by decide +kernel
theorem dX11_init_320 : decode cX11_init 320 = .ok (.return_, 1) := by decide +kernel
theorem dX11_satNow_0 : decode cX11_satNow 0 = .ok (.aload_n 0, 1) := by decide +kernel
theorem dX11_satNow_1 : decode cX11_satNow 1 = .ok (.getfield 13, 3) := by decide +kernel
theorem dX11_satNow_4 : decode cX11_satNow 4 = .ok (.iconst 5, 1) := by decide +kernel
theorem dX11_satNow_5 : decode cX11_satNow 5 = .ok (.iload_n 1, 1) := by decide +kernel
theorem dX11_satNow_6 : decode cX11_satNow 6 = .ok (.imul, 1) := by decide +kernel
theorem dX11_satNow_7 : decode cX11_satNow 7 = .ok (.iload_n 2, 1) := by decide +kernel
theorem dX11_satNow_8 : decode cX11_satNow 8 = .ok (.iastore, 1) := by decide +kernel
theorem dX11_satNow_9 : decode cX11_satNow 9 = .ok (.aload_n 0, 1) := by decide +kernel
theorem dX11_satNow_10 : decode cX11_satNow 10 = .ok (.getfield 13, 3) := by decide +kernel
theorem dX11_satNow_13 : decode cX11_satNow 13 = .ok (.iconst 5, 1) := by decide +kernel
theorem dX11_satNow_14 : decode cX11_satNow 14 = .ok (.iload_n 1, 1) := by decide +kernel
theorem dX11_satNow_15 : decode cX11_satNow 15 = .ok (.imul, 1) := by decide +kernel
theorem dX11_satNow_16 : decode cX11_satNow 16 = .ok (.iconst 1, 1) := by decide +kernel
theorem dX11_satNow_17 : decode cX11_satNow 17 = .ok (.iadd, 1) := by decide +kernel
theorem dX11_satNow_18 : decode cX11_satNow 18 = .ok (.iload_n 3, 1) := by decide +kernel
theorem dX11_satNow_19 : decode cX11_satNow 19 = .ok (.iastore, 1) := by decide +kernel
theorem dX11_satNow_20 : decode cX11_satNow 20 = .ok (.aload_n 0, 1) := by decide +kernel
theorem dX11_satNow_21 : decode cX11_satNow 21 = .ok (.getfield 13, 3) := by decide +kernel
theorem dX11_satNow_24 : decode cX11_satNow 24 = .ok (.iconst 5, 1) := by decide +kernel
theorem dX11_satNow_25 : decode cX11_satNow 25 = .ok (.iload_n 1, 1) := by decide +kernel
theorem dX11_satNow_26 : decode cX11_satNow 26 = .ok (.imul, 1) := by decide +kernel
theorem dX11_satNow_27 : decode cX11_satNow 27 = .ok (.iconst 2, 1) := by decide +kernel
theorem dX11_satNow_28 : decode cX11_satNow 28 = .ok (.iadd, 1) := by decide +kernel
theorem dX11_satNow_29 : decode cX11_satNow 29 = .ok (.iload 4, 2) := by decide +kernel
theorem dX11_satNow_31 : decode cX11_satNow 31 = .ok (.iastore, 1) := by decide +kernel
theorem dX11_satNow_32 : decode cX11_satNow 32 = .ok (.aload_n 0, 1) := by decide +kernel
theorem dX11_satNow_33 : decode cX11_satNow 33 = .ok (.getfield 13, 3) := by decide +kernel
theorem dX11_satNow_36 : decode cX11_satNow 36 = .ok (.iconst 5, 1) := by decide +kernel
theorem dX11_satNow_37 : decode cX11_satNow 37 = .ok (.iload_n 1, 1) := by decide +kernel
theorem dX11_satNow_38 : decode cX11_satNow 38 = .ok (.imul, 1) := by decide +kernel
theorem dX11_satNow_39 : decode cX11_satNow 39 = .ok (.iconst 3, 1) := by decide +kernel
theorem dX11_satNow_40 : decode cX11_satNow 40 = .ok (.iadd, 1) := by decide +kernel
theorem dX11_satNow_41 : decode cX11_satNow 41 = .ok (.iload 5, 2) := by decide +kernel
theorem dX11_satNow_43 : decode cX11_satNow 43 = .ok (.iastore, 1) := by decide +kernel
theorem dX11_satNow_44 : decode cX11_satNow 44 = .ok (.aload_n 0, 1) := by decide +kernel
theorem dX11_satNow_45 : decode cX11_satNow 45 = .ok (.getfield 13, 3) := by decide +kernel
theorem dX11_satNow_48 : decode cX11_satNow 48 = .ok (.iconst 5, 1) := by decide +kernel
theorem dX11_satNow_49 : decode cX11_satNow 49 = .ok (.iload_n 1, 1) := by decide +kernel
theorem dX11_satNow_50 : decode cX11_satNow 50 = .ok (.imul, 1) := by decide +kernel
theorem dX11_satNow_51 : decode cX11_satNow 51 = .ok (.iconst 4, 1) := by decide +kernel
theorem dX11_satNow_52 : decode cX11_satNow 52 = .ok (.iadd, 1) := by decide +kernel
theorem dX11_satNow_53 : decode cX11_satNow 53 = .ok (.iload 6, 2) := by decide +kernel
theorem dX11_satNow_55 : decode cX11_satNow 55 = .ok (.iastore, 1) := by decide +kernel
theorem dX11_satNow_56 : decode cX11_satNow 56 = .ok (.return_, 1) := by decide +kernel
theorem dX11_in_0 : decode cX11_in 0 = .ok (.lload_n 0, 1) := by decide +kernel
theorem dX11_in_1 : decode cX11_in 1 = .ok (.lload_n 2, 1) := by decide +kernel
theorem dX11_in_2 : decode cX11_in 2 = .ok (.lcmp, 1) := by decide +kernel
theorem dX11_in_3 : decode cX11_in 3 = .ok (.ifCond .lt 14, 3) := by decide +kernel
theorem dX11_in_6 : decode cX11_in 6 = .ok (.lload_n 0, 1) := by decide +kernel
theorem dX11_in_7 : decode cX11_in 7 = .ok (.lload 4, 2) := by decide +kernel
theorem dX11_in_9 : decode cX11_in 9 = .ok (.lcmp, 1) := by decide +kernel
theorem dX11_in_10 : decode cX11_in 10 = .ok (.ifCond .gt 7, 3) := by decide +kernel
theorem dX11_in_13 : decode cX11_in 13 = .ok (.iconst 1, 1) := by decide +kernel
theorem dX11_in_14 : decode cX11_in 14 = .ok (.goto 4, 3) := by decide +kernel
theorem dX11_in_17 : decode cX11_in 17 = .ok (.iconst 0, 1) := by decide +kernel
theorem dX11_in_18 : decode cX11_in 18 = .ok (.ireturn, 1) := by decide +kernel
theorem dX11_write_0 : decode cX11_write 0 = .ok (.iload_n 1, 1) := by decide +kernel
theorem dX11_write_1 : decode cX11_write 1 = .ok (.i2l, 1) := by decide +kernel
theorem dX11_write_2 : decode cX11_write 2 = .ok (.ldc2_w 89, 3) := by decide +kernel
theorem dX11_write_5 : decode cX11_write 5 = .ok (.ldc2_w 91, 3) := by decide +kernel
theorem dX11_write_8 : decode cX11_write 8 = .ok (.invokestatic 93, 3) := by decide +kernel
theorem dX11_write_11 : decode cX11_write 11 = .ok (.ifCond .ne 5, 3) := by decide +kernel
theorem dX11_write_14 : decode cX11_write 14 = .ok (.iconst (-1), 1) := by decide +kernel
theorem dX11_write_15 : decode cX11_write 15 = .ok (.ireturn, 1) := by decide +kernel
theorem dX11_write_16 : decode cX11_write 16 = .ok (.aload_n 0, 1) := by decide +kernel
theorem dX11_write_17 : decode cX11_write 17 = .ok (.getfield 97, 3) := by decide +kernel
theorem dX11_write_20 : decode cX11_write 20 = .ok (.sipush 200, 3) := by decide +kernel
theorem dX11_write_23 : decode cX11_write 23 = .ok (.if_icmp .ne 6, 3) := by decide +kernel
theorem dX11_write_26 : decode cX11_write 26 = .ok (.bipush (-3), 2) := by decide +kernel
theorem dX11_write_28 : decode cX11_write 28 = .ok (.ireturn, 1) := by decide +kernel
theorem dX11_write_29 : decode cX11_write 29 = .ok (.aload_n 0, 1) := by decide +kernel
theorem dX11_write_30 : decode cX11_write 30 = .ok (.getfield 7, 3) := by decide +kernel
theorem dX11_write_33 : decode cX11_write 33 = .ok (.aload_n 0, 1) := by decide +kernel
theorem dX11_write_34 : decode cX11_write 34 = .ok (.getfield 97, 3) := by decide +kernel
theorem dX11_write_37 : decode cX11_write 37 = .ok (.iload_n 1, 1) := by decide +kernel
theorem dX11_write_38 : decode cX11_write 38 = .ok (.iastore, 1) := by decide +kernel
theorem dX11_write_39 : decode cX11_write 39 = .ok (.aload_n 0, 1) := by decide +kernel
theorem dX11_write_40 : decode cX11_write 40 = .ok (.dup, 1) := by decide +kernel
theorem dX11_write_41 : decode cX11_write 41 = .ok (.getfield 97, 3) := by decide +kernel
theorem dX11_write_44 : decode cX11_write 44 = .ok (.iconst 1, 1) := by decide +kernel
theorem dX11_write_45 : decode cX11_write 45 = .ok (.iadd, 1) := by decide +kernel
theorem dX11_write_46 : decode cX11_write 46 = .ok (.putfield 97, 3) := by decide +kernel
theorem dX11_write_49 : decode cX11_write 49 = .ok (.aload_n 0, 1) := by decide +kernel
theorem dX11_write_50 : decode cX11_write 50 = .ok (.getfield 97, 3) := by decide +kernel
theorem dX11_write_53 : decode cX11_write 53 = .ok (.ireturn, 1) := by decide +kernel
theorem dX11_wipe_0 : decode cX11_wipe 0 = .ok (.aload_n 0, 1) := by decide +kernel
theorem dX11_wipe_1 : decode cX11_wipe 1 = .ok (.getfield 97, 3) := by decide +kernel
theorem dX11_wipe_4 : decode cX11_wipe 4 = .ok (.istore_n 1, 1) := by decide +kernel
theorem dX11_wipe_5 : decode cX11_wipe 5 = .ok (.aload_n 0, 1) := by decide +kernel
theorem dX11_wipe_6 : decode cX11_wipe 6 = .ok (.iconst 0, 1) := by decide +kernel
theorem dX11_wipe_7 : decode cX11_wipe 7 = .ok (.putfield 97, 3) := by decide +kernel
theorem dX11_wipe_10 : decode cX11_wipe 10 = .ok (.iload_n 1, 1) := by decide +kernel
theorem dX11_wipe_11 : decode cX11_wipe 11 = .ok (.ireturn, 1) := by decide +kernel
theorem dX11_byteAt_0 : decode cX11_byteAt 0 = .ok (.iload_n 1, 1) := by decide +kernel
theorem dX11_byteAt_1 : decode cX11_byteAt 1 = .ok (.aload_n 0, 1) := by decide +kernel
theorem dX11_byteAt_2 : decode cX11_byteAt 2 = .ok (.getfield 97, 3) := by decide +kernel
theorem dX11_byteAt_5 : decode cX11_byteAt 5 = .ok (.if_icmp .ge 12, 3) := by decide +kernel
theorem dX11_byteAt_8 : decode cX11_byteAt 8 = .ok (.aload_n 0, 1) := by decide +kernel
theorem dX11_byteAt_9 : decode cX11_byteAt 9 = .ok (.getfield 7, 3) := by decide +kernel
theorem dX11_byteAt_12 : decode cX11_byteAt 12 = .ok (.iload_n 1, 1) := by decide +kernel
theorem dX11_byteAt_13 : decode cX11_byteAt 13 = .ok (.iaload, 1) := by decide +kernel
theorem dX11_byteAt_14 : decode cX11_byteAt 14 = .ok (.goto 4, 3) := by decide +kernel
theorem dX11_byteAt_17 : decode cX11_byteAt 17 = .ok (.iconst 0, 1) := by decide +kernel
theorem dX11_byteAt_18 : decode cX11_byteAt 18 = .ok (.ireturn, 1) := by decide +kernel
theorem dX11_number_0 : decode cX11_number 0 = .ok (.iload_n 1, 1) := by decide +kernel
theorem dX11_number_1 : decode cX11_number 1 = .ok (.ifCond .le 27, 3) := by decide +kernel
theorem dX11_number_4 : decode cX11_number 4 = .ok (.aload_n 0, 1) := by decide +kernel
theorem dX11_number_5 : decode cX11_number 5 = .ok (.aload_n 0, 1) := by decide +kernel
theorem dX11_number_6 : decode cX11_number 6 = .ok (.getfield 101, 3) := by decide +kernel
theorem dX11_number_9 : decode cX11_number 9 = .ok (.invokevirtual 104, 3) := by decide +kernel
theorem dX11_number_12 : decode cX11_number 12 = .ok (.iload_n 1, 1) := by decide +kernel
theorem dX11_number_13 : decode cX11_number 13 = .ok (.if_icmp .eq 5, 3) := by decide +kernel
theorem dX11_number_16 : decode cX11_number 16 = .ok (.iconst 0, 1) := by decide +kernel
theorem dX11_number_17 : decode cX11_number 17 = .ok (.ireturn, 1) := by decide +kernel
theorem dX11_number_18 : decode cX11_number 18 = .ok (.aload_n 0, 1) := by decide +kernel
theorem dX11_number_19 : decode cX11_number 19 = .ok (.dup, 1) := by decide +kernel
theorem dX11_number_20 : decode cX11_number 20 = .ok (.getfield 101, 3) := by decide +kernel
theorem dX11_number_23 : decode cX11_number 23 = .ok (.iconst 1, 1) := by decide +kernel
theorem dX11_number_24 : decode cX11_number 24 = .ok (.iadd, 1) := by decide +kernel
theorem dX11_number_25 : decode cX11_number 25 = .ok (.putfield 101, 3) := by decide +kernel
theorem dX11_number_28 : decode cX11_number 28 = .ok (.iconst 0, 1) := by decide +kernel
theorem dX11_number_29 : decode cX11_number 29 = .ok (.istore 6, 2) := by decide +kernel
theorem dX11_number_31 : decode cX11_number 31 = .ok (.iconst 0, 1) := by decide +kernel
theorem dX11_number_32 : decode cX11_number 32 = .ok (.istore 7, 2) := by decide +kernel
theorem dX11_number_34 : decode cX11_number 34 = .ok (.iload 7, 2) := by decide +kernel
theorem dX11_number_36 : decode cX11_number 36 = .ok (.iconst 2, 1) := by decide +kernel
theorem dX11_number_37 : decode cX11_number 37 = .ok (.if_icmp .ge 59, 3) := by decide +kernel
theorem dX11_number_40 : decode cX11_number 40 = .ok (.aload_n 0, 1) := by decide +kernel
theorem dX11_number_41 : decode cX11_number 41 = .ok (.aload_n 0, 1) := by decide +kernel
theorem dX11_number_42 : decode cX11_number 42 = .ok (.getfield 101, 3) := by decide +kernel
theorem dX11_number_45 : decode cX11_number 45 = .ok (.invokevirtual 104, 3) := by decide +kernel
theorem dX11_number_48 : decode cX11_number 48 = .ok (.i2l, 1) := by decide +kernel
theorem dX11_number_49 : decode cX11_number 49 = .ok (.ldc2_w 108, 3) := by decide +kernel
theorem dX11_number_52 : decode cX11_number 52 = .ok (.ldc2_w 110, 3) := by decide +kernel
theorem dX11_number_55 : decode cX11_number 55 = .ok (.invokestatic 93, 3) := by decide +kernel
theorem dX11_number_58 : decode cX11_number 58 = .ok (.ifCond .eq 38, 3) := by decide +kernel
theorem dX11_number_61 : decode cX11_number 61 = .ok (.bipush 10, 2) := by decide +kernel
theorem dX11_number_63 : decode cX11_number 63 = .ok (.iload 6, 2) := by decide +kernel
theorem dX11_number_65 : decode cX11_number 65 = .ok (.imul, 1) := by decide +kernel
theorem dX11_number_66 : decode cX11_number 66 = .ok (.aload_n 0, 1) := by decide +kernel
theorem dX11_number_67 : decode cX11_number 67 = .ok (.aload_n 0, 1) := by decide +kernel
theorem dX11_number_68 : decode cX11_number 68 = .ok (.getfield 101, 3) := by decide +kernel
theorem dX11_number_71 : decode cX11_number 71 = .ok (.invokevirtual 104, 3) := by decide +kernel
theorem dX11_number_74 : decode cX11_number 74 = .ok (.iadd, 1) := by decide +kernel
theorem dX11_number_75 : decode cX11_number 75 = .ok (.bipush 48, 2) := by decide +kernel
theorem dX11_number_77 : decode cX11_number 77 = .ok (.isub, 1) := by decide +kernel
theorem dX11_number_78 : decode cX11_number 78 = .ok (.istore 6, 2) := by decide +kernel
theorem dX11_number_80 : decode cX11_number 80 = .ok (.aload_n 0, 1) := by decide +kernel
theorem dX11_number_81 : decode cX11_number 81 = .ok (.dup, 1) := by decide +kernel
theorem dX11_number_82 : decode cX11_number 82 = .ok (.getfield 101, 3) := by decide +kernel
theorem dX11_number_85 : decode cX11_number 85 = .ok (.iconst 1, 1) := by decide +kernel
theorem dX11_number_86 : decode cX11_number 86 = .ok (.iadd, 1) := by decide +kernel
theorem dX11_number_87 : decode cX11_number 87 = .ok (.putfield 101, 3) := by decide +kernel
theorem dX11_number_90 : decode cX11_number 90 = .ok (.iinc 7 1, 3) := by decide +kernel
theorem dX11_number_93 : decode cX11_number 93 = .ok (.goto (-59), 3) := by decide +kernel
theorem dX11_number_96 : decode cX11_number 96 = .ok (.aload 4, 2) := by decide +kernel
theorem dX11_number_98 : decode cX11_number 98 = .ok (.iload 5, 2) := by decide +kernel
theorem dX11_number_100 : decode cX11_number 100 = .ok (.iload 6, 2) := by decide +kernel
theorem dX11_number_102 : decode cX11_number 102 = .ok (.iastore, 1) := by decide +kernel
theorem dX11_number_103 : decode cX11_number 103 = .ok (.iload 7, 2) := by decide +kernel
theorem dX11_number_105 : decode cX11_number 105 = .ok (.ifCond .le 20, 3) := by decide +kernel
theorem dX11_number_108 : decode cX11_number 108 = .ok (.iload 6, 2) := by decide +kernel
theorem dX11_number_110 : decode cX11_number 110 = .ok (.i2l, 1) := by decide +kernel
theorem dX11_number_111 : decode cX11_number 111 = .ok (.iload_n 2, 1) := by decide +kernel
theorem dX11_number_112 : decode cX11_number 112 = .ok (.i2l, 1) := by decide +kernel
theorem dX11_number_113 : decode cX11_number 113 = .ok (.iload_n 3, 1) := by decide +kernel
theorem dX11_number_114 : decode cX11_number 114 = .ok (.i2l, 1) := by decide +kernel
theorem dX11_number_115 : decode cX11_number 115 = .ok (.invokestatic 93, 3) := by decide +kernel
theorem dX11_number_118 : decode cX11_number 118 = .ok (.ifCond .eq 7, 3) := by decide +kernel
theorem dX11_number_121 : decode cX11_number 121 = .ok (.iconst 1, 1) := by decide +kernel
theorem dX11_number_122 : decode cX11_number 122 = .ok (.goto 4, 3) := by decide +kernel
theorem dX11_number_125 : decode cX11_number 125 = .ok (.iconst 0, 1) := by decide +kernel
theorem dX11_number_126 : decode cX11_number 126 = .ok (.ireturn, 1) := by decide +kernel
theorem dX11_item_0 : decode cX11_item 0 = .ok (.iload_n 1, 1) := by decide +kernel
theorem dX11_item_1 : decode cX11_item 1 = .ok (.bipush 115, 2) := by decide +kernel
theorem dX11_item_3 : decode cX11_item 3 = .ok (.if_icmp .ne 7, 3) := by decide +kernel
theorem dX11_item_6 : decode cX11_item 6 = .ok (.iconst 0, 1) := by decide +kernel
theorem dX11_item_7 : decode cX11_item 7 = .ok (.goto 24, 3) := by decide +kernel
theorem dX11_item_10 : decode cX11_item 10 = .ok (.iload_n 1, 1) := by decide +kernel
theorem dX11_item_11 : decode cX11_item 11 = .ok (.bipush 103, 2) := by decide +kernel
theorem dX11_item_13 : decode cX11_item 13 = .ok (.if_icmp .ne 7, 3) := by decide +kernel
theorem dX11_item_16 : decode cX11_item 16 = .ok (.iconst 1, 1) := by decide +kernel
theorem dX11_item_17 : decode cX11_item 17 = .ok (.goto 14, 3) := by decide +kernel
theorem dX11_item_20 : decode cX11_item 20 = .ok (.iload_n 1, 1) := by decide +kernel
theorem dX11_item_21 : decode cX11_item 21 = .ok (.bipush 97, 2) := by decide +kernel
theorem dX11_item_23 : decode cX11_item 23 = .ok (.if_icmp .ne 7, 3) := by decide +kernel
theorem dX11_item_26 : decode cX11_item 26 = .ok (.iconst 2, 1) := by decide +kernel
theorem dX11_item_27 : decode cX11_item 27 = .ok (.goto 4, 3) := by decide +kernel
theorem dX11_item_30 : decode cX11_item 30 = .ok (.iconst 3, 1) := by decide +kernel
theorem dX11_item_31 : decode cX11_item 31 = .ok (.istore_n 2, 1) := by decide +kernel
theorem dX11_item_32 : decode cX11_item 32 = .ok (.iload_n 2, 1) := by decide +kernel
theorem dX11_item_33 : decode cX11_item 33 = .ok (.iconst 3, 1) := by decide +kernel
theorem dX11_item_34 : decode cX11_item 34 = .ok (.if_icmp .eq 22, 3) := by decide +kernel
theorem dX11_item_37 : decode cX11_item 37 = .ok (.aload_n 0, 1) := by decide +kernel
theorem dX11_item_38 : decode cX11_item 38 = .ok (.getfield 34, 3) := by decide +kernel
theorem dX11_item_41 : decode cX11_item 41 = .ok (.iload_n 2, 1) := by decide +kernel
theorem dX11_item_42 : decode cX11_item 42 = .ok (.iaload, 1) := by decide +kernel
theorem dX11_item_43 : decode cX11_item 43 = .ok (.iload_n 2, 1) := by decide +kernel
theorem dX11_item_44 : decode cX11_item 44 = .ok (.iconst 1, 1) := by decide +kernel
theorem dX11_item_45 : decode cX11_item 45 = .ok (.if_icmp .ne 7, 3) := by decide +kernel
theorem dX11_item_48 : decode cX11_item 48 = .ok (.iconst 3, 1) := by decide +kernel
theorem dX11_item_49 : decode cX11_item 49 = .ok (.goto 4, 3) := by decide +kernel
theorem dX11_item_52 : decode cX11_item 52 = .ok (.iconst 4, 1) := by decide +kernel
theorem dX11_item_53 : decode cX11_item 53 = .ok (.if_icmp .ne 5, 3) := by decide +kernel
theorem dX11_item_56 : decode cX11_item 56 = .ok (.iconst 0, 1) := by decide +kernel
theorem dX11_item_57 : decode cX11_item 57 = .ok (.ireturn, 1) := by decide +kernel
theorem dX11_item_58 : decode cX11_item 58 = .ok (.aload_n 0, 1) := by decide +kernel
theorem dX11_item_59 : decode cX11_item 59 = .ok (.getfield 34, 3) := by decide +kernel
theorem dX11_item_62 : decode cX11_item 62 = .ok (.iload_n 2, 1) := by decide +kernel
theorem dX11_item_63 : decode cX11_item 63 = .ok (.iaload, 1) := by decide +kernel
theorem dX11_item_64 : decode cX11_item 64 = .ok (.istore_n 3, 1) := by decide +kernel
theorem dX11_item_65 : decode cX11_item 65 = .ok (.aload_n 0, 1) := by decide +kernel
theorem dX11_item_66 : decode cX11_item 66 = .ok (.getfield 34, 3) := by decide +kernel
theorem dX11_item_69 : decode cX11_item 69 = .ok (.iload_n 2, 1) := by decide +kernel
theorem dX11_item_70 : decode cX11_item 70 = .ok (.dup2, 1) := by decide +kernel
theorem dX11_item_71 : decode cX11_item 71 = .ok (.iaload, 1) := by decide +kernel
theorem dX11_item_72 : decode cX11_item 72 = .ok (.iconst 1, 1) := by decide +kernel
theorem dX11_item_73 : decode cX11_item 73 = .ok (.iadd, 1) := by decide +kernel
theorem dX11_item_74 : decode cX11_item 74 = .ok (.iastore, 1) := by decide +kernel
theorem dX11_item_75 : decode cX11_item 75 = .ok (.iload_n 2, 1) := by decide +kernel
theorem dX11_item_76 : decode cX11_item 76 = .ok (.lookupswitch 181 #[(0, 28), (1, 136)], 28) := by decide +kernel
theorem dX11_item_104 : decode cX11_item 104 = .ok (.aload_n 0, 1) := by decide +kernel
theorem dX11_item_105 : decode cX11_item 105 = .ok (.iconst 0, 1) := by decide +kernel
theorem dX11_item_106 : decode cX11_item 106 = .ok (.iconst 0, 1) := by decide +kernel
theorem dX11_item_107 : decode cX11_item 107 = .ok (.bipush 59, 2) := by decide +kernel
theorem dX11_item_109 : decode cX11_item 109 = .ok (.aload_n 0, 1) := by decide +kernel
theorem dX11_item_110 : decode cX11_item 110 = .ok (.getfield 25, 3) := by decide +kernel
theorem dX11_item_113 : decode cX11_item 113 = .ok (.iconst 5, 1) := by decide +kernel
theorem dX11_item_114 : decode cX11_item 114 = .ok (.iload_n 3, 1) := by decide +kernel
theorem dX11_item_115 : decode cX11_item 115 = .ok (.imul, 1) := by decide +kernel
theorem dX11_item_116 : decode cX11_item 116 = .ok (.invokevirtual 112, 3) := by decide +kernel
theorem dX11_item_119 : decode cX11_item 119 = .ok (.ifCond .eq 91, 3) := by decide +kernel
theorem dX11_item_122 : decode cX11_item 122 = .ok (.aload_n 0, 1) := by decide +kernel
theorem dX11_item_123 : decode cX11_item 123 = .ok (.bipush 44, 2) := by decide +kernel
theorem dX11_item_125 : decode cX11_item 125 = .ok (.bipush 6, 2) := by decide +kernel
theorem dX11_item_127 : decode cX11_item 127 = .ok (.bipush 60, 2) := by decide +kernel
theorem dX11_item_129 : decode cX11_item 129 = .ok (.aload_n 0, 1) := by decide +kernel
theorem dX11_item_130 : decode cX11_item 130 = .ok (.getfield 25, 3) := by decide +kernel
theorem dX11_item_133 : decode cX11_item 133 = .ok (.iconst 5, 1) := by decide +kernel
theorem dX11_item_134 : decode cX11_item 134 = .ok (.iload_n 3, 1) := by decide +kernel
theorem dX11_item_135 : decode cX11_item 135 = .ok (.imul, 1) := by decide +kernel
theorem dX11_item_136 : decode cX11_item 136 = .ok (.iconst 1, 1) := by decide +kernel
theorem dX11_item_137 : decode cX11_item 137 = .ok (.iadd, 1) := by decide +kernel
theorem dX11_item_138 : decode cX11_item 138 = .ok (.invokevirtual 112, 3) := by decide +kernel
theorem dX11_item_141 : decode cX11_item 141 = .ok (.ifCond .eq 69, 3) := by decide +kernel
theorem dX11_item_144 : decode cX11_item 144 = .ok (.aload_n 0, 1) := by decide +kernel
theorem dX11_item_145 : decode cX11_item 145 = .ok (.bipush 44, 2) := by decide +kernel
theorem dX11_item_147 : decode cX11_item 147 = .ok (.iconst 0, 1) := by decide +kernel
theorem dX11_item_148 : decode cX11_item 148 = .ok (.iconst 1, 1) := by decide +kernel
theorem dX11_item_149 : decode cX11_item 149 = .ok (.aload_n 0, 1) := by decide +kernel
theorem dX11_item_150 : decode cX11_item 150 = .ok (.getfield 25, 3) := by decide +kernel
theorem dX11_item_153 : decode cX11_item 153 = .ok (.iconst 5, 1) := by decide +kernel
theorem dX11_item_154 : decode cX11_item 154 = .ok (.iload_n 3, 1) := by decide +kernel
theorem dX11_item_155 : decode cX11_item 155 = .ok (.imul, 1) := by decide +kernel
theorem dX11_item_156 : decode cX11_item 156 = .ok (.iconst 2, 1) := by decide +kernel
theorem dX11_item_157 : decode cX11_item 157 = .ok (.iadd, 1) := by decide +kernel
theorem dX11_item_158 : decode cX11_item 158 = .ok (.invokevirtual 112, 3) := by decide +kernel
theorem dX11_item_161 : decode cX11_item 161 = .ok (.ifCond .eq 49, 3) := by decide +kernel
theorem dX11_item_164 : decode cX11_item 164 = .ok (.aload_n 0, 1) := by decide +kernel
theorem dX11_item_165 : decode cX11_item 165 = .ok (.bipush 44, 2) := by decide +kernel
theorem dX11_item_167 : decode cX11_item 167 = .ok (.iconst 1, 1) := by decide +kernel
theorem dX11_item_168 : decode cX11_item 168 = .ok (.bipush 99, 2) := by decide +kernel
theorem dX11_item_170 : decode cX11_item 170 = .ok (.aload_n 0, 1) := by decide +kernel
theorem dX11_item_171 : decode cX11_item 171 = .ok (.getfield 25, 3) := by decide +kernel
theorem dX11_item_174 : decode cX11_item 174 = .ok (.iconst 5, 1) := by decide +kernel
theorem dX11_item_175 : decode cX11_item 175 = .ok (.iload_n 3, 1) := by decide +kernel
theorem dX11_item_176 : decode cX11_item 176 = .ok (.imul, 1) := by decide +kernel
theorem dX11_item_177 : decode cX11_item 177 = .ok (.iconst 3, 1) := by decide +kernel
theorem dX11_item_178 : decode cX11_item 178 = .ok (.iadd, 1) := by decide +kernel
theorem dX11_item_179 : decode cX11_item 179 = .ok (.invokevirtual 112, 3) := by decide +kernel
theorem dX11_item_182 : decode cX11_item 182 = .ok (.ifCond .eq 28, 3) := by decide +kernel
theorem dX11_item_185 : decode cX11_item 185 = .ok (.aload_n 0, 1) := by decide +kernel
theorem dX11_item_186 : decode cX11_item 186 = .ok (.bipush 44, 2) := by decide +kernel
theorem dX11_item_188 : decode cX11_item 188 = .ok (.iconst 0, 1) := by decide +kernel
theorem dX11_item_189 : decode cX11_item 189 = .ok (.bipush 9, 2) := by decide +kernel
theorem dX11_item_191 : decode cX11_item 191 = .ok (.aload_n 0, 1) := by decide +kernel
theorem dX11_item_192 : decode cX11_item 192 = .ok (.getfield 25, 3) := by decide +kernel
theorem dX11_item_195 : decode cX11_item 195 = .ok (.iconst 5, 1) := by decide +kernel
theorem dX11_item_196 : decode cX11_item 196 = .ok (.iload_n 3, 1) := by decide +kernel
theorem dX11_item_197 : decode cX11_item 197 = .ok (.imul, 1) := by decide +kernel
theorem dX11_item_198 : decode cX11_item 198 = .ok (.iconst 4, 1) := by decide +kernel
theorem dX11_item_199 : decode cX11_item 199 = .ok (.iadd, 1) := by decide +kernel
theorem dX11_item_200 : decode cX11_item 200 = .ok (.invokevirtual 112, 3) := by decide +kernel
theorem dX11_item_203 : decode cX11_item 203 = .ok (.ifCond .eq 7, 3) := by decide +kernel
theorem dX11_item_206 : decode cX11_item 206 = .ok (.iconst 1, 1) := by decide +kernel
theorem dX11_item_207 : decode cX11_item 207 = .ok (.goto 4, 3) := by decide +kernel
theorem dX11_item_210 : decode cX11_item 210 = .ok (.iconst 0, 1) := by decide +kernel
theorem dX11_item_211 : decode cX11_item 211 = .ok (.ireturn, 1) := by decide +kernel
theorem dX11_item_212 : decode cX11_item 212 = .ok (.aload_n 0, 1) := by decide +kernel
theorem dX11_item_213 : decode cX11_item 213 = .ok (.iconst 0, 1) := by decide +kernel
theorem dX11_item_214 : decode cX11_item 214 = .ok (.iconst 0, 1) := by decide +kernel
theorem dX11_item_215 : decode cX11_item 215 = .ok (.bipush 59, 2) := by decide +kernel
theorem dX11_item_217 : decode cX11_item 217 = .ok (.aload_n 0, 1) := by decide +kernel
theorem dX11_item_218 : decode cX11_item 218 = .ok (.getfield 28, 3) := by decide +kernel
theorem dX11_item_221 : decode cX11_item 221 = .ok (.iconst 2, 1) := by decide +kernel
theorem dX11_item_222 : decode cX11_item 222 = .ok (.iload_n 3, 1) := by decide +kernel
theorem dX11_item_223 : decode cX11_item 223 = .ok (.imul, 1) := by decide +kernel
theorem dX11_item_224 : decode cX11_item 224 = .ok (.invokevirtual 112, 3) := by decide +kernel
theorem dX11_item_227 : decode cX11_item 227 = .ok (.ifCond .eq 28, 3) := by decide +kernel
theorem dX11_item_230 : decode cX11_item 230 = .ok (.aload_n 0, 1) := by decide +kernel
theorem dX11_item_231 : decode cX11_item 231 = .ok (.bipush 44, 2) := by decide +kernel
theorem dX11_item_233 : decode cX11_item 233 = .ok (.iconst 1, 1) := by decide +kernel
theorem dX11_item_234 : decode cX11_item 234 = .ok (.bipush 9, 2) := by decide +kernel
theorem dX11_item_236 : decode cX11_item 236 = .ok (.aload_n 0, 1) := by decide +kernel
theorem dX11_item_237 : decode cX11_item 237 = .ok (.getfield 28, 3) := by decide +kernel
theorem dX11_item_240 : decode cX11_item 240 = .ok (.iconst 2, 1) := by decide +kernel
theorem dX11_item_241 : decode cX11_item 241 = .ok (.iload_n 3, 1) := by decide +kernel
theorem dX11_item_242 : decode cX11_item 242 = .ok (.imul, 1) := by decide +kernel
theorem dX11_item_243 : decode cX11_item 243 = .ok (.iconst 1, 1) := by decide +kernel
theorem dX11_item_244 : decode cX11_item 244 = .ok (.iadd, 1) := by decide +kernel
theorem dX11_item_245 : decode cX11_item 245 = .ok (.invokevirtual 112, 3) := by decide +kernel
theorem dX11_item_248 : decode cX11_item 248 = .ok (.ifCond .eq 7, 3) := by decide +kernel
theorem dX11_item_251 : decode cX11_item 251 = .ok (.iconst 1, 1) := by decide +kernel
theorem dX11_item_252 : decode cX11_item 252 = .ok (.goto 4, 3) := by decide +kernel
theorem dX11_item_255 : decode cX11_item 255 = .ok (.iconst 0, 1) := by decide +kernel
theorem dX11_item_256 : decode cX11_item 256 = .ok (.ireturn, 1) := by decide +kernel
theorem dX11_item_257 : decode cX11_item 257 = .ok (.aload_n 0, 1) := by decide +kernel
theorem dX11_item_258 : decode cX11_item 258 = .ok (.iconst 0, 1) := by decide +kernel
theorem dX11_item_259 : decode cX11_item 259 = .ok (.iconst 0, 1) := by decide +kernel
theorem dX11_item_260 : decode cX11_item 260 = .ok (.aload_n 0, 1) := by decide +kernel
theorem dX11_item_261 : decode cX11_item 261 = .ok (.getfield 34, 3) := by decide +kernel
theorem dX11_item_264 : decode cX11_item 264 = .ok (.iconst 1, 1) := by decide +kernel
theorem dX11_item_265 : decode cX11_item 265 = .ok (.iaload, 1) := by decide +kernel
theorem dX11_item_266 : decode cX11_item 266 = .ok (.iconst 1, 1) := by decide +kernel
theorem dX11_item_267 : decode cX11_item 267 = .ok (.isub, 1) := by decide +kernel
theorem dX11_item_268 : decode cX11_item 268 = .ok (.aload_n 0, 1) := by decide +kernel
theorem dX11_item_269 : decode cX11_item 269 = .ok (.getfield 31, 3) := by decide +kernel
theorem dX11_item_272 : decode cX11_item 272 = .ok (.iconst 3, 1) := by decide +kernel
theorem dX11_item_273 : decode cX11_item 273 = .ok (.iload_n 3, 1) := by decide +kernel
theorem dX11_item_274 : decode cX11_item 274 = .ok (.imul, 1) := by decide +kernel
theorem dX11_item_275 : decode cX11_item 275 = .ok (.invokevirtual 112, 3) := by decide +kernel
theorem dX11_item_278 : decode cX11_item 278 = .ok (.ifCond .eq 47, 3) := by decide +kernel
theorem dX11_item_281 : decode cX11_item 281 = .ok (.aload_n 0, 1) := by decide +kernel
theorem dX11_item_282 : decode cX11_item 282 = .ok (.bipush 44, 2) := by decide +kernel
theorem dX11_item_284 : decode cX11_item 284 = .ok (.iconst 0, 1) := by decide +kernel
theorem dX11_item_285 : decode cX11_item 285 = .ok (.iconst 2, 1) := by decide +kernel
theorem dX11_item_286 : decode cX11_item 286 = .ok (.aload_n 0, 1) := by decide +kernel
theorem dX11_item_287 : decode cX11_item 287 = .ok (.getfield 31, 3) := by decide +kernel
theorem dX11_item_290 : decode cX11_item 290 = .ok (.iconst 3, 1) := by decide +kernel
theorem dX11_item_291 : decode cX11_item 291 = .ok (.iload_n 3, 1) := by decide +kernel
theorem dX11_item_292 : decode cX11_item 292 = .ok (.imul, 1) := by decide +kernel
theorem dX11_item_293 : decode cX11_item 293 = .ok (.iconst 1, 1) := by decide +kernel
theorem dX11_item_294 : decode cX11_item 294 = .ok (.iadd, 1) := by decide +kernel
theorem dX11_item_295 : decode cX11_item 295 = .ok (.invokevirtual 112, 3) := by decide +kernel
theorem dX11_item_298 : decode cX11_item 298 = .ok (.ifCond .eq 27, 3) := by decide +kernel
theorem dX11_item_301 : decode cX11_item 301 = .ok (.aload_n 0, 1) := by decide +kernel
theorem dX11_item_302 : decode cX11_item 302 = .ok (.bipush 44, 2) := by decide +kernel
theorem dX11_item_304 : decode cX11_item 304 = .ok (.iconst 0, 1) := by decide +kernel
theorem dX11_item_305 : decode cX11_item 305 = .ok (.iconst 5, 1) := by decide +kernel
theorem dX11_item_306 : decode cX11_item 306 = .ok (.aload_n 0, 1) := by decide +kernel
theorem dX11_item_307 : decode cX11_item 307 = .ok (.getfield 31, 3) := by decide +kernel
theorem dX11_item_310 : decode cX11_item 310 = .ok (.iconst 3, 1) := by decide +kernel
theorem dX11_item_311 : decode cX11_item 311 = .ok (.iload_n 3, 1) := by decide +kernel
theorem dX11_item_312 : decode cX11_item 312 = .ok (.imul, 1) := by decide +kernel
theorem dX11_item_313 : decode cX11_item 313 = .ok (.iconst 2, 1) := by decide +kernel
theorem dX11_item_314 : decode cX11_item 314 = .ok (.iadd, 1) := by decide +kernel
theorem dX11_item_315 : decode cX11_item 315 = .ok (.invokevirtual 112, 3) := by decide +kernel
theorem dX11_item_318 : decode cX11_item 318 = .ok (.ifCond .eq 7, 3) := by decide +kernel
theorem dX11_item_321 : decode cX11_item 321 = .ok (.iconst 1, 1) := by decide +kernel
theorem dX11_item_322 : decode cX11_item 322 = .ok (.goto 4, 3) := by decide +kernel
theorem dX11_item_325 : decode cX11_item 325 = .ok (.iconst 0, 1) := by decide +kernel
theorem dX11_item_326 : decode cX11_item 326 = .ok (.ireturn, 1) := by decide +kernel
theorem dX11_fault_0 : decode cX11_fault 0 = .ok (.iconst 0, 1) := by decide +kernel
theorem dX11_fault_1 : decode cX11_fault 1 = .ok (.istore_n 1, 1) := by decide +kernel
theorem dX11_fault_2 : decode cX11_fault 2 = .ok (.iload_n 1, 1) := by decide +kernel
theorem dX11_fault_3 : decode cX11_fault 3 = .ok (.iconst 3, 1) := by decide +kernel
theorem dX11_fault_4 : decode cX11_fault 4 = .ok (.if_icmp .ge 16, 3) := by decide +kernel
theorem dX11_fault_7 : decode cX11_fault 7 = .ok (.aload_n 0, 1) := by decide +kernel
theorem dX11_fault_8 : decode cX11_fault 8 = .ok (.getfield 34, 3) := by decide +kernel
theorem dX11_fault_11 : decode cX11_fault 11 = .ok (.iload_n 1, 1) := by decide +kernel
theorem dX11_fault_12 : decode cX11_fault 12 = .ok (.iconst 0, 1) := by decide +kernel
theorem dX11_fault_13 : decode cX11_fault 13 = .ok (.iastore, 1) := by decide +kernel
theorem dX11_fault_14 : decode cX11_fault 14 = .ok (.iinc 1 1, 3) := by decide +kernel
theorem dX11_fault_17 : decode cX11_fault 17 = .ok (.goto (-15), 3) := by decide +kernel
theorem dX11_fault_20 : decode cX11_fault 20 = .ok (.aload_n 0, 1) := by decide +kernel
theorem dX11_fault_21 : decode cX11_fault 21 = .ok (.iconst 0, 1) := by decide +kernel
theorem dX11_fault_22 : decode cX11_fault 22 = .ok (.putfield 101, 3) := by decide +kernel
theorem dX11_fault_25 : decode cX11_fault 25 = .ok (.aload_n 0, 1) := by decide +kernel
theorem dX11_fault_26 : decode cX11_fault 26 = .ok (.getfield 101, 3) := by decide +kernel
theorem dX11_fault_29 : decode cX11_fault 29 = .ok (.aload_n 0, 1) := by decide +kernel
theorem dX11_fault_30 : decode cX11_fault 30 = .ok (.getfield 97, 3) := by decide +kernel
theorem dX11_fault_33 : decode cX11_fault 33 = .ok (.if_icmp .ge 59, 3) := by decide +kernel
theorem dX11_fault_36 : decode cX11_fault 36 = .ok (.aload_n 0, 1) := by decide +kernel
theorem dX11_fault_37 : decode cX11_fault 37 = .ok (.getfield 101, 3) := by decide +kernel
theorem dX11_fault_40 : decode cX11_fault 40 = .ok (.istore_n 1, 1) := by decide +kernel
theorem dX11_fault_41 : decode cX11_fault 41 = .ok (.aload_n 0, 1) := by decide +kernel
theorem dX11_fault_42 : decode cX11_fault 42 = .ok (.dup, 1) := by decide +kernel
theorem dX11_fault_43 : decode cX11_fault 43 = .ok (.getfield 101, 3) := by decide +kernel
theorem dX11_fault_46 : decode cX11_fault 46 = .ok (.iconst 1, 1) := by decide +kernel
theorem dX11_fault_47 : decode cX11_fault 47 = .ok (.iadd, 1) := by decide +kernel
theorem dX11_fault_48 : decode cX11_fault 48 = .ok (.putfield 101, 3) := by decide +kernel
theorem dX11_fault_51 : decode cX11_fault 51 = .ok (.aload_n 0, 1) := by decide +kernel
theorem dX11_fault_52 : decode cX11_fault 52 = .ok (.aload_n 0, 1) := by decide +kernel
theorem dX11_fault_53 : decode cX11_fault 53 = .ok (.getfield 7, 3) := by decide +kernel
theorem dX11_fault_56 : decode cX11_fault 56 = .ok (.iload_n 1, 1) := by decide +kernel
theorem dX11_fault_57 : decode cX11_fault 57 = .ok (.iaload, 1) := by decide +kernel
theorem dX11_fault_58 : decode cX11_fault 58 = .ok (.invokevirtual 116, 3) := by decide +kernel
theorem dX11_fault_61 : decode cX11_fault 61 = .ok (.ifCond .eq 16, 3) := by decide +kernel
theorem dX11_fault_64 : decode cX11_fault 64 = .ok (.aload_n 0, 1) := by decide +kernel
theorem dX11_fault_65 : decode cX11_fault 65 = .ok (.aload_n 0, 1) := by decide +kernel
theorem dX11_fault_66 : decode cX11_fault 66 = .ok (.getfield 101, 3) := by decide +kernel
theorem dX11_fault_69 : decode cX11_fault 69 = .ok (.invokevirtual 104, 3) := by decide +kernel
theorem dX11_fault_72 : decode cX11_fault 72 = .ok (.bipush 59, 2) := by decide +kernel
theorem dX11_fault_74 : decode cX11_fault 74 = .ok (.if_icmp .eq 5, 3) := by decide +kernel
theorem dX11_fault_77 : decode cX11_fault 77 = .ok (.iload_n 1, 1) := by decide +kernel
theorem dX11_fault_78 : decode cX11_fault 78 = .ok (.ireturn, 1) := by decide +kernel
theorem dX11_fault_79 : decode cX11_fault 79 = .ok (.aload_n 0, 1) := by decide +kernel
theorem dX11_fault_80 : decode cX11_fault 80 = .ok (.dup, 1) := by decide +kernel
theorem dX11_fault_81 : decode cX11_fault 81 = .ok (.getfield 101, 3) := by decide +kernel
theorem dX11_fault_84 : decode cX11_fault 84 = .ok (.iconst 1, 1) := by decide +kernel
theorem dX11_fault_85 : decode cX11_fault 85 = .ok (.iadd, 1) := by decide +kernel
theorem dX11_fault_86 : decode cX11_fault 86 = .ok (.putfield 101, 3) := by decide +kernel
theorem dX11_fault_89 : decode cX11_fault 89 = .ok (.goto (-64), 3) := by decide +kernel
theorem dX11_fault_92 : decode cX11_fault 92 = .ok (.bipush (-4), 2) := by decide +kernel
theorem dX11_fault_94 : decode cX11_fault 94 = .ok (.ireturn, 1) := by decide +kernel
theorem dX11_lay_0 : decode cX11_lay 0 = .ok (.aload_n 0, 1) := by decide +kernel
theorem dX11_lay_1 : decode cX11_lay 1 = .ok (.invokevirtual 120, 3) := by decide +kernel
theorem dX11_lay_4 : decode cX11_lay 4 = .ok (.bipush (-4), 2) := by decide +kernel
theorem dX11_lay_6 : decode cX11_lay 6 = .ok (.if_icmp .eq 6, 3) := by decide +kernel
theorem dX11_lay_9 : decode cX11_lay 9 = .ok (.bipush (-2), 2) := by decide +kernel
theorem dX11_lay_11 : decode cX11_lay 11 = .ok (.ireturn, 1) := by decide +kernel
theorem dX11_lay_12 : decode cX11_lay 12 = .ok (.iconst 0, 1) := by decide +kernel
theorem dX11_lay_13 : decode cX11_lay 13 = .ok (.istore_n 1, 1) := by decide +kernel
theorem dX11_lay_14 : decode cX11_lay 14 = .ok (.iload_n 1, 1) := by decide +kernel
theorem dX11_lay_15 : decode cX11_lay 15 = .ok (.bipush 20, 2) := by decide +kernel
theorem dX11_lay_17 : decode cX11_lay 17 = .ok (.if_icmp .ge 21, 3) := by decide +kernel
theorem dX11_lay_20 : decode cX11_lay 20 = .ok (.aload_n 0, 1) := by decide +kernel
theorem dX11_lay_21 : decode cX11_lay 21 = .ok (.getfield 13, 3) := by decide +kernel
theorem dX11_lay_24 : decode cX11_lay 24 = .ok (.iload_n 1, 1) := by decide +kernel
theorem dX11_lay_25 : decode cX11_lay 25 = .ok (.aload_n 0, 1) := by decide +kernel
theorem dX11_lay_26 : decode cX11_lay 26 = .ok (.getfield 25, 3) := by decide +kernel
theorem dX11_lay_29 : decode cX11_lay 29 = .ok (.iload_n 1, 1) := by decide +kernel
theorem dX11_lay_30 : decode cX11_lay 30 = .ok (.iaload, 1) := by decide +kernel
theorem dX11_lay_31 : decode cX11_lay 31 = .ok (.iastore, 1) := by decide +kernel
theorem dX11_lay_32 : decode cX11_lay 32 = .ok (.iinc 1 1, 3) := by decide +kernel
theorem dX11_lay_35 : decode cX11_lay 35 = .ok (.goto (-21), 3) := by decide +kernel
theorem dX11_lay_38 : decode cX11_lay 38 = .ok (.iconst 0, 1) := by decide +kernel
theorem dX11_lay_39 : decode cX11_lay 39 = .ok (.istore_n 1, 1) := by decide +kernel
theorem dX11_lay_40 : decode cX11_lay 40 = .ok (.iload_n 1, 1) := by decide +kernel
theorem dX11_lay_41 : decode cX11_lay 41 = .ok (.bipush 6, 2) := by decide +kernel
theorem dX11_lay_43 : decode cX11_lay 43 = .ok (.if_icmp .ge 21, 3) := by decide +kernel
theorem dX11_lay_46 : decode cX11_lay 46 = .ok (.aload_n 0, 1) := by decide +kernel
theorem dX11_lay_47 : decode cX11_lay 47 = .ok (.getfield 16, 3) := by decide +kernel
theorem dX11_lay_50 : decode cX11_lay 50 = .ok (.iload_n 1, 1) := by decide +kernel
theorem dX11_lay_51 : decode cX11_lay 51 = .ok (.aload_n 0, 1) := by decide +kernel
theorem dX11_lay_52 : decode cX11_lay 52 = .ok (.getfield 28, 3) := by decide +kernel
theorem dX11_lay_55 : decode cX11_lay 55 = .ok (.iload_n 1, 1) := by decide +kernel
theorem dX11_lay_56 : decode cX11_lay 56 = .ok (.iaload, 1) := by decide +kernel
theorem dX11_lay_57 : decode cX11_lay 57 = .ok (.iastore, 1) := by decide +kernel
theorem dX11_lay_58 : decode cX11_lay 58 = .ok (.iinc 1 1, 3) := by decide +kernel
theorem dX11_lay_61 : decode cX11_lay 61 = .ok (.goto (-21), 3) := by decide +kernel
theorem dX11_lay_64 : decode cX11_lay 64 = .ok (.iconst 0, 1) := by decide +kernel
theorem dX11_lay_65 : decode cX11_lay 65 = .ok (.istore_n 1, 1) := by decide +kernel
theorem dX11_lay_66 : decode cX11_lay 66 = .ok (.iload_n 1, 1) := by decide +kernel
theorem dX11_lay_67 : decode cX11_lay 67 = .ok (.bipush 12, 2) := by decide +kernel
theorem dX11_lay_69 : decode cX11_lay 69 = .ok (.if_icmp .ge 21, 3) := by decide +kernel
theorem dX11_lay_72 : decode cX11_lay 72 = .ok (.aload_n 0, 1) := by decide +kernel
theorem dX11_lay_73 : decode cX11_lay 73 = .ok (.getfield 19, 3) := by decide +kernel
theorem dX11_lay_76 : decode cX11_lay 76 = .ok (.iload_n 1, 1) := by decide +kernel
theorem dX11_lay_77 : decode cX11_lay 77 = .ok (.aload_n 0, 1) := by decide +kernel
theorem dX11_lay_78 : decode cX11_lay 78 = .ok (.getfield 31, 3) := by decide +kernel
theorem dX11_lay_81 : decode cX11_lay 81 = .ok (.iload_n 1, 1) := by decide +kernel
theorem dX11_lay_82 : decode cX11_lay 82 = .ok (.iaload, 1) := by decide +kernel
theorem dX11_lay_83 : decode cX11_lay 83 = .ok (.iastore, 1) := by decide +kernel
theorem dX11_lay_84 : decode cX11_lay 84 = .ok (.iinc 1 1, 3) := by decide +kernel
theorem dX11_lay_87 : decode cX11_lay 87 = .ok (.goto (-21), 3) := by decide +kernel
theorem dX11_lay_90 : decode cX11_lay 90 = .ok (.iconst 0, 1) := by decide +kernel
theorem dX11_lay_91 : decode cX11_lay 91 = .ok (.istore_n 1, 1) := by decide +kernel
theorem dX11_lay_92 : decode cX11_lay 92 = .ok (.iload_n 1, 1) := by decide +kernel
theorem dX11_lay_93 : decode cX11_lay 93 = .ok (.iconst 3, 1) := by decide +kernel
theorem dX11_lay_94 : decode cX11_lay 94 = .ok (.if_icmp .ge 21, 3) := by decide +kernel
theorem dX11_lay_97 : decode cX11_lay 97 = .ok (.aload_n 0, 1) := by decide +kernel
theorem dX11_lay_98 : decode cX11_lay 98 = .ok (.getfield 22, 3) := by decide +kernel
theorem dX11_lay_101 : decode cX11_lay 101 = .ok (.iload_n 1, 1) := by decide +kernel
theorem dX11_lay_102 : decode cX11_lay 102 = .ok (.aload_n 0, 1) := by decide +kernel
theorem dX11_lay_103 : decode cX11_lay 103 = .ok (.getfield 34, 3) := by decide +kernel
theorem dX11_lay_106 : decode cX11_lay 106 = .ok (.iload_n 1, 1) := by decide +kernel
theorem dX11_lay_107 : decode cX11_lay 107 = .ok (.iaload, 1) := by decide +kernel
theorem dX11_lay_108 : decode cX11_lay 108 = .ok (.iastore, 1) := by decide +kernel
theorem dX11_lay_109 : decode cX11_lay 109 = .ok (.iinc 1 1, 3) := by decide +kernel
theorem dX11_lay_112 : decode cX11_lay 112 = .ok (.goto (-20), 3) := by decide +kernel
theorem dX11_lay_115 : decode cX11_lay 115 = .ok (.aload_n 0, 1) := by decide +kernel
theorem dX11_lay_116 : decode cX11_lay 116 = .ok (.invokevirtual 86, 3) := by decide +kernel
theorem dX11_lay_119 : decode cX11_lay 119 = .ok (.aload_n 0, 1) := by decide +kernel
theorem dX11_lay_120 : decode cX11_lay 120 = .ok (.getfield 124, 3) := by decide +kernel
theorem dX11_lay_123 : decode cX11_lay 123 = .ok (.ireturn, 1) := by decide +kernel
theorem dX11_sees_0 : decode cX11_sees 0 = .ok (.aload_n 0, 1) := by decide +kernel
theorem dX11_sees_1 : decode cX11_sees 1 = .ok (.getfield 13, 3) := by decide +kernel
theorem dX11_sees_4 : decode cX11_sees 4 = .ok (.iconst 5, 1) := by decide +kernel
theorem dX11_sees_5 : decode cX11_sees 5 = .ok (.iload_n 1, 1) := by decide +kernel
theorem dX11_sees_6 : decode cX11_sees 6 = .ok (.imul, 1) := by decide +kernel
theorem dX11_sees_7 : decode cX11_sees 7 = .ok (.iconst 1, 1) := by decide +kernel
theorem dX11_sees_8 : decode cX11_sees 8 = .ok (.iadd, 1) := by decide +kernel
theorem dX11_sees_9 : decode cX11_sees 9 = .ok (.iaload, 1) := by decide +kernel
theorem dX11_sees_10 : decode cX11_sees 10 = .ok (.istore 4, 2) := by decide +kernel
theorem dX11_sees_12 : decode cX11_sees 12 = .ok (.iload_n 3, 1) := by decide +kernel
theorem dX11_sees_13 : decode cX11_sees 13 = .ok (.aload_n 0, 1) := by decide +kernel
theorem dX11_sees_14 : decode cX11_sees 14 = .ok (.getfield 13, 3) := by decide +kernel
theorem dX11_sees_17 : decode cX11_sees 17 = .ok (.iconst 5, 1) := by decide +kernel
theorem dX11_sees_18 : decode cX11_sees 18 = .ok (.iload_n 1, 1) := by decide +kernel
theorem dX11_sees_19 : decode cX11_sees 19 = .ok (.imul, 1) := by decide +kernel
theorem dX11_sees_20 : decode cX11_sees 20 = .ok (.iaload, 1) := by decide +kernel
theorem dX11_sees_21 : decode cX11_sees 21 = .ok (.isub, 1) := by decide +kernel
theorem dX11_sees_22 : decode cX11_sees 22 = .ok (.aload_n 0, 1) := by decide +kernel
theorem dX11_sees_23 : decode cX11_sees 23 = .ok (.getfield 16, 3) := by decide +kernel
theorem dX11_sees_26 : decode cX11_sees 26 = .ok (.iconst 2, 1) := by decide +kernel
theorem dX11_sees_27 : decode cX11_sees 27 = .ok (.iload_n 2, 1) := by decide +kernel
theorem dX11_sees_28 : decode cX11_sees 28 = .ok (.imul, 1) := by decide +kernel
theorem dX11_sees_29 : decode cX11_sees 29 = .ok (.iaload, 1) := by decide +kernel
theorem dX11_sees_30 : decode cX11_sees 30 = .ok (.isub, 1) := by decide +kernel
theorem dX11_sees_31 : decode cX11_sees 31 = .ok (.iload 4, 2) := by decide +kernel
theorem dX11_sees_33 : decode cX11_sees 33 = .ok (.irem, 1) := by decide +kernel
theorem dX11_sees_34 : decode cX11_sees 34 = .ok (.istore 5, 2) := by decide +kernel
theorem dX11_sees_36 : decode cX11_sees 36 = .ok (.iload 5, 2) := by decide +kernel
theorem dX11_sees_38 : decode cX11_sees 38 = .ok (.ifCond .ge 11, 3) := by decide +kernel
theorem dX11_sees_41 : decode cX11_sees 41 = .ok (.iload 5, 2) := by decide +kernel
theorem dX11_sees_43 : decode cX11_sees 43 = .ok (.iload 4, 2) := by decide +kernel
theorem dX11_sees_45 : decode cX11_sees 45 = .ok (.iadd, 1) := by decide +kernel
theorem dX11_sees_46 : decode cX11_sees 46 = .ok (.goto 5, 3) := by decide +kernel
theorem dX11_sees_49 : decode cX11_sees 49 = .ok (.iload 5, 2) := by decide +kernel
theorem dX11_sees_51 : decode cX11_sees 51 = .ok (.aload_n 0, 1) := by decide +kernel
theorem dX11_sees_52 : decode cX11_sees 52 = .ok (.getfield 16, 3) := by decide +kernel
theorem dX11_sees_55 : decode cX11_sees 55 = .ok (.iconst 2, 1) := by decide +kernel
theorem dX11_sees_56 : decode cX11_sees 56 = .ok (.iload_n 2, 1) := by decide +kernel
theorem dX11_sees_57 : decode cX11_sees 57 = .ok (.imul, 1) := by decide +kernel
theorem dX11_sees_58 : decode cX11_sees 58 = .ok (.iconst 1, 1) := by decide +kernel
theorem dX11_sees_59 : decode cX11_sees 59 = .ok (.iadd, 1) := by decide +kernel
theorem dX11_sees_60 : decode cX11_sees 60 = .ok (.iaload, 1) := by decide +kernel
theorem dX11_sees_61 : decode cX11_sees 61 = .ok (.if_icmp .ge 7, 3) := by decide +kernel
theorem dX11_sees_64 : decode cX11_sees 64 = .ok (.iconst 1, 1) := by decide +kernel
theorem dX11_sees_65 : decode cX11_sees 65 = .ok (.goto 4, 3) := by decide +kernel
theorem dX11_sees_68 : decode cX11_sees 68 = .ok (.iconst 0, 1) := by decide +kernel
theorem dX11_sees_69 : decode cX11_sees 69 = .ok (.ireturn, 1) := by decide +kernel
theorem dX11_rateOf_0 : decode cX11_rateOf 0 = .ok (.iload_n 3, 1) := by decide +kernel
theorem dX11_rateOf_1 : decode cX11_rateOf 1 = .ok (.iconst 1, 1) := by decide +kernel
theorem dX11_rateOf_2 : decode cX11_rateOf 2 = .ok (.isub, 1) := by decide +kernel
theorem dX11_rateOf_3 : decode cX11_rateOf 3 = .ok (.iload_n 2, 1) := by decide +kernel
theorem dX11_rateOf_4 : decode cX11_rateOf 4 = .ok (.isub, 1) := by decide +kernel
theorem dX11_rateOf_5 : decode cX11_rateOf 5 = .ok (.istore 4, 2) := by decide +kernel
theorem dX11_rateOf_7 : decode cX11_rateOf 7 = .ok (.iconst 2, 1) := by decide +kernel
theorem dX11_rateOf_8 : decode cX11_rateOf 8 = .ok (.aload_n 0, 1) := by decide +kernel
theorem dX11_rateOf_9 : decode cX11_rateOf 9 = .ok (.getfield 13, 3) := by decide +kernel
theorem dX11_rateOf_12 : decode cX11_rateOf 12 = .ok (.iconst 5, 1) := by decide +kernel
theorem dX11_rateOf_13 : decode cX11_rateOf 13 = .ok (.iload_n 1, 1) := by decide +kernel
theorem dX11_rateOf_14 : decode cX11_rateOf 14 = .ok (.imul, 1) := by decide +kernel
theorem dX11_rateOf_15 : decode cX11_rateOf 15 = .ok (.iconst 2, 1) := by decide +kernel
theorem dX11_rateOf_16 : decode cX11_rateOf 16 = .ok (.iadd, 1) := by decide +kernel
theorem dX11_rateOf_17 : decode cX11_rateOf 17 = .ok (.iaload, 1) := by decide +kernel
theorem dX11_rateOf_18 : decode cX11_rateOf 18 = .ok (.iadd, 1) := by decide +kernel
theorem dX11_rateOf_19 : decode cX11_rateOf 19 = .ok (.iconst 1, 1) := by decide +kernel
theorem dX11_rateOf_20 : decode cX11_rateOf 20 = .ok (.iload_n 2, 1) := by decide +kernel
theorem dX11_rateOf_21 : decode cX11_rateOf 21 = .ok (.iload 4, 2) := by decide +kernel
theorem dX11_rateOf_23 : decode cX11_rateOf 23 = .ok (.if_icmp .ge 7, 3) := by decide +kernel
theorem dX11_rateOf_26 : decode cX11_rateOf 26 = .ok (.iload_n 2, 1) := by decide +kernel
theorem dX11_rateOf_27 : decode cX11_rateOf 27 = .ok (.goto 5, 3) := by decide +kernel
theorem dX11_rateOf_30 : decode cX11_rateOf 30 = .ok (.iload 4, 2) := by decide +kernel
theorem dX11_rateOf_32 : decode cX11_rateOf 32 = .ok (.iadd, 1) := by decide +kernel
theorem dX11_rateOf_33 : decode cX11_rateOf 33 = .ok (.imul, 1) := by decide +kernel
theorem dX11_rateOf_34 : decode cX11_rateOf 34 = .ok (.ireturn, 1) := by decide +kernel
theorem dX11_lays_0 : decode cX11_lays 0 = .ok (.aload_n 0, 1) := by decide +kernel
theorem dX11_lays_1 : decode cX11_lays 1 = .ok (.iconst 0, 1) := by decide +kernel
theorem dX11_lays_2 : decode cX11_lays 2 = .ok (.putfield 124, 3) := by decide +kernel
theorem dX11_lays_5 : decode cX11_lays 5 = .ok (.iconst 0, 1) := by decide +kernel
theorem dX11_lays_6 : decode cX11_lays 6 = .ok (.istore_n 1, 1) := by decide +kernel
theorem dX11_lays_7 : decode cX11_lays 7 = .ok (.iload_n 1, 1) := by decide +kernel
theorem dX11_lays_8 : decode cX11_lays 8 = .ok (.bipush 60, 2) := by decide +kernel
theorem dX11_lays_10 : decode cX11_lays 10 = .ok (.if_icmp .ge 239, 3) := by decide +kernel
theorem dX11_lays_13 : decode cX11_lays 13 = .ok (.iconst 0, 1) := by decide +kernel
theorem dX11_lays_14 : decode cX11_lays 14 = .ok (.istore_n 2, 1) := by decide +kernel
theorem dX11_lays_15 : decode cX11_lays 15 = .ok (.iload_n 2, 1) := by decide +kernel
theorem dX11_lays_16 : decode cX11_lays 16 = .ok (.aload_n 0, 1) := by decide +kernel
theorem dX11_lays_17 : decode cX11_lays 17 = .ok (.getfield 22, 3) := by decide +kernel
theorem dX11_lays_20 : decode cX11_lays 20 = .ok (.iconst 0, 1) := by decide +kernel
theorem dX11_lays_21 : decode cX11_lays 21 = .ok (.iaload, 1) := by decide +kernel
theorem dX11_lays_22 : decode cX11_lays 22 = .ok (.aload_n 0, 1) := by decide +kernel
theorem dX11_lays_23 : decode cX11_lays 23 = .ok (.getfield 22, 3) := by decide +kernel
theorem dX11_lays_26 : decode cX11_lays 26 = .ok (.iconst 1, 1) := by decide +kernel
theorem dX11_lays_27 : decode cX11_lays 27 = .ok (.iaload, 1) := by decide +kernel
theorem dX11_lays_28 : decode cX11_lays 28 = .ok (.imul, 1) := by decide +kernel
theorem dX11_lays_29 : decode cX11_lays 29 = .ok (.if_icmp .ge 214, 3) := by decide +kernel
theorem dX11_lays_32 : decode cX11_lays 32 = .ok (.iload_n 2, 1) := by decide +kernel
theorem dX11_lays_33 : decode cX11_lays 33 = .ok (.aload_n 0, 1) := by decide +kernel
theorem dX11_lays_34 : decode cX11_lays 34 = .ok (.getfield 22, 3) := by decide +kernel
theorem dX11_lays_37 : decode cX11_lays 37 = .ok (.iconst 1, 1) := by decide +kernel
theorem dX11_lays_38 : decode cX11_lays 38 = .ok (.iaload, 1) := by decide +kernel
theorem dX11_lays_39 : decode cX11_lays 39 = .ok (.idiv, 1) := by decide +kernel
theorem dX11_lays_40 : decode cX11_lays 40 = .ok (.istore_n 3, 1) := by decide +kernel
