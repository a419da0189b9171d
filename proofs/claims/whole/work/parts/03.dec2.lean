theorem dX7_itemsOf_23 : decode cX7_itemsOf 23 = .ok (.bipush 97, 2) := by decide +kernel
theorem dX7_itemsOf_25 : decode cX7_itemsOf 25 = .ok (.if_icmp .ne 10, 3) := by decide +kernel
theorem dX7_itemsOf_28 : decode cX7_itemsOf 28 = .ok (.aload_n 0, 1) := by decide +kernel
theorem dX7_itemsOf_29 : decode cX7_itemsOf 29 = .ok (.getfield 42, 3) := by decide +kernel
theorem dX7_itemsOf_32 : decode cX7_itemsOf 32 = .ok (.goto 4, 3) := by decide +kernel
theorem dX7_itemsOf_35 : decode cX7_itemsOf 35 = .ok (.aconst_null, 1) := by decide +kernel
theorem dX7_itemsOf_36 : decode cX7_itemsOf 36 = .ok (.areturn, 1) := by decide +kernel
theorem dX7_readNumbers_0 : decode cX7_readNumbers 0 = .ok (.iload_n 1, 1) := by decide +kernel
theorem dX7_readNumbers_1 : decode cX7_readNumbers 1 = .ok (.istore 4, 2) := by decide +kernel
theorem dX7_readNumbers_3 : decode cX7_readNumbers 3 = .ok (.iconst 0, 1) := by decide +kernel
theorem dX7_readNumbers_4 : decode cX7_readNumbers 4 = .ok (.istore 5, 2) := by decide +kernel
theorem dX7_readNumbers_6 : decode cX7_readNumbers 6 = .ok (.iload 5, 2) := by decide +kernel
theorem dX7_readNumbers_8 : decode cX7_readNumbers 8 = .ok (.aload_n 3, 1) := by decide +kernel
theorem dX7_readNumbers_9 : decode cX7_readNumbers 9 = .ok (.arraylength, 1) := by decide +kernel
theorem dX7_readNumbers_10 : decode cX7_readNumbers 10 = .ok (.if_icmp .ge 89, 3) := by decide +kernel
theorem dX7_readNumbers_13 : decode cX7_readNumbers 13 = .ok (.aload_n 0, 1) := by decide +kernel
theorem dX7_readNumbers_14 : decode cX7_readNumbers 14 = .ok (.iload 4, 2) := by decide +kernel
theorem dX7_readNumbers_16 : decode cX7_readNumbers 16 = .ok (.invokevirtual 82, 3) := by decide +kernel
theorem dX7_readNumbers_19 : decode cX7_readNumbers 19 = .ok (.istore 6, 2) := by decide +kernel
theorem dX7_readNumbers_21 : decode cX7_readNumbers 21 = .ok (.aload_n 3, 1) := by decide +kernel
theorem dX7_readNumbers_22 : decode cX7_readNumbers 22 = .ok (.iload 5, 2) := by decide +kernel
theorem dX7_readNumbers_24 : decode cX7_readNumbers 24 = .ok (.aload_n 0, 1) := by decide +kernel
theorem dX7_readNumbers_25 : decode cX7_readNumbers 25 = .ok (.iload 4, 2) := by decide +kernel
theorem dX7_readNumbers_27 : decode cX7_readNumbers 27 = .ok (.iload 6, 2) := by decide +kernel
theorem dX7_readNumbers_29 : decode cX7_readNumbers 29 = .ok (.invokevirtual 86, 3) := by decide +kernel
theorem dX7_readNumbers_32 : decode cX7_readNumbers 32 = .ok (.iastore, 1) := by decide +kernel
theorem dX7_readNumbers_33 : decode cX7_readNumbers 33 = .ok (.iload 4, 2) := by decide +kernel
theorem dX7_readNumbers_35 : decode cX7_readNumbers 35 = .ok (.iload 6, 2) := by decide +kernel
theorem dX7_readNumbers_37 : decode cX7_readNumbers 37 = .ok (.iadd, 1) := by decide +kernel
theorem dX7_readNumbers_38 : decode cX7_readNumbers 38 = .ok (.istore 4, 2) := by decide +kernel
theorem dX7_readNumbers_40 : decode cX7_readNumbers 40 = .ok (.iload 5, 2) := by decide +kernel
theorem dX7_readNumbers_42 : decode cX7_readNumbers 42 = .ok (.aload_n 3, 1) := by decide +kernel
theorem dX7_readNumbers_43 : decode cX7_readNumbers 43 = .ok (.arraylength, 1) := by decide +kernel
theorem dX7_readNumbers_44 : decode cX7_readNumbers 44 = .ok (.iconst 1, 1) := by decide +kernel
theorem dX7_readNumbers_45 : decode cX7_readNumbers 45 = .ok (.isub, 1) := by decide +kernel
theorem dX7_readNumbers_46 : decode cX7_readNumbers 46 = .ok (.if_icmp .ge 8, 3) := by decide +kernel
theorem dX7_readNumbers_49 : decode cX7_readNumbers 49 = .ok (.bipush 44, 2) := by decide +kernel
theorem dX7_readNumbers_51 : decode cX7_readNumbers 51 = .ok (.goto 5, 3) := by decide +kernel
theorem dX7_readNumbers_54 : decode cX7_readNumbers 54 = .ok (.bipush 59, 2) := by decide +kernel
theorem dX7_readNumbers_56 : decode cX7_readNumbers 56 = .ok (.istore 7, 2) := by decide +kernel
theorem dX7_readNumbers_58 : decode cX7_readNumbers 58 = .ok (.iload 6, 2) := by decide +kernel
theorem dX7_readNumbers_60 : decode cX7_readNumbers 60 = .ok (.ifCond .eq 27, 3) := by decide +kernel
theorem dX7_readNumbers_63 : decode cX7_readNumbers 63 = .ok (.aload_n 2, 1) := by decide +kernel
theorem dX7_readNumbers_64 : decode cX7_readNumbers 64 = .ok (.iload 5, 2) := by decide +kernel
theorem dX7_readNumbers_66 : decode cX7_readNumbers 66 = .ok (.aload_n 3, 1) := by decide +kernel
theorem dX7_readNumbers_67 : decode cX7_readNumbers 67 = .ok (.iload 5, 2) := by decide +kernel
theorem dX7_readNumbers_69 : decode cX7_readNumbers 69 = .ok (.iaload, 1) := by decide +kernel
theorem dX7_readNumbers_70 : decode cX7_readNumbers 70 = .ok (.invokevirtual 90, 3) := by decide +kernel
theorem dX7_readNumbers_73 : decode cX7_readNumbers 73 = .ok (.ifCond .eq 14, 3) := by decide +kernel
theorem dX7_readNumbers_76 : decode cX7_readNumbers 76 = .ok (.aload_n 0, 1) := by decide +kernel
theorem dX7_readNumbers_77 : decode cX7_readNumbers 77 = .ok (.iload 4, 2) := by decide +kernel
theorem dX7_readNumbers_79 : decode cX7_readNumbers 79 = .ok (.invokevirtual 58, 3) := by decide +kernel
theorem dX7_readNumbers_82 : decode cX7_readNumbers 82 = .ok (.iload 7, 2) := by decide +kernel
theorem dX7_readNumbers_84 : decode cX7_readNumbers 84 = .ok (.if_icmp .eq 6, 3) := by decide +kernel
theorem dX7_readNumbers_87 : decode cX7_readNumbers 87 = .ok (.bipush (-4), 2) := by decide +kernel
theorem dX7_readNumbers_89 : decode cX7_readNumbers 89 = .ok (.ireturn, 1) := by decide +kernel
theorem dX7_readNumbers_90 : decode cX7_readNumbers 90 = .ok (.iinc 4 1, 3) := by decide +kernel
theorem dX7_readNumbers_93 : decode cX7_readNumbers 93 = .ok (.iinc 5 1, 3) := by decide +kernel
theorem dX7_readNumbers_96 : decode cX7_readNumbers 96 = .ok (.goto (-90), 3) := by decide +kernel
theorem dX7_readNumbers_99 : decode cX7_readNumbers 99 = .ok (.iload 4, 2) := by decide +kernel
theorem dX7_readNumbers_101 : decode cX7_readNumbers 101 = .ok (.ireturn, 1) := by decide +kernel
theorem dX7_sees_0 : decode cX7_sees 0 = .ok (.aload_n 0, 1) := by decide +kernel
theorem dX7_sees_1 : decode cX7_sees 1 = .ok (.getfield 21, 3) := by decide +kernel
theorem dX7_sees_4 : decode cX7_sees 4 = .ok (.iload_n 1, 1) := by decide +kernel
theorem dX7_sees_5 : decode cX7_sees 5 = .ok (.iconst 1, 1) := by decide +kernel
theorem dX7_sees_6 : decode cX7_sees 6 = .ok (.invokevirtual 94, 3) := by decide +kernel
theorem dX7_sees_9 : decode cX7_sees 9 = .ok (.istore 4, 2) := by decide +kernel
theorem dX7_sees_11 : decode cX7_sees 11 = .ok (.iload_n 3, 1) := by decide +kernel
theorem dX7_sees_12 : decode cX7_sees 12 = .ok (.aload_n 0, 1) := by decide +kernel
theorem dX7_sees_13 : decode cX7_sees 13 = .ok (.getfield 21, 3) := by decide +kernel
theorem dX7_sees_16 : decode cX7_sees 16 = .ok (.iload_n 1, 1) := by decide +kernel
theorem dX7_sees_17 : decode cX7_sees 17 = .ok (.iconst 0, 1) := by decide +kernel
theorem dX7_sees_18 : decode cX7_sees 18 = .ok (.invokevirtual 94, 3) := by decide +kernel
theorem dX7_sees_21 : decode cX7_sees 21 = .ok (.isub, 1) := by decide +kernel
theorem dX7_sees_22 : decode cX7_sees 22 = .ok (.aload_n 0, 1) := by decide +kernel
theorem dX7_sees_23 : decode cX7_sees 23 = .ok (.getfield 33, 3) := by decide +kernel
theorem dX7_sees_26 : decode cX7_sees 26 = .ok (.iload_n 2, 1) := by decide +kernel
theorem dX7_sees_27 : decode cX7_sees 27 = .ok (.iconst 0, 1) := by decide +kernel
theorem dX7_sees_28 : decode cX7_sees 28 = .ok (.invokevirtual 94, 3) := by decide +kernel
theorem dX7_sees_31 : decode cX7_sees 31 = .ok (.isub, 1) := by decide +kernel
theorem dX7_sees_32 : decode cX7_sees 32 = .ok (.istore 5, 2) := by decide +kernel
theorem dX7_sees_34 : decode cX7_sees 34 = .ok (.iload 4, 2) := by decide +kernel
theorem dX7_sees_36 : decode cX7_sees 36 = .ok (.ifCond .le 26, 3) := by decide +kernel
theorem dX7_sees_39 : decode cX7_sees 39 = .ok (.iload 5, 2) := by decide +kernel
theorem dX7_sees_41 : decode cX7_sees 41 = .ok (.iload 4, 2) := by decide +kernel
theorem dX7_sees_43 : decode cX7_sees 43 = .ok (.invokestatic 97, 3) := by decide +kernel
theorem dX7_sees_46 : decode cX7_sees 46 = .ok (.aload_n 0, 1) := by decide +kernel
theorem dX7_sees_47 : decode cX7_sees 47 = .ok (.getfield 33, 3) := by decide +kernel
theorem dX7_sees_50 : decode cX7_sees 50 = .ok (.iload_n 2, 1) := by decide +kernel
theorem dX7_sees_51 : decode cX7_sees 51 = .ok (.iconst 1, 1) := by decide +kernel
theorem dX7_sees_52 : decode cX7_sees 52 = .ok (.invokevirtual 94, 3) := by decide +kernel
theorem dX7_sees_55 : decode cX7_sees 55 = .ok (.if_icmp .ge 7, 3) := by decide +kernel
theorem dX7_sees_58 : decode cX7_sees 58 = .ok (.iconst 1, 1) := by decide +kernel
theorem dX7_sees_59 : decode cX7_sees 59 = .ok (.goto 4, 3) := by decide +kernel
theorem dX7_sees_62 : decode cX7_sees 62 = .ok (.iconst 0, 1) := by decide +kernel
theorem dX7_sees_63 : decode cX7_sees 63 = .ok (.ireturn, 1) := by decide +kernel
theorem dX7_takes_0 : decode cX7_takes 0 = .ok (.aload_n 0, 1) := by decide +kernel
theorem dX7_takes_1 : decode cX7_takes 1 = .ok (.getfield 42, 3) := by decide +kernel
theorem dX7_takes_4 : decode cX7_takes 4 = .ok (.iload_n 1, 1) := by decide +kernel
theorem dX7_takes_5 : decode cX7_takes 5 = .ok (.iconst 1, 1) := by decide +kernel
theorem dX7_takes_6 : decode cX7_takes 6 = .ok (.invokevirtual 94, 3) := by decide +kernel
theorem dX7_takes_9 : decode cX7_takes 9 = .ok (.istore_n 3, 1) := by decide +kernel
theorem dX7_takes_10 : decode cX7_takes 10 = .ok (.iload_n 3, 1) := by decide +kernel
theorem dX7_takes_11 : decode cX7_takes 11 = .ok (.iconst 2, 1) := by decide +kernel
theorem dX7_takes_12 : decode cX7_takes 12 = .ok (.if_icmp .eq 16, 3) := by decide +kernel
theorem dX7_takes_15 : decode cX7_takes 15 = .ok (.iload_n 3, 1) := by decide +kernel
theorem dX7_takes_16 : decode cX7_takes 16 = .ok (.aload_n 0, 1) := by decide +kernel
theorem dX7_takes_17 : decode cX7_takes 17 = .ok (.getfield 21, 3) := by decide +kernel
theorem dX7_takes_20 : decode cX7_takes 20 = .ok (.iload_n 2, 1) := by decide +kernel
theorem dX7_takes_21 : decode cX7_takes 21 = .ok (.iconst 2, 1) := by decide +kernel
theorem dX7_takes_22 : decode cX7_takes 22 = .ok (.invokevirtual 94, 3) := by decide +kernel
theorem dX7_takes_25 : decode cX7_takes 25 = .ok (.if_icmp .ne 7, 3) := by decide +kernel
theorem dX7_takes_28 : decode cX7_takes 28 = .ok (.iconst 1, 1) := by decide +kernel
theorem dX7_takes_29 : decode cX7_takes 29 = .ok (.goto 4, 3) := by decide +kernel
theorem dX7_takes_32 : decode cX7_takes 32 = .ok (.iconst 0, 1) := by decide +kernel
theorem dX7_takes_33 : decode cX7_takes 33 = .ok (.ireturn, 1) := by decide +kernel
theorem dX8_init_0 : decode cX8_init 0 = .ok (.aload_n 0, 1) := by decide +kernel
theorem dX8_init_1 : decode cX8_init 1 = .ok (.invokespecial 3, 3) := by decide +kernel
theorem dX8_init_4 : decode cX8_init 4 = .ok (.aload_n 0, 1) := by decide +kernel
theorem dX8_init_5 : decode cX8_init 5 = .ok (.bipush 24, 2) := by decide +kernel
theorem dX8_init_7 : decode cX8_init 7 = .ok (.newarray .int, 2) := by decide +kernel
theorem dX8_init_9 : decode cX8_init 9 = .ok (.putfield 9, 3) := by decide +kernel
theorem dX8_init_12 : decode cX8_init 12 = .ok (.aload_n 0, 1) := by decide +kernel
theorem dX8_init_13 : decode cX8_init 13 = .ok (.iconst 4, 1) := by decide +kernel
theorem dX8_init_14 : decode cX8_init 14 = .ok (.newarray .int, 2) := by decide +kernel
theorem dX8_init_16 : decode cX8_init 16 = .ok (.putfield 15, 3) := by decide +kernel
theorem dX8_init_19 : decode cX8_init 19 = .ok (.aload_n 0, 1) := by decide +kernel
theorem dX8_init_20 : decode cX8_init 20 = .ok (.iconst 4, 1) := by decide +kernel
theorem dX8_init_21 : decode cX8_init 21 = .ok (.newarray .int, 2) := by decide +kernel
theorem dX8_init_23 : decode cX8_init 23 = .ok (.putfield 18, 3) := by decide +kernel
theorem dX8_init_26 : decode cX8_init 26 = .ok (.return_, 1) := by decide +kernel
theorem dX8_clear_0 : decode cX8_clear 0 = .ok (.aload_n 0, 1) := by decide +kernel
theorem dX8_clear_1 : decode cX8_clear 1 = .ok (.getfield 9, 3) := by decide +kernel
theorem dX8_clear_4 : decode cX8_clear 4 = .ok (.iconst (-1), 1) := by decide +kernel
theorem dX8_clear_5 : decode cX8_clear 5 = .ok (.invokestatic 21, 3) := by decide +kernel
theorem dX8_clear_8 : decode cX8_clear 8 = .ok (.aload_n 0, 1) := by decide +kernel
theorem dX8_clear_9 : decode cX8_clear 9 = .ok (.getfield 15, 3) := by decide +kernel
theorem dX8_clear_12 : decode cX8_clear 12 = .ok (.iconst 1, 1) := by decide +kernel
theorem dX8_clear_13 : decode cX8_clear 13 = .ok (.invokestatic 21, 3) := by decide +kernel
theorem dX8_clear_16 : decode cX8_clear 16 = .ok (.aload_n 0, 1) := by decide +kernel
theorem dX8_clear_17 : decode cX8_clear 17 = .ok (.getfield 18, 3) := by decide +kernel
theorem dX8_clear_20 : decode cX8_clear 20 = .ok (.iconst 0, 1) := by decide +kernel
theorem dX8_clear_21 : decode cX8_clear 21 = .ok (.invokestatic 21, 3) := by decide +kernel
theorem dX8_clear_24 : decode cX8_clear 24 = .ok (.return_, 1) := by decide +kernel
theorem dX8_copyFrom_0 : decode cX8_copyFrom 0 = .ok (.aload_n 1, 1) := by decide +kernel
theorem dX8_copyFrom_1 : decode cX8_copyFrom 1 = .ok (.getfield 9, 3) := by decide +kernel
theorem dX8_copyFrom_4 : decode cX8_copyFrom 4 = .ok (.iconst 0, 1) := by decide +kernel
theorem dX8_copyFrom_5 : decode cX8_copyFrom 5 = .ok (.aload_n 0, 1) := by decide +kernel
theorem dX8_copyFrom_6 : decode cX8_copyFrom 6 = .ok (.getfield 9, 3) := by decide +kernel
theorem dX8_copyFrom_9 : decode cX8_copyFrom 9 = .ok (.iconst 0, 1) := by decide +kernel
theorem dX8_copyFrom_10 : decode cX8_copyFrom 10 = .ok (.aload_n 0, 1) := by decide +kernel
theorem dX8_copyFrom_11 : decode cX8_copyFrom 11 = .ok (.getfield 9, 3) := by decide +kernel
theorem dX8_copyFrom_14 : decode cX8_copyFrom 14 = .ok (.arraylength, 1) := by decide +kernel
theorem dX8_copyFrom_15 : decode cX8_copyFrom 15 = .ok (.invokestatic 27, 3) := by decide +kernel
theorem dX8_copyFrom_18 : decode cX8_copyFrom 18 = .ok (.aload_n 1, 1) := by decide +kernel
theorem dX8_copyFrom_19 : decode cX8_copyFrom 19 = .ok (.getfield 15, 3) := by decide +kernel
theorem dX8_copyFrom_22 : decode cX8_copyFrom 22 = .ok (.iconst 0, 1) := by decide +kernel
theorem dX8_copyFrom_23 : decode cX8_copyFrom 23 = .ok (.aload_n 0, 1) := by decide +kernel
theorem dX8_copyFrom_24 : decode cX8_copyFrom 24 = .ok (.getfield 15, 3) := by decide +kernel
theorem dX8_copyFrom_27 : decode cX8_copyFrom 27 = .ok (.iconst 0, 1) := by decide +kernel
theorem dX8_copyFrom_28 : decode cX8_copyFrom 28 = .ok (.aload_n 0, 1) := by decide +kernel
theorem dX8_copyFrom_29 : decode cX8_copyFrom 29 = .ok (.getfield 15, 3) := by decide +kernel
theorem dX8_copyFrom_32 : decode cX8_copyFrom 32 = .ok (.arraylength, 1) := by decide +kernel
theorem dX8_copyFrom_33 : decode cX8_copyFrom 33 = .ok (.invokestatic 27, 3) := by decide +kernel
theorem dX8_copyFrom_36 : decode cX8_copyFrom 36 = .ok (.aload_n 1, 1) := by decide +kernel
theorem dX8_copyFrom_37 : decode cX8_copyFrom 37 = .ok (.getfield 18, 3) := by decide +kernel
theorem dX8_copyFrom_40 : decode cX8_copyFrom 40 = .ok (.iconst 0, 1) := by decide +kernel
theorem dX8_copyFrom_41 : decode cX8_copyFrom 41 = .ok (.aload_n 0, 1) := by decide +kernel
theorem dX8_copyFrom_42 : decode cX8_copyFrom 42 = .ok (.getfield 18, 3) := by decide +kernel
theorem dX8_copyFrom_45 : decode cX8_copyFrom 45 = .ok (.iconst 0, 1) := by decide +kernel
theorem dX8_copyFrom_46 : decode cX8_copyFrom 46 = .ok (.aload_n 0, 1) := by decide +kernel
theorem dX8_copyFrom_47 : decode cX8_copyFrom 47 = .ok (.getfield 18, 3) := by decide +kernel
theorem dX8_copyFrom_50 : decode cX8_copyFrom 50 = .ok (.arraylength, 1) := by decide +kernel
theorem dX8_copyFrom_51 : decode cX8_copyFrom 51 = .ok (.invokestatic 27, 3) := by decide +kernel
theorem dX8_copyFrom_54 : decode cX8_copyFrom 54 = .ok (.return_, 1) := by decide +kernel
theorem dX8_isOut_0 : decode cX8_isOut 0 = .ok (.aload_n 0, 1) := by decide +kernel
theorem dX8_isOut_1 : decode cX8_isOut 1 = .ok (.getfield 15, 3) := by decide +kernel
theorem dX8_isOut_4 : decode cX8_isOut 4 = .ok (.iload_n 1, 1) := by decide +kernel
theorem dX8_isOut_5 : decode cX8_isOut 5 = .ok (.iaload, 1) := by decide +kernel
theorem dX8_isOut_6 : decode cX8_isOut 6 = .ok (.aload_n 0, 1) := by decide +kernel
theorem dX8_isOut_7 : decode cX8_isOut 7 = .ok (.getfield 18, 3) := by decide +kernel
theorem dX8_isOut_10 : decode cX8_isOut 10 = .ok (.iload_n 1, 1) := by decide +kernel
theorem dX8_isOut_11 : decode cX8_isOut 11 = .ok (.iaload, 1) := by decide +kernel
theorem dX8_isOut_12 : decode cX8_isOut 12 = .ok (.if_icmp .gt 7, 3) := by decide +kernel
theorem dX8_isOut_15 : decode cX8_isOut 15 = .ok (.iconst 1, 1) := by decide +kernel
theorem dX8_isOut_16 : decode cX8_isOut 16 = .ok (.goto 4, 3) := by decide +kernel
theorem dX8_isOut_19 : decode cX8_isOut 19 = .ok (.iconst 0, 1) := by decide +kernel
theorem dX8_isOut_20 : decode cX8_isOut 20 = .ok (.ireturn, 1) := by decide +kernel
theorem dX9_init_0 : decode cX9_init 0 = .ok (.aload_n 0, 1) := by decide +kernel
theorem dX9_init_1 : decode cX9_init 1 = .ok (.invokespecial 3, 3) := by decide +kernel
theorem dX9_init_4 : decode cX9_init 4 = .ok (.aload_n 0, 1) := by decide +kernel
theorem dX9_init_5 : decode cX9_init 5 = .ok (.bipush 60, 2) := by decide +kernel
theorem dX9_init_7 : decode cX9_init 7 = .ok (.newarray .int, 2) := by decide +kernel
theorem dX9_init_9 : decode cX9_init 9 = .ok (.putfield 9, 3) := by decide +kernel
theorem dX9_init_12 : decode cX9_init 12 = .ok (.return_, 1) := by decide +kernel
theorem dX9_follow_0 : decode cX9_follow 0 = .ok (.aload_n 0, 1) := by decide +kernel
theorem dX9_follow_1 : decode cX9_follow 1 = .ok (.aload_n 1, 1) := by decide +kernel
theorem dX9_follow_2 : decode cX9_follow 2 = .ok (.getfield 15, 3) := by decide +kernel
theorem dX9_follow_5 : decode cX9_follow 5 = .ok (.iload_n 2, 1) := by decide +kernel
theorem dX9_follow_6 : decode cX9_follow 6 = .ok (.iload_n 3, 1) := by decide +kernel
theorem dX9_follow_7 : decode cX9_follow 7 = .ok (.invokevirtual 21, 3) := by decide +kernel
theorem dX9_follow_10 : decode cX9_follow 10 = .ok (.iconst 2, 1) := by decide +kernel
theorem dX9_follow_11 : decode cX9_follow 11 = .ok (.aload_n 1, 1) := by decide +kernel
theorem dX9_follow_12 : decode cX9_follow 12 = .ok (.getfield 25, 3) := by decide +kernel
theorem dX9_follow_15 : decode cX9_follow 15 = .ok (.getfield 29, 3) := by decide +kernel
theorem dX9_follow_18 : decode cX9_follow 18 = .ok (.iload_n 2, 1) := by decide +kernel
theorem dX9_follow_19 : decode cX9_follow 19 = .ok (.iconst 3, 1) := by decide +kernel
theorem dX9_follow_20 : decode cX9_follow 20 = .ok (.invokevirtual 35, 3) := by decide +kernel
theorem dX9_follow_23 : decode cX9_follow 23 = .ok (.imul, 1) := by decide +kernel
theorem dX9_follow_24 : decode cX9_follow 24 = .ok (.istore 5, 2) := by decide +kernel
theorem dX9_follow_26 : decode cX9_follow 26 = .ok (.iconst 2, 1) := by decide +kernel
theorem dX9_follow_27 : decode cX9_follow 27 = .ok (.aload_n 1, 1) := by decide +kernel
theorem dX9_follow_28 : decode cX9_follow 28 = .ok (.getfield 25, 3) := by decide +kernel
theorem dX9_follow_31 : decode cX9_follow 31 = .ok (.getfield 29, 3) := by decide +kernel
theorem dX9_follow_34 : decode cX9_follow 34 = .ok (.iload_n 2, 1) := by decide +kernel
theorem dX9_follow_35 : decode cX9_follow 35 = .ok (.iconst 4, 1) := by decide +kernel
theorem dX9_follow_36 : decode cX9_follow 36 = .ok (.invokevirtual 35, 3) := by decide +kernel
theorem dX9_follow_39 : decode cX9_follow 39 = .ok (.imul, 1) := by decide +kernel
theorem dX9_follow_40 : decode cX9_follow 40 = .ok (.istore 6, 2) := by decide +kernel
theorem dX9_follow_42 : decode cX9_follow 42 = .ok (.aload_n 0, 1) := by decide +kernel
theorem dX9_follow_43 : decode cX9_follow 43 = .ok (.iconst 0, 1) := by decide +kernel
theorem dX9_follow_44 : decode cX9_follow 44 = .ok (.putfield 41, 3) := by decide +kernel
theorem dX9_follow_47 : decode cX9_follow 47 = .ok (.aload_n 0, 1) := by decide +kernel
theorem dX9_follow_48 : decode cX9_follow 48 = .ok (.iconst 0, 1) := by decide +kernel
theorem dX9_follow_49 : decode cX9_follow 49 = .ok (.putfield 45, 3) := by decide +kernel
theorem dX9_follow_52 : decode cX9_follow 52 = .ok (.aload_n 0, 1) := by decide +kernel
theorem dX9_follow_53 : decode cX9_follow 53 = .ok (.iconst 0, 1) := by decide +kernel
theorem dX9_follow_54 : decode cX9_follow 54 = .ok (.putfield 48, 3) := by decide +kernel
theorem dX9_follow_57 : decode cX9_follow 57 = .ok (.aload_n 0, 1) := by decide +kernel
theorem dX9_follow_58 : decode cX9_follow 58 = .ok (.bipush (-4), 2) := by decide +kernel
theorem dX9_follow_60 : decode cX9_follow 60 = .ok (.putfield 51, 3) := by decide +kernel
theorem dX9_follow_63 : decode cX9_follow 63 = .ok (.iconst 0, 1) := by decide +kernel
theorem dX9_follow_64 : decode cX9_follow 64 = .ok (.istore 7, 2) := by decide +kernel
theorem dX9_follow_66 : decode cX9_follow 66 = .ok (.iload 7, 2) := by decide +kernel
theorem dX9_follow_68 : decode cX9_follow 68 = .ok (.iload 4, 2) := by decide +kernel
theorem dX9_follow_70 : decode cX9_follow 70 = .ok (.if_icmp .gt 111, 3) := by decide +kernel
theorem dX9_follow_73 : decode cX9_follow 73 = .ok (.aload_n 0, 1) := by decide +kernel
theorem dX9_follow_74 : decode cX9_follow 74 = .ok (.dup, 1) := by decide +kernel
theorem dX9_follow_75 : decode cX9_follow 75 = .ok (.getfield 41, 3) := by decide +kernel
theorem dX9_follow_78 : decode cX9_follow 78 = .ok (.iload 6, 2) := by decide +kernel
theorem dX9_follow_80 : decode cX9_follow 80 = .ok (.iadd, 1) := by decide +kernel
theorem dX9_follow_81 : decode cX9_follow 81 = .ok (.putfield 41, 3) := by decide +kernel
theorem dX9_follow_84 : decode cX9_follow 84 = .ok (.aload_n 0, 1) := by decide +kernel
theorem dX9_follow_85 : decode cX9_follow 85 = .ok (.getfield 9, 3) := by decide +kernel
theorem dX9_follow_88 : decode cX9_follow 88 = .ok (.iload 7, 2) := by decide +kernel
theorem dX9_follow_90 : decode cX9_follow 90 = .ok (.iaload, 1) := by decide +kernel
theorem dX9_follow_91 : decode cX9_follow 91 = .ok (.aload_n 0, 1) := by decide +kernel
theorem dX9_follow_92 : decode cX9_follow 92 = .ok (.getfield 41, 3) := by decide +kernel
theorem dX9_follow_95 : decode cX9_follow 95 = .ok (.invokestatic 54, 3) := by decide +kernel
theorem dX9_follow_98 : decode cX9_follow 98 = .ok (.istore 8, 2) := by decide +kernel
theorem dX9_follow_100 : decode cX9_follow 100 = .ok (.aload_n 0, 1) := by decide +kernel
theorem dX9_follow_101 : decode cX9_follow 101 = .ok (.dup, 1) := by decide +kernel
theorem dX9_follow_102 : decode cX9_follow 102 = .ok (.getfield 41, 3) := by decide +kernel
theorem dX9_follow_105 : decode cX9_follow 105 = .ok (.iload 8, 2) := by decide +kernel
theorem dX9_follow_107 : decode cX9_follow 107 = .ok (.isub, 1) := by decide +kernel
theorem dX9_follow_108 : decode cX9_follow 108 = .ok (.putfield 41, 3) := by decide +kernel
theorem dX9_follow_111 : decode cX9_follow 111 = .ok (.aload_n 0, 1) := by decide +kernel
theorem dX9_follow_112 : decode cX9_follow 112 = .ok (.dup, 1) := by decide +kernel
theorem dX9_follow_113 : decode cX9_follow 113 = .ok (.getfield 48, 3) := by decide +kernel
theorem dX9_follow_116 : decode cX9_follow 116 = .ok (.iload 8, 2) := by decide +kernel
theorem dX9_follow_118 : decode cX9_follow 118 = .ok (.iadd, 1) := by decide +kernel
theorem dX9_follow_119 : decode cX9_follow 119 = .ok (.putfield 48, 3) := by decide +kernel
theorem dX9_follow_122 : decode cX9_follow 122 = .ok (.aload_n 0, 1) := by decide +kernel
theorem dX9_follow_123 : decode cX9_follow 123 = .ok (.getfield 41, 3) := by decide +kernel
theorem dX9_follow_126 : decode cX9_follow 126 = .ok (.iload 5, 2) := by decide +kernel
theorem dX9_follow_128 : decode cX9_follow 128 = .ok (.if_icmp .le 47, 3) := by decide +kernel
theorem dX9_follow_131 : decode cX9_follow 131 = .ok (.aload_n 0, 1) := by decide +kernel
theorem dX9_follow_132 : decode cX9_follow 132 = .ok (.dup, 1) := by decide +kernel
theorem dX9_follow_133 : decode cX9_follow 133 = .ok (.getfield 45, 3) := by decide +kernel
theorem dX9_follow_136 : decode cX9_follow 136 = .ok (.aload_n 0, 1) := by decide +kernel
theorem dX9_follow_137 : decode cX9_follow 137 = .ok (.getfield 41, 3) := by decide +kernel
theorem dX9_follow_140 : decode cX9_follow 140 = .ok (.iload 5, 2) := by decide +kernel
theorem dX9_follow_142 : decode cX9_follow 142 = .ok (.isub, 1) := by decide +kernel
theorem dX9_follow_143 : decode cX9_follow 143 = .ok (.iadd, 1) := by decide +kernel
theorem dX9_follow_144 : decode cX9_follow 144 = .ok (.putfield 45, 3) := by decide +kernel
theorem dX9_follow_147 : decode cX9_follow 147 = .ok (.aload_n 0, 1) := by decide +kernel
theorem dX9_follow_148 : decode cX9_follow 148 = .ok (.iload 5, 2) := by decide +kernel
theorem dX9_follow_150 : decode cX9_follow 150 = .ok (.putfield 41, 3) := by decide +kernel
theorem dX9_follow_153 : decode cX9_follow 153 = .ok (.aload_n 0, 1) := by decide +kernel
theorem dX9_follow_154 : decode cX9_follow 154 = .ok (.aload_n 0, 1) := by decide +kernel
theorem dX9_follow_155 : decode cX9_follow 155 = .ok (.getfield 51, 3) := by decide +kernel
theorem dX9_follow_158 : decode cX9_follow 158 = .ok (.bipush (-4), 2) := by decide +kernel
theorem dX9_follow_160 : decode cX9_follow 160 = .ok (.if_icmp .ne 8, 3) := by decide +kernel
theorem dX9_follow_163 : decode cX9_follow 163 = .ok (.iload 7, 2) := by decide +kernel
theorem dX9_follow_165 : decode cX9_follow 165 = .ok (.goto 7, 3) := by decide +kernel
theorem dX9_follow_168 : decode cX9_follow 168 = .ok (.aload_n 0, 1) := by decide +kernel
theorem dX9_follow_169 : decode cX9_follow 169 = .ok (.getfield 51, 3) := by decide +kernel
theorem dX9_follow_172 : decode cX9_follow 172 = .ok (.putfield 51, 3) := by decide +kernel
theorem dX9_follow_175 : decode cX9_follow 175 = .ok (.iinc 7 1, 3) := by decide +kernel
theorem dX9_follow_178 : decode cX9_follow 178 = .ok (.goto (-112), 3) := by decide +kernel
theorem dX9_follow_181 : decode cX9_follow 181 = .ok (.return_, 1) := by decide +kernel
theorem dX9_gatherFlow_0 : decode cX9_gatherFlow 0 = .ok (.aload_n 0, 1) := by decide +kernel
theorem dX9_gatherFlow_1 : decode cX9_gatherFlow 1 = .ok (.getfield 9, 3) := by decide +kernel
theorem dX9_gatherFlow_4 : decode cX9_gatherFlow 4 = .ok (.iconst 0, 1) := by decide +kernel
theorem dX9_gatherFlow_5 : decode cX9_gatherFlow 5 = .ok (.invokestatic 59, 3) := by decide +kernel
theorem dX9_gatherFlow_8 : decode cX9_gatherFlow 8 = .ok (.iconst 0, 1) := by decide +kernel
theorem dX9_gatherFlow_9 : decode cX9_gatherFlow 9 = .ok (.istore 4, 2) := by decide +kernel
theorem dX9_gatherFlow_11 : decode cX9_gatherFlow 11 = .ok (.iload 4, 2) := by decide +kernel
theorem dX9_gatherFlow_13 : decode cX9_gatherFlow 13 = .ok (.aload_n 1, 1) := by decide +kernel
theorem dX9_gatherFlow_14 : decode cX9_gatherFlow 14 = .ok (.getfield 65, 3) := by decide +kernel
theorem dX9_gatherFlow_17 : decode cX9_gatherFlow 17 = .ok (.if_icmp .ge 74, 3) := by decide +kernel
theorem dX9_gatherFlow_20 : decode cX9_gatherFlow 20 = .ok (.aload_n 1, 1) := by decide +kernel
theorem dX9_gatherFlow_21 : decode cX9_gatherFlow 21 = .ok (.getfield 70, 3) := by decide +kernel
theorem dX9_gatherFlow_24 : decode cX9_gatherFlow 24 = .ok (.iload 4, 2) := by decide +kernel
theorem dX9_gatherFlow_26 : decode cX9_gatherFlow 26 = .ok (.iaload, 1) := by decide +kernel
theorem dX9_gatherFlow_27 : decode cX9_gatherFlow 27 = .ok (.iload_n 2, 1) := by decide +kernel
theorem dX9_gatherFlow_28 : decode cX9_gatherFlow 28 = .ok (.if_icmp .ne 57, 3) := by decide +kernel
theorem dX9_gatherFlow_31 : decode cX9_gatherFlow 31 = .ok (.iload_n 3, 1) := by decide +kernel
theorem dX9_gatherFlow_32 : decode cX9_gatherFlow 32 = .ok (.iload 4, 2) := by decide +kernel
theorem dX9_gatherFlow_34 : decode cX9_gatherFlow 34 = .ok (.ishr, 1) := by decide +kernel
theorem dX9_gatherFlow_35 : decode cX9_gatherFlow 35 = .ok (.iconst 1, 1) := by decide +kernel
theorem dX9_gatherFlow_36 : decode cX9_gatherFlow 36 = .ok (.iand, 1) := by decide +kernel
theorem dX9_gatherFlow_37 : decode cX9_gatherFlow 37 = .ok (.ifCond .eq 48, 3) := by decide +kernel
theorem dX9_gatherFlow_40 : decode cX9_gatherFlow 40 = .ok (.aload_n 1, 1) := by decide +kernel
theorem dX9_gatherFlow_41 : decode cX9_gatherFlow 41 = .ok (.getfield 73, 3) := by decide +kernel
theorem dX9_gatherFlow_44 : decode cX9_gatherFlow 44 = .ok (.iload 4, 2) := by decide +kernel
theorem dX9_gatherFlow_46 : decode cX9_gatherFlow 46 = .ok (.iaload, 1) := by decide +kernel
theorem dX9_gatherFlow_47 : decode cX9_gatherFlow 47 = .ok (.istore 5, 2) := by decide +kernel
theorem dX9_gatherFlow_49 : decode cX9_gatherFlow 49 = .ok (.iload 5, 2) := by decide +kernel
theorem dX9_gatherFlow_51 : decode cX9_gatherFlow 51 = .ok (.aload_n 1, 1) := by decide +kernel
theorem dX9_gatherFlow_52 : decode cX9_gatherFlow 52 = .ok (.getfield 76, 3) := by decide +kernel
theorem dX9_gatherFlow_55 : decode cX9_gatherFlow 55 = .ok (.iload 4, 2) := by decide +kernel
theorem dX9_gatherFlow_57 : decode cX9_gatherFlow 57 = .ok (.iaload, 1) := by decide +kernel
theorem dX9_gatherFlow_58 : decode cX9_gatherFlow 58 = .ok (.if_icmp .gt 27, 3) := by decide +kernel
theorem dX9_gatherFlow_61 : decode cX9_gatherFlow 61 = .ok (.aload_n 0, 1) := by decide +kernel
theorem dX9_gatherFlow_62 : decode cX9_gatherFlow 62 = .ok (.getfield 9, 3) := by decide +kernel
theorem dX9_gatherFlow_65 : decode cX9_gatherFlow 65 = .ok (.iload 5, 2) := by decide +kernel
theorem dX9_gatherFlow_67 : decode cX9_gatherFlow 67 = .ok (.dup2, 1) := by decide +kernel
theorem dX9_gatherFlow_68 : decode cX9_gatherFlow 68 = .ok (.iaload, 1) := by decide +kernel
theorem dX9_gatherFlow_69 : decode cX9_gatherFlow 69 = .ok (.aload_n 1, 1) := by decide +kernel
theorem dX9_gatherFlow_70 : decode cX9_gatherFlow 70 = .ok (.iload 4, 2) := by decide +kernel
theorem dX9_gatherFlow_72 : decode cX9_gatherFlow 72 = .ok (.iload 5, 2) := by decide +kernel
theorem dX9_gatherFlow_74 : decode cX9_gatherFlow 74 = .ok (.invokevirtual 79, 3) := by decide +kernel
theorem dX9_gatherFlow_77 : decode cX9_gatherFlow 77 = .ok (.iadd, 1) := by decide +kernel
theorem dX9_gatherFlow_78 : decode cX9_gatherFlow 78 = .ok (.iastore, 1) := by decide +kernel
theorem dX9_gatherFlow_79 : decode cX9_gatherFlow 79 = .ok (.iinc 5 1, 3) := by decide +kernel
theorem dX9_gatherFlow_82 : decode cX9_gatherFlow 82 = .ok (.goto (-33), 3) := by decide +kernel
theorem dX9_gatherFlow_85 : decode cX9_gatherFlow 85 = .ok (.iinc 4 1, 3) := by decide +kernel
theorem dX9_gatherFlow_88 : decode cX9_gatherFlow 88 = .ok (.goto (-77), 3) := by decide +kernel
theorem dX9_gatherFlow_91 : decode cX9_gatherFlow 91 = .ok (.return_, 1) := by decide +kernel
theorem dX9_lostByAll_0 : decode cX9_lostByAll 0 = .ok (.iconst 0, 1) := by decide +kernel
theorem dX9_lostByAll_1 : decode cX9_lostByAll 1 = .ok (.istore_n 3, 1) := by decide +kernel
theorem dX9_lostByAll_2 : decode cX9_lostByAll 2 = .ok (.iconst 0, 1) := by decide +kernel
theorem dX9_lostByAll_3 : decode cX9_lostByAll 3 = .ok (.istore 4, 2) := by decide +kernel
theorem dX9_lostByAll_5 : decode cX9_lostByAll 5 = .ok (.iload 4, 2) := by decide +kernel
theorem dX9_lostByAll_7 : decode cX9_lostByAll 7 = .ok (.aload_n 1, 1) := by decide +kernel
theorem dX9_lostByAll_8 : decode cX9_lostByAll 8 = .ok (.getfield 25, 3) := by decide +kernel
theorem dX9_lostByAll_11 : decode cX9_lostByAll 11 = .ok (.getfield 29, 3) := by decide +kernel
theorem dX9_lostByAll_14 : decode cX9_lostByAll 14 = .ok (.getfield 82, 3) := by decide +kernel
theorem dX9_lostByAll_17 : decode cX9_lostByAll 17 = .ok (.if_icmp .ge 26, 3) := by decide +kernel
theorem dX9_lostByAll_20 : decode cX9_lostByAll 20 = .ok (.aload_n 0, 1) := by decide +kernel
theorem dX9_lostByAll_21 : decode cX9_lostByAll 21 = .ok (.aload_n 1, 1) := by decide +kernel
theorem dX9_lostByAll_22 : decode cX9_lostByAll 22 = .ok (.iload 4, 2) := by decide +kernel
theorem dX9_lostByAll_24 : decode cX9_lostByAll 24 = .ok (.iload_n 2, 1) := by decide +kernel
theorem dX9_lostByAll_25 : decode cX9_lostByAll 25 = .ok (.bipush 59, 2) := by decide +kernel
theorem dX9_lostByAll_27 : decode cX9_lostByAll 27 = .ok (.invokevirtual 85, 3) := by decide +kernel
theorem dX9_lostByAll_30 : decode cX9_lostByAll 30 = .ok (.iload_n 3, 1) := by decide +kernel
theorem dX9_lostByAll_31 : decode cX9_lostByAll 31 = .ok (.aload_n 0, 1) := by decide +kernel
theorem dX9_lostByAll_32 : decode cX9_lostByAll 32 = .ok (.getfield 45, 3) := by decide +kernel
theorem dX9_lostByAll_35 : decode cX9_lostByAll 35 = .ok (.iadd, 1) := by decide +kernel
theorem dX9_lostByAll_36 : decode cX9_lostByAll 36 = .ok (.istore_n 3, 1) := by decide +kernel
theorem dX9_lostByAll_37 : decode cX9_lostByAll 37 = .ok (.iinc 4 1, 3) := by decide +kernel
theorem dX9_lostByAll_40 : decode cX9_lostByAll 40 = .ok (.goto (-35), 3) := by decide +kernel
theorem dX9_lostByAll_43 : decode cX9_lostByAll 43 = .ok (.iload_n 3, 1) := by decide +kernel
theorem dX9_lostByAll_44 : decode cX9_lostByAll 44 = .ok (.ireturn, 1) := by decide +kernel
theorem dX9_gotByAll_0 : decode cX9_gotByAll 0 = .ok (.iconst 0, 1) := by decide +kernel
theorem dX9_gotByAll_1 : decode cX9_gotByAll 1 = .ok (.istore_n 3, 1) := by decide +kernel
theorem dX9_gotByAll_2 : decode cX9_gotByAll 2 = .ok (.iconst 0, 1) := by decide +kernel
theorem dX9_gotByAll_3 : decode cX9_gotByAll 3 = .ok (.istore 4, 2) := by decide +kernel
theorem dX9_gotByAll_5 : decode cX9_gotByAll 5 = .ok (.iload 4, 2) := by decide +kernel
theorem dX9_gotByAll_7 : decode cX9_gotByAll 7 = .ok (.aload_n 1, 1) := by decide +kernel
theorem dX9_gotByAll_8 : decode cX9_gotByAll 8 = .ok (.getfield 25, 3) := by decide +kernel
theorem dX9_gotByAll_11 : decode cX9_gotByAll 11 = .ok (.getfield 29, 3) := by decide +kernel
theorem dX9_gotByAll_14 : decode cX9_gotByAll 14 = .ok (.getfield 82, 3) := by decide +kernel
theorem dX9_gotByAll_17 : decode cX9_gotByAll 17 = .ok (.if_icmp .ge 26, 3) := by decide +kernel
theorem dX9_gotByAll_20 : decode cX9_gotByAll 20 = .ok (.aload_n 0, 1) := by decide +kernel
theorem dX9_gotByAll_21 : decode cX9_gotByAll 21 = .ok (.aload_n 1, 1) := by decide +kernel
theorem dX9_gotByAll_22 : decode cX9_gotByAll 22 = .ok (.iload 4, 2) := by decide +kernel
theorem dX9_gotByAll_24 : decode cX9_gotByAll 24 = .ok (.iload_n 2, 1) := by decide +kernel
theorem dX9_gotByAll_25 : decode cX9_gotByAll 25 = .ok (.bipush 59, 2) := by decide +kernel
theorem dX9_gotByAll_27 : decode cX9_gotByAll 27 = .ok (.invokevirtual 85, 3) := by decide +kernel
theorem dX9_gotByAll_30 : decode cX9_gotByAll 30 = .ok (.iload_n 3, 1) := by decide +kernel
theorem dX9_gotByAll_31 : decode cX9_gotByAll 31 = .ok (.aload_n 0, 1) := by decide +kernel
theorem dX9_gotByAll_32 : decode cX9_gotByAll 32 = .ok (.getfield 48, 3) := by decide +kernel
theorem dX9_gotByAll_35 : decode cX9_gotByAll 35 = .ok (.iadd, 1) := by decide +kernel
theorem dX9_gotByAll_36 : decode cX9_gotByAll 36 = .ok (.istore_n 3, 1) := by decide +kernel
theorem dX9_gotByAll_37 : decode cX9_gotByAll 37 = .ok (.iinc 4 1, 3) := by decide +kernel
theorem dX9_gotByAll_40 : decode cX9_gotByAll 40 = .ok (.goto (-35), 3) := by decide +kernel
theorem dX9_gotByAll_43 : decode cX9_gotByAll 43 = .ok (.iload_n 3, 1) := by decide +kernel
theorem dX9_gotByAll_44 : decode cX9_gotByAll 44 = .ok (.ireturn, 1) := by decide +kernel
theorem dX10_init_0 : decode cX10_init 0 = .ok (.aload_n 0, 1) := by decide +kernel
theorem dX10_init_1 : decode cX10_init 1 = .ok (.invokespecial 1, 3) := by decide +kernel
theorem dX10_init_4 : decode cX10_init 4 = .ok (.aload_n 0, 1) := by decide +kernel
theorem dX10_init_5 : decode cX10_init 5 = .ok (.new 7, 3) := by decide +kernel
theorem dX10_init_8 : decode cX10_init 8 = .ok (.dup, 1) := by decide +kernel
theorem dX10_init_9 : decode cX10_init 9 = .ok (.invokespecial 9, 3) := by decide +kernel
theorem dX10_init_12 : decode cX10_init 12 = .ok (.putfield 10, 3) := by decide +kernel
theorem dX10_init_15 : decode cX10_init 15 = .ok (.aload_n 0, 1) := by decide +kernel
theorem dX10_init_16 : decode cX10_init 16 = .ok (.new 16, 3) := by decide +kernel
theorem dX10_init_19 : decode cX10_init 19 = .ok (.dup, 1) := by decide +kernel
theorem dX10_init_20 : decode cX10_init 20 = .ok (.invokespecial 18, 3) := by decide +kernel
theorem dX10_init_23 : decode cX10_init 23 = .ok (.putfield 19, 3) := by decide +kernel
theorem dX10_init_26 : decode cX10_init 26 = .ok (.aload_n 0, 1) := by decide +kernel
theorem dX10_init_27 : decode cX10_init 27 = .ok (.new 23, 3) := by decide +kernel
theorem dX10_init_30 : decode cX10_init 30 = .ok (.dup, 1) := by decide +kernel
theorem dX10_init_31 : decode cX10_init 31 = .ok (.invokespecial 25, 3) := by decide +kernel
theorem dX10_init_34 : decode cX10_init 34 = .ok (.putfield 26, 3) := by decide +kernel
theorem dX10_init_37 : decode cX10_init 37 = .ok (.aload_n 0, 1) := by decide +kernel
theorem dX10_init_38 : decode cX10_init 38 = .ok (.new 30, 3) := by decide +kernel
theorem dX10_init_41 : decode cX10_init 41 = .ok (.dup, 1) := by decide +kernel
theorem dX10_init_42 : decode cX10_init 42 = .ok (.invokespecial 32, 3) := by decide +kernel
theorem dX10_init_45 : decode cX10_init 45 = .ok (.putfield 33, 3) := by decide +kernel
theorem dX10_init_48 : decode cX10_init 48 = .ok (.aload_n 0, 1) := by decide +kernel
theorem dX10_init_49 : decode cX10_init 49 = .ok (.new 37, 3) := by decide +kernel
theorem dX10_init_52 : decode cX10_init 52 = .ok (.dup, 1) := by decide +kernel
theorem dX10_init_53 : decode cX10_init 53 = .ok (.invokespecial 39, 3) := by decide +kernel
theorem dX10_init_56 : decode cX10_init 56 = .ok (.putfield 40, 3) := by decide +kernel
theorem dX10_init_59 : decode cX10_init 59 = .ok (.aload_n 0, 1) := by decide +kernel
theorem dX10_init_60 : decode cX10_init 60 = .ok (.new 44, 3) := by decide +kernel
theorem dX10_init_63 : decode cX10_init 63 = .ok (.dup, 1) := by decide +kernel
theorem dX10_init_64 : decode cX10_init 64 = .ok (.invokespecial 46, 3) := by decide +kernel
theorem dX10_init_67 : decode cX10_init 67 = .ok (.putfield 47, 3) := by decide +kernel
theorem dX10_init_70 : decode cX10_init 70 = .ok (.aload_n 0, 1) := by decide +kernel
theorem dX10_init_71 : decode cX10_init 71 = .ok (.new 51, 3) := by decide +kernel
theorem dX10_init_74 : decode cX10_init 74 = .ok (.dup, 1) := by decide +kernel
theorem dX10_init_75 : decode cX10_init 75 = .ok (.invokespecial 53, 3) := by decide +kernel
theorem dX10_init_78 : decode cX10_init 78 = .ok (.putfield 54, 3) := by decide +kernel
theorem dX10_init_81 : decode cX10_init 81 = .ok (.iconst 0, 1) := by decide +kernel
theorem dX10_init_82 : decode cX10_init 82 = .ok (.istore_n 1, 1) := by decide +kernel
theorem dX10_init_83 : decode cX10_init 83 = .ok (.iload_n 1, 1) := by decide +kernel
theorem dX10_init_84 : decode cX10_init 84 = .ok (.ldc 58, 2) := by decide +kernel
theorem dX10_init_86 : decode cX10_init 86 = .ok (.invokevirtual 60, 3) := by decide +kernel
theorem dX10_init_89 : decode cX10_init 89 = .ok (.if_icmp .ge 22, 3) := by decide +kernel
theorem dX10_init_92 : decode cX10_init 92 = .ok (.aload_n 0, 1) := by decide +kernel
theorem dX10_init_93 : decode cX10_init 93 = .ok (.getfield 10, 3) := by decide +kernel
theorem dX10_init_96 : decode cX10_init 96 = .ok (.ldc 58, 2) := by decide +kernel
theorem dX10_init_98 : decode cX10_init 98 = .ok (.iload_n 1, 1) := by decide +kernel
theorem dX10_init_99 : decode cX10_init 99 = .ok (.invokevirtual 66, 3) := by decide +kernel
theorem dX10_init_102 : decode cX10_init 102 = .ok (.invokevirtual 70, 3) := by decide +kernel
theorem dX10_init_105 : decode cX10_init 105 = .ok (.iinc 1 1, 3) := by decide +kernel
theorem dX10_init_108 : decode cX10_init 108 = .ok (.goto (-25), 3) := by decide +kernel
theorem dX10_init_111 : decode cX10_init 111 = .ok (.aload_n 0, 1) := by decide +kernel
theorem dX10_init_112 : decode cX10_init 112 = .ok (.invokevirtual 74, 3) := by decide +kernel
theorem dX10_init_115 : decode cX10_init 115 = .ok (.pop, 1) := by decide +kernel
theorem dX10_init_116 : decode cX10_init 116 = .ok (.aload_n 0, 1) := by decide +kernel
theorem dX10_init_117 : decode cX10_init 117 = .ok (.getfield 10, 3) := by decide +kernel
theorem dX10_init_120 : decode cX10_init 120 = .ok (.invokevirtual 77, 3) := by decide +kernel
theorem dX10_init_123 : decode cX10_init 123 = .ok (.return_, 1) := by decide +kernel
theorem dX10_write_0 : decode cX10_write 0 = .ok (.iload_n 1, 1) := by decide +kernel
theorem dX10_write_1 : decode cX10_write 1 = .ok (.bipush 32, 2) := by decide +kernel
theorem dX10_write_3 : decode cX10_write 3 = .ok (.if_icmp .lt 9, 3) := by decide +kernel
theorem dX10_write_6 : decode cX10_write 6 = .ok (.iload_n 1, 1) := by decide +kernel
theorem dX10_write_7 : decode cX10_write 7 = .ok (.bipush 126, 2) := by decide +kernel
theorem dX10_write_9 : decode cX10_write 9 = .ok (.if_icmp .le 5, 3) := by decide +kernel
theorem dX10_write_12 : decode cX10_write 12 = .ok (.iconst (-1), 1) := by decide +kernel
theorem dX10_write_13 : decode cX10_write 13 = .ok (.ireturn, 1) := by decide +kernel
theorem dX10_write_14 : decode cX10_write 14 = .ok (.aload_n 0, 1) := by decide +kernel
theorem dX10_write_15 : decode cX10_write 15 = .ok (.getfield 10, 3) := by decide +kernel
theorem dX10_write_18 : decode cX10_write 18 = .ok (.getfield 80, 3) := by decide +kernel
theorem dX10_write_21 : decode cX10_write 21 = .ok (.sipush 200, 3) := by decide +kernel
theorem dX10_write_24 : decode cX10_write 24 = .ok (.if_icmp .lt 6, 3) := by decide +kernel
theorem dX10_write_27 : decode cX10_write 27 = .ok (.bipush (-3), 2) := by decide +kernel
theorem dX10_write_29 : decode cX10_write 29 = .ok (.ireturn, 1) := by decide +kernel
theorem dX10_write_30 : decode cX10_write 30 = .ok (.aload_n 0, 1) := by decide +kernel
theorem dX10_write_31 : decode cX10_write 31 = .ok (.getfield 10, 3) := by decide +kernel
theorem dX10_write_34 : decode cX10_write 34 = .ok (.iload_n 1, 1) := by decide +kernel
theorem dX10_write_35 : decode cX10_write 35 = .ok (.i2c, 1) := by decide +kernel
theorem dX10_write_36 : decode cX10_write 36 = .ok (.invokevirtual 70, 3) := by decide +kernel
theorem dX10_write_39 : decode cX10_write 39 = .ok (.aload_n 0, 1) := by decide +kernel
theorem dX10_write_40 : decode cX10_write 40 = .ok (.getfield 10, 3) := by decide +kernel
theorem dX10_write_43 : decode cX10_write 43 = .ok (.getfield 80, 3) := by decide +kernel
theorem dX10_write_46 : decode cX10_write 46 = .ok (.ireturn, 1) := by decide +kernel
theorem dX10_wipe_0 : decode cX10_wipe 0 = .ok (.aload_n 0, 1) := by decide +kernel
theorem dX10_wipe_1 : decode cX10_wipe 1 = .ok (.getfield 10, 3) := by decide +kernel
theorem dX10_wipe_4 : decode cX10_wipe 4 = .ok (.getfield 80, 3) := by decide +kernel
theorem dX10_wipe_7 : decode cX10_wipe 7 = .ok (.istore_n 1, 1) := by decide +kernel
theorem dX10_wipe_8 : decode cX10_wipe 8 = .ok (.aload_n 0, 1) := by decide +kernel
theorem dX10_wipe_9 : decode cX10_wipe 9 = .ok (.getfield 10, 3) := by decide +kernel
theorem dX10_wipe_12 : decode cX10_wipe 12 = .ok (.invokevirtual 77, 3) := by decide +kernel
theorem dX10_wipe_15 : decode cX10_wipe 15 = .ok (.iload_n 1, 1) := by decide +kernel
theorem dX10_wipe_16 : decode cX10_wipe 16 = .ok (.ireturn, 1) := by decide +kernel
theorem dX10_fault_0 : decode cX10_fault 0 = .ok (.aload_n 0, 1) := by decide +kernel
theorem dX10_fault_1 : decode cX10_fault 1 = .ok (.getfield 54, 3) := by decide +kernel
theorem dX10_fault_4 : decode cX10_fault 4 = .ok (.aload_n 0, 1) := by decide +kernel
theorem dX10_fault_5 : decode cX10_fault 5 = .ok (.getfield 10, 3) := by decide +kernel
theorem dX10_fault_8 : decode cX10_fault 8 = .ok (.invokevirtual 83, 3) := by decide +kernel
theorem dX10_fault_11 : decode cX10_fault 11 = .ok (.ireturn, 1) := by decide +kernel
theorem dX10_lay_0 : decode cX10_lay 0 = .ok (.aload_n 0, 1) := by decide +kernel
theorem dX10_lay_1 : decode cX10_lay 1 = .ok (.invokevirtual 74, 3) := by decide +kernel
theorem dX10_lay_4 : decode cX10_lay 4 = .ok (.ireturn, 1) := by decide +kernel
theorem dX10_sat_0 : decode cX10_sat 0 = .ok (.aload_n 0, 1) := by decide +kernel
theorem dX10_sat_1 : decode cX10_sat 1 = .ok (.getfield 19, 3) := by decide +kernel
theorem dX10_sat_4 : decode cX10_sat 4 = .ok (.getfield 87, 3) := by decide +kernel
theorem dX10_sat_7 : decode cX10_sat 7 = .ok (.getfield 90, 3) := by decide +kernel
theorem dX10_sat_10 : decode cX10_sat 10 = .ok (.iload_n 1, 1) := by decide +kernel
theorem dX10_sat_11 : decode cX10_sat 11 = .ok (.invokevirtual 94, 3) := by decide +kernel
theorem dX10_sat_14 : decode cX10_sat 14 = .ok (.ifCond .eq 13, 3) := by decide +kernel
theorem dX10_sat_17 : decode cX10_sat 17 = .ok (.iload_n 2, 1) := by decide +kernel
theorem dX10_sat_18 : decode cX10_sat 18 = .ok (.ifCond .lt 9, 3) := by decide +kernel
theorem dX10_sat_21 : decode cX10_sat 21 = .ok (.iload_n 2, 1) := by decide +kernel
theorem dX10_sat_22 : decode cX10_sat 22 = .ok (.bipush 6, 2) := by decide +kernel
theorem dX10_sat_24 : decode cX10_sat 24 = .ok (.if_icmp .le 5, 3) := by decide +kernel
theorem dX10_sat_27 : decode cX10_sat 27 = .ok (.iconst (-1), 1) := by decide +kernel
theorem dX10_sat_28 : decode cX10_sat 28 = .ok (.ireturn, 1) := by decide +kernel
theorem dX10_sat_29 : decode cX10_sat 29 = .ok (.iload_n 2, 1) := by decide +kernel
theorem dX10_sat_30 : decode cX10_sat 30 = .ok (.lookupswitch 44 #[(5, 26), (6, 35)], 26) := by decide +kernel
theorem dX10_sat_56 : decode cX10_sat 56 = .ok (.aload_n 0, 1) := by decide +kernel
theorem dX10_sat_57 : decode cX10_sat 57 = .ok (.getfield 19, 3) := by decide +kernel
theorem dX10_sat_60 : decode cX10_sat 60 = .ok (.iload_n 1, 1) := by decide +kernel
theorem dX10_sat_61 : decode cX10_sat 61 = .ok (.invokevirtual 100, 3) := by decide +kernel
theorem dX10_sat_64 : decode cX10_sat 64 = .ok (.ireturn, 1) := by decide +kernel
theorem dX10_sat_65 : decode cX10_sat 65 = .ok (.aload_n 0, 1) := by decide +kernel
theorem dX10_sat_66 : decode cX10_sat 66 = .ok (.getfield 19, 3) := by decide +kernel
theorem dX10_sat_69 : decode cX10_sat 69 = .ok (.iload_n 1, 1) := by decide +kernel
theorem dX10_sat_70 : decode cX10_sat 70 = .ok (.invokevirtual 104, 3) := by decide +kernel
theorem dX10_sat_73 : decode cX10_sat 73 = .ok (.ireturn, 1) := by decide +kernel
theorem dX10_sat_74 : decode cX10_sat 74 = .ok (.aload_n 0, 1) := by decide +kernel
theorem dX10_sat_75 : decode cX10_sat 75 = .ok (.getfield 19, 3) := by decide +kernel
theorem dX10_sat_78 : decode cX10_sat 78 = .ok (.getfield 87, 3) := by decide +kernel
theorem dX10_sat_81 : decode cX10_sat 81 = .ok (.getfield 90, 3) := by decide +kernel
theorem dX10_sat_84 : decode cX10_sat 84 = .ok (.iload_n 1, 1) := by decide +kernel
theorem dX10_sat_85 : decode cX10_sat 85 = .ok (.iload_n 2, 1) := by decide +kernel
theorem dX10_sat_86 : decode cX10_sat 86 = .ok (.invokevirtual 107, 3) := by decide +kernel
theorem dX10_sat_89 : decode cX10_sat 89 = .ok (.ireturn, 1) := by decide +kernel
theorem dX10_antenna_0 : decode cX10_antenna 0 = .ok (.aload_n 0, 1) := by decide +kernel
theorem dX10_antenna_1 : decode cX10_antenna 1 = .ok (.getfield 19, 3) := by decide +kernel
theorem dX10_antenna_4 : decode cX10_antenna 4 = .ok (.getfield 87, 3) := by decide +kernel
theorem dX10_antenna_7 : decode cX10_antenna 7 = .ok (.getfield 111, 3) := by decide +kernel
theorem dX10_antenna_10 : decode cX10_antenna 10 = .ok (.iload_n 1, 1) := by decide +kernel
theorem dX10_antenna_11 : decode cX10_antenna 11 = .ok (.invokevirtual 94, 3) := by decide +kernel
theorem dX10_antenna_14 : decode cX10_antenna 14 = .ok (.ifCond .eq 13, 3) := by decide +kernel
theorem dX10_antenna_17 : decode cX10_antenna 17 = .ok (.iload_n 2, 1) := by decide +kernel
theorem dX10_antenna_18 : decode cX10_antenna 18 = .ok (.ifCond .lt 9, 3) := by decide +kernel
theorem dX10_antenna_21 : decode cX10_antenna 21 = .ok (.iload_n 2, 1) := by decide +kernel
theorem dX10_antenna_22 : decode cX10_antenna 22 = .ok (.bipush 6, 2) := by decide +kernel
theorem dX10_antenna_24 : decode cX10_antenna 24 = .ok (.if_icmp .le 5, 3) := by decide +kernel
theorem dX10_antenna_27 : decode cX10_antenna 27 = .ok (.iconst (-1), 1) := by decide +kernel
theorem dX10_antenna_28 : decode cX10_antenna 28 = .ok (.ireturn, 1) := by decide +kernel
theorem dX10_antenna_29 : decode cX10_antenna 29 = .ok (.iload_n 2, 1) := by decide +kernel
theorem dX10_antenna_30 : decode cX10_antenna 30 = .ok (.tableswitch 112 3 6 #[30, 62, 94, 103], 30) := by decide +kernel
theorem dX10_antenna_60 : decode cX10_antenna 60 = .ok (.aload_n 0, 1) := by decide +kernel
theorem dX10_antenna_61 : decode cX10_antenna 61 = .ok (.getfield 19, 3) := by decide +kernel
theorem dX10_antenna_64 : decode cX10_antenna 64 = .ok (.getfield 114, 3) := by decide +kernel
theorem dX10_antenna_67 : decode cX10_antenna 67 = .ok (.iload_n 1, 1) := by decide +kernel
theorem dX10_antenna_68 : decode cX10_antenna 68 = .ok (.invokevirtual 118, 3) := by decide +kernel
theorem dX10_antenna_71 : decode cX10_antenna 71 = .ok (.ifCond .eq 18, 3) := by decide +kernel
theorem dX10_antenna_74 : decode cX10_antenna 74 = .ok (.aload_n 0, 1) := by decide +kernel
theorem dX10_antenna_75 : decode cX10_antenna 75 = .ok (.getfield 19, 3) := by decide +kernel
theorem dX10_antenna_78 : decode cX10_antenna 78 = .ok (.getfield 114, 3) := by decide +kernel
theorem dX10_antenna_81 : decode cX10_antenna 81 = .ok (.getfield 123, 3) := by decide +kernel
theorem dX10_antenna_84 : decode cX10_antenna 84 = .ok (.iload_n 1, 1) := by decide +kernel
theorem dX10_antenna_85 : decode cX10_antenna 85 = .ok (.iaload, 1) := by decide +kernel
theorem dX10_antenna_86 : decode cX10_antenna 86 = .ok (.goto 5, 3) := by decide +kernel
theorem dX10_antenna_89 : decode cX10_antenna 89 = .ok (.bipush (-4), 2) := by decide +kernel
theorem dX10_antenna_91 : decode cX10_antenna 91 = .ok (.ireturn, 1) := by decide +kernel
theorem dX10_antenna_92 : decode cX10_antenna 92 = .ok (.aload_n 0, 1) := by decide +kernel
theorem dX10_antenna_93 : decode cX10_antenna 93 = .ok (.getfield 19, 3) := by decide +kernel
theorem dX10_antenna_96 : decode cX10_antenna 96 = .ok (.getfield 114, 3) := by decide +kernel
theorem dX10_antenna_99 : decode cX10_antenna 99 = .ok (.iload_n 1, 1) := by decide +kernel
theorem dX10_antenna_100 : decode cX10_antenna 100 = .ok (.invokevirtual 118, 3) := by decide +kernel
theorem dX10_antenna_103 : decode cX10_antenna 103 = .ok (.ifCond .eq 18, 3) := by decide +kernel
theorem dX10_antenna_106 : decode cX10_antenna 106 = .ok (.aload_n 0, 1) := by decide +kernel
theorem dX10_antenna_107 : decode cX10_antenna 107 = .ok (.getfield 19, 3) := by decide +kernel
theorem dX10_antenna_110 : decode cX10_antenna 110 = .ok (.getfield 114, 3) := by decide +kernel
theorem dX10_antenna_113 : decode cX10_antenna 113 = .ok (.getfield 127, 3) := by decide +kernel
theorem dX10_antenna_116 : decode cX10_antenna 116 = .ok (.iload_n 1, 1) := by decide +kernel
theorem dX10_antenna_117 : decode cX10_antenna 117 = .ok (.iaload, 1) := by decide +kernel
theorem dX10_antenna_118 : decode cX10_antenna 118 = .ok (.goto 5, 3) := by decide +kernel
theorem dX10_antenna_121 : decode cX10_antenna 121 = .ok (.bipush (-4), 2) := by decide +kernel
theorem dX10_antenna_123 : decode cX10_antenna 123 = .ok (.ireturn, 1) := by decide +kernel
theorem dX10_antenna_124 : decode cX10_antenna 124 = .ok (.aload_n 0, 1) := by decide +kernel
theorem dX10_antenna_125 : decode cX10_antenna 125 = .ok (.getfield 19, 3) := by decide +kernel
theorem dX10_antenna_128 : decode cX10_antenna 128 = .ok (.iload_n 1, 1) := by decide +kernel
theorem dX10_antenna_129 : decode cX10_antenna 129 = .ok (.invokevirtual 130, 3) := by decide +kernel
theorem dX10_antenna_132 : decode cX10_antenna 132 = .ok (.ireturn, 1) := by decide +kernel
theorem dX10_antenna_133 : decode cX10_antenna 133 = .ok (.aload_n 0, 1) := by decide +kernel
theorem dX10_antenna_134 : decode cX10_antenna 134 = .ok (.getfield 19, 3) := by decide +kernel
theorem dX10_antenna_137 : decode cX10_antenna 137 = .ok (.iload_n 1, 1) := by decide +kernel
theorem dX10_antenna_138 : decode cX10_antenna 138 = .ok (.invokevirtual 133, 3) := by decide +kernel
theorem dX10_antenna_141 : decode cX10_antenna 141 = .ok (.ireturn, 1) := by decide +kernel
theorem dX10_antenna_142 : decode cX10_antenna 142 = .ok (.aload_n 0, 1) := by decide +kernel
theorem dX10_antenna_143 : decode cX10_antenna 143 = .ok (.getfield 19, 3) := by decide +kernel
theorem dX10_antenna_146 : decode cX10_antenna 146 = .ok (.getfield 87, 3) := by decide +kernel
theorem dX10_antenna_149 : decode cX10_antenna 149 = .ok (.getfield 111, 3) := by decide +kernel
theorem dX10_antenna_152 : decode cX10_antenna 152 = .ok (.iload_n 1, 1) := by decide +kernel
theorem dX10_antenna_153 : decode cX10_antenna 153 = .ok (.iload_n 2, 1) := by decide +kernel
theorem dX10_antenna_154 : decode cX10_antenna 154 = .ok (.invokevirtual 107, 3) := by decide +kernel
theorem dX10_antenna_157 : decode cX10_antenna 157 = .ok (.ireturn, 1) := by decide +kernel
theorem dX10_seen_0 : decode cX10_seen 0 = .ok (.aload_n 0, 1) := by decide +kernel
theorem dX10_seen_1 : decode cX10_seen 1 = .ok (.getfield 19, 3) := by decide +kernel
theorem dX10_seen_4 : decode cX10_seen 4 = .ok (.getfield 87, 3) := by decide +kernel
theorem dX10_seen_7 : decode cX10_seen 7 = .ok (.getfield 90, 3) := by decide +kernel
theorem dX10_seen_10 : decode cX10_seen 10 = .ok (.iload_n 1, 1) := by decide +kernel
theorem dX10_seen_11 : decode cX10_seen 11 = .ok (.invokevirtual 94, 3) := by decide +kernel
theorem dX10_seen_14 : decode cX10_seen 14 = .ok (.ifCond .eq 27, 3) := by decide +kernel
theorem dX10_seen_17 : decode cX10_seen 17 = .ok (.aload_n 0, 1) := by decide +kernel
theorem dX10_seen_18 : decode cX10_seen 18 = .ok (.getfield 19, 3) := by decide +kernel
theorem dX10_seen_21 : decode cX10_seen 21 = .ok (.getfield 87, 3) := by decide +kernel
theorem dX10_seen_24 : decode cX10_seen 24 = .ok (.getfield 136, 3) := by decide +kernel
theorem dX10_seen_27 : decode cX10_seen 27 = .ok (.iload_n 2, 1) := by decide +kernel
theorem dX10_seen_28 : decode cX10_seen 28 = .ok (.invokevirtual 94, 3) := by decide +kernel
theorem dX10_seen_31 : decode cX10_seen 31 = .ok (.ifCond .eq 10, 3) := by decide +kernel
theorem dX10_seen_34 : decode cX10_seen 34 = .ok (.iload_n 3, 1) := by decide +kernel
theorem dX10_seen_35 : decode cX10_seen 35 = .ok (.invokestatic 139, 3) := by decide +kernel
theorem dX10_seen_38 : decode cX10_seen 38 = .ok (.ifCond .ne 5, 3) := by decide +kernel
theorem dX10_seen_41 : decode cX10_seen 41 = .ok (.iconst (-1), 1) := by decide +kernel
theorem dX10_seen_42 : decode cX10_seen 42 = .ok (.ireturn, 1) := by decide +kernel
theorem dX10_seen_43 : decode cX10_seen 43 = .ok (.aload_n 0, 1) := by decide +kernel
theorem dX10_seen_44 : decode cX10_seen 44 = .ok (.getfield 19, 3) := by decide +kernel
theorem dX10_seen_47 : decode cX10_seen 47 = .ok (.getfield 87, 3) := by decide +kernel
theorem dX10_seen_50 : decode cX10_seen 50 = .ok (.iload_n 1, 1) := by decide +kernel
theorem dX10_seen_51 : decode cX10_seen 51 = .ok (.iload_n 2, 1) := by decide +kernel
theorem dX10_seen_52 : decode cX10_seen 52 = .ok (.iload_n 3, 1) := by decide +kernel
theorem dX10_seen_53 : decode cX10_seen 53 = .ok (.invokevirtual 142, 3) := by decide +kernel
theorem dX10_seen_56 : decode cX10_seen 56 = .ok (.ifCond .eq 7, 3) := by decide +kernel
theorem dX10_seen_59 : decode cX10_seen 59 = .ok (.iconst 1, 1) := by decide +kernel
theorem dX10_seen_60 : decode cX10_seen 60 = .ok (.goto 4, 3) := by decide +kernel
theorem dX10_seen_63 : decode cX10_seen 63 = .ok (.iconst 0, 1) := by decide +kernel
theorem dX10_seen_64 : decode cX10_seen 64 = .ok (.ireturn, 1) := by decide +kernel
theorem dX10_pass_0 : decode cX10_pass 0 = .ok (.aload_n 0, 1) := by decide +kernel
theorem dX10_pass_1 : decode cX10_pass 1 = .ok (.getfield 19, 3) := by decide +kernel
theorem dX10_pass_4 : decode cX10_pass 4 = .ok (.getfield 146, 3) := by decide +kernel
theorem dX10_pass_7 : decode cX10_pass 7 = .ok (.iload_n 1, 1) := by decide +kernel
theorem dX10_pass_8 : decode cX10_pass 8 = .ok (.invokevirtual 150, 3) := by decide +kernel
theorem dX10_pass_11 : decode cX10_pass 11 = .ok (.ifCond .ne 5, 3) := by decide +kernel
theorem dX10_pass_14 : decode cX10_pass 14 = .ok (.iconst (-1), 1) := by decide +kernel
theorem dX10_pass_15 : decode cX10_pass 15 = .ok (.ireturn, 1) := by decide +kernel
theorem dX10_pass_16 : decode cX10_pass 16 = .ok (.iload_n 2, 1) := by decide +kernel
theorem dX10_pass_17 : decode cX10_pass 17 = .ok (.tableswitch 133 0 6 #[43, 56, 69, 82, 95, 108, 124], 43) := by decide +kernel
theorem dX10_pass_60 : decode cX10_pass 60 = .ok (.aload_n 0, 1) := by decide +kernel
theorem dX10_pass_61 : decode cX10_pass 61 = .ok (.getfield 19, 3) := by decide +kernel
theorem dX10_pass_64 : decode cX10_pass 64 = .ok (.getfield 146, 3) := by decide +kernel
theorem dX10_pass_67 : decode cX10_pass 67 = .ok (.getfield 153, 3) := by decide +kernel
theorem dX10_pass_70 : decode cX10_pass 70 = .ok (.iload_n 1, 1) := by decide +kernel
theorem dX10_pass_71 : decode cX10_pass 71 = .ok (.iaload, 1) := by decide +kernel
theorem dX10_pass_72 : decode cX10_pass 72 = .ok (.ireturn, 1) := by decide +kernel
theorem dX10_pass_73 : decode cX10_pass 73 = .ok (.aload_n 0, 1) := by decide +kernel
theorem dX10_pass_74 : decode cX10_pass 74 = .ok (.getfield 19, 3) := by decide +kernel
theorem dX10_pass_77 : decode cX10_pass 77 = .ok (.getfield 146, 3) := by decide +kernel
theorem dX10_pass_80 : decode cX10_pass 80 = .ok (.getfield 156, 3) := by decide +kernel
theorem dX10_pass_83 : decode cX10_pass 83 = .ok (.iload_n 1, 1) := by decide +kernel
theorem dX10_pass_84 : decode cX10_pass 84 = .ok (.iaload, 1) := by decide +kernel
theorem dX10_pass_85 : decode cX10_pass 85 = .ok (.ireturn, 1) := by decide +kernel
theorem dX10_pass_86 : decode cX10_pass 86 = .ok (.aload_n 0, 1) := by decide +kernel
theorem dX10_pass_87 : decode cX10_pass 87 = .ok (.getfield 19, 3) := by decide +kernel
theorem dX10_pass_90 : decode cX10_pass 90 = .ok (.getfield 146, 3) := by decide +kernel
theorem dX10_pass_93 : decode cX10_pass 93 = .ok (.getfield 159, 3) := by decide +kernel
theorem dX10_pass_96 : decode cX10_pass 96 = .ok (.iload_n 1, 1) := by decide +kernel
theorem dX10_pass_97 : decode cX10_pass 97 = .ok (.iaload, 1) := by decide +kernel
theorem dX10_pass_98 : decode cX10_pass 98 = .ok (.ireturn, 1) := by decide +kernel
theorem dX10_pass_99 : decode cX10_pass 99 = .ok (.aload_n 0, 1) := by decide +kernel
theorem dX10_pass_100 : decode cX10_pass 100 = .ok (.getfield 19, 3) := by decide +kernel
theorem dX10_pass_103 : decode cX10_pass 103 = .ok (.getfield 146, 3) := by decide +kernel
theorem dX10_pass_106 : decode cX10_pass 106 = .ok (.getfield 162, 3) := by decide +kernel
theorem dX10_pass_109 : decode cX10_pass 109 = .ok (.iload_n 1, 1) := by decide +kernel
theorem dX10_pass_110 : decode cX10_pass 110 = .ok (.iaload, 1) := by decide +kernel
theorem dX10_pass_111 : decode cX10_pass 111 = .ok (.ireturn, 1) := by decide +kernel
theorem dX10_pass_112 : decode cX10_pass 112 = .ok (.aload_n 0, 1) := by decide +kernel
theorem dX10_pass_113 : decode cX10_pass 113 = .ok (.getfield 19, 3) := by decide +kernel
theorem dX10_pass_116 : decode cX10_pass 116 = .ok (.getfield 146, 3) := by decide +kernel
theorem dX10_pass_119 : decode cX10_pass 119 = .ok (.getfield 165, 3) := by decide +kernel
theorem dX10_pass_122 : decode cX10_pass 122 = .ok (.iload_n 1, 1) := by decide +kernel
theorem dX10_pass_123 : decode cX10_pass 123 = .ok (.iaload, 1) := by decide +kernel
theorem dX10_pass_124 : decode cX10_pass 124 = .ok (.ireturn, 1) := by decide +kernel
theorem dX10_pass_125 : decode cX10_pass 125 = .ok (.aload_n 0, 1) := by decide +kernel
theorem dX10_pass_126 : decode cX10_pass 126 = .ok (.getfield 19, 3) := by decide +kernel
theorem dX10_pass_129 : decode cX10_pass 129 = .ok (.getfield 114, 3) := by decide +kernel
theorem dX10_pass_132 : decode cX10_pass 132 = .ok (.getfield 168, 3) := by decide +kernel
theorem dX10_pass_135 : decode cX10_pass 135 = .ok (.iload_n 1, 1) := by decide +kernel
theorem dX10_pass_136 : decode cX10_pass 136 = .ok (.iaload, 1) := by decide +kernel
theorem dX10_pass_137 : decode cX10_pass 137 = .ok (.invokestatic 171, 3) := by decide +kernel
theorem dX10_pass_140 : decode cX10_pass 140 = .ok (.ireturn, 1) := by decide +kernel
theorem dX10_pass_141 : decode cX10_pass 141 = .ok (.aload_n 0, 1) := by decide +kernel
theorem dX10_pass_142 : decode cX10_pass 142 = .ok (.getfield 19, 3) := by decide +kernel
theorem dX10_pass_145 : decode cX10_pass 145 = .ok (.iload_n 1, 1) := by decide +kernel
theorem dX10_pass_146 : decode cX10_pass 146 = .ok (.invokevirtual 174, 3) := by decide +kernel
theorem dX10_pass_149 : decode cX10_pass 149 = .ok (.ireturn, 1) := by decide +kernel
theorem dX10_pass_150 : decode cX10_pass 150 = .ok (.iconst (-1), 1) := by decide +kernel
theorem dX10_pass_151 : decode cX10_pass 151 = .ok (.ireturn, 1) := by decide +kernel
theorem dX10_rate_0 : decode cX10_rate 0 = .ok (.aload_n 0, 1) := by decide +kernel
theorem dX10_rate_1 : decode cX10_rate 1 = .ok (.getfield 19, 3) := by decide +kernel
theorem dX10_rate_4 : decode cX10_rate 4 = .ok (.getfield 146, 3) := by decide +kernel
theorem dX10_rate_7 : decode cX10_rate 7 = .ok (.iload_n 1, 1) := by decide +kernel
theorem dX10_rate_8 : decode cX10_rate 8 = .ok (.invokevirtual 150, 3) := by decide +kernel
theorem dX10_rate_11 : decode cX10_rate 11 = .ok (.ifCond .eq 10, 3) := by decide +kernel
theorem dX10_rate_14 : decode cX10_rate 14 = .ok (.iload_n 2, 1) := by decide +kernel
theorem dX10_rate_15 : decode cX10_rate 15 = .ok (.invokestatic 139, 3) := by decide +kernel
theorem dX10_rate_18 : decode cX10_rate 18 = .ok (.ifCond .ne 5, 3) := by decide +kernel
theorem dX10_rate_21 : decode cX10_rate 21 = .ok (.iconst (-1), 1) := by decide +kernel
theorem dX10_rate_22 : decode cX10_rate 22 = .ok (.ireturn, 1) := by decide +kernel
theorem dX10_rate_23 : decode cX10_rate 23 = .ok (.aload_n 0, 1) := by decide +kernel
theorem dX10_rate_24 : decode cX10_rate 24 = .ok (.getfield 19, 3) := by decide +kernel
theorem dX10_rate_27 : decode cX10_rate 27 = .ok (.getfield 146, 3) := by decide +kernel
theorem dX10_rate_30 : decode cX10_rate 30 = .ok (.iload_n 1, 1) := by decide +kernel
theorem dX10_rate_31 : decode cX10_rate 31 = .ok (.iload_n 2, 1) := by decide +kernel
theorem dX10_rate_32 : decode cX10_rate 32 = .ok (.invokevirtual 177, 3) := by decide +kernel
theorem dX10_rate_35 : decode cX10_rate 35 = .ok (.ifCond .eq 18, 3) := by decide +kernel
theorem dX10_rate_38 : decode cX10_rate 38 = .ok (.aload_n 0, 1) := by decide +kernel
theorem dX10_rate_39 : decode cX10_rate 39 = .ok (.getfield 19, 3) := by decide +kernel
theorem dX10_rate_42 : decode cX10_rate 42 = .ok (.getfield 146, 3) := by decide +kernel
theorem dX10_rate_45 : decode cX10_rate 45 = .ok (.iload_n 1, 1) := by decide +kernel
theorem dX10_rate_46 : decode cX10_rate 46 = .ok (.iload_n 2, 1) := by decide +kernel
theorem dX10_rate_47 : decode cX10_rate 47 = .ok (.invokevirtual 181, 3) := by decide +kernel
theorem dX10_rate_50 : decode cX10_rate 50 = .ok (.goto 5, 3) := by decide +kernel
theorem dX10_rate_53 : decode cX10_rate 53 = .ok (.bipush (-4), 2) := by decide +kernel
theorem dX10_rate_55 : decode cX10_rate 55 = .ok (.ireturn, 1) := by decide +kernel
theorem dX10_give_0 : decode cX10_give 0 = .ok (.aload_n 0, 1) := by decide +kernel
theorem dX10_give_1 : decode cX10_give 1 = .ok (.getfield 19, 3) := by decide +kernel
theorem dX10_give_4 : decode cX10_give 4 = .ok (.getfield 146, 3) := by decide +kernel
theorem dX10_give_7 : decode cX10_give 7 = .ok (.iload_n 1, 1) := by decide +kernel
theorem dX10_give_8 : decode cX10_give 8 = .ok (.invokevirtual 150, 3) := by decide +kernel
theorem dX10_give_11 : decode cX10_give 11 = .ok (.ifCond .eq 20, 3) := by decide +kernel
theorem dX10_give_14 : decode cX10_give 14 = .ok (.aload_n 0, 1) := by decide +kernel
theorem dX10_give_15 : decode cX10_give 15 = .ok (.getfield 19, 3) := by decide +kernel
theorem dX10_give_18 : decode cX10_give 18 = .ok (.getfield 87, 3) := by decide +kernel
theorem dX10_give_21 : decode cX10_give 21 = .ok (.getfield 111, 3) := by decide +kernel
theorem dX10_give_24 : decode cX10_give 24 = .ok (.iload_n 2, 1) := by decide +kernel
theorem dX10_give_25 : decode cX10_give 25 = .ok (.invokevirtual 94, 3) := by decide +kernel
theorem dX10_give_28 : decode cX10_give 28 = .ok (.ifCond .ne 5, 3) := by decide +kernel
theorem dX10_give_31 : decode cX10_give 31 = .ok (.iconst (-1), 1) := by decide +kernel
theorem dX10_give_32 : decode cX10_give 32 = .ok (.ireturn, 1) := by decide +kernel
theorem dX10_give_33 : decode cX10_give 33 = .ok (.aload_n 0, 1) := by decide +kernel
theorem dX10_give_34 : decode cX10_give 34 = .ok (.getfield 19, 3) := by decide +kernel
theorem dX10_give_37 : decode cX10_give 37 = .ok (.iload_n 1, 1) := by decide +kernel
theorem dX10_give_38 : decode cX10_give 38 = .ok (.iload_n 2, 1) := by decide +kernel
theorem dX10_give_39 : decode cX10_give 39 = .ok (.invokevirtual 184, 3) := by decide +kernel
theorem dX10_give_42 : decode cX10_give 42 = .ok (.ifCond .eq 6, 3) := by decide +kernel
theorem dX10_give_45 : decode cX10_give 45 = .ok (.bipush (-2), 2) := by decide +kernel
theorem dX10_give_47 : decode cX10_give 47 = .ok (.ireturn, 1) := by decide +kernel
theorem dX10_give_48 : decode cX10_give 48 = .ok (.aload_n 0, 1) := by decide +kernel
theorem dX10_give_49 : decode cX10_give 49 = .ok (.invokevirtual 187, 3) := by decide +kernel
theorem dX10_give_52 : decode cX10_give 52 = .ok (.aload_n 0, 1) := by decide +kernel
theorem dX10_give_53 : decode cX10_give 53 = .ok (.getfield 19, 3) := by decide +kernel
theorem dX10_give_56 : decode cX10_give 56 = .ok (.getfield 114, 3) := by decide +kernel
theorem dX10_give_59 : decode cX10_give 59 = .ok (.getfield 168, 3) := by decide +kernel
theorem dX10_give_62 : decode cX10_give 62 = .ok (.iload_n 1, 1) := by decide +kernel
theorem dX10_give_63 : decode cX10_give 63 = .ok (.iload_n 2, 1) := by decide +kernel
theorem dX10_give_64 : decode cX10_give 64 = .ok (.iastore, 1) := by decide +kernel
theorem dX10_give_65 : decode cX10_give 65 = .ok (.aload_n 0, 1) := by decide +kernel
theorem dX10_give_66 : decode cX10_give 66 = .ok (.getfield 19, 3) := by decide +kernel
theorem dX10_give_69 : decode cX10_give 69 = .ok (.invokevirtual 190, 3) := by decide +kernel
theorem dX10_give_72 : decode cX10_give 72 = .ok (.invokestatic 193, 3) := by decide +kernel
theorem dX10_give_75 : decode cX10_give 75 = .ok (.ireturn, 1) := by decide +kernel
theorem dX10_why_0 : decode cX10_why 0 = .ok (.aload_n 0, 1) := by decide +kernel
theorem dX10_why_1 : decode cX10_why 1 = .ok (.getfield 19, 3) := by decide +kernel
theorem dX10_why_4 : decode cX10_why 4 = .ok (.getfield 146, 3) := by decide +kernel
theorem dX10_why_7 : decode cX10_why 7 = .ok (.iload_n 1, 1) := by decide +kernel
theorem dX10_why_8 : decode cX10_why 8 = .ok (.invokevirtual 150, 3) := by decide +kernel
theorem dX10_why_11 : decode cX10_why 11 = .ok (.ifCond .eq 20, 3) := by decide +kernel
theorem dX10_why_14 : decode cX10_why 14 = .ok (.aload_n 0, 1) := by decide +kernel
theorem dX10_why_15 : decode cX10_why 15 = .ok (.getfield 19, 3) := by decide +kernel
theorem dX10_why_18 : decode cX10_why 18 = .ok (.getfield 87, 3) := by decide +kernel
theorem dX10_why_21 : decode cX10_why 21 = .ok (.getfield 111, 3) := by decide +kernel
theorem dX10_why_24 : decode cX10_why 24 = .ok (.iload_n 2, 1) := by decide +kernel
theorem dX10_why_25 : decode cX10_why 25 = .ok (.invokevirtual 94, 3) := by decide +kernel
theorem dX10_why_28 : decode cX10_why 28 = .ok (.ifCond .ne 5, 3) := by decide +kernel
theorem dX10_why_31 : decode cX10_why 31 = .ok (.iconst (-1), 1) := by decide +kernel
theorem dX10_why_32 : decode cX10_why 32 = .ok (.ireturn, 1) := by decide +kernel
theorem dX10_why_33 : decode cX10_why 33 = .ok (.aload_n 0, 1) := by decide +kernel
theorem dX10_why_34 : decode cX10_why 34 = .ok (.getfield 19, 3) := by decide +kernel
theorem dX10_why_37 : decode cX10_why 37 = .ok (.iload_n 1, 1) := by decide +kernel
theorem dX10_why_38 : decode cX10_why 38 = .ok (.iload_n 2, 1) := by decide +kernel
theorem dX10_why_39 : decode cX10_why 39 = .ok (.invokevirtual 184, 3) := by decide +kernel
theorem dX10_why_42 : decode cX10_why 42 = .ok (.ireturn, 1) := by decide +kernel
theorem dX10_take_0 : decode cX10_take 0 = .ok (.aload_n 0, 1) := by decide +kernel
theorem dX10_take_1 : decode cX10_take 1 = .ok (.getfield 19, 3) := by decide +kernel
theorem dX10_take_4 : decode cX10_take 4 = .ok (.getfield 146, 3) := by decide +kernel
theorem dX10_take_7 : decode cX10_take 7 = .ok (.iload_n 1, 1) := by decide +kernel
theorem dX10_take_8 : decode cX10_take 8 = .ok (.invokevirtual 150, 3) := by decide +kernel
theorem dX10_take_11 : decode cX10_take 11 = .ok (.ifCond .ne 5, 3) := by decide +kernel
theorem dX10_take_14 : decode cX10_take 14 = .ok (.iconst (-1), 1) := by decide +kernel
theorem dX10_take_15 : decode cX10_take 15 = .ok (.ireturn, 1) := by decide +kernel
theorem dX10_take_16 : decode cX10_take 16 = .ok (.aload_n 0, 1) := by decide +kernel
theorem dX10_take_17 : decode cX10_take 17 = .ok (.getfield 19, 3) := by decide +kernel
theorem dX10_take_20 : decode cX10_take 20 = .ok (.getfield 114, 3) := by decide +kernel
theorem dX10_take_23 : decode cX10_take 23 = .ok (.getfield 168, 3) := by decide +kernel
theorem dX10_take_26 : decode cX10_take 26 = .ok (.iload_n 1, 1) := by decide +kernel
theorem dX10_take_27 : decode cX10_take 27 = .ok (.iaload, 1) := by decide +kernel
theorem dX10_take_28 : decode cX10_take 28 = .ok (.istore_n 2, 1) := by decide +kernel
theorem dX10_take_29 : decode cX10_take 29 = .ok (.iload_n 2, 1) := by decide +kernel
theorem dX10_take_30 : decode cX10_take 30 = .ok (.iconst (-1), 1) := by decide +kernel
theorem dX10_take_31 : decode cX10_take 31 = .ok (.if_icmp .ne 6, 3) := by decide +kernel
theorem dX10_take_34 : decode cX10_take 34 = .ok (.bipush (-2), 2) := by decide +kernel
theorem dX10_take_36 : decode cX10_take 36 = .ok (.ireturn, 1) := by decide +kernel
theorem dX10_take_37 : decode cX10_take 37 = .ok (.aload_n 0, 1) := by decide +kernel
theorem dX10_take_38 : decode cX10_take 38 = .ok (.invokevirtual 187, 3) := by decide +kernel
theorem dX10_take_41 : decode cX10_take 41 = .ok (.aload_n 0, 1) := by decide +kernel
theorem dX10_take_42 : decode cX10_take 42 = .ok (.getfield 19, 3) := by decide +kernel
theorem dX10_take_45 : decode cX10_take 45 = .ok (.getfield 114, 3) := by decide +kernel
theorem dX10_take_48 : decode cX10_take 48 = .ok (.getfield 168, 3) := by decide +kernel
theorem dX10_take_51 : decode cX10_take 51 = .ok (.iload_n 1, 1) := by decide +kernel
theorem dX10_take_52 : decode cX10_take 52 = .ok (.iconst (-1), 1) := by decide +kernel
theorem dX10_take_53 : decode cX10_take 53 = .ok (.iastore, 1) := by decide +kernel
theorem dX10_take_54 : decode cX10_take 54 = .ok (.iload_n 2, 1) := by decide +kernel
theorem dX10_take_55 : decode cX10_take 55 = .ok (.ireturn, 1) := by decide +kernel
theorem dX10_out_0 : decode cX10_out 0 = .ok (.aload_n 0, 1) := by decide +kernel
theorem dX10_out_1 : decode cX10_out 1 = .ok (.getfield 19, 3) := by decide +kernel
theorem dX10_out_4 : decode cX10_out 4 = .ok (.getfield 87, 3) := by decide +kernel
theorem dX10_out_7 : decode cX10_out 7 = .ok (.getfield 111, 3) := by decide +kernel
theorem dX10_out_10 : decode cX10_out 10 = .ok (.iload_n 1, 1) := by decide +kernel
theorem dX10_out_11 : decode cX10_out 11 = .ok (.invokevirtual 94, 3) := by decide +kernel
theorem dX10_out_14 : decode cX10_out 14 = .ok (.ifCond .eq 17, 3) := by decide +kernel
theorem dX10_out_17 : decode cX10_out 17 = .ok (.iload_n 2, 1) := by decide +kernel
theorem dX10_out_18 : decode cX10_out 18 = .ok (.invokestatic 139, 3) := by decide +kernel
theorem dX10_out_21 : decode cX10_out 21 = .ok (.ifCond .eq 10, 3) := by decide +kernel
theorem dX10_out_24 : decode cX10_out 24 = .ok (.iload_n 3, 1) := by decide +kernel
theorem dX10_out_25 : decode cX10_out 25 = .ok (.invokestatic 139, 3) := by decide +kernel
theorem dX10_out_28 : decode cX10_out 28 = .ok (.ifCond .ne 5, 3) := by decide +kernel
theorem dX10_out_31 : decode cX10_out 31 = .ok (.iconst (-1), 1) := by decide +kernel
theorem dX10_out_32 : decode cX10_out 32 = .ok (.ireturn, 1) := by decide +kernel
theorem dX10_out_33 : decode cX10_out 33 = .ok (.aload_n 0, 1) := by decide +kernel
theorem dX10_out_34 : decode cX10_out 34 = .ok (.invokevirtual 187, 3) := by decide +kernel
theorem dX10_out_37 : decode cX10_out 37 = .ok (.aload_n 0, 1) := by decide +kernel
theorem dX10_out_38 : decode cX10_out 38 = .ok (.getfield 19, 3) := by decide +kernel
theorem dX10_out_41 : decode cX10_out 41 = .ok (.getfield 114, 3) := by decide +kernel
theorem dX10_out_44 : decode cX10_out 44 = .ok (.getfield 123, 3) := by decide +kernel
theorem dX10_out_47 : decode cX10_out 47 = .ok (.iload_n 1, 1) := by decide +kernel
theorem dX10_out_48 : decode cX10_out 48 = .ok (.iload_n 2, 1) := by decide +kernel
theorem dX10_out_49 : decode cX10_out 49 = .ok (.iastore, 1) := by decide +kernel
theorem dX10_out_50 : decode cX10_out 50 = .ok (.aload_n 0, 1) := by decide +kernel
theorem dX10_out_51 : decode cX10_out 51 = .ok (.getfield 19, 3) := by decide +kernel
theorem dX10_out_54 : decode cX10_out 54 = .ok (.getfield 114, 3) := by decide +kernel
theorem dX10_out_57 : decode cX10_out 57 = .ok (.getfield 127, 3) := by decide +kernel
theorem dX10_out_60 : decode cX10_out 60 = .ok (.iload_n 1, 1) := by decide +kernel
theorem dX10_out_61 : decode cX10_out 61 = .ok (.iload_n 3, 1) := by decide +kernel
theorem dX10_out_62 : decode cX10_out 62 = .ok (.iastore, 1) := by decide +kernel
theorem dX10_out_63 : decode cX10_out 63 = .ok (.aload_n 0, 1) := by decide +kernel
theorem dX10_out_64 : decode cX10_out 64 = .ok (.getfield 19, 3) := by decide +kernel
theorem dX10_out_67 : decode cX10_out 67 = .ok (.iload_n 1, 1) := by decide +kernel
theorem dX10_out_68 : decode cX10_out 68 = .ok (.invokevirtual 198, 3) := by decide +kernel
theorem dX10_out_71 : decode cX10_out 71 = .ok (.ireturn, 1) := by decide +kernel
theorem dX10_undo_0 : decode cX10_undo 0 = .ok (.aload_n 0, 1) := by decide +kernel
theorem dX10_undo_1 : decode cX10_undo 1 = .ok (.getfield 26, 3) := by decide +kernel
theorem dX10_undo_4 : decode cX10_undo 4 = .ok (.getfield 201, 3) := by decide +kernel
theorem dX10_undo_7 : decode cX10_undo 7 = .ok (.ifCond .ne 6, 3) := by decide +kernel
theorem dX10_undo_10 : decode cX10_undo 10 = .ok (.bipush (-2), 2) := by decide +kernel
theorem dX10_undo_12 : decode cX10_undo 12 = .ok (.ireturn, 1) := by decide +kernel
theorem dX10_undo_13 : decode cX10_undo 13 = .ok (.aload_n 0, 1) := by decide +kernel
theorem dX10_undo_14 : decode cX10_undo 14 = .ok (.getfield 47, 3) := by decide +kernel
theorem dX10_undo_17 : decode cX10_undo 17 = .ok (.invokevirtual 204, 3) := by decide +kernel
theorem dX10_undo_20 : decode cX10_undo 20 = .ok (.aload_n 0, 1) := by decide +kernel
theorem dX10_undo_21 : decode cX10_undo 21 = .ok (.getfield 26, 3) := by decide +kernel
theorem dX10_undo_24 : decode cX10_undo 24 = .ok (.aload_n 0, 1) := by decide +kernel
theorem dX10_undo_25 : decode cX10_undo 25 = .ok (.getfield 19, 3) := by decide +kernel
theorem dX10_undo_28 : decode cX10_undo 28 = .ok (.getfield 114, 3) := by decide +kernel
theorem dX10_undo_31 : decode cX10_undo 31 = .ok (.invokevirtual 207, 3) := by decide +kernel
theorem dX10_undo_34 : decode cX10_undo 34 = .ok (.aload_n 0, 1) := by decide +kernel
theorem dX10_undo_35 : decode cX10_undo 35 = .ok (.getfield 26, 3) := by decide +kernel
theorem dX10_undo_38 : decode cX10_undo 38 = .ok (.getfield 201, 3) := by decide +kernel
theorem dX10_undo_41 : decode cX10_undo 41 = .ok (.ireturn, 1) := by decide +kernel
theorem dX10_best_0 : decode cX10_best 0 = .ok (.aload_n 0, 1) := by decide +kernel
theorem dX10_best_1 : decode cX10_best 1 = .ok (.getfield 19, 3) := by decide +kernel
theorem dX10_best_4 : decode cX10_best 4 = .ok (.getfield 87, 3) := by decide +kernel
theorem dX10_best_7 : decode cX10_best 7 = .ok (.getfield 111, 3) := by decide +kernel
theorem dX10_best_10 : decode cX10_best 10 = .ok (.iload_n 1, 1) := by decide +kernel
theorem dX10_best_11 : decode cX10_best 11 = .ok (.invokevirtual 94, 3) := by decide +kernel
theorem dX10_best_14 : decode cX10_best 14 = .ok (.ifCond .eq 9, 3) := by decide +kernel
theorem dX10_best_17 : decode cX10_best 17 = .ok (.iload_n 2, 1) := by decide +kernel
theorem dX10_best_18 : decode cX10_best 18 = .ok (.bipush (-2), 2) := by decide +kernel
theorem dX10_best_20 : decode cX10_best 20 = .ok (.if_icmp .ge 5, 3) := by decide +kernel
theorem dX10_best_23 : decode cX10_best 23 = .ok (.iconst (-1), 1) := by decide +kernel
theorem dX10_best_24 : decode cX10_best 24 = .ok (.ireturn, 1) := by decide +kernel
theorem dX10_best_25 : decode cX10_best 25 = .ok (.aload_n 0, 1) := by decide +kernel
theorem dX10_best_26 : decode cX10_best 26 = .ok (.getfield 40, 3) := by decide +kernel
theorem dX10_best_29 : decode cX10_best 29 = .ok (.aload_n 0, 1) := by decide +kernel
theorem dX10_best_30 : decode cX10_best 30 = .ok (.getfield 19, 3) := by decide +kernel
theorem dX10_best_33 : decode cX10_best 33 = .ok (.iload_n 1, 1) := by decide +kernel
theorem dX10_best_34 : decode cX10_best 34 = .ok (.invokevirtual 211, 3) := by decide +kernel
theorem dX10_best_37 : decode cX10_best 37 = .ok (.iload_n 2, 1) := by decide +kernel
theorem dX10_best_38 : decode cX10_best 38 = .ok (.lookupswitch 46 #[(-2, 36), (-1, 26)], 26) := by decide +kernel
theorem dX10_best_64 : decode cX10_best 64 = .ok (.aload_n 0, 1) := by decide +kernel
theorem dX10_best_65 : decode cX10_best 65 = .ok (.getfield 40, 3) := by decide +kernel
theorem dX10_best_68 : decode cX10_best 68 = .ok (.getfield 215, 3) := by decide +kernel
theorem dX10_best_71 : decode cX10_best 71 = .ok (.iconst 0, 1) := by decide +kernel
theorem dX10_best_72 : decode cX10_best 72 = .ok (.iaload, 1) := by decide +kernel
theorem dX10_best_73 : decode cX10_best 73 = .ok (.ireturn, 1) := by decide +kernel
theorem dX10_best_74 : decode cX10_best 74 = .ok (.aload_n 0, 1) := by decide +kernel
theorem dX10_best_75 : decode cX10_best 75 = .ok (.getfield 40, 3) := by decide +kernel
theorem dX10_best_78 : decode cX10_best 78 = .ok (.getfield 216, 3) := by decide +kernel
theorem dX10_best_81 : decode cX10_best 81 = .ok (.iconst 0, 1) := by decide +kernel
theorem dX10_best_82 : decode cX10_best 82 = .ok (.iaload, 1) := by decide +kernel
theorem dX10_best_83 : decode cX10_best 83 = .ok (.ireturn, 1) := by decide +kernel
theorem dX10_best_84 : decode cX10_best 84 = .ok (.aload_n 0, 1) := by decide +kernel
theorem dX10_best_85 : decode cX10_best 85 = .ok (.getfield 40, 3) := by decide +kernel
theorem dX10_best_88 : decode cX10_best 88 = .ok (.iload_n 2, 1) := by decide +kernel
theorem dX10_best_89 : decode cX10_best 89 = .ok (.invokevirtual 218, 3) := by decide +kernel
theorem dX10_best_92 : decode cX10_best 92 = .ok (.ireturn, 1) := by decide +kernel
theorem dX10_plan_0 : decode cX10_plan 0 = .ok (.aload_n 0, 1) := by decide +kernel
theorem dX10_plan_1 : decode cX10_plan 1 = .ok (.iload_n 1, 1) := by decide +kernel
theorem dX10_plan_2 : decode cX10_plan 2 = .ok (.iload_n 2, 1) := by decide +kernel
theorem dX10_plan_3 : decode cX10_plan 3 = .ok (.iload_n 3, 1) := by decide +kernel
theorem dX10_plan_4 : decode cX10_plan 4 = .ok (.invokevirtual 221, 3) := by decide +kernel
theorem dX10_plan_7 : decode cX10_plan 7 = .ok (.ifCond .ne 23, 3) := by decide +kernel
theorem dX10_plan_10 : decode cX10_plan 10 = .ok (.iload 4, 2) := by decide +kernel
theorem dX10_plan_12 : decode cX10_plan 12 = .ok (.bipush (-4), 2) := by decide +kernel
theorem dX10_plan_14 : decode cX10_plan 14 = .ok (.if_icmp .lt 16, 3) := by decide +kernel
theorem dX10_plan_17 : decode cX10_plan 17 = .ok (.iload 4, 2) := by decide +kernel
theorem dX10_plan_19 : decode cX10_plan 19 = .ok (.aload_n 0, 1) := by decide +kernel
theorem dX10_plan_20 : decode cX10_plan 20 = .ok (.getfield 19, 3) := by decide +kernel
theorem dX10_plan_23 : decode cX10_plan 23 = .ok (.iload_n 2, 1) := by decide +kernel
theorem dX10_plan_24 : decode cX10_plan 24 = .ok (.invokevirtual 224, 3) := by decide +kernel
theorem dX10_plan_27 : decode cX10_plan 27 = .ok (.if_icmp .lt 5, 3) := by decide +kernel
theorem dX10_plan_30 : decode cX10_plan 30 = .ok (.iconst (-1), 1) := by decide +kernel
theorem dX10_plan_31 : decode cX10_plan 31 = .ok (.ireturn, 1) := by decide +kernel
theorem dX10_plan_32 : decode cX10_plan 32 = .ok (.aload_n 0, 1) := by decide +kernel
theorem dX10_plan_33 : decode cX10_plan 33 = .ok (.getfield 47, 3) := by decide +kernel
theorem dX10_plan_36 : decode cX10_plan 36 = .ok (.aload_n 0, 1) := by decide +kernel
theorem dX10_plan_37 : decode cX10_plan 37 = .ok (.getfield 19, 3) := by decide +kernel
theorem dX10_plan_40 : decode cX10_plan 40 = .ok (.aload_n 0, 1) := by decide +kernel
theorem dX10_plan_41 : decode cX10_plan 41 = .ok (.getfield 33, 3) := by decide +kernel
theorem dX10_plan_44 : decode cX10_plan 44 = .ok (.iload_n 1, 1) := by decide +kernel
theorem dX10_plan_45 : decode cX10_plan 45 = .ok (.iload_n 2, 1) := by decide +kernel
theorem dX10_plan_46 : decode cX10_plan 46 = .ok (.iload_n 3, 1) := by decide +kernel
theorem dX10_plan_47 : decode cX10_plan 47 = .ok (.invokevirtual 227, 3) := by decide +kernel
theorem dX10_plan_50 : decode cX10_plan 50 = .ok (.iload 4, 2) := by decide +kernel
theorem dX10_plan_52 : decode cX10_plan 52 = .ok (.tableswitch 94 (-4) (-1) #[86, 75, 49, 32], 32) := by decide +kernel
theorem dX10_plan_84 : decode cX10_plan 84 = .ok (.aload_n 0, 1) := by decide +kernel
theorem dX10_plan_85 : decode cX10_plan 85 = .ok (.getfield 19, 3) := by decide +kernel
theorem dX10_plan_88 : decode cX10_plan 88 = .ok (.aload_n 0, 1) := by decide +kernel
theorem dX10_plan_89 : decode cX10_plan 89 = .ok (.getfield 47, 3) := by decide +kernel
theorem dX10_plan_92 : decode cX10_plan 92 = .ok (.getfield 230, 3) := by decide +kernel
theorem dX10_plan_95 : decode cX10_plan 95 = .ok (.iload_n 2, 1) := by decide +kernel
theorem dX10_plan_96 : decode cX10_plan 96 = .ok (.ishl, 1) := by decide +kernel
theorem dX10_plan_97 : decode cX10_plan 97 = .ok (.invokevirtual 233, 3) := by decide +kernel
theorem dX10_plan_100 : decode cX10_plan 100 = .ok (.ireturn, 1) := by decide +kernel
theorem dX10_plan_101 : decode cX10_plan 101 = .ok (.aload_n 0, 1) := by decide +kernel
theorem dX10_plan_102 : decode cX10_plan 102 = .ok (.getfield 33, 3) := by decide +kernel
theorem dX10_plan_105 : decode cX10_plan 105 = .ok (.aload_n 0, 1) := by decide +kernel
theorem dX10_plan_106 : decode cX10_plan 106 = .ok (.getfield 19, 3) := by decide +kernel
theorem dX10_plan_109 : decode cX10_plan 109 = .ok (.aload_n 0, 1) := by decide +kernel
theorem dX10_plan_110 : decode cX10_plan 110 = .ok (.getfield 47, 3) := by decide +kernel
theorem dX10_plan_113 : decode cX10_plan 113 = .ok (.aload_n 0, 1) := by decide +kernel
theorem dX10_plan_114 : decode cX10_plan 114 = .ok (.getfield 47, 3) := by decide +kernel
theorem dX10_plan_117 : decode cX10_plan 117 = .ok (.getfield 230, 3) := by decide +kernel
theorem dX10_plan_120 : decode cX10_plan 120 = .ok (.invokevirtual 236, 3) := by decide +kernel
theorem dX10_plan_123 : decode cX10_plan 123 = .ok (.invokevirtual 238, 3) := by decide +kernel
theorem dX10_plan_126 : decode cX10_plan 126 = .ok (.ireturn, 1) := by decide +kernel
theorem dX10_plan_127 : decode cX10_plan 127 = .ok (.aload_n 0, 1) := by decide +kernel
theorem dX10_plan_128 : decode cX10_plan 128 = .ok (.getfield 47, 3) := by decide +kernel
theorem dX10_plan_131 : decode cX10_plan 131 = .ok (.getfield 230, 3) := by decide +kernel
theorem dX10_plan_134 : decode cX10_plan 134 = .ok (.invokestatic 193, 3) := by decide +kernel
theorem dX10_plan_137 : decode cX10_plan 137 = .ok (.ireturn, 1) := by decide +kernel
theorem dX10_plan_138 : decode cX10_plan 138 = .ok (.aload_n 0, 1) := by decide +kernel
theorem dX10_plan_139 : decode cX10_plan 139 = .ok (.getfield 47, 3) := by decide +kernel
theorem dX10_plan_142 : decode cX10_plan 142 = .ok (.getfield 242, 3) := by decide +kernel
theorem dX10_plan_145 : decode cX10_plan 145 = .ok (.ireturn, 1) := by decide +kernel
theorem dX10_plan_146 : decode cX10_plan 146 = .ok (.aload_n 0, 1) := by decide +kernel
theorem dX10_plan_147 : decode cX10_plan 147 = .ok (.getfield 47, 3) := by decide +kernel
theorem dX10_plan_150 : decode cX10_plan 150 = .ok (.getfield 245, 3) := by decide +kernel
theorem dX10_plan_153 : decode cX10_plan 153 = .ok (.iload 4, 2) := by decide +kernel
theorem dX10_plan_155 : decode cX10_plan 155 = .ok (.iaload, 1) := by decide +kernel
theorem dX10_plan_156 : decode cX10_plan 156 = .ok (.invokestatic 171, 3) := by decide +kernel
theorem dX10_plan_159 : decode cX10_plan 159 = .ok (.ireturn, 1) := by decide +kernel
theorem dX10_adopt_0 : decode cX10_adopt 0 = .ok (.aload_n 0, 1) := by decide +kernel
theorem dX10_adopt_1 : decode cX10_adopt 1 = .ok (.iload_n 1, 1) := by decide +kernel
theorem dX10_adopt_2 : decode cX10_adopt 2 = .ok (.iload_n 2, 1) := by decide +kernel
theorem dX10_adopt_3 : decode cX10_adopt 3 = .ok (.iload_n 3, 1) := by decide +kernel
theorem dX10_adopt_4 : decode cX10_adopt 4 = .ok (.invokevirtual 221, 3) := by decide +kernel
theorem dX10_adopt_7 : decode cX10_adopt 7 = .ok (.ifCond .eq 5, 3) := by decide +kernel
theorem dX10_adopt_10 : decode cX10_adopt 10 = .ok (.iconst (-1), 1) := by decide +kernel
theorem dX10_adopt_11 : decode cX10_adopt 11 = .ok (.ireturn, 1) := by decide +kernel
theorem dX10_adopt_12 : decode cX10_adopt 12 = .ok (.aload_n 0, 1) := by decide +kernel
theorem dX10_adopt_13 : decode cX10_adopt 13 = .ok (.getfield 47, 3) := by decide +kernel
theorem dX10_adopt_16 : decode cX10_adopt 16 = .ok (.aload_n 0, 1) := by decide +kernel
theorem dX10_adopt_17 : decode cX10_adopt 17 = .ok (.getfield 19, 3) := by decide +kernel
theorem dX10_adopt_20 : decode cX10_adopt 20 = .ok (.aload_n 0, 1) := by decide +kernel
theorem dX10_adopt_21 : decode cX10_adopt 21 = .ok (.getfield 33, 3) := by decide +kernel
theorem dX10_adopt_24 : decode cX10_adopt 24 = .ok (.iload_n 1, 1) := by decide +kernel
theorem dX10_adopt_25 : decode cX10_adopt 25 = .ok (.iload_n 2, 1) := by decide +kernel
theorem dX10_adopt_26 : decode cX10_adopt 26 = .ok (.iload_n 3, 1) := by decide +kernel
theorem dX10_adopt_27 : decode cX10_adopt 27 = .ok (.invokevirtual 227, 3) := by decide +kernel
theorem dX10_adopt_30 : decode cX10_adopt 30 = .ok (.aload_n 0, 1) := by decide +kernel
theorem dX10_adopt_31 : decode cX10_adopt 31 = .ok (.invokevirtual 187, 3) := by decide +kernel
theorem dX10_adopt_34 : decode cX10_adopt 34 = .ok (.aload_n 0, 1) := by decide +kernel
theorem dX10_adopt_35 : decode cX10_adopt 35 = .ok (.getfield 47, 3) := by decide +kernel
theorem dX10_adopt_38 : decode cX10_adopt 38 = .ok (.getfield 245, 3) := by decide +kernel
theorem dX10_adopt_41 : decode cX10_adopt 41 = .ok (.iconst 0, 1) := by decide +kernel
theorem dX10_adopt_42 : decode cX10_adopt 42 = .ok (.aload_n 0, 1) := by decide +kernel
theorem dX10_adopt_43 : decode cX10_adopt 43 = .ok (.getfield 19, 3) := by decide +kernel
theorem dX10_adopt_46 : decode cX10_adopt 46 = .ok (.getfield 114, 3) := by decide +kernel
theorem dX10_adopt_49 : decode cX10_adopt 49 = .ok (.getfield 168, 3) := by decide +kernel
theorem dX10_adopt_52 : decode cX10_adopt 52 = .ok (.iload_n 2, 1) := by decide +kernel
theorem dX10_adopt_53 : decode cX10_adopt 53 = .ok (.aload_n 0, 1) := by decide +kernel
theorem dX10_adopt_54 : decode cX10_adopt 54 = .ok (.getfield 19, 3) := by decide +kernel
theorem dX10_adopt_57 : decode cX10_adopt 57 = .ok (.iload_n 2, 1) := by decide +kernel
theorem dX10_adopt_58 : decode cX10_adopt 58 = .ok (.invokevirtual 224, 3) := by decide +kernel
theorem dX10_adopt_61 : decode cX10_adopt 61 = .ok (.invokestatic 248, 3) := by decide +kernel
theorem dX10_adopt_64 : decode cX10_adopt 64 = .ok (.aload_n 0, 1) := by decide +kernel
theorem dX10_adopt_65 : decode cX10_adopt 65 = .ok (.getfield 47, 3) := by decide +kernel
theorem dX10_adopt_68 : decode cX10_adopt 68 = .ok (.getfield 242, 3) := by decide +kernel
theorem dX10_adopt_71 : decode cX10_adopt 71 = .ok (.ireturn, 1) := by decide +kernel
theorem dX10_bound_0 : decode cX10_bound 0 = .ok (.aload_n 0, 1) := by decide +kernel
theorem dX10_bound_1 : decode cX10_bound 1 = .ok (.getfield 19, 3) := by decide +kernel
theorem dX10_bound_4 : decode cX10_bound 4 = .ok (.getfield 146, 3) := by decide +kernel
theorem dX10_bound_7 : decode cX10_bound 7 = .ok (.iload_n 1, 1) := by decide +kernel
theorem dX10_bound_8 : decode cX10_bound 8 = .ok (.invokevirtual 150, 3) := by decide +kernel
theorem dX10_bound_11 : decode cX10_bound 11 = .ok (.ifCond .ne 5, 3) := by decide +kernel
theorem dX10_bound_14 : decode cX10_bound 14 = .ok (.iconst (-1), 1) := by decide +kernel
theorem dX10_bound_15 : decode cX10_bound 15 = .ok (.ireturn, 1) := by decide +kernel
theorem dX10_bound_16 : decode cX10_bound 16 = .ok (.iconst 0, 1) := by decide +kernel
