theorem dX0_init_0 : decode cX0_init 0 = .ok (.aload_n 0, 1) := by decide +kernel
theorem dX0_init_1 : decode cX0_init 1 = .ok (.invokespecial 3, 3) := by decide +kernel
theorem dX0_init_4 : decode cX0_init 4 = .ok (.aload_n 0, 1) := by decide +kernel
theorem dX0_init_5 : decode cX0_init 5 = .ok (.iconst 0, 1) := by decide +kernel
theorem dX0_init_6 : decode cX0_init 6 = .ok (.putfield 9, 3) := by decide +kernel
theorem dX0_init_9 : decode cX0_init 9 = .ok (.aload_n 0, 1) := by decide +kernel
theorem dX0_init_10 : decode cX0_init 10 = .ok (.sipush 200, 3) := by decide +kernel
theorem dX0_init_13 : decode cX0_init 13 = .ok (.newarray .int, 2) := by decide +kernel
theorem dX0_init_15 : decode cX0_init 15 = .ok (.putfield 15, 3) := by decide +kernel
theorem dX0_init_18 : decode cX0_init 18 = .ok (.aload_n 0, 1) := by decide +kernel
theorem dX0_init_19 : decode cX0_init 19 = .ok (.sipush 200, 3) := by decide +kernel
theorem dX0_init_22 : decode cX0_init 22 = .ok (.newarray .int, 2) := by decide +kernel
theorem dX0_init_24 : decode cX0_init 24 = .ok (.putfield 19, 3) := by decide +kernel
theorem dX0_init_27 : decode cX0_init 27 = .ok (.aload_n 0, 1) := by decide +kernel
theorem dX0_init_28 : decode cX0_init 28 = .ok (.sipush 200, 3) := by decide +kernel
theorem dX0_init_31 : decode cX0_init 31 = .ok (.newarray .int, 2) := by decide +kernel
theorem dX0_init_33 : decode cX0_init 33 = .ok (.putfield 22, 3) := by decide +kernel
theorem dX0_init_36 : decode cX0_init 36 = .ok (.aload_n 0, 1) := by decide +kernel
theorem dX0_init_37 : decode cX0_init 37 = .ok (.sipush 200, 3) := by decide +kernel
theorem dX0_init_40 : decode cX0_init 40 = .ok (.newarray .int, 2) := by decide +kernel
theorem dX0_init_42 : decode cX0_init 42 = .ok (.putfield 25, 3) := by decide +kernel
theorem dX0_init_45 : decode cX0_init 45 = .ok (.return_, 1) := by decide +kernel
theorem dX0_arrange_0 : decode cX0_arrange 0 = .ok (.aload_n 0, 1) := by decide +kernel
theorem dX0_arrange_1 : decode cX0_arrange 1 = .ok (.iconst 0, 1) := by decide +kernel
theorem dX0_arrange_2 : decode cX0_arrange 2 = .ok (.putfield 9, 3) := by decide +kernel
theorem dX0_arrange_5 : decode cX0_arrange 5 = .ok (.aload_n 0, 1) := by decide +kernel
theorem dX0_arrange_6 : decode cX0_arrange 6 = .ok (.aload_n 0, 1) := by decide +kernel
theorem dX0_arrange_7 : decode cX0_arrange 7 = .ok (.getfield 22, 3) := by decide +kernel
theorem dX0_arrange_10 : decode cX0_arrange 10 = .ok (.aload_n 1, 1) := by decide +kernel
theorem dX0_arrange_11 : decode cX0_arrange 11 = .ok (.getfield 28, 3) := by decide +kernel
theorem dX0_arrange_14 : decode cX0_arrange 14 = .ok (.aload_n 1, 1) := by decide +kernel
theorem dX0_arrange_15 : decode cX0_arrange 15 = .ok (.getfield 34, 3) := by decide +kernel
theorem dX0_arrange_18 : decode cX0_arrange 18 = .ok (.invokevirtual 35, 3) := by decide +kernel
theorem dX0_arrange_21 : decode cX0_arrange 21 = .ok (.aload_n 0, 1) := by decide +kernel
theorem dX0_arrange_22 : decode cX0_arrange 22 = .ok (.aload_n 0, 1) := by decide +kernel
theorem dX0_arrange_23 : decode cX0_arrange 23 = .ok (.getfield 25, 3) := by decide +kernel
theorem dX0_arrange_26 : decode cX0_arrange 26 = .ok (.aload_n 1, 1) := by decide +kernel
theorem dX0_arrange_27 : decode cX0_arrange 27 = .ok (.getfield 39, 3) := by decide +kernel
theorem dX0_arrange_30 : decode cX0_arrange 30 = .ok (.aload_n 1, 1) := by decide +kernel
theorem dX0_arrange_31 : decode cX0_arrange 31 = .ok (.getfield 34, 3) := by decide +kernel
theorem dX0_arrange_34 : decode cX0_arrange 34 = .ok (.invokevirtual 35, 3) := by decide +kernel
theorem dX0_arrange_37 : decode cX0_arrange 37 = .ok (.aload_n 0, 1) := by decide +kernel
theorem dX0_arrange_38 : decode cX0_arrange 38 = .ok (.aload_n 1, 1) := by decide +kernel
theorem dX0_arrange_39 : decode cX0_arrange 39 = .ok (.iconst 0, 1) := by decide +kernel
theorem dX0_arrange_40 : decode cX0_arrange 40 = .ok (.invokevirtual 42, 3) := by decide +kernel
theorem dX0_arrange_43 : decode cX0_arrange 43 = .ok (.aload_n 0, 1) := by decide +kernel
theorem dX0_arrange_44 : decode cX0_arrange 44 = .ok (.aload_n 1, 1) := by decide +kernel
theorem dX0_arrange_45 : decode cX0_arrange 45 = .ok (.iconst 1, 1) := by decide +kernel
theorem dX0_arrange_46 : decode cX0_arrange 46 = .ok (.invokevirtual 42, 3) := by decide +kernel
theorem dX0_arrange_49 : decode cX0_arrange 49 = .ok (.return_, 1) := by decide +kernel
theorem dX0_sort_0 : decode cX0_sort 0 = .ok (.iconst 0, 1) := by decide +kernel
theorem dX0_sort_1 : decode cX0_sort 1 = .ok (.istore 4, 2) := by decide +kernel
theorem dX0_sort_3 : decode cX0_sort 3 = .ok (.iload 4, 2) := by decide +kernel
theorem dX0_sort_5 : decode cX0_sort 5 = .ok (.iload_n 3, 1) := by decide +kernel
theorem dX0_sort_6 : decode cX0_sort 6 = .ok (.if_icmp .ge 56, 3) := by decide +kernel
theorem dX0_sort_9 : decode cX0_sort 9 = .ok (.iload 4, 2) := by decide +kernel
theorem dX0_sort_11 : decode cX0_sort 11 = .ok (.istore 5, 2) := by decide +kernel
theorem dX0_sort_13 : decode cX0_sort 13 = .ok (.iload 5, 2) := by decide +kernel
theorem dX0_sort_15 : decode cX0_sort 15 = .ok (.ifCond .le 35, 3) := by decide +kernel
theorem dX0_sort_18 : decode cX0_sort 18 = .ok (.aload_n 2, 1) := by decide +kernel
theorem dX0_sort_19 : decode cX0_sort 19 = .ok (.aload_n 1, 1) := by decide +kernel
theorem dX0_sort_20 : decode cX0_sort 20 = .ok (.iload 5, 2) := by decide +kernel
theorem dX0_sort_22 : decode cX0_sort 22 = .ok (.iconst 1, 1) := by decide +kernel
theorem dX0_sort_23 : decode cX0_sort 23 = .ok (.isub, 1) := by decide +kernel
theorem dX0_sort_24 : decode cX0_sort 24 = .ok (.iaload, 1) := by decide +kernel
theorem dX0_sort_25 : decode cX0_sort 25 = .ok (.laload, 1) := by decide +kernel
theorem dX0_sort_26 : decode cX0_sort 26 = .ok (.aload_n 2, 1) := by decide +kernel
theorem dX0_sort_27 : decode cX0_sort 27 = .ok (.iload 4, 2) := by decide +kernel
theorem dX0_sort_29 : decode cX0_sort 29 = .ok (.laload, 1) := by decide +kernel
theorem dX0_sort_30 : decode cX0_sort 30 = .ok (.lcmp, 1) := by decide +kernel
theorem dX0_sort_31 : decode cX0_sort 31 = .ok (.ifCond .le 19, 3) := by decide +kernel
theorem dX0_sort_34 : decode cX0_sort 34 = .ok (.aload_n 1, 1) := by decide +kernel
theorem dX0_sort_35 : decode cX0_sort 35 = .ok (.iload 5, 2) := by decide +kernel
theorem dX0_sort_37 : decode cX0_sort 37 = .ok (.aload_n 1, 1) := by decide +kernel
theorem dX0_sort_38 : decode cX0_sort 38 = .ok (.iload 5, 2) := by decide +kernel
theorem dX0_sort_40 : decode cX0_sort 40 = .ok (.iconst 1, 1) := by decide +kernel
theorem dX0_sort_41 : decode cX0_sort 41 = .ok (.isub, 1) := by decide +kernel
theorem dX0_sort_42 : decode cX0_sort 42 = .ok (.iaload, 1) := by decide +kernel
theorem dX0_sort_43 : decode cX0_sort 43 = .ok (.iastore, 1) := by decide +kernel
theorem dX0_sort_44 : decode cX0_sort 44 = .ok (.iinc 5 (-1), 3) := by decide +kernel
theorem dX0_sort_47 : decode cX0_sort 47 = .ok (.goto (-34), 3) := by decide +kernel
theorem dX0_sort_50 : decode cX0_sort 50 = .ok (.aload_n 1, 1) := by decide +kernel
theorem dX0_sort_51 : decode cX0_sort 51 = .ok (.iload 5, 2) := by decide +kernel
theorem dX0_sort_53 : decode cX0_sort 53 = .ok (.iload 4, 2) := by decide +kernel
theorem dX0_sort_55 : decode cX0_sort 55 = .ok (.iastore, 1) := by decide +kernel
theorem dX0_sort_56 : decode cX0_sort 56 = .ok (.iinc 4 1, 3) := by decide +kernel
theorem dX0_sort_59 : decode cX0_sort 59 = .ok (.goto (-56), 3) := by decide +kernel
theorem dX0_sort_62 : decode cX0_sort 62 = .ok (.return_, 1) := by decide +kernel
theorem dX0_arrangeKind_0 : decode cX0_arrangeKind 0 = .ok (.aload_n 0, 1) := by decide +kernel
theorem dX0_arrangeKind_1 : decode cX0_arrangeKind 1 = .ok (.aload_n 1, 1) := by decide +kernel
theorem dX0_arrangeKind_2 : decode cX0_arrangeKind 2 = .ok (.iload_n 2, 1) := by decide +kernel
theorem dX0_arrangeKind_3 : decode cX0_arrangeKind 3 = .ok (.invokevirtual 46, 3) := by decide +kernel
theorem dX0_arrangeKind_6 : decode cX0_arrangeKind 6 = .ok (.istore_n 3, 1) := by decide +kernel
theorem dX0_arrangeKind_7 : decode cX0_arrangeKind 7 = .ok (.iconst 0, 1) := by decide +kernel
theorem dX0_arrangeKind_8 : decode cX0_arrangeKind 8 = .ok (.istore 4, 2) := by decide +kernel
theorem dX0_arrangeKind_10 : decode cX0_arrangeKind 10 = .ok (.iload 4, 2) := by decide +kernel
theorem dX0_arrangeKind_12 : decode cX0_arrangeKind 12 = .ok (.iconst 2, 1) := by decide +kernel
theorem dX0_arrangeKind_13 : decode cX0_arrangeKind 13 = .ok (.aload_n 1, 1) := by decide +kernel
theorem dX0_arrangeKind_14 : decode cX0_arrangeKind 14 = .ok (.getfield 34, 3) := by decide +kernel
theorem dX0_arrangeKind_17 : decode cX0_arrangeKind 17 = .ok (.imul, 1) := by decide +kernel
theorem dX0_arrangeKind_18 : decode cX0_arrangeKind 18 = .ok (.if_icmp .ge 37, 3) := by decide +kernel
theorem dX0_arrangeKind_21 : decode cX0_arrangeKind 21 = .ok (.iload_n 3, 1) := by decide +kernel
theorem dX0_arrangeKind_22 : decode cX0_arrangeKind 22 = .ok (.ifCond .lt 33, 3) := by decide +kernel
theorem dX0_arrangeKind_25 : decode cX0_arrangeKind 25 = .ok (.aload_n 0, 1) := by decide +kernel
theorem dX0_arrangeKind_26 : decode cX0_arrangeKind 26 = .ok (.aload_n 1, 1) := by decide +kernel
theorem dX0_arrangeKind_27 : decode cX0_arrangeKind 27 = .ok (.iload_n 3, 1) := by decide +kernel
theorem dX0_arrangeKind_28 : decode cX0_arrangeKind 28 = .ok (.invokevirtual 50, 3) := by decide +kernel
theorem dX0_arrangeKind_31 : decode cX0_arrangeKind 31 = .ok (.ifCond .eq 9, 3) := by decide +kernel
theorem dX0_arrangeKind_34 : decode cX0_arrangeKind 34 = .ok (.iinc 3 1, 3) := by decide +kernel
theorem dX0_arrangeKind_37 : decode cX0_arrangeKind 37 = .ok (.goto 12, 3) := by decide +kernel
theorem dX0_arrangeKind_40 : decode cX0_arrangeKind 40 = .ok (.aload_n 0, 1) := by decide +kernel
theorem dX0_arrangeKind_41 : decode cX0_arrangeKind 41 = .ok (.aload_n 1, 1) := by decide +kernel
theorem dX0_arrangeKind_42 : decode cX0_arrangeKind 42 = .ok (.iload_n 3, 1) := by decide +kernel
theorem dX0_arrangeKind_43 : decode cX0_arrangeKind 43 = .ok (.invokevirtual 54, 3) := by decide +kernel
theorem dX0_arrangeKind_46 : decode cX0_arrangeKind 46 = .ok (.iinc 3 (-1), 3) := by decide +kernel
theorem dX0_arrangeKind_49 : decode cX0_arrangeKind 49 = .ok (.iinc 4 1, 3) := by decide +kernel
theorem dX0_arrangeKind_52 : decode cX0_arrangeKind 52 = .ok (.goto (-42), 3) := by decide +kernel
theorem dX0_arrangeKind_55 : decode cX0_arrangeKind 55 = .ok (.return_, 1) := by decide +kernel
theorem dX0_pileUp_0 : decode cX0_pileUp 0 = .ok (.iconst (-1), 1) := by decide +kernel
theorem dX0_pileUp_1 : decode cX0_pileUp 1 = .ok (.istore_n 3, 1) := by decide +kernel
theorem dX0_pileUp_2 : decode cX0_pileUp 2 = .ok (.iconst 0, 1) := by decide +kernel
theorem dX0_pileUp_3 : decode cX0_pileUp 3 = .ok (.istore 4, 2) := by decide +kernel
theorem dX0_pileUp_5 : decode cX0_pileUp 5 = .ok (.iload 4, 2) := by decide +kernel
theorem dX0_pileUp_7 : decode cX0_pileUp 7 = .ok (.aload_n 1, 1) := by decide +kernel
theorem dX0_pileUp_8 : decode cX0_pileUp 8 = .ok (.getfield 34, 3) := by decide +kernel
theorem dX0_pileUp_11 : decode cX0_pileUp 11 = .ok (.if_icmp .ge 55, 3) := by decide +kernel
theorem dX0_pileUp_14 : decode cX0_pileUp 14 = .ok (.aload_n 1, 1) := by decide +kernel
theorem dX0_pileUp_15 : decode cX0_pileUp 15 = .ok (.getfield 58, 3) := by decide +kernel
theorem dX0_pileUp_18 : decode cX0_pileUp 18 = .ok (.iload 4, 2) := by decide +kernel
theorem dX0_pileUp_20 : decode cX0_pileUp 20 = .ok (.baload, 1) := by decide +kernel
theorem dX0_pileUp_21 : decode cX0_pileUp 21 = .ok (.iload_n 2, 1) := by decide +kernel
theorem dX0_pileUp_22 : decode cX0_pileUp 22 = .ok (.if_icmp .ne 7, 3) := by decide +kernel
theorem dX0_pileUp_25 : decode cX0_pileUp 25 = .ok (.iconst 1, 1) := by decide +kernel
theorem dX0_pileUp_26 : decode cX0_pileUp 26 = .ok (.goto 4, 3) := by decide +kernel
theorem dX0_pileUp_29 : decode cX0_pileUp 29 = .ok (.iconst 0, 1) := by decide +kernel
theorem dX0_pileUp_30 : decode cX0_pileUp 30 = .ok (.istore 5, 2) := by decide +kernel
theorem dX0_pileUp_32 : decode cX0_pileUp 32 = .ok (.aload_n 0, 1) := by decide +kernel
theorem dX0_pileUp_33 : decode cX0_pileUp 33 = .ok (.getfield 19, 3) := by decide +kernel
theorem dX0_pileUp_36 : decode cX0_pileUp 36 = .ok (.iload 4, 2) := by decide +kernel
theorem dX0_pileUp_38 : decode cX0_pileUp 38 = .ok (.iload 5, 2) := by decide +kernel
theorem dX0_pileUp_40 : decode cX0_pileUp 40 = .ok (.ifCond .eq 7, 3) := by decide +kernel
theorem dX0_pileUp_43 : decode cX0_pileUp 43 = .ok (.iconst 0, 1) := by decide +kernel
theorem dX0_pileUp_44 : decode cX0_pileUp 44 = .ok (.goto 4, 3) := by decide +kernel
theorem dX0_pileUp_47 : decode cX0_pileUp 47 = .ok (.iconst (-1), 1) := by decide +kernel
theorem dX0_pileUp_48 : decode cX0_pileUp 48 = .ok (.iastore, 1) := by decide +kernel
theorem dX0_pileUp_49 : decode cX0_pileUp 49 = .ok (.iload 5, 2) := by decide +kernel
theorem dX0_pileUp_51 : decode cX0_pileUp 51 = .ok (.ifCond .eq 7, 3) := by decide +kernel
theorem dX0_pileUp_54 : decode cX0_pileUp 54 = .ok (.iconst 0, 1) := by decide +kernel
theorem dX0_pileUp_55 : decode cX0_pileUp 55 = .ok (.goto 4, 3) := by decide +kernel
theorem dX0_pileUp_58 : decode cX0_pileUp 58 = .ok (.iload_n 3, 1) := by decide +kernel
theorem dX0_pileUp_59 : decode cX0_pileUp 59 = .ok (.istore_n 3, 1) := by decide +kernel
theorem dX0_pileUp_60 : decode cX0_pileUp 60 = .ok (.iinc 4 1, 3) := by decide +kernel
theorem dX0_pileUp_63 : decode cX0_pileUp 63 = .ok (.goto (-58), 3) := by decide +kernel
theorem dX0_pileUp_66 : decode cX0_pileUp 66 = .ok (.iload_n 3, 1) := by decide +kernel
theorem dX0_pileUp_67 : decode cX0_pileUp 67 = .ok (.ireturn, 1) := by decide +kernel
theorem dX0_isParted_0 : decode cX0_isParted 0 = .ok (.aload_n 0, 1) := by decide +kernel
theorem dX0_isParted_1 : decode cX0_isParted 1 = .ok (.aload_n 1, 1) := by decide +kernel
theorem dX0_isParted_2 : decode cX0_isParted 2 = .ok (.iload_n 2, 1) := by decide +kernel
theorem dX0_isParted_3 : decode cX0_isParted 3 = .ok (.invokevirtual 62, 3) := by decide +kernel
theorem dX0_isParted_6 : decode cX0_isParted 6 = .ok (.lstore_n 3, 1) := by decide +kernel
theorem dX0_isParted_7 : decode cX0_isParted 7 = .ok (.aload_n 1, 1) := by decide +kernel
theorem dX0_isParted_8 : decode cX0_isParted 8 = .ok (.getfield 34, 3) := by decide +kernel
theorem dX0_isParted_11 : decode cX0_isParted 11 = .ok (.istore 5, 2) := by decide +kernel
theorem dX0_isParted_13 : decode cX0_isParted 13 = .ok (.aload_n 0, 1) := by decide +kernel
theorem dX0_isParted_14 : decode cX0_isParted 14 = .ok (.aload_n 0, 1) := by decide +kernel
theorem dX0_isParted_15 : decode cX0_isParted 15 = .ok (.getfield 22, 3) := by decide +kernel
theorem dX0_isParted_18 : decode cX0_isParted 18 = .ok (.aload_n 1, 1) := by decide +kernel
theorem dX0_isParted_19 : decode cX0_isParted 19 = .ok (.getfield 28, 3) := by decide +kernel
theorem dX0_isParted_22 : decode cX0_isParted 22 = .ok (.aload_n 1, 1) := by decide +kernel
theorem dX0_isParted_23 : decode cX0_isParted 23 = .ok (.getfield 66, 3) := by decide +kernel
theorem dX0_isParted_26 : decode cX0_isParted 26 = .ok (.iload 5, 2) := by decide +kernel
theorem dX0_isParted_28 : decode cX0_isParted 28 = .ok (.ldc2_w 69, 3) := by decide +kernel
theorem dX0_isParted_31 : decode cX0_isParted 31 = .ok (.lload_n 3, 1) := by decide +kernel
theorem dX0_isParted_32 : decode cX0_isParted 32 = .ok (.lmul, 1) := by decide +kernel
theorem dX0_isParted_33 : decode cX0_isParted 33 = .ok (.iload_n 2, 1) := by decide +kernel
theorem dX0_isParted_34 : decode cX0_isParted 34 = .ok (.invokevirtual 71, 3) := by decide +kernel
theorem dX0_isParted_37 : decode cX0_isParted 37 = .ok (.ifCond .ne 26, 3) := by decide +kernel
theorem dX0_isParted_40 : decode cX0_isParted 40 = .ok (.aload_n 0, 1) := by decide +kernel
theorem dX0_isParted_41 : decode cX0_isParted 41 = .ok (.aload_n 0, 1) := by decide +kernel
theorem dX0_isParted_42 : decode cX0_isParted 42 = .ok (.getfield 25, 3) := by decide +kernel
theorem dX0_isParted_45 : decode cX0_isParted 45 = .ok (.aload_n 1, 1) := by decide +kernel
theorem dX0_isParted_46 : decode cX0_isParted 46 = .ok (.getfield 39, 3) := by decide +kernel
theorem dX0_isParted_49 : decode cX0_isParted 49 = .ok (.aload_n 1, 1) := by decide +kernel
theorem dX0_isParted_50 : decode cX0_isParted 50 = .ok (.getfield 75, 3) := by decide +kernel
theorem dX0_isParted_53 : decode cX0_isParted 53 = .ok (.iload 5, 2) := by decide +kernel
theorem dX0_isParted_55 : decode cX0_isParted 55 = .ok (.lload_n 3, 1) := by decide +kernel
theorem dX0_isParted_56 : decode cX0_isParted 56 = .ok (.iload_n 2, 1) := by decide +kernel
theorem dX0_isParted_57 : decode cX0_isParted 57 = .ok (.invokevirtual 71, 3) := by decide +kernel
theorem dX0_isParted_60 : decode cX0_isParted 60 = .ok (.ifCond .eq 7, 3) := by decide +kernel
theorem dX0_isParted_63 : decode cX0_isParted 63 = .ok (.iconst 1, 1) := by decide +kernel
theorem dX0_isParted_64 : decode cX0_isParted 64 = .ok (.goto 4, 3) := by decide +kernel
theorem dX0_isParted_67 : decode cX0_isParted 67 = .ok (.iconst 0, 1) := by decide +kernel
theorem dX0_isParted_68 : decode cX0_isParted 68 = .ok (.ireturn, 1) := by decide +kernel
theorem dX0_greatestSize_0 : decode cX0_greatestSize 0 = .ok (.lconst 0, 1) := by decide +kernel
theorem dX0_greatestSize_1 : decode cX0_greatestSize 1 = .ok (.lstore_n 3, 1) := by decide +kernel
theorem dX0_greatestSize_2 : decode cX0_greatestSize 2 = .ok (.iconst 0, 1) := by decide +kernel
theorem dX0_greatestSize_3 : decode cX0_greatestSize 3 = .ok (.istore 5, 2) := by decide +kernel
theorem dX0_greatestSize_5 : decode cX0_greatestSize 5 = .ok (.iload 5, 2) := by decide +kernel
theorem dX0_greatestSize_7 : decode cX0_greatestSize 7 = .ok (.aload_n 1, 1) := by decide +kernel
theorem dX0_greatestSize_8 : decode cX0_greatestSize 8 = .ok (.getfield 34, 3) := by decide +kernel
theorem dX0_greatestSize_11 : decode cX0_greatestSize 11 = .ok (.if_icmp .ge 33, 3) := by decide +kernel
theorem dX0_greatestSize_14 : decode cX0_greatestSize 14 = .ok (.aload_n 0, 1) := by decide +kernel
theorem dX0_greatestSize_15 : decode cX0_greatestSize 15 = .ok (.getfield 19, 3) := by decide +kernel
theorem dX0_greatestSize_18 : decode cX0_greatestSize 18 = .ok (.iload 5, 2) := by decide +kernel
theorem dX0_greatestSize_20 : decode cX0_greatestSize 20 = .ok (.iaload, 1) := by decide +kernel
theorem dX0_greatestSize_21 : decode cX0_greatestSize 21 = .ok (.iload_n 2, 1) := by decide +kernel
theorem dX0_greatestSize_22 : decode cX0_greatestSize 22 = .ok (.if_icmp .ne 16, 3) := by decide +kernel
theorem dX0_greatestSize_25 : decode cX0_greatestSize 25 = .ok (.lload_n 3, 1) := by decide +kernel
theorem dX0_greatestSize_26 : decode cX0_greatestSize 26 = .ok (.aload_n 1, 1) := by decide +kernel
theorem dX0_greatestSize_27 : decode cX0_greatestSize 27 = .ok (.getfield 78, 3) := by decide +kernel
theorem dX0_greatestSize_30 : decode cX0_greatestSize 30 = .ok (.iload 5, 2) := by decide +kernel
theorem dX0_greatestSize_32 : decode cX0_greatestSize 32 = .ok (.iaload, 1) := by decide +kernel
theorem dX0_greatestSize_33 : decode cX0_greatestSize 33 = .ok (.i2l, 1) := by decide +kernel
theorem dX0_greatestSize_34 : decode cX0_greatestSize 34 = .ok (.invokestatic 81, 3) := by decide +kernel
theorem dX0_greatestSize_37 : decode cX0_greatestSize 37 = .ok (.lstore_n 3, 1) := by decide +kernel
theorem dX0_greatestSize_38 : decode cX0_greatestSize 38 = .ok (.iinc 5 1, 3) := by decide +kernel
theorem dX0_greatestSize_41 : decode cX0_greatestSize 41 = .ok (.goto (-36), 3) := by decide +kernel
theorem dX0_greatestSize_44 : decode cX0_greatestSize 44 = .ok (.lload_n 3, 1) := by decide +kernel
theorem dX0_greatestSize_45 : decode cX0_greatestSize 45 = .ok (.lreturn, 1) := by decide +kernel
theorem dX0_isPartedAlong_0 : decode cX0_isPartedAlong 0 = .ok (.iconst (-1), 1) := by decide +kernel
theorem dX0_isPartedAlong_1 : decode cX0_isPartedAlong 1 = .ok (.istore 8, 2) := by decide +kernel
theorem dX0_isPartedAlong_3 : decode cX0_isPartedAlong 3 = .ok (.lload 5, 2) := by decide +kernel
theorem dX0_isPartedAlong_5 : decode cX0_isPartedAlong 5 = .ok (.lconst 1, 1) := by decide +kernel
theorem dX0_isPartedAlong_6 : decode cX0_isPartedAlong 6 = .ok (.lsub, 1) := by decide +kernel
theorem dX0_isPartedAlong_7 : decode cX0_isPartedAlong 7 = .ok (.lstore 9, 2) := by decide +kernel
theorem dX0_isPartedAlong_9 : decode cX0_isPartedAlong 9 = .ok (.lconst 0, 1) := by decide +kernel
theorem dX0_isPartedAlong_10 : decode cX0_isPartedAlong 10 = .ok (.lstore 11, 2) := by decide +kernel
theorem dX0_isPartedAlong_12 : decode cX0_isPartedAlong 12 = .ok (.iconst 1, 1) := by decide +kernel
theorem dX0_isPartedAlong_13 : decode cX0_isPartedAlong 13 = .ok (.istore 13, 2) := by decide +kernel
theorem dX0_isPartedAlong_15 : decode cX0_isPartedAlong 15 = .ok (.iconst 0, 1) := by decide +kernel
theorem dX0_isPartedAlong_16 : decode cX0_isPartedAlong 16 = .ok (.istore 14, 2) := by decide +kernel
theorem dX0_isPartedAlong_18 : decode cX0_isPartedAlong 18 = .ok (.iload 14, 2) := by decide +kernel
theorem dX0_isPartedAlong_20 : decode cX0_isPartedAlong 20 = .ok (.iload 4, 2) := by decide +kernel
theorem dX0_isPartedAlong_22 : decode cX0_isPartedAlong 22 = .ok (.if_icmp .ge 84, 3) := by decide +kernel
theorem dX0_isPartedAlong_25 : decode cX0_isPartedAlong 25 = .ok (.aload_n 1, 1) := by decide +kernel
theorem dX0_isPartedAlong_26 : decode cX0_isPartedAlong 26 = .ok (.iload 14, 2) := by decide +kernel
theorem dX0_isPartedAlong_28 : decode cX0_isPartedAlong 28 = .ok (.iaload, 1) := by decide +kernel
theorem dX0_isPartedAlong_29 : decode cX0_isPartedAlong 29 = .ok (.istore 15, 2) := by decide +kernel
theorem dX0_isPartedAlong_31 : decode cX0_isPartedAlong 31 = .ok (.aload_n 0, 1) := by decide +kernel
theorem dX0_isPartedAlong_32 : decode cX0_isPartedAlong 32 = .ok (.getfield 19, 3) := by decide +kernel
theorem dX0_isPartedAlong_35 : decode cX0_isPartedAlong 35 = .ok (.iload 15, 2) := by decide +kernel
theorem dX0_isPartedAlong_37 : decode cX0_isPartedAlong 37 = .ok (.iaload, 1) := by decide +kernel
theorem dX0_isPartedAlong_38 : decode cX0_isPartedAlong 38 = .ok (.iload 7, 2) := by decide +kernel
theorem dX0_isPartedAlong_40 : decode cX0_isPartedAlong 40 = .ok (.if_icmp .ne 60, 3) := by decide +kernel
theorem dX0_isPartedAlong_43 : decode cX0_isPartedAlong 43 = .ok (.iload 13, 2) := by decide +kernel
theorem dX0_isPartedAlong_45 : decode cX0_isPartedAlong 45 = .ok (.ifCond .ne 29, 3) := by decide +kernel
theorem dX0_isPartedAlong_48 : decode cX0_isPartedAlong 48 = .ok (.aload_n 2, 1) := by decide +kernel
theorem dX0_isPartedAlong_49 : decode cX0_isPartedAlong 49 = .ok (.iload 15, 2) := by decide +kernel
theorem dX0_isPartedAlong_51 : decode cX0_isPartedAlong 51 = .ok (.laload, 1) := by decide +kernel
theorem dX0_isPartedAlong_52 : decode cX0_isPartedAlong 52 = .ok (.lload 11, 2) := by decide +kernel
theorem dX0_isPartedAlong_54 : decode cX0_isPartedAlong 54 = .ok (.lsub, 1) := by decide +kernel
theorem dX0_isPartedAlong_55 : decode cX0_isPartedAlong 55 = .ok (.lload 9, 2) := by decide +kernel
theorem dX0_isPartedAlong_57 : decode cX0_isPartedAlong 57 = .ok (.lcmp, 1) := by decide +kernel
theorem dX0_isPartedAlong_58 : decode cX0_isPartedAlong 58 = .ok (.ifCond .le 16, 3) := by decide +kernel
theorem dX0_isPartedAlong_61 : decode cX0_isPartedAlong 61 = .ok (.aload_n 2, 1) := by decide +kernel
theorem dX0_isPartedAlong_62 : decode cX0_isPartedAlong 62 = .ok (.iload 15, 2) := by decide +kernel
theorem dX0_isPartedAlong_64 : decode cX0_isPartedAlong 64 = .ok (.laload, 1) := by decide +kernel
theorem dX0_isPartedAlong_65 : decode cX0_isPartedAlong 65 = .ok (.lload 11, 2) := by decide +kernel
theorem dX0_isPartedAlong_67 : decode cX0_isPartedAlong 67 = .ok (.lsub, 1) := by decide +kernel
theorem dX0_isPartedAlong_68 : decode cX0_isPartedAlong 68 = .ok (.lstore 9, 2) := by decide +kernel
theorem dX0_isPartedAlong_70 : decode cX0_isPartedAlong 70 = .ok (.iload 14, 2) := by decide +kernel
theorem dX0_isPartedAlong_72 : decode cX0_isPartedAlong 72 = .ok (.istore 8, 2) := by decide +kernel
theorem dX0_isPartedAlong_74 : decode cX0_isPartedAlong 74 = .ok (.iload 13, 2) := by decide +kernel
theorem dX0_isPartedAlong_76 : decode cX0_isPartedAlong 76 = .ok (.ifCond .eq 10, 3) := by decide +kernel
theorem dX0_isPartedAlong_79 : decode cX0_isPartedAlong 79 = .ok (.aload_n 3, 1) := by decide +kernel
theorem dX0_isPartedAlong_80 : decode cX0_isPartedAlong 80 = .ok (.iload 15, 2) := by decide +kernel
theorem dX0_isPartedAlong_82 : decode cX0_isPartedAlong 82 = .ok (.laload, 1) := by decide +kernel
theorem dX0_isPartedAlong_83 : decode cX0_isPartedAlong 83 = .ok (.goto 12, 3) := by decide +kernel
theorem dX0_isPartedAlong_86 : decode cX0_isPartedAlong 86 = .ok (.lload 11, 2) := by decide +kernel
theorem dX0_isPartedAlong_88 : decode cX0_isPartedAlong 88 = .ok (.aload_n 3, 1) := by decide +kernel
theorem dX0_isPartedAlong_89 : decode cX0_isPartedAlong 89 = .ok (.iload 15, 2) := by decide +kernel
theorem dX0_isPartedAlong_91 : decode cX0_isPartedAlong 91 = .ok (.laload, 1) := by decide +kernel
theorem dX0_isPartedAlong_92 : decode cX0_isPartedAlong 92 = .ok (.invokestatic 81, 3) := by decide +kernel
theorem dX0_isPartedAlong_95 : decode cX0_isPartedAlong 95 = .ok (.lstore 11, 2) := by decide +kernel
theorem dX0_isPartedAlong_97 : decode cX0_isPartedAlong 97 = .ok (.iconst 0, 1) := by decide +kernel
theorem dX0_isPartedAlong_98 : decode cX0_isPartedAlong 98 = .ok (.istore 13, 2) := by decide +kernel
theorem dX0_isPartedAlong_100 : decode cX0_isPartedAlong 100 = .ok (.iinc 14 1, 3) := by decide +kernel
theorem dX0_isPartedAlong_103 : decode cX0_isPartedAlong 103 = .ok (.goto (-85), 3) := by decide +kernel
theorem dX0_isPartedAlong_106 : decode cX0_isPartedAlong 106 = .ok (.aload_n 0, 1) := by decide +kernel
theorem dX0_isPartedAlong_107 : decode cX0_isPartedAlong 107 = .ok (.aload_n 1, 1) := by decide +kernel
theorem dX0_isPartedAlong_108 : decode cX0_isPartedAlong 108 = .ok (.iload 8, 2) := by decide +kernel
theorem dX0_isPartedAlong_110 : decode cX0_isPartedAlong 110 = .ok (.iload 7, 2) := by decide +kernel
theorem dX0_isPartedAlong_112 : decode cX0_isPartedAlong 112 = .ok (.invokevirtual 87, 3) := by decide +kernel
theorem dX0_isPartedAlong_115 : decode cX0_isPartedAlong 115 = .ok (.iload 8, 2) := by decide +kernel
theorem dX0_isPartedAlong_117 : decode cX0_isPartedAlong 117 = .ok (.ifCond .lt 7, 3) := by decide +kernel
theorem dX0_isPartedAlong_120 : decode cX0_isPartedAlong 120 = .ok (.iconst 1, 1) := by decide +kernel
theorem dX0_isPartedAlong_121 : decode cX0_isPartedAlong 121 = .ok (.goto 4, 3) := by decide +kernel
theorem dX0_isPartedAlong_124 : decode cX0_isPartedAlong 124 = .ok (.iconst 0, 1) := by decide +kernel
theorem dX0_isPartedAlong_125 : decode cX0_isPartedAlong 125 = .ok (.ireturn, 1) := by decide +kernel
theorem dX0_raise_0 : decode cX0_raise 0 = .ok (.iconst 0, 1) := by decide +kernel
theorem dX0_raise_1 : decode cX0_raise 1 = .ok (.istore 4, 2) := by decide +kernel
theorem dX0_raise_3 : decode cX0_raise 3 = .ok (.iload 4, 2) := by decide +kernel
theorem dX0_raise_5 : decode cX0_raise 5 = .ok (.iload_n 2, 1) := by decide +kernel
theorem dX0_raise_6 : decode cX0_raise 6 = .ok (.if_icmp .ge 34, 3) := by decide +kernel
theorem dX0_raise_9 : decode cX0_raise 9 = .ok (.aload_n 0, 1) := by decide +kernel
theorem dX0_raise_10 : decode cX0_raise 10 = .ok (.getfield 19, 3) := by decide +kernel
theorem dX0_raise_13 : decode cX0_raise 13 = .ok (.aload_n 1, 1) := by decide +kernel
theorem dX0_raise_14 : decode cX0_raise 14 = .ok (.iload 4, 2) := by decide +kernel
theorem dX0_raise_16 : decode cX0_raise 16 = .ok (.iaload, 1) := by decide +kernel
theorem dX0_raise_17 : decode cX0_raise 17 = .ok (.iaload, 1) := by decide +kernel
theorem dX0_raise_18 : decode cX0_raise 18 = .ok (.iload_n 3, 1) := by decide +kernel
theorem dX0_raise_19 : decode cX0_raise 19 = .ok (.if_icmp .ne 15, 3) := by decide +kernel
theorem dX0_raise_22 : decode cX0_raise 22 = .ok (.aload_n 0, 1) := by decide +kernel
theorem dX0_raise_23 : decode cX0_raise 23 = .ok (.getfield 19, 3) := by decide +kernel
theorem dX0_raise_26 : decode cX0_raise 26 = .ok (.aload_n 1, 1) := by decide +kernel
theorem dX0_raise_27 : decode cX0_raise 27 = .ok (.iload 4, 2) := by decide +kernel
theorem dX0_raise_29 : decode cX0_raise 29 = .ok (.iaload, 1) := by decide +kernel
theorem dX0_raise_30 : decode cX0_raise 30 = .ok (.iload_n 3, 1) := by decide +kernel
theorem dX0_raise_31 : decode cX0_raise 31 = .ok (.iconst 1, 1) := by decide +kernel
theorem dX0_raise_32 : decode cX0_raise 32 = .ok (.iadd, 1) := by decide +kernel
theorem dX0_raise_33 : decode cX0_raise 33 = .ok (.iastore, 1) := by decide +kernel
theorem dX0_raise_34 : decode cX0_raise 34 = .ok (.iinc 4 1, 3) := by decide +kernel
theorem dX0_raise_37 : decode cX0_raise 37 = .ok (.goto (-34), 3) := by decide +kernel
theorem dX0_raise_40 : decode cX0_raise 40 = .ok (.return_, 1) := by decide +kernel
theorem dX0_blockOfSign_0 : decode cX0_blockOfSign 0 = .ok (.aload_n 1, 1) := by decide +kernel
theorem dX0_blockOfSign_1 : decode cX0_blockOfSign 1 = .ok (.getfield 91, 3) := by decide +kernel
theorem dX0_blockOfSign_4 : decode cX0_blockOfSign 4 = .ok (.iload_n 2, 1) := by decide +kernel
theorem dX0_blockOfSign_5 : decode cX0_blockOfSign 5 = .ok (.iaload, 1) := by decide +kernel
theorem dX0_blockOfSign_6 : decode cX0_blockOfSign 6 = .ok (.istore_n 3, 1) := by decide +kernel
theorem dX0_blockOfSign_7 : decode cX0_blockOfSign 7 = .ok (.iload_n 3, 1) := by decide +kernel
theorem dX0_blockOfSign_8 : decode cX0_blockOfSign 8 = .ok (.ifCond .ge 7, 3) := by decide +kernel
theorem dX0_blockOfSign_11 : decode cX0_blockOfSign 11 = .ok (.iconst (-1), 1) := by decide +kernel
theorem dX0_blockOfSign_12 : decode cX0_blockOfSign 12 = .ok (.goto 9, 3) := by decide +kernel
theorem dX0_blockOfSign_15 : decode cX0_blockOfSign 15 = .ok (.aload_n 0, 1) := by decide +kernel
theorem dX0_blockOfSign_16 : decode cX0_blockOfSign 16 = .ok (.getfield 15, 3) := by decide +kernel
theorem dX0_blockOfSign_19 : decode cX0_blockOfSign 19 = .ok (.iload_n 3, 1) := by decide +kernel
theorem dX0_blockOfSign_20 : decode cX0_blockOfSign 20 = .ok (.iaload, 1) := by decide +kernel
theorem dX0_blockOfSign_21 : decode cX0_blockOfSign 21 = .ok (.ireturn, 1) := by decide +kernel
theorem dX0_areOfOne_0 : decode cX0_areOfOne 0 = .ok (.aload_n 0, 1) := by decide +kernel
theorem dX0_areOfOne_1 : decode cX0_areOfOne 1 = .ok (.aload_n 1, 1) := by decide +kernel
theorem dX0_areOfOne_2 : decode cX0_areOfOne 2 = .ok (.iload_n 2, 1) := by decide +kernel
theorem dX0_areOfOne_3 : decode cX0_areOfOne 3 = .ok (.invokevirtual 94, 3) := by decide +kernel
theorem dX0_areOfOne_6 : decode cX0_areOfOne 6 = .ok (.aload_n 0, 1) := by decide +kernel
theorem dX0_areOfOne_7 : decode cX0_areOfOne 7 = .ok (.aload_n 1, 1) := by decide +kernel
theorem dX0_areOfOne_8 : decode cX0_areOfOne 8 = .ok (.iload_n 3, 1) := by decide +kernel
theorem dX0_areOfOne_9 : decode cX0_areOfOne 9 = .ok (.invokevirtual 94, 3) := by decide +kernel
theorem dX0_areOfOne_12 : decode cX0_areOfOne 12 = .ok (.if_icmp .ne 7, 3) := by decide +kernel
theorem dX0_areOfOne_15 : decode cX0_areOfOne 15 = .ok (.iconst 1, 1) := by decide +kernel
theorem dX0_areOfOne_16 : decode cX0_areOfOne 16 = .ok (.goto 4, 3) := by decide +kernel
theorem dX0_areOfOne_19 : decode cX0_areOfOne 19 = .ok (.iconst 0, 1) := by decide +kernel
theorem dX0_areOfOne_20 : decode cX0_areOfOne 20 = .ok (.ireturn, 1) := by decide +kernel
theorem dX0_close_0 : decode cX0_close 0 = .ok (.iconst 0, 1) := by decide +kernel
theorem dX0_close_1 : decode cX0_close 1 = .ok (.istore_n 3, 1) := by decide +kernel
theorem dX0_close_2 : decode cX0_close 2 = .ok (.iload_n 3, 1) := by decide +kernel
theorem dX0_close_3 : decode cX0_close 3 = .ok (.aload_n 1, 1) := by decide +kernel
theorem dX0_close_4 : decode cX0_close 4 = .ok (.getfield 34, 3) := by decide +kernel
theorem dX0_close_7 : decode cX0_close 7 = .ok (.if_icmp .ge 36, 3) := by decide +kernel
theorem dX0_close_10 : decode cX0_close 10 = .ok (.aload_n 0, 1) := by decide +kernel
theorem dX0_close_11 : decode cX0_close 11 = .ok (.getfield 19, 3) := by decide +kernel
theorem dX0_close_14 : decode cX0_close 14 = .ok (.iload_n 3, 1) := by decide +kernel
theorem dX0_close_15 : decode cX0_close 15 = .ok (.iaload, 1) := by decide +kernel
theorem dX0_close_16 : decode cX0_close 16 = .ok (.iload_n 2, 1) := by decide +kernel
theorem dX0_close_17 : decode cX0_close 17 = .ok (.if_icmp .ne 20, 3) := by decide +kernel
theorem dX0_close_20 : decode cX0_close 20 = .ok (.aload_n 0, 1) := by decide +kernel
theorem dX0_close_21 : decode cX0_close 21 = .ok (.getfield 19, 3) := by decide +kernel
theorem dX0_close_24 : decode cX0_close 24 = .ok (.iload_n 3, 1) := by decide +kernel
theorem dX0_close_25 : decode cX0_close 25 = .ok (.iconst (-1), 1) := by decide +kernel
theorem dX0_close_26 : decode cX0_close 26 = .ok (.iastore, 1) := by decide +kernel
theorem dX0_close_27 : decode cX0_close 27 = .ok (.aload_n 0, 1) := by decide +kernel
theorem dX0_close_28 : decode cX0_close 28 = .ok (.getfield 15, 3) := by decide +kernel
theorem dX0_close_31 : decode cX0_close 31 = .ok (.iload_n 3, 1) := by decide +kernel
theorem dX0_close_32 : decode cX0_close 32 = .ok (.aload_n 0, 1) := by decide +kernel
theorem dX0_close_33 : decode cX0_close 33 = .ok (.getfield 9, 3) := by decide +kernel
theorem dX0_close_36 : decode cX0_close 36 = .ok (.iastore, 1) := by decide +kernel
theorem dX0_close_37 : decode cX0_close 37 = .ok (.iinc 3 1, 3) := by decide +kernel
theorem dX0_close_40 : decode cX0_close 40 = .ok (.goto (-38), 3) := by decide +kernel
theorem dX0_close_43 : decode cX0_close 43 = .ok (.aload_n 0, 1) := by decide +kernel
theorem dX0_close_44 : decode cX0_close 44 = .ok (.dup, 1) := by decide +kernel
theorem dX0_close_45 : decode cX0_close 45 = .ok (.getfield 9, 3) := by decide +kernel
theorem dX0_close_48 : decode cX0_close 48 = .ok (.iconst 1, 1) := by decide +kernel
theorem dX0_close_49 : decode cX0_close 49 = .ok (.iadd, 1) := by decide +kernel
theorem dX0_close_50 : decode cX0_close 50 = .ok (.putfield 9, 3) := by decide +kernel
theorem dX0_close_53 : decode cX0_close 53 = .ok (.return_, 1) := by decide +kernel
theorem dX1_init_0 : decode cX1_init 0 = .ok (.aload_n 0, 1) := by decide +kernel
theorem dX1_init_1 : decode cX1_init 1 = .ok (.invokespecial 3, 3) := by decide +kernel
theorem dX1_init_4 : decode cX1_init 4 = .ok (.aload_n 0, 1) := by decide +kernel
theorem dX1_init_5 : decode cX1_init 5 = .ok (.iconst 0, 1) := by decide +kernel
theorem dX1_init_6 : decode cX1_init 6 = .ok (.putfield 9, 3) := by decide +kernel
theorem dX1_init_9 : decode cX1_init 9 = .ok (.aload_n 0, 1) := by decide +kernel
theorem dX1_init_10 : decode cX1_init 10 = .ok (.iconst 0, 1) := by decide +kernel
theorem dX1_init_11 : decode cX1_init 11 = .ok (.putfield 15, 3) := by decide +kernel
theorem dX1_init_14 : decode cX1_init 14 = .ok (.aload_n 0, 1) := by decide +kernel
theorem dX1_init_15 : decode cX1_init 15 = .ok (.sipush 200, 3) := by decide +kernel
theorem dX1_init_18 : decode cX1_init 18 = .ok (.newarray .int, 2) := by decide +kernel
theorem dX1_init_20 : decode cX1_init 20 = .ok (.putfield 18, 3) := by decide +kernel
theorem dX1_init_23 : decode cX1_init 23 = .ok (.aload_n 0, 1) := by decide +kernel
theorem dX1_init_24 : decode cX1_init 24 = .ok (.sipush 200, 3) := by decide +kernel
theorem dX1_init_27 : decode cX1_init 27 = .ok (.newarray .int, 2) := by decide +kernel
theorem dX1_init_29 : decode cX1_init 29 = .ok (.putfield 22, 3) := by decide +kernel
theorem dX1_init_32 : decode cX1_init 32 = .ok (.aload_n 0, 1) := by decide +kernel
theorem dX1_init_33 : decode cX1_init 33 = .ok (.sipush 200, 3) := by decide +kernel
theorem dX1_init_36 : decode cX1_init 36 = .ok (.newarray .int, 2) := by decide +kernel
theorem dX1_init_38 : decode cX1_init 38 = .ok (.putfield 25, 3) := by decide +kernel
theorem dX1_init_41 : decode cX1_init 41 = .ok (.return_, 1) := by decide +kernel
theorem dX1_gather_0 : decode cX1_gather 0 = .ok (.aload_n 0, 1) := by decide +kernel
theorem dX1_gather_1 : decode cX1_gather 1 = .ok (.iconst 0, 1) := by decide +kernel
theorem dX1_gather_2 : decode cX1_gather 2 = .ok (.putfield 9, 3) := by decide +kernel
theorem dX1_gather_5 : decode cX1_gather 5 = .ok (.aload_n 0, 1) := by decide +kernel
theorem dX1_gather_6 : decode cX1_gather 6 = .ok (.iconst 0, 1) := by decide +kernel
theorem dX1_gather_7 : decode cX1_gather 7 = .ok (.putfield 15, 3) := by decide +kernel
theorem dX1_gather_10 : decode cX1_gather 10 = .ok (.iconst 0, 1) := by decide +kernel
theorem dX1_gather_11 : decode cX1_gather 11 = .ok (.istore_n 3, 1) := by decide +kernel
theorem dX1_gather_12 : decode cX1_gather 12 = .ok (.iload_n 3, 1) := by decide +kernel
theorem dX1_gather_13 : decode cX1_gather 13 = .ok (.aload_n 1, 1) := by decide +kernel
theorem dX1_gather_14 : decode cX1_gather 14 = .ok (.getfield 28, 3) := by decide +kernel
theorem dX1_gather_17 : decode cX1_gather 17 = .ok (.if_icmp .ge 16, 3) := by decide +kernel
theorem dX1_gather_20 : decode cX1_gather 20 = .ok (.aload_n 0, 1) := by decide +kernel
theorem dX1_gather_21 : decode cX1_gather 21 = .ok (.getfield 25, 3) := by decide +kernel
theorem dX1_gather_24 : decode cX1_gather 24 = .ok (.iload_n 3, 1) := by decide +kernel
theorem dX1_gather_25 : decode cX1_gather 25 = .ok (.iconst (-1), 1) := by decide +kernel
theorem dX1_gather_26 : decode cX1_gather 26 = .ok (.iastore, 1) := by decide +kernel
theorem dX1_gather_27 : decode cX1_gather 27 = .ok (.iinc 3 1, 3) := by decide +kernel
theorem dX1_gather_30 : decode cX1_gather 30 = .ok (.goto (-18), 3) := by decide +kernel
theorem dX1_gather_33 : decode cX1_gather 33 = .ok (.aload_n 0, 1) := by decide +kernel
theorem dX1_gather_34 : decode cX1_gather 34 = .ok (.aload_n 1, 1) := by decide +kernel
theorem dX1_gather_35 : decode cX1_gather 35 = .ok (.aload_n 2, 1) := by decide +kernel
theorem dX1_gather_36 : decode cX1_gather 36 = .ok (.iconst 0, 1) := by decide +kernel
theorem dX1_gather_37 : decode cX1_gather 37 = .ok (.invokevirtual 31, 3) := by decide +kernel
theorem dX1_gather_40 : decode cX1_gather 40 = .ok (.aload_n 0, 1) := by decide +kernel
theorem dX1_gather_41 : decode cX1_gather 41 = .ok (.aload_n 1, 1) := by decide +kernel
theorem dX1_gather_42 : decode cX1_gather 42 = .ok (.aload_n 2, 1) := by decide +kernel
theorem dX1_gather_43 : decode cX1_gather 43 = .ok (.iconst 1, 1) := by decide +kernel
theorem dX1_gather_44 : decode cX1_gather 44 = .ok (.invokevirtual 31, 3) := by decide +kernel
theorem dX1_gather_47 : decode cX1_gather 47 = .ok (.iconst 0, 1) := by decide +kernel
theorem dX1_gather_48 : decode cX1_gather 48 = .ok (.istore_n 3, 1) := by decide +kernel
theorem dX1_gather_49 : decode cX1_gather 49 = .ok (.iload_n 3, 1) := by decide +kernel
theorem dX1_gather_50 : decode cX1_gather 50 = .ok (.aload_n 0, 1) := by decide +kernel
theorem dX1_gather_51 : decode cX1_gather 51 = .ok (.getfield 15, 3) := by decide +kernel
theorem dX1_gather_54 : decode cX1_gather 54 = .ok (.if_icmp .ge 21, 3) := by decide +kernel
theorem dX1_gather_57 : decode cX1_gather 57 = .ok (.aload_n 0, 1) := by decide +kernel
theorem dX1_gather_58 : decode cX1_gather 58 = .ok (.getfield 22, 3) := by decide +kernel
theorem dX1_gather_61 : decode cX1_gather 61 = .ok (.aload_n 0, 1) := by decide +kernel
theorem dX1_gather_62 : decode cX1_gather 62 = .ok (.getfield 18, 3) := by decide +kernel
theorem dX1_gather_65 : decode cX1_gather 65 = .ok (.iload_n 3, 1) := by decide +kernel
theorem dX1_gather_66 : decode cX1_gather 66 = .ok (.iaload, 1) := by decide +kernel
theorem dX1_gather_67 : decode cX1_gather 67 = .ok (.iload_n 3, 1) := by decide +kernel
theorem dX1_gather_68 : decode cX1_gather 68 = .ok (.iastore, 1) := by decide +kernel
theorem dX1_gather_69 : decode cX1_gather 69 = .ok (.iinc 3 1, 3) := by decide +kernel
theorem dX1_gather_72 : decode cX1_gather 72 = .ok (.goto (-23), 3) := by decide +kernel
theorem dX1_gather_75 : decode cX1_gather 75 = .ok (.return_, 1) := by decide +kernel
theorem dX1_gatherKind_0 : decode cX1_gatherKind 0 = .ok (.iconst 0, 1) := by decide +kernel
theorem dX1_gatherKind_1 : decode cX1_gatherKind 1 = .ok (.istore 4, 2) := by decide +kernel
theorem dX1_gatherKind_3 : decode cX1_gatherKind 3 = .ok (.iload 4, 2) := by decide +kernel
theorem dX1_gatherKind_5 : decode cX1_gatherKind 5 = .ok (.aload_n 1, 1) := by decide +kernel
theorem dX1_gatherKind_6 : decode cX1_gatherKind 6 = .ok (.getfield 28, 3) := by decide +kernel
theorem dX1_gatherKind_9 : decode cX1_gatherKind 9 = .ok (.if_icmp .ge 32, 3) := by decide +kernel
theorem dX1_gatherKind_12 : decode cX1_gatherKind 12 = .ok (.aload_n 0, 1) := by decide +kernel
theorem dX1_gatherKind_13 : decode cX1_gatherKind 13 = .ok (.aload_n 1, 1) := by decide +kernel
theorem dX1_gatherKind_14 : decode cX1_gatherKind 14 = .ok (.aload_n 2, 1) := by decide +kernel
theorem dX1_gatherKind_15 : decode cX1_gatherKind 15 = .ok (.iload_n 3, 1) := by decide +kernel
theorem dX1_gatherKind_16 : decode cX1_gatherKind 16 = .ok (.invokevirtual 35, 3) := by decide +kernel
theorem dX1_gatherKind_19 : decode cX1_gatherKind 19 = .ok (.istore 5, 2) := by decide +kernel
theorem dX1_gatherKind_21 : decode cX1_gatherKind 21 = .ok (.iload 5, 2) := by decide +kernel
theorem dX1_gatherKind_23 : decode cX1_gatherKind 23 = .ok (.ifCond .ge 4, 3) := by decide +kernel
theorem dX1_gatherKind_26 : decode cX1_gatherKind 26 = .ok (.return_, 1) := by decide +kernel
theorem dX1_gatherKind_27 : decode cX1_gatherKind 27 = .ok (.aload_n 0, 1) := by decide +kernel
theorem dX1_gatherKind_28 : decode cX1_gatherKind 28 = .ok (.aload_n 1, 1) := by decide +kernel
theorem dX1_gatherKind_29 : decode cX1_gatherKind 29 = .ok (.aload_n 2, 1) := by decide +kernel
theorem dX1_gatherKind_30 : decode cX1_gatherKind 30 = .ok (.iload 5, 2) := by decide +kernel
theorem dX1_gatherKind_32 : decode cX1_gatherKind 32 = .ok (.invokevirtual 39, 3) := by decide +kernel
theorem dX1_gatherKind_35 : decode cX1_gatherKind 35 = .ok (.iinc 4 1, 3) := by decide +kernel
theorem dX1_gatherKind_38 : decode cX1_gatherKind 38 = .ok (.goto (-35), 3) := by decide +kernel
theorem dX1_gatherKind_41 : decode cX1_gatherKind 41 = .ok (.return_, 1) := by decide +kernel
theorem dX1_nextHead_0 : decode cX1_nextHead 0 = .ok (.iconst (-1), 1) := by decide +kernel
theorem dX1_nextHead_1 : decode cX1_nextHead 1 = .ok (.istore 4, 2) := by decide +kernel
theorem dX1_nextHead_3 : decode cX1_nextHead 3 = .ok (.iconst 0, 1) := by decide +kernel
theorem dX1_nextHead_4 : decode cX1_nextHead 4 = .ok (.istore 5, 2) := by decide +kernel
theorem dX1_nextHead_6 : decode cX1_nextHead 6 = .ok (.iload 5, 2) := by decide +kernel
theorem dX1_nextHead_8 : decode cX1_nextHead 8 = .ok (.aload_n 1, 1) := by decide +kernel
theorem dX1_nextHead_9 : decode cX1_nextHead 9 = .ok (.getfield 28, 3) := by decide +kernel
theorem dX1_nextHead_12 : decode cX1_nextHead 12 = .ok (.if_icmp .ge 51, 3) := by decide +kernel
theorem dX1_nextHead_15 : decode cX1_nextHead 15 = .ok (.aload_n 0, 1) := by decide +kernel
theorem dX1_nextHead_16 : decode cX1_nextHead 16 = .ok (.aload_n 2, 1) := by decide +kernel
theorem dX1_nextHead_17 : decode cX1_nextHead 17 = .ok (.iload 5, 2) := by decide +kernel
theorem dX1_nextHead_19 : decode cX1_nextHead 19 = .ok (.invokevirtual 43, 3) := by decide +kernel
theorem dX1_nextHead_22 : decode cX1_nextHead 22 = .ok (.ifCond .eq 35, 3) := by decide +kernel
theorem dX1_nextHead_25 : decode cX1_nextHead 25 = .ok (.aload_n 1, 1) := by decide +kernel
theorem dX1_nextHead_26 : decode cX1_nextHead 26 = .ok (.getfield 47, 3) := by decide +kernel
theorem dX1_nextHead_29 : decode cX1_nextHead 29 = .ok (.iload 5, 2) := by decide +kernel
theorem dX1_nextHead_31 : decode cX1_nextHead 31 = .ok (.baload, 1) := by decide +kernel
theorem dX1_nextHead_32 : decode cX1_nextHead 32 = .ok (.iload_n 3, 1) := by decide +kernel
theorem dX1_nextHead_33 : decode cX1_nextHead 33 = .ok (.if_icmp .ne 24, 3) := by decide +kernel
theorem dX1_nextHead_36 : decode cX1_nextHead 36 = .ok (.iload 4, 2) := by decide +kernel
theorem dX1_nextHead_38 : decode cX1_nextHead 38 = .ok (.ifCond .lt 15, 3) := by decide +kernel
theorem dX1_nextHead_41 : decode cX1_nextHead 41 = .ok (.aload_n 0, 1) := by decide +kernel
theorem dX1_nextHead_42 : decode cX1_nextHead 42 = .ok (.aload_n 2, 1) := by decide +kernel
theorem dX1_nextHead_43 : decode cX1_nextHead 43 = .ok (.iload 5, 2) := by decide +kernel
theorem dX1_nextHead_45 : decode cX1_nextHead 45 = .ok (.iload 4, 2) := by decide +kernel
theorem dX1_nextHead_47 : decode cX1_nextHead 47 = .ok (.invokevirtual 51, 3) := by decide +kernel
theorem dX1_nextHead_50 : decode cX1_nextHead 50 = .ok (.ifCond .eq 7, 3) := by decide +kernel
theorem dX1_nextHead_53 : decode cX1_nextHead 53 = .ok (.iload 5, 2) := by decide +kernel
theorem dX1_nextHead_55 : decode cX1_nextHead 55 = .ok (.istore 4, 2) := by decide +kernel
theorem dX1_nextHead_57 : decode cX1_nextHead 57 = .ok (.iinc 5 1, 3) := by decide +kernel
theorem dX1_nextHead_60 : decode cX1_nextHead 60 = .ok (.goto (-54), 3) := by decide +kernel
theorem dX1_nextHead_63 : decode cX1_nextHead 63 = .ok (.iload 4, 2) := by decide +kernel
theorem dX1_nextHead_65 : decode cX1_nextHead 65 = .ok (.ireturn, 1) := by decide +kernel
theorem dX1_isLeft_0 : decode cX1_isLeft 0 = .ok (.aload_n 1, 1) := by decide +kernel
theorem dX1_isLeft_1 : decode cX1_isLeft 1 = .ok (.getfield 55, 3) := by decide +kernel
theorem dX1_isLeft_4 : decode cX1_isLeft 4 = .ok (.iload_n 2, 1) := by decide +kernel
theorem dX1_isLeft_5 : decode cX1_isLeft 5 = .ok (.iaload, 1) := by decide +kernel
theorem dX1_isLeft_6 : decode cX1_isLeft 6 = .ok (.iconst (-1), 1) := by decide +kernel
theorem dX1_isLeft_7 : decode cX1_isLeft 7 = .ok (.if_icmp .ne 17, 3) := by decide +kernel
theorem dX1_isLeft_10 : decode cX1_isLeft 10 = .ok (.aload_n 0, 1) := by decide +kernel
theorem dX1_isLeft_11 : decode cX1_isLeft 11 = .ok (.getfield 25, 3) := by decide +kernel
theorem dX1_isLeft_14 : decode cX1_isLeft 14 = .ok (.iload_n 2, 1) := by decide +kernel
theorem dX1_isLeft_15 : decode cX1_isLeft 15 = .ok (.iaload, 1) := by decide +kernel
theorem dX1_isLeft_16 : decode cX1_isLeft 16 = .ok (.iconst (-1), 1) := by decide +kernel
theorem dX1_isLeft_17 : decode cX1_isLeft 17 = .ok (.if_icmp .ne 7, 3) := by decide +kernel
theorem dX1_isLeft_20 : decode cX1_isLeft 20 = .ok (.iconst 1, 1) := by decide +kernel
theorem dX1_isLeft_21 : decode cX1_isLeft 21 = .ok (.goto 4, 3) := by decide +kernel
theorem dX1_isLeft_24 : decode cX1_isLeft 24 = .ok (.iconst 0, 1) := by decide +kernel
theorem dX1_isLeft_25 : decode cX1_isLeft 25 = .ok (.ireturn, 1) := by decide +kernel
theorem dX1_leads_0 : decode cX1_leads 0 = .ok (.aload_n 1, 1) := by decide +kernel
theorem dX1_leads_1 : decode cX1_leads 1 = .ok (.getfield 60, 3) := by decide +kernel
theorem dX1_leads_4 : decode cX1_leads 4 = .ok (.iload_n 2, 1) := by decide +kernel
theorem dX1_leads_5 : decode cX1_leads 5 = .ok (.laload, 1) := by decide +kernel
theorem dX1_leads_6 : decode cX1_leads 6 = .ok (.aload_n 1, 1) := by decide +kernel
theorem dX1_leads_7 : decode cX1_leads 7 = .ok (.getfield 60, 3) := by decide +kernel
theorem dX1_leads_10 : decode cX1_leads 10 = .ok (.iload_n 3, 1) := by decide +kernel
theorem dX1_leads_11 : decode cX1_leads 11 = .ok (.laload, 1) := by decide +kernel
theorem dX1_leads_12 : decode cX1_leads 12 = .ok (.lcmp, 1) := by decide +kernel
theorem dX1_leads_13 : decode cX1_leads 13 = .ok (.ifCond .eq 25, 3) := by decide +kernel
theorem dX1_leads_16 : decode cX1_leads 16 = .ok (.aload_n 1, 1) := by decide +kernel
theorem dX1_leads_17 : decode cX1_leads 17 = .ok (.getfield 60, 3) := by decide +kernel
theorem dX1_leads_20 : decode cX1_leads 20 = .ok (.iload_n 2, 1) := by decide +kernel
theorem dX1_leads_21 : decode cX1_leads 21 = .ok (.laload, 1) := by decide +kernel
theorem dX1_leads_22 : decode cX1_leads 22 = .ok (.aload_n 1, 1) := by decide +kernel
theorem dX1_leads_23 : decode cX1_leads 23 = .ok (.getfield 60, 3) := by decide +kernel
theorem dX1_leads_26 : decode cX1_leads 26 = .ok (.iload_n 3, 1) := by decide +kernel
theorem dX1_leads_27 : decode cX1_leads 27 = .ok (.laload, 1) := by decide +kernel
theorem dX1_leads_28 : decode cX1_leads 28 = .ok (.lcmp, 1) := by decide +kernel
theorem dX1_leads_29 : decode cX1_leads 29 = .ok (.ifCond .le 7, 3) := by decide +kernel
theorem dX1_leads_32 : decode cX1_leads 32 = .ok (.iconst 1, 1) := by decide +kernel
theorem dX1_leads_33 : decode cX1_leads 33 = .ok (.goto 4, 3) := by decide +kernel
theorem dX1_leads_36 : decode cX1_leads 36 = .ok (.iconst 0, 1) := by decide +kernel
theorem dX1_leads_37 : decode cX1_leads 37 = .ok (.ireturn, 1) := by decide +kernel
theorem dX1_leads_38 : decode cX1_leads 38 = .ok (.aload_n 1, 1) := by decide +kernel
theorem dX1_leads_39 : decode cX1_leads 39 = .ok (.getfield 64, 3) := by decide +kernel
theorem dX1_leads_42 : decode cX1_leads 42 = .ok (.iload_n 2, 1) := by decide +kernel
theorem dX1_leads_43 : decode cX1_leads 43 = .ok (.laload, 1) := by decide +kernel
theorem dX1_leads_44 : decode cX1_leads 44 = .ok (.aload_n 1, 1) := by decide +kernel
theorem dX1_leads_45 : decode cX1_leads 45 = .ok (.getfield 64, 3) := by decide +kernel
theorem dX1_leads_48 : decode cX1_leads 48 = .ok (.iload_n 3, 1) := by decide +kernel
theorem dX1_leads_49 : decode cX1_leads 49 = .ok (.laload, 1) := by decide +kernel
theorem dX1_leads_50 : decode cX1_leads 50 = .ok (.lcmp, 1) := by decide +kernel
theorem dX1_leads_51 : decode cX1_leads 51 = .ok (.ifCond .ge 7, 3) := by decide +kernel
theorem dX1_leads_54 : decode cX1_leads 54 = .ok (.iconst 1, 1) := by decide +kernel
theorem dX1_leads_55 : decode cX1_leads 55 = .ok (.goto 4, 3) := by decide +kernel
theorem dX1_leads_58 : decode cX1_leads 58 = .ok (.iconst 0, 1) := by decide +kernel
theorem dX1_leads_59 : decode cX1_leads 59 = .ok (.ireturn, 1) := by decide +kernel
theorem dX1_gatherLine_0 : decode cX1_gatherLine 0 = .ok (.aload_n 0, 1) := by decide +kernel
theorem dX1_gatherLine_1 : decode cX1_gatherLine 1 = .ok (.getfield 15, 3) := by decide +kernel
theorem dX1_gatherLine_4 : decode cX1_gatherLine 4 = .ok (.istore 4, 2) := by decide +kernel
theorem dX1_gatherLine_6 : decode cX1_gatherLine 6 = .ok (.iconst 0, 1) := by decide +kernel
theorem dX1_gatherLine_7 : decode cX1_gatherLine 7 = .ok (.istore 5, 2) := by decide +kernel
theorem dX1_gatherLine_9 : decode cX1_gatherLine 9 = .ok (.iload 5, 2) := by decide +kernel
theorem dX1_gatherLine_11 : decode cX1_gatherLine 11 = .ok (.aload_n 1, 1) := by decide +kernel
theorem dX1_gatherLine_12 : decode cX1_gatherLine 12 = .ok (.getfield 28, 3) := by decide +kernel
theorem dX1_gatherLine_15 : decode cX1_gatherLine 15 = .ok (.if_icmp .ge 84, 3) := by decide +kernel
theorem dX1_gatherLine_18 : decode cX1_gatherLine 18 = .ok (.aload_n 0, 1) := by decide +kernel
theorem dX1_gatherLine_19 : decode cX1_gatherLine 19 = .ok (.aload_n 2, 1) := by decide +kernel
theorem dX1_gatherLine_20 : decode cX1_gatherLine 20 = .ok (.iload 5, 2) := by decide +kernel
theorem dX1_gatherLine_22 : decode cX1_gatherLine 22 = .ok (.invokevirtual 43, 3) := by decide +kernel
theorem dX1_gatherLine_25 : decode cX1_gatherLine 25 = .ok (.ifCond .eq 68, 3) := by decide +kernel
theorem dX1_gatherLine_28 : decode cX1_gatherLine 28 = .ok (.aload_n 1, 1) := by decide +kernel
theorem dX1_gatherLine_29 : decode cX1_gatherLine 29 = .ok (.getfield 47, 3) := by decide +kernel
theorem dX1_gatherLine_32 : decode cX1_gatherLine 32 = .ok (.iload 5, 2) := by decide +kernel
theorem dX1_gatherLine_34 : decode cX1_gatherLine 34 = .ok (.baload, 1) := by decide +kernel
theorem dX1_gatherLine_35 : decode cX1_gatherLine 35 = .ok (.aload_n 1, 1) := by decide +kernel
theorem dX1_gatherLine_36 : decode cX1_gatherLine 36 = .ok (.getfield 47, 3) := by decide +kernel
theorem dX1_gatherLine_39 : decode cX1_gatherLine 39 = .ok (.iload_n 3, 1) := by decide +kernel
theorem dX1_gatherLine_40 : decode cX1_gatherLine 40 = .ok (.baload, 1) := by decide +kernel
theorem dX1_gatherLine_41 : decode cX1_gatherLine 41 = .ok (.if_icmp .ne 52, 3) := by decide +kernel
theorem dX1_gatherLine_44 : decode cX1_gatherLine 44 = .ok (.ldc2_w 67, 3) := by decide +kernel
theorem dX1_gatherLine_47 : decode cX1_gatherLine 47 = .ok (.aload_n 2, 1) := by decide +kernel
theorem dX1_gatherLine_48 : decode cX1_gatherLine 48 = .ok (.getfield 60, 3) := by decide +kernel
theorem dX1_gatherLine_51 : decode cX1_gatherLine 51 = .ok (.iload_n 3, 1) := by decide +kernel
theorem dX1_gatherLine_52 : decode cX1_gatherLine 52 = .ok (.laload, 1) := by decide +kernel
theorem dX1_gatherLine_53 : decode cX1_gatherLine 53 = .ok (.aload_n 2, 1) := by decide +kernel
theorem dX1_gatherLine_54 : decode cX1_gatherLine 54 = .ok (.getfield 60, 3) := by decide +kernel
theorem dX1_gatherLine_57 : decode cX1_gatherLine 57 = .ok (.iload 5, 2) := by decide +kernel
theorem dX1_gatherLine_59 : decode cX1_gatherLine 59 = .ok (.laload, 1) := by decide +kernel
theorem dX1_gatherLine_60 : decode cX1_gatherLine 60 = .ok (.lsub, 1) := by decide +kernel
theorem dX1_gatherLine_61 : decode cX1_gatherLine 61 = .ok (.lmul, 1) := by decide +kernel
theorem dX1_gatherLine_62 : decode cX1_gatherLine 62 = .ok (.aload_n 1, 1) := by decide +kernel
theorem dX1_gatherLine_63 : decode cX1_gatherLine 63 = .ok (.getfield 69, 3) := by decide +kernel
theorem dX1_gatherLine_66 : decode cX1_gatherLine 66 = .ok (.iload_n 3, 1) := by decide +kernel
theorem dX1_gatherLine_67 : decode cX1_gatherLine 67 = .ok (.iaload, 1) := by decide +kernel
theorem dX1_gatherLine_68 : decode cX1_gatherLine 68 = .ok (.i2l, 1) := by decide +kernel
theorem dX1_gatherLine_69 : decode cX1_gatherLine 69 = .ok (.lcmp, 1) := by decide +kernel
theorem dX1_gatherLine_70 : decode cX1_gatherLine 70 = .ok (.ifCond .gt 23, 3) := by decide +kernel
theorem dX1_gatherLine_73 : decode cX1_gatherLine 73 = .ok (.aload_n 0, 1) := by decide +kernel
theorem dX1_gatherLine_74 : decode cX1_gatherLine 74 = .ok (.getfield 25, 3) := by decide +kernel
theorem dX1_gatherLine_77 : decode cX1_gatherLine 77 = .ok (.iload 5, 2) := by decide +kernel
theorem dX1_gatherLine_79 : decode cX1_gatherLine 79 = .ok (.aload_n 0, 1) := by decide +kernel
theorem dX1_gatherLine_80 : decode cX1_gatherLine 80 = .ok (.getfield 9, 3) := by decide +kernel
theorem dX1_gatherLine_83 : decode cX1_gatherLine 83 = .ok (.iastore, 1) := by decide +kernel
theorem dX1_gatherLine_84 : decode cX1_gatherLine 84 = .ok (.aload_n 0, 1) := by decide +kernel
theorem dX1_gatherLine_85 : decode cX1_gatherLine 85 = .ok (.aload_n 2, 1) := by decide +kernel
theorem dX1_gatherLine_86 : decode cX1_gatherLine 86 = .ok (.iload 4, 2) := by decide +kernel
theorem dX1_gatherLine_88 : decode cX1_gatherLine 88 = .ok (.iload 5, 2) := by decide +kernel
theorem dX1_gatherLine_90 : decode cX1_gatherLine 90 = .ok (.invokevirtual 72, 3) := by decide +kernel
theorem dX1_gatherLine_93 : decode cX1_gatherLine 93 = .ok (.iinc 5 1, 3) := by decide +kernel
theorem dX1_gatherLine_96 : decode cX1_gatherLine 96 = .ok (.goto (-87), 3) := by decide +kernel
theorem dX1_gatherLine_99 : decode cX1_gatherLine 99 = .ok (.aload_n 0, 1) := by decide +kernel
theorem dX1_gatherLine_100 : decode cX1_gatherLine 100 = .ok (.dup, 1) := by decide +kernel
theorem dX1_gatherLine_101 : decode cX1_gatherLine 101 = .ok (.getfield 9, 3) := by decide +kernel
theorem dX1_gatherLine_104 : decode cX1_gatherLine 104 = .ok (.iconst 1, 1) := by decide +kernel
theorem dX1_gatherLine_105 : decode cX1_gatherLine 105 = .ok (.iadd, 1) := by decide +kernel
theorem dX1_gatherLine_106 : decode cX1_gatherLine 106 = .ok (.putfield 9, 3) := by decide +kernel
theorem dX1_gatherLine_109 : decode cX1_gatherLine 109 = .ok (.return_, 1) := by decide +kernel
theorem dX1_insert_0 : decode cX1_insert 0 = .ok (.aload_n 0, 1) := by decide +kernel
theorem dX1_insert_1 : decode cX1_insert 1 = .ok (.getfield 15, 3) := by decide +kernel
theorem dX1_insert_4 : decode cX1_insert 4 = .ok (.sipush 200, 3) := by decide +kernel
theorem dX1_insert_7 : decode cX1_insert 7 = .ok (.if_icmp .lt 4, 3) := by decide +kernel
theorem dX1_insert_10 : decode cX1_insert 10 = .ok (.return_, 1) := by decide +kernel
theorem dX1_insert_11 : decode cX1_insert 11 = .ok (.aload_n 0, 1) := by decide +kernel
theorem dX1_insert_12 : decode cX1_insert 12 = .ok (.getfield 15, 3) := by decide +kernel
theorem dX1_insert_15 : decode cX1_insert 15 = .ok (.istore 4, 2) := by decide +kernel
theorem dX1_insert_17 : decode cX1_insert 17 = .ok (.iload 4, 2) := by decide +kernel
theorem dX1_insert_19 : decode cX1_insert 19 = .ok (.iload_n 2, 1) := by decide +kernel
theorem dX1_insert_20 : decode cX1_insert 20 = .ok (.if_icmp .le 49, 3) := by decide +kernel
theorem dX1_insert_23 : decode cX1_insert 23 = .ok (.aload_n 1, 1) := by decide +kernel
theorem dX1_insert_24 : decode cX1_insert 24 = .ok (.getfield 64, 3) := by decide +kernel
theorem dX1_insert_27 : decode cX1_insert 27 = .ok (.aload_n 0, 1) := by decide +kernel
theorem dX1_insert_28 : decode cX1_insert 28 = .ok (.getfield 18, 3) := by decide +kernel
theorem dX1_insert_31 : decode cX1_insert 31 = .ok (.iload 4, 2) := by decide +kernel
theorem dX1_insert_33 : decode cX1_insert 33 = .ok (.iconst 1, 1) := by decide +kernel
theorem dX1_insert_34 : decode cX1_insert 34 = .ok (.isub, 1) := by decide +kernel
theorem dX1_insert_35 : decode cX1_insert 35 = .ok (.iaload, 1) := by decide +kernel
theorem dX1_insert_36 : decode cX1_insert 36 = .ok (.laload, 1) := by decide +kernel
theorem dX1_insert_37 : decode cX1_insert 37 = .ok (.aload_n 1, 1) := by decide +kernel
theorem dX1_insert_38 : decode cX1_insert 38 = .ok (.getfield 64, 3) := by decide +kernel
theorem dX1_insert_41 : decode cX1_insert 41 = .ok (.iload_n 3, 1) := by decide +kernel
theorem dX1_insert_42 : decode cX1_insert 42 = .ok (.laload, 1) := by decide +kernel
theorem dX1_insert_43 : decode cX1_insert 43 = .ok (.lcmp, 1) := by decide +kernel
theorem dX1_insert_44 : decode cX1_insert 44 = .ok (.ifCond .le 25, 3) := by decide +kernel
theorem dX1_insert_47 : decode cX1_insert 47 = .ok (.aload_n 0, 1) := by decide +kernel
theorem dX1_insert_48 : decode cX1_insert 48 = .ok (.getfield 18, 3) := by decide +kernel
theorem dX1_insert_51 : decode cX1_insert 51 = .ok (.iload 4, 2) := by decide +kernel
theorem dX1_insert_53 : decode cX1_insert 53 = .ok (.aload_n 0, 1) := by decide +kernel
theorem dX1_insert_54 : decode cX1_insert 54 = .ok (.getfield 18, 3) := by decide +kernel
theorem dX1_insert_57 : decode cX1_insert 57 = .ok (.iload 4, 2) := by decide +kernel
theorem dX1_insert_59 : decode cX1_insert 59 = .ok (.iconst 1, 1) := by decide +kernel
theorem dX1_insert_60 : decode cX1_insert 60 = .ok (.isub, 1) := by decide +kernel
theorem dX1_insert_61 : decode cX1_insert 61 = .ok (.iaload, 1) := by decide +kernel
theorem dX1_insert_62 : decode cX1_insert 62 = .ok (.iastore, 1) := by decide +kernel
theorem dX1_insert_63 : decode cX1_insert 63 = .ok (.iinc 4 (-1), 3) := by decide +kernel
theorem dX1_insert_66 : decode cX1_insert 66 = .ok (.goto (-49), 3) := by decide +kernel
theorem dX1_insert_69 : decode cX1_insert 69 = .ok (.aload_n 0, 1) := by decide +kernel
theorem dX1_insert_70 : decode cX1_insert 70 = .ok (.getfield 18, 3) := by decide +kernel
theorem dX1_insert_73 : decode cX1_insert 73 = .ok (.iload 4, 2) := by decide +kernel
theorem dX1_insert_75 : decode cX1_insert 75 = .ok (.iload_n 3, 1) := by decide +kernel
theorem dX1_insert_76 : decode cX1_insert 76 = .ok (.iastore, 1) := by decide +kernel
theorem dX1_insert_77 : decode cX1_insert 77 = .ok (.aload_n 0, 1) := by decide +kernel
theorem dX1_insert_78 : decode cX1_insert 78 = .ok (.dup, 1) := by decide +kernel
theorem dX1_insert_79 : decode cX1_insert 79 = .ok (.getfield 15, 3) := by decide +kernel
theorem dX1_insert_82 : decode cX1_insert 82 = .ok (.iconst 1, 1) := by decide +kernel
theorem dX1_insert_83 : decode cX1_insert 83 = .ok (.iadd, 1) := by decide +kernel
theorem dX1_insert_84 : decode cX1_insert 84 = .ok (.putfield 15, 3) := by decide +kernel
theorem dX1_insert_87 : decode cX1_insert 87 = .ok (.return_, 1) := by decide +kernel
theorem dX2_init_0 : decode cX2_init 0 = .ok (.aload_n 0, 1) := by decide +kernel
theorem dX2_init_1 : decode cX2_init 1 = .ok (.invokespecial 3, 3) := by decide +kernel
theorem dX2_init_4 : decode cX2_init 4 = .ok (.aload_n 0, 1) := by decide +kernel
theorem dX2_init_5 : decode cX2_init 5 = .ok (.sipush 1024, 3) := by decide +kernel
theorem dX2_init_8 : decode cX2_init 8 = .ok (.newarray .int, 2) := by decide +kernel
theorem dX2_init_10 : decode cX2_init 10 = .ok (.putfield 9, 3) := by decide +kernel
theorem dX2_init_13 : decode cX2_init 13 = .ok (.aload_n 0, 1) := by decide +kernel
theorem dX2_init_14 : decode cX2_init 14 = .ok (.sipush 1024, 3) := by decide +kernel
theorem dX2_init_17 : decode cX2_init 17 = .ok (.newarray .int, 2) := by decide +kernel
theorem dX2_init_19 : decode cX2_init 19 = .ok (.putfield 15, 3) := by decide +kernel
theorem dX2_init_22 : decode cX2_init 22 = .ok (.return_, 1) := by decide +kernel
theorem dX2_told_0 : decode cX2_told 0 = .ok (.iload_n 1, 1) := by decide +kernel
theorem dX2_told_1 : decode cX2_told 1 = .ok (.sipush 256, 3) := by decide +kernel
theorem dX2_told_4 : decode cX2_told 4 = .ok (.imul, 1) := by decide +kernel
theorem dX2_told_5 : decode cX2_told 5 = .ok (.iload_n 2, 1) := by decide +kernel
theorem dX2_told_6 : decode cX2_told 6 = .ok (.iadd, 1) := by decide +kernel
theorem dX2_told_7 : decode cX2_told 7 = .ok (.istore_n 3, 1) := by decide +kernel
theorem dX2_told_8 : decode cX2_told 8 = .ok (.aload_n 0, 1) := by decide +kernel
theorem dX2_told_9 : decode cX2_told 9 = .ok (.getfield 9, 3) := by decide +kernel
theorem dX2_told_12 : decode cX2_told 12 = .ok (.iload_n 3, 1) := by decide +kernel
theorem dX2_told_13 : decode cX2_told 13 = .ok (.iaload, 1) := by decide +kernel
theorem dX2_told_14 : decode cX2_told 14 = .ok (.ifCond .ne 5, 3) := by decide +kernel
theorem dX2_told_17 : decode cX2_told 17 = .ok (.iconst 0, 1) := by decide +kernel
theorem dX2_told_18 : decode cX2_told 18 = .ok (.ireturn, 1) := by decide +kernel
theorem dX2_told_19 : decode cX2_told 19 = .ok (.aload_n 0, 1) := by decide +kernel
theorem dX2_told_20 : decode cX2_told 20 = .ok (.getfield 15, 3) := by decide +kernel
theorem dX2_told_23 : decode cX2_told 23 = .ok (.iload_n 3, 1) := by decide +kernel
theorem dX2_told_24 : decode cX2_told 24 = .ok (.iaload, 1) := by decide +kernel
theorem dX2_told_25 : decode cX2_told 25 = .ok (.ifCond .ne 7, 3) := by decide +kernel
theorem dX2_told_28 : decode cX2_told 28 = .ok (.iconst 1, 1) := by decide +kernel
theorem dX2_told_29 : decode cX2_told 29 = .ok (.goto 4, 3) := by decide +kernel
theorem dX2_told_32 : decode cX2_told 32 = .ok (.iconst 2, 1) := by decide +kernel
theorem dX2_told_33 : decode cX2_told 33 = .ok (.ireturn, 1) := by decide +kernel
theorem dX2_tell_0 : decode cX2_tell 0 = .ok (.iload_n 1, 1) := by decide +kernel
theorem dX2_tell_1 : decode cX2_tell 1 = .ok (.sipush 256, 3) := by decide +kernel
theorem dX2_tell_4 : decode cX2_tell 4 = .ok (.imul, 1) := by decide +kernel
theorem dX2_tell_5 : decode cX2_tell 5 = .ok (.iload_n 2, 1) := by decide +kernel
theorem dX2_tell_6 : decode cX2_tell 6 = .ok (.iadd, 1) := by decide +kernel
theorem dX2_tell_7 : decode cX2_tell 7 = .ok (.istore 5, 2) := by decide +kernel
theorem dX2_tell_9 : decode cX2_tell 9 = .ok (.aload_n 0, 1) := by decide +kernel
theorem dX2_tell_10 : decode cX2_tell 10 = .ok (.getfield 9, 3) := by decide +kernel
theorem dX2_tell_13 : decode cX2_tell 13 = .ok (.iload 5, 2) := by decide +kernel
theorem dX2_tell_15 : decode cX2_tell 15 = .ok (.iload_n 3, 1) := by decide +kernel
theorem dX2_tell_16 : decode cX2_tell 16 = .ok (.iastore, 1) := by decide +kernel
theorem dX2_tell_17 : decode cX2_tell 17 = .ok (.aload_n 0, 1) := by decide +kernel
theorem dX2_tell_18 : decode cX2_tell 18 = .ok (.getfield 15, 3) := by decide +kernel
theorem dX2_tell_21 : decode cX2_tell 21 = .ok (.iload 5, 2) := by decide +kernel
theorem dX2_tell_23 : decode cX2_tell 23 = .ok (.iload 4, 2) := by decide +kernel
theorem dX2_tell_25 : decode cX2_tell 25 = .ok (.iastore, 1) := by decide +kernel
theorem dX2_tell_26 : decode cX2_tell 26 = .ok (.return_, 1) := by decide +kernel
theorem dX2_kindThatTells_0 : decode cX2_kindThatTells 0 = .ok (.iconst 0, 1) := by decide +kernel
theorem dX2_kindThatTells_1 : decode cX2_kindThatTells 1 = .ok (.istore_n 2, 1) := by decide +kernel
theorem dX2_kindThatTells_2 : decode cX2_kindThatTells 2 = .ok (.iload_n 2, 1) := by decide +kernel
theorem dX2_kindThatTells_3 : decode cX2_kindThatTells 3 = .ok (.iconst 4, 1) := by decide +kernel
theorem dX2_kindThatTells_4 : decode cX2_kindThatTells 4 = .ok (.if_icmp .ge 26, 3) := by decide +kernel
theorem dX2_kindThatTells_7 : decode cX2_kindThatTells 7 = .ok (.aload_n 0, 1) := by decide +kernel
theorem dX2_kindThatTells_8 : decode cX2_kindThatTells 8 = .ok (.getfield 9, 3) := by decide +kernel
theorem dX2_kindThatTells_11 : decode cX2_kindThatTells 11 = .ok (.iload_n 2, 1) := by decide +kernel
theorem dX2_kindThatTells_12 : decode cX2_kindThatTells 12 = .ok (.sipush 256, 3) := by decide +kernel
theorem dX2_kindThatTells_15 : decode cX2_kindThatTells 15 = .ok (.imul, 1) := by decide +kernel
theorem dX2_kindThatTells_16 : decode cX2_kindThatTells 16 = .ok (.iload_n 1, 1) := by decide +kernel
theorem dX2_kindThatTells_17 : decode cX2_kindThatTells 17 = .ok (.iadd, 1) := by decide +kernel
theorem dX2_kindThatTells_18 : decode cX2_kindThatTells 18 = .ok (.iaload, 1) := by decide +kernel
theorem dX2_kindThatTells_19 : decode cX2_kindThatTells 19 = .ok (.ifCond .eq 5, 3) := by decide +kernel
theorem dX2_kindThatTells_22 : decode cX2_kindThatTells 22 = .ok (.iload_n 2, 1) := by decide +kernel
theorem dX2_kindThatTells_23 : decode cX2_kindThatTells 23 = .ok (.ireturn, 1) := by decide +kernel
theorem dX2_kindThatTells_24 : decode cX2_kindThatTells 24 = .ok (.iinc 2 1, 3) := by decide +kernel
theorem dX2_kindThatTells_27 : decode cX2_kindThatTells 27 = .ok (.goto (-25), 3) := by decide +kernel
theorem dX2_kindThatTells_30 : decode cX2_kindThatTells 30 = .ok (.iconst (-1), 1) := by decide +kernel
theorem dX2_kindThatTells_31 : decode cX2_kindThatTells 31 = .ok (.ireturn, 1) := by decide +kernel
theorem dX3_init_0 : decode cX3_init 0 = .ok (.aload_n 0, 1) := by decide +kernel
theorem dX3_init_1 : decode cX3_init 1 = .ok (.invokespecial 3, 3) := by decide +kernel
theorem dX3_init_4 : decode cX3_init 4 = .ok (.aload_n 0, 1) := by decide +kernel
theorem dX3_init_5 : decode cX3_init 5 = .ok (.sipush 200, 3) := by decide +kernel
theorem dX3_init_8 : decode cX3_init 8 = .ok (.newarray .long, 2) := by decide +kernel
theorem dX3_init_10 : decode cX3_init 10 = .ok (.putfield 9, 3) := by decide +kernel
theorem dX3_init_13 : decode cX3_init 13 = .ok (.aload_n 0, 1) := by decide +kernel
theorem dX3_init_14 : decode cX3_init 14 = .ok (.sipush 200, 3) := by decide +kernel
theorem dX3_init_17 : decode cX3_init 17 = .ok (.newarray .long, 2) := by decide +kernel
theorem dX3_init_19 : decode cX3_init 19 = .ok (.putfield 15, 3) := by decide +kernel
theorem dX3_init_22 : decode cX3_init 22 = .ok (.aload_n 0, 1) := by decide +kernel
theorem dX3_init_23 : decode cX3_init 23 = .ok (.sipush 200, 3) := by decide +kernel
theorem dX3_init_26 : decode cX3_init 26 = .ok (.newarray .int, 2) := by decide +kernel
theorem dX3_init_28 : decode cX3_init 28 = .ok (.putfield 18, 3) := by decide +kernel
theorem dX3_init_31 : decode cX3_init 31 = .ok (.aload_n 0, 1) := by decide +kernel
theorem dX3_init_32 : decode cX3_init 32 = .ok (.sipush 200, 3) := by decide +kernel
theorem dX3_init_35 : decode cX3_init 35 = .ok (.newarray .int, 2) := by decide +kernel
theorem dX3_init_37 : decode cX3_init 37 = .ok (.putfield 22, 3) := by decide +kernel
theorem dX3_init_40 : decode cX3_init 40 = .ok (.aload_n 0, 1) := by decide +kernel
theorem dX3_init_41 : decode cX3_init 41 = .ok (.sipush 200, 3) := by decide +kernel
theorem dX3_init_44 : decode cX3_init 44 = .ok (.newarray .int, 2) := by decide +kernel
theorem dX3_init_46 : decode cX3_init 46 = .ok (.putfield 25, 3) := by decide +kernel
theorem dX3_init_49 : decode cX3_init 49 = .ok (.return_, 1) := by decide +kernel
theorem dX3_settle_0 : decode cX3_settle 0 = .ok (.iconst 0, 1) := by decide +kernel
theorem dX3_settle_1 : decode cX3_settle 1 = .ok (.istore_n 3, 1) := by decide +kernel
theorem dX3_settle_2 : decode cX3_settle 2 = .ok (.iload_n 3, 1) := by decide +kernel
theorem dX3_settle_3 : decode cX3_settle 3 = .ok (.aload_n 1, 1) := by decide +kernel
theorem dX3_settle_4 : decode cX3_settle 4 = .ok (.getfield 28, 3) := by decide +kernel
theorem dX3_settle_7 : decode cX3_settle 7 = .ok (.if_icmp .ge 94, 3) := by decide +kernel
theorem dX3_settle_10 : decode cX3_settle 10 = .ok (.aload_n 0, 1) := by decide +kernel
theorem dX3_settle_11 : decode cX3_settle 11 = .ok (.getfield 9, 3) := by decide +kernel
theorem dX3_settle_14 : decode cX3_settle 14 = .ok (.iload_n 3, 1) := by decide +kernel
theorem dX3_settle_15 : decode cX3_settle 15 = .ok (.aload_n 1, 1) := by decide +kernel
theorem dX3_settle_16 : decode cX3_settle 16 = .ok (.getfield 34, 3) := by decide +kernel
theorem dX3_settle_19 : decode cX3_settle 19 = .ok (.iload_n 3, 1) := by decide +kernel
theorem dX3_settle_20 : decode cX3_settle 20 = .ok (.baload, 1) := by decide +kernel
theorem dX3_settle_21 : decode cX3_settle 21 = .ok (.ifCond .eq 12, 3) := by decide +kernel
theorem dX3_settle_24 : decode cX3_settle 24 = .ok (.aload_n 1, 1) := by decide +kernel
theorem dX3_settle_25 : decode cX3_settle 25 = .ok (.getfield 38, 3) := by decide +kernel
theorem dX3_settle_28 : decode cX3_settle 28 = .ok (.iload_n 3, 1) := by decide +kernel
theorem dX3_settle_29 : decode cX3_settle 29 = .ok (.laload, 1) := by decide +kernel
theorem dX3_settle_30 : decode cX3_settle 30 = .ok (.goto 9, 3) := by decide +kernel
theorem dX3_settle_33 : decode cX3_settle 33 = .ok (.aload_n 1, 1) := by decide +kernel
theorem dX3_settle_34 : decode cX3_settle 34 = .ok (.getfield 41, 3) := by decide +kernel
theorem dX3_settle_37 : decode cX3_settle 37 = .ok (.iload_n 3, 1) := by decide +kernel
theorem dX3_settle_38 : decode cX3_settle 38 = .ok (.laload, 1) := by decide +kernel
theorem dX3_settle_39 : decode cX3_settle 39 = .ok (.lastore, 1) := by decide +kernel
theorem dX3_settle_40 : decode cX3_settle 40 = .ok (.aload_n 0, 1) := by decide +kernel
theorem dX3_settle_41 : decode cX3_settle 41 = .ok (.getfield 15, 3) := by decide +kernel
theorem dX3_settle_44 : decode cX3_settle 44 = .ok (.iload_n 3, 1) := by decide +kernel
theorem dX3_settle_45 : decode cX3_settle 45 = .ok (.aload_n 1, 1) := by decide +kernel
theorem dX3_settle_46 : decode cX3_settle 46 = .ok (.getfield 34, 3) := by decide +kernel
theorem dX3_settle_49 : decode cX3_settle 49 = .ok (.iload_n 3, 1) := by decide +kernel
theorem dX3_settle_50 : decode cX3_settle 50 = .ok (.baload, 1) := by decide +kernel
theorem dX3_settle_51 : decode cX3_settle 51 = .ok (.ifCond .eq 13, 3) := by decide +kernel
theorem dX3_settle_54 : decode cX3_settle 54 = .ok (.aload_n 1, 1) := by decide +kernel
theorem dX3_settle_55 : decode cX3_settle 55 = .ok (.getfield 41, 3) := by decide +kernel
theorem dX3_settle_58 : decode cX3_settle 58 = .ok (.iload_n 3, 1) := by decide +kernel
theorem dX3_settle_59 : decode cX3_settle 59 = .ok (.laload, 1) := by decide +kernel
theorem dX3_settle_60 : decode cX3_settle 60 = .ok (.lneg, 1) := by decide +kernel
theorem dX3_settle_61 : decode cX3_settle 61 = .ok (.goto 9, 3) := by decide +kernel
theorem dX3_settle_64 : decode cX3_settle 64 = .ok (.aload_n 1, 1) := by decide +kernel
theorem dX3_settle_65 : decode cX3_settle 65 = .ok (.getfield 38, 3) := by decide +kernel
theorem dX3_settle_68 : decode cX3_settle 68 = .ok (.iload_n 3, 1) := by decide +kernel
theorem dX3_settle_69 : decode cX3_settle 69 = .ok (.laload, 1) := by decide +kernel
theorem dX3_settle_70 : decode cX3_settle 70 = .ok (.lastore, 1) := by decide +kernel
theorem dX3_settle_71 : decode cX3_settle 71 = .ok (.aload_n 0, 1) := by decide +kernel
theorem dX3_settle_72 : decode cX3_settle 72 = .ok (.iload_n 3, 1) := by decide +kernel
theorem dX3_settle_73 : decode cX3_settle 73 = .ok (.aload_n 1, 1) := by decide +kernel
theorem dX3_settle_74 : decode cX3_settle 74 = .ok (.getfield 44, 3) := by decide +kernel
theorem dX3_settle_77 : decode cX3_settle 77 = .ok (.iload_n 3, 1) := by decide +kernel
theorem dX3_settle_78 : decode cX3_settle 78 = .ok (.iaload, 1) := by decide +kernel
theorem dX3_settle_79 : decode cX3_settle 79 = .ok (.aload_n 2, 1) := by decide +kernel
theorem dX3_settle_80 : decode cX3_settle 80 = .ok (.invokevirtual 47, 3) := by decide +kernel
theorem dX3_settle_83 : decode cX3_settle 83 = .ok (.aload_n 0, 1) := by decide +kernel
theorem dX3_settle_84 : decode cX3_settle 84 = .ok (.getfield 25, 3) := by decide +kernel
theorem dX3_settle_87 : decode cX3_settle 87 = .ok (.iload_n 3, 1) := by decide +kernel
theorem dX3_settle_88 : decode cX3_settle 88 = .ok (.aload_n 0, 1) := by decide +kernel
theorem dX3_settle_89 : decode cX3_settle 89 = .ok (.aload_n 1, 1) := by decide +kernel
theorem dX3_settle_90 : decode cX3_settle 90 = .ok (.iload_n 3, 1) := by decide +kernel
theorem dX3_settle_91 : decode cX3_settle 91 = .ok (.invokevirtual 51, 3) := by decide +kernel
theorem dX3_settle_94 : decode cX3_settle 94 = .ok (.iastore, 1) := by decide +kernel
theorem dX3_settle_95 : decode cX3_settle 95 = .ok (.iinc 3 1, 3) := by decide +kernel
theorem dX3_settle_98 : decode cX3_settle 98 = .ok (.goto (-96), 3) := by decide +kernel
theorem dX3_settle_101 : decode cX3_settle 101 = .ok (.return_, 1) := by decide +kernel
theorem dX3_spell_0 : decode cX3_spell 0 = .ok (.aload_n 3, 1) := by decide +kernel
theorem dX3_spell_1 : decode cX3_spell 1 = .ok (.iload_n 2, 1) := by decide +kernel
theorem dX3_spell_2 : decode cX3_spell 2 = .ok (.invokevirtual 55, 3) := by decide +kernel
theorem dX3_spell_5 : decode cX3_spell 5 = .ok (.istore 4, 2) := by decide +kernel
theorem dX3_spell_7 : decode cX3_spell 7 = .ok (.aload_n 0, 1) := by decide +kernel
theorem dX3_spell_8 : decode cX3_spell 8 = .ok (.getfield 18, 3) := by decide +kernel
theorem dX3_spell_11 : decode cX3_spell 11 = .ok (.iload_n 1, 1) := by decide +kernel
theorem dX3_spell_12 : decode cX3_spell 12 = .ok (.iload 4, 2) := by decide +kernel
theorem dX3_spell_14 : decode cX3_spell 14 = .ok (.ifCond .ge 8, 3) := by decide +kernel
theorem dX3_spell_17 : decode cX3_spell 17 = .ok (.ldc 61, 2) := by decide +kernel
theorem dX3_spell_19 : decode cX3_spell 19 = .ok (.goto 16, 3) := by decide +kernel
theorem dX3_spell_22 : decode cX3_spell 22 = .ok (.aload_n 3, 1) := by decide +kernel
theorem dX3_spell_23 : decode cX3_spell 23 = .ok (.getfield 62, 3) := by decide +kernel
theorem dX3_spell_26 : decode cX3_spell 26 = .ok (.iload 4, 2) := by decide +kernel
theorem dX3_spell_28 : decode cX3_spell 28 = .ok (.sipush 256, 3) := by decide +kernel
theorem dX3_spell_31 : decode cX3_spell 31 = .ok (.imul, 1) := by decide +kernel
theorem dX3_spell_32 : decode cX3_spell 32 = .ok (.iload_n 2, 1) := by decide +kernel
theorem dX3_spell_33 : decode cX3_spell 33 = .ok (.iadd, 1) := by decide +kernel
theorem dX3_spell_34 : decode cX3_spell 34 = .ok (.iaload, 1) := by decide +kernel
theorem dX3_spell_35 : decode cX3_spell 35 = .ok (.iastore, 1) := by decide +kernel
theorem dX3_spell_36 : decode cX3_spell 36 = .ok (.aload_n 0, 1) := by decide +kernel
theorem dX3_spell_37 : decode cX3_spell 37 = .ok (.getfield 22, 3) := by decide +kernel
theorem dX3_spell_40 : decode cX3_spell 40 = .ok (.iload_n 1, 1) := by decide +kernel
theorem dX3_spell_41 : decode cX3_spell 41 = .ok (.iload 4, 2) := by decide +kernel
theorem dX3_spell_43 : decode cX3_spell 43 = .ok (.ifCond .ge 7, 3) := by decide +kernel
theorem dX3_spell_46 : decode cX3_spell 46 = .ok (.iconst 0, 1) := by decide +kernel
theorem dX3_spell_47 : decode cX3_spell 47 = .ok (.goto 16, 3) := by decide +kernel
theorem dX3_spell_50 : decode cX3_spell 50 = .ok (.aload_n 3, 1) := by decide +kernel
theorem dX3_spell_51 : decode cX3_spell 51 = .ok (.getfield 63, 3) := by decide +kernel
theorem dX3_spell_54 : decode cX3_spell 54 = .ok (.iload 4, 2) := by decide +kernel
theorem dX3_spell_56 : decode cX3_spell 56 = .ok (.sipush 256, 3) := by decide +kernel
theorem dX3_spell_59 : decode cX3_spell 59 = .ok (.imul, 1) := by decide +kernel
theorem dX3_spell_60 : decode cX3_spell 60 = .ok (.iload_n 2, 1) := by decide +kernel
theorem dX3_spell_61 : decode cX3_spell 61 = .ok (.iadd, 1) := by decide +kernel
theorem dX3_spell_62 : decode cX3_spell 62 = .ok (.iaload, 1) := by decide +kernel
theorem dX3_spell_63 : decode cX3_spell 63 = .ok (.iastore, 1) := by decide +kernel
theorem dX3_spell_64 : decode cX3_spell 64 = .ok (.return_, 1) := by decide +kernel
theorem dX3_firstDoubled_0 : decode cX3_firstDoubled 0 = .ok (.iconst 0, 1) := by decide +kernel
theorem dX3_firstDoubled_1 : decode cX3_firstDoubled 1 = .ok (.istore_n 3, 1) := by decide +kernel
theorem dX3_firstDoubled_2 : decode cX3_firstDoubled 2 = .ok (.iload_n 3, 1) := by decide +kernel
theorem dX3_firstDoubled_3 : decode cX3_firstDoubled 3 = .ok (.iload_n 2, 1) := by decide +kernel
theorem dX3_firstDoubled_4 : decode cX3_firstDoubled 4 = .ok (.if_icmp .ge 31, 3) := by decide +kernel
theorem dX3_firstDoubled_7 : decode cX3_firstDoubled 7 = .ok (.aload_n 0, 1) := by decide +kernel
theorem dX3_firstDoubled_8 : decode cX3_firstDoubled 8 = .ok (.getfield 25, 3) := by decide +kernel
theorem dX3_firstDoubled_11 : decode cX3_firstDoubled 11 = .ok (.iload_n 3, 1) := by decide +kernel
theorem dX3_firstDoubled_12 : decode cX3_firstDoubled 12 = .ok (.iaload, 1) := by decide +kernel
theorem dX3_firstDoubled_13 : decode cX3_firstDoubled 13 = .ok (.iconst (-1), 1) := by decide +kernel
theorem dX3_firstDoubled_14 : decode cX3_firstDoubled 14 = .ok (.if_icmp .ne 15, 3) := by decide +kernel
theorem dX3_firstDoubled_17 : decode cX3_firstDoubled 17 = .ok (.aload_n 0, 1) := by decide +kernel
theorem dX3_firstDoubled_18 : decode cX3_firstDoubled 18 = .ok (.aload_n 1, 1) := by decide +kernel
theorem dX3_firstDoubled_19 : decode cX3_firstDoubled 19 = .ok (.iload_n 2, 1) := by decide +kernel
theorem dX3_firstDoubled_20 : decode cX3_firstDoubled 20 = .ok (.iload_n 3, 1) := by decide +kernel
theorem dX3_firstDoubled_21 : decode cX3_firstDoubled 21 = .ok (.invokevirtual 64, 3) := by decide +kernel
theorem dX3_firstDoubled_24 : decode cX3_firstDoubled 24 = .ok (.ifCond .eq 5, 3) := by decide +kernel
theorem dX3_firstDoubled_27 : decode cX3_firstDoubled 27 = .ok (.iload_n 3, 1) := by decide +kernel
theorem dX3_firstDoubled_28 : decode cX3_firstDoubled 28 = .ok (.ireturn, 1) := by decide +kernel
theorem dX3_firstDoubled_29 : decode cX3_firstDoubled 29 = .ok (.iinc 3 1, 3) := by decide +kernel
theorem dX3_firstDoubled_32 : decode cX3_firstDoubled 32 = .ok (.goto (-30), 3) := by decide +kernel
theorem dX3_firstDoubled_35 : decode cX3_firstDoubled 35 = .ok (.iconst (-1), 1) := by decide +kernel
theorem dX3_firstDoubled_36 : decode cX3_firstDoubled 36 = .ok (.ireturn, 1) := by decide +kernel
theorem dX3_isDouble_0 : decode cX3_isDouble 0 = .ok (.aload_n 0, 1) := by decide +kernel
theorem dX3_isDouble_1 : decode cX3_isDouble 1 = .ok (.getfield 18, 3) := by decide +kernel
theorem dX3_isDouble_4 : decode cX3_isDouble 4 = .ok (.iload_n 2, 1) := by decide +kernel
theorem dX3_isDouble_5 : decode cX3_isDouble 5 = .ok (.iaload, 1) := by decide +kernel
theorem dX3_isDouble_6 : decode cX3_isDouble 6 = .ok (.aload_n 0, 1) := by decide +kernel
theorem dX3_isDouble_7 : decode cX3_isDouble 7 = .ok (.getfield 18, 3) := by decide +kernel
theorem dX3_isDouble_10 : decode cX3_isDouble 10 = .ok (.iload_n 3, 1) := by decide +kernel
theorem dX3_isDouble_11 : decode cX3_isDouble 11 = .ok (.iaload, 1) := by decide +kernel
theorem dX3_isDouble_12 : decode cX3_isDouble 12 = .ok (.if_icmp .ne 98, 3) := by decide +kernel
theorem dX3_isDouble_15 : decode cX3_isDouble 15 = .ok (.aload_n 0, 1) := by decide +kernel
theorem dX3_isDouble_16 : decode cX3_isDouble 16 = .ok (.getfield 22, 3) := by decide +kernel
theorem dX3_isDouble_19 : decode cX3_isDouble 19 = .ok (.iload_n 2, 1) := by decide +kernel
theorem dX3_isDouble_20 : decode cX3_isDouble 20 = .ok (.iaload, 1) := by decide +kernel
theorem dX3_isDouble_21 : decode cX3_isDouble 21 = .ok (.aload_n 0, 1) := by decide +kernel
theorem dX3_isDouble_22 : decode cX3_isDouble 22 = .ok (.getfield 22, 3) := by decide +kernel
theorem dX3_isDouble_25 : decode cX3_isDouble 25 = .ok (.iload_n 3, 1) := by decide +kernel
theorem dX3_isDouble_26 : decode cX3_isDouble 26 = .ok (.iaload, 1) := by decide +kernel
theorem dX3_isDouble_27 : decode cX3_isDouble 27 = .ok (.if_icmp .ne 83, 3) := by decide +kernel
theorem dX3_isDouble_30 : decode cX3_isDouble 30 = .ok (.aload_n 1, 1) := by decide +kernel
theorem dX3_isDouble_31 : decode cX3_isDouble 31 = .ok (.getfield 34, 3) := by decide +kernel
theorem dX3_isDouble_34 : decode cX3_isDouble 34 = .ok (.iload_n 2, 1) := by decide +kernel
theorem dX3_isDouble_35 : decode cX3_isDouble 35 = .ok (.baload, 1) := by decide +kernel
theorem dX3_isDouble_36 : decode cX3_isDouble 36 = .ok (.aload_n 1, 1) := by decide +kernel
theorem dX3_isDouble_37 : decode cX3_isDouble 37 = .ok (.getfield 34, 3) := by decide +kernel
theorem dX3_isDouble_40 : decode cX3_isDouble 40 = .ok (.iload_n 3, 1) := by decide +kernel
theorem dX3_isDouble_41 : decode cX3_isDouble 41 = .ok (.baload, 1) := by decide +kernel
theorem dX3_isDouble_42 : decode cX3_isDouble 42 = .ok (.if_icmp .ne 68, 3) := by decide +kernel
theorem dX3_isDouble_45 : decode cX3_isDouble 45 = .ok (.ldc2_w 68, 3) := by decide +kernel
theorem dX3_isDouble_48 : decode cX3_isDouble 48 = .ok (.aload_n 0, 1) := by decide +kernel
theorem dX3_isDouble_49 : decode cX3_isDouble 49 = .ok (.getfield 9, 3) := by decide +kernel
theorem dX3_isDouble_52 : decode cX3_isDouble 52 = .ok (.iload_n 2, 1) := by decide +kernel
theorem dX3_isDouble_53 : decode cX3_isDouble 53 = .ok (.laload, 1) := by decide +kernel
theorem dX3_isDouble_54 : decode cX3_isDouble 54 = .ok (.aload_n 0, 1) := by decide +kernel
theorem dX3_isDouble_55 : decode cX3_isDouble 55 = .ok (.getfield 9, 3) := by decide +kernel
theorem dX3_isDouble_58 : decode cX3_isDouble 58 = .ok (.iload_n 3, 1) := by decide +kernel
theorem dX3_isDouble_59 : decode cX3_isDouble 59 = .ok (.laload, 1) := by decide +kernel
theorem dX3_isDouble_60 : decode cX3_isDouble 60 = .ok (.lsub, 1) := by decide +kernel
theorem dX3_isDouble_61 : decode cX3_isDouble 61 = .ok (.invokestatic 70, 3) := by decide +kernel
theorem dX3_isDouble_64 : decode cX3_isDouble 64 = .ok (.lmul, 1) := by decide +kernel
theorem dX3_isDouble_65 : decode cX3_isDouble 65 = .ok (.aload_n 1, 1) := by decide +kernel
theorem dX3_isDouble_66 : decode cX3_isDouble 66 = .ok (.getfield 76, 3) := by decide +kernel
theorem dX3_isDouble_69 : decode cX3_isDouble 69 = .ok (.iload_n 3, 1) := by decide +kernel
theorem dX3_isDouble_70 : decode cX3_isDouble 70 = .ok (.laload, 1) := by decide +kernel
theorem dX3_isDouble_71 : decode cX3_isDouble 71 = .ok (.lcmp, 1) := by decide +kernel
theorem dX3_isDouble_72 : decode cX3_isDouble 72 = .ok (.ifCond .gt 38, 3) := by decide +kernel
theorem dX3_isDouble_75 : decode cX3_isDouble 75 = .ok (.ldc2_w 68, 3) := by decide +kernel
theorem dX3_isDouble_78 : decode cX3_isDouble 78 = .ok (.aload_n 0, 1) := by decide +kernel
theorem dX3_isDouble_79 : decode cX3_isDouble 79 = .ok (.getfield 15, 3) := by decide +kernel
theorem dX3_isDouble_82 : decode cX3_isDouble 82 = .ok (.iload_n 2, 1) := by decide +kernel
theorem dX3_isDouble_83 : decode cX3_isDouble 83 = .ok (.laload, 1) := by decide +kernel
theorem dX3_isDouble_84 : decode cX3_isDouble 84 = .ok (.aload_n 0, 1) := by decide +kernel
theorem dX3_isDouble_85 : decode cX3_isDouble 85 = .ok (.getfield 15, 3) := by decide +kernel
theorem dX3_isDouble_88 : decode cX3_isDouble 88 = .ok (.iload_n 3, 1) := by decide +kernel
theorem dX3_isDouble_89 : decode cX3_isDouble 89 = .ok (.laload, 1) := by decide +kernel
theorem dX3_isDouble_90 : decode cX3_isDouble 90 = .ok (.lsub, 1) := by decide +kernel
theorem dX3_isDouble_91 : decode cX3_isDouble 91 = .ok (.invokestatic 70, 3) := by decide +kernel
theorem dX3_isDouble_94 : decode cX3_isDouble 94 = .ok (.lmul, 1) := by decide +kernel
theorem dX3_isDouble_95 : decode cX3_isDouble 95 = .ok (.aload_n 1, 1) := by decide +kernel
theorem dX3_isDouble_96 : decode cX3_isDouble 96 = .ok (.getfield 79, 3) := by decide +kernel
theorem dX3_isDouble_99 : decode cX3_isDouble 99 = .ok (.iload_n 3, 1) := by decide +kernel
theorem dX3_isDouble_100 : decode cX3_isDouble 100 = .ok (.iaload, 1) := by decide +kernel
theorem dX3_isDouble_101 : decode cX3_isDouble 101 = .ok (.i2l, 1) := by decide +kernel
theorem dX3_isDouble_102 : decode cX3_isDouble 102 = .ok (.lcmp, 1) := by decide +kernel
theorem dX3_isDouble_103 : decode cX3_isDouble 103 = .ok (.ifCond .gt 7, 3) := by decide +kernel
theorem dX3_isDouble_106 : decode cX3_isDouble 106 = .ok (.iconst 1, 1) := by decide +kernel
theorem dX3_isDouble_107 : decode cX3_isDouble 107 = .ok (.goto 4, 3) := by decide +kernel
theorem dX3_isDouble_110 : decode cX3_isDouble 110 = .ok (.iconst 0, 1) := by decide +kernel
theorem dX3_isDouble_111 : decode cX3_isDouble 111 = .ok (.ireturn, 1) := by decide +kernel
theorem dX4_init_0 : decode cX4_init 0 = .ok (.aload_n 0, 1) := by decide +kernel
theorem dX4_init_1 : decode cX4_init 1 = .ok (.invokespecial 3, 3) := by decide +kernel
theorem dX4_init_4 : decode cX4_init 4 = .ok (.aload_n 0, 1) := by decide +kernel
theorem dX4_init_5 : decode cX4_init 5 = .ok (.iconst 0, 1) := by decide +kernel
theorem dX4_init_6 : decode cX4_init 6 = .ok (.putfield 9, 3) := by decide +kernel
theorem dX4_init_9 : decode cX4_init 9 = .ok (.aload_n 0, 1) := by decide +kernel
theorem dX4_init_10 : decode cX4_init 10 = .ok (.sipush 600, 3) := by decide +kernel
theorem dX4_init_13 : decode cX4_init 13 = .ok (.newarray .int, 2) := by decide +kernel
theorem dX4_init_15 : decode cX4_init 15 = .ok (.putfield 15, 3) := by decide +kernel
theorem dX4_init_18 : decode cX4_init 18 = .ok (.aload_n 0, 1) := by decide +kernel
theorem dX4_init_19 : decode cX4_init 19 = .ok (.sipush 600, 3) := by decide +kernel
theorem dX4_init_22 : decode cX4_init 22 = .ok (.newarray .int, 2) := by decide +kernel
theorem dX4_init_24 : decode cX4_init 24 = .ok (.putfield 19, 3) := by decide +kernel
theorem dX4_init_27 : decode cX4_init 27 = .ok (.aload_n 0, 1) := by decide +kernel
theorem dX4_init_28 : decode cX4_init 28 = .ok (.sipush 200, 3) := by decide +kernel
theorem dX4_init_31 : decode cX4_init 31 = .ok (.newarray .int, 2) := by decide +kernel
theorem dX4_init_33 : decode cX4_init 33 = .ok (.putfield 22, 3) := by decide +kernel
theorem dX4_init_36 : decode cX4_init 36 = .ok (.aload_n 0, 1) := by decide +kernel
theorem dX4_init_37 : decode cX4_init 37 = .ok (.sipush 200, 3) := by decide +kernel
theorem dX4_init_40 : decode cX4_init 40 = .ok (.newarray .int, 2) := by decide +kernel
theorem dX4_init_42 : decode cX4_init 42 = .ok (.putfield 25, 3) := by decide +kernel
theorem dX4_init_45 : decode cX4_init 45 = .ok (.return_, 1) := by decide +kernel
theorem dX4_write_0 : decode cX4_write 0 = .ok (.aload_n 0, 1) := by decide +kernel
theorem dX4_write_1 : decode cX4_write 1 = .ok (.aload_n 1, 1) := by decide +kernel
theorem dX4_write_2 : decode cX4_write 2 = .ok (.aload_n 3, 1) := by decide +kernel
theorem dX4_write_3 : decode cX4_write 3 = .ok (.aload 4, 2) := by decide +kernel
theorem dX4_write_5 : decode cX4_write 5 = .ok (.aload 5, 2) := by decide +kernel
theorem dX4_write_7 : decode cX4_write 7 = .ok (.invokevirtual 28, 3) := by decide +kernel
theorem dX4_write_10 : decode cX4_write 10 = .ok (.aload_n 0, 1) := by decide +kernel
theorem dX4_write_11 : decode cX4_write 11 = .ok (.iconst 0, 1) := by decide +kernel
theorem dX4_write_12 : decode cX4_write 12 = .ok (.putfield 9, 3) := by decide +kernel
theorem dX4_write_15 : decode cX4_write 15 = .ok (.iconst 0, 1) := by decide +kernel
theorem dX4_write_16 : decode cX4_write 16 = .ok (.istore 6, 2) := by decide +kernel
theorem dX4_write_18 : decode cX4_write 18 = .ok (.iload 6, 2) := by decide +kernel
theorem dX4_write_20 : decode cX4_write 20 = .ok (.aload_n 3, 1) := by decide +kernel
theorem dX4_write_21 : decode cX4_write 21 = .ok (.getfield 32, 3) := by decide +kernel
theorem dX4_write_24 : decode cX4_write 24 = .ok (.if_icmp .ge 81, 3) := by decide +kernel
theorem dX4_write_27 : decode cX4_write 27 = .ok (.aload_n 0, 1) := by decide +kernel
theorem dX4_write_28 : decode cX4_write 28 = .ok (.getfield 22, 3) := by decide +kernel
theorem dX4_write_31 : decode cX4_write 31 = .ok (.iload 6, 2) := by decide +kernel
theorem dX4_write_33 : decode cX4_write 33 = .ok (.iaload, 1) := by decide +kernel
theorem dX4_write_34 : decode cX4_write 34 = .ok (.istore 7, 2) := by decide +kernel
theorem dX4_write_36 : decode cX4_write 36 = .ok (.iload 6, 2) := by decide +kernel
theorem dX4_write_38 : decode cX4_write 38 = .ok (.ifCond .le 25, 3) := by decide +kernel
theorem dX4_write_41 : decode cX4_write 41 = .ok (.aload_n 0, 1) := by decide +kernel
theorem dX4_write_42 : decode cX4_write 42 = .ok (.aload_n 0, 1) := by decide +kernel
theorem dX4_write_43 : decode cX4_write 43 = .ok (.getfield 22, 3) := by decide +kernel
theorem dX4_write_46 : decode cX4_write 46 = .ok (.iload 6, 2) := by decide +kernel
theorem dX4_write_48 : decode cX4_write 48 = .ok (.iconst 1, 1) := by decide +kernel
theorem dX4_write_49 : decode cX4_write 49 = .ok (.isub, 1) := by decide +kernel
theorem dX4_write_50 : decode cX4_write 50 = .ok (.iaload, 1) := by decide +kernel
theorem dX4_write_51 : decode cX4_write 51 = .ok (.iload 7, 2) := by decide +kernel
theorem dX4_write_53 : decode cX4_write 53 = .ok (.aload_n 1, 1) := by decide +kernel
theorem dX4_write_54 : decode cX4_write 54 = .ok (.aload_n 2, 1) := by decide +kernel
theorem dX4_write_55 : decode cX4_write 55 = .ok (.aload_n 3, 1) := by decide +kernel
theorem dX4_write_56 : decode cX4_write 56 = .ok (.aload 4, 2) := by decide +kernel
theorem dX4_write_58 : decode cX4_write 58 = .ok (.aload 5, 2) := by decide +kernel
theorem dX4_write_60 : decode cX4_write 60 = .ok (.invokevirtual 37, 3) := by decide +kernel
theorem dX4_write_63 : decode cX4_write 63 = .ok (.aload_n 0, 1) := by decide +kernel
theorem dX4_write_64 : decode cX4_write 64 = .ok (.aload_n 2, 1) := by decide +kernel
theorem dX4_write_65 : decode cX4_write 65 = .ok (.getfield 41, 3) := by decide +kernel
theorem dX4_write_68 : decode cX4_write 68 = .ok (.iload 7, 2) := by decide +kernel
theorem dX4_write_70 : decode cX4_write 70 = .ok (.iaload, 1) := by decide +kernel
theorem dX4_write_71 : decode cX4_write 71 = .ok (.iload 7, 2) := by decide +kernel
theorem dX4_write_73 : decode cX4_write 73 = .ok (.invokevirtual 46, 3) := by decide +kernel
theorem dX4_write_76 : decode cX4_write 76 = .ok (.aload_n 2, 1) := by decide +kernel
theorem dX4_write_77 : decode cX4_write 77 = .ok (.getfield 50, 3) := by decide +kernel
theorem dX4_write_80 : decode cX4_write 80 = .ok (.iload 7, 2) := by decide +kernel
theorem dX4_write_82 : decode cX4_write 82 = .ok (.iaload, 1) := by decide +kernel
theorem dX4_write_83 : decode cX4_write 83 = .ok (.ifCond .eq 16, 3) := by decide +kernel
theorem dX4_write_86 : decode cX4_write 86 = .ok (.aload_n 0, 1) := by decide +kernel
theorem dX4_write_87 : decode cX4_write 87 = .ok (.aload_n 2, 1) := by decide +kernel
theorem dX4_write_88 : decode cX4_write 88 = .ok (.getfield 50, 3) := by decide +kernel
theorem dX4_write_91 : decode cX4_write 91 = .ok (.iload 7, 2) := by decide +kernel
theorem dX4_write_93 : decode cX4_write 93 = .ok (.iaload, 1) := by decide +kernel
theorem dX4_write_94 : decode cX4_write 94 = .ok (.iload 7, 2) := by decide +kernel
theorem dX4_write_96 : decode cX4_write 96 = .ok (.invokevirtual 46, 3) := by decide +kernel
theorem dX4_write_99 : decode cX4_write 99 = .ok (.iinc 6 1, 3) := by decide +kernel
theorem dX4_write_102 : decode cX4_write 102 = .ok (.goto (-84), 3) := by decide +kernel
theorem dX4_write_105 : decode cX4_write 105 = .ok (.return_, 1) := by decide +kernel
theorem dX4_bringInOrder_0 : decode cX4_bringInOrder 0 = .ok (.iconst 0, 1) := by decide +kernel
theorem dX4_bringInOrder_1 : decode cX4_bringInOrder 1 = .ok (.istore 5, 2) := by decide +kernel
theorem dX4_bringInOrder_3 : decode cX4_bringInOrder 3 = .ok (.iload 5, 2) := by decide +kernel
theorem dX4_bringInOrder_5 : decode cX4_bringInOrder 5 = .ok (.aload_n 2, 1) := by decide +kernel
theorem dX4_bringInOrder_6 : decode cX4_bringInOrder 6 = .ok (.getfield 32, 3) := by decide +kernel
theorem dX4_bringInOrder_9 : decode cX4_bringInOrder 9 = .ok (.if_icmp .ge 110, 3) := by decide +kernel
theorem dX4_bringInOrder_12 : decode cX4_bringInOrder 12 = .ok (.aload_n 2, 1) := by decide +kernel
theorem dX4_bringInOrder_13 : decode cX4_bringInOrder 13 = .ok (.getfield 53, 3) := by decide +kernel
theorem dX4_bringInOrder_16 : decode cX4_bringInOrder 16 = .ok (.iload 5, 2) := by decide +kernel
theorem dX4_bringInOrder_18 : decode cX4_bringInOrder 18 = .ok (.iaload, 1) := by decide +kernel
theorem dX4_bringInOrder_19 : decode cX4_bringInOrder 19 = .ok (.istore 6, 2) := by decide +kernel
theorem dX4_bringInOrder_21 : decode cX4_bringInOrder 21 = .ok (.aload_n 0, 1) := by decide +kernel
theorem dX4_bringInOrder_22 : decode cX4_bringInOrder 22 = .ok (.getfield 25, 3) := by decide +kernel
theorem dX4_bringInOrder_25 : decode cX4_bringInOrder 25 = .ok (.iload 6, 2) := by decide +kernel
theorem dX4_bringInOrder_27 : decode cX4_bringInOrder 27 = .ok (.aload_n 0, 1) := by decide +kernel
theorem dX4_bringInOrder_28 : decode cX4_bringInOrder 28 = .ok (.aload_n 1, 1) := by decide +kernel
theorem dX4_bringInOrder_29 : decode cX4_bringInOrder 29 = .ok (.getfield 56, 3) := by decide +kernel
theorem dX4_bringInOrder_32 : decode cX4_bringInOrder 32 = .ok (.iload 6, 2) := by decide +kernel
theorem dX4_bringInOrder_34 : decode cX4_bringInOrder 34 = .ok (.iaload, 1) := by decide +kernel
theorem dX4_bringInOrder_35 : decode cX4_bringInOrder 35 = .ok (.aload 4, 2) := by decide +kernel
theorem dX4_bringInOrder_37 : decode cX4_bringInOrder 37 = .ok (.aload_n 3, 1) := by decide +kernel
theorem dX4_bringInOrder_38 : decode cX4_bringInOrder 38 = .ok (.iload 6, 2) := by decide +kernel
theorem dX4_bringInOrder_40 : decode cX4_bringInOrder 40 = .ok (.invokevirtual 61, 3) := by decide +kernel
theorem dX4_bringInOrder_43 : decode cX4_bringInOrder 43 = .ok (.iload 5, 2) := by decide +kernel
theorem dX4_bringInOrder_45 : decode cX4_bringInOrder 45 = .ok (.invokevirtual 67, 3) := by decide +kernel
theorem dX4_bringInOrder_48 : decode cX4_bringInOrder 48 = .ok (.iastore, 1) := by decide +kernel
theorem dX4_bringInOrder_49 : decode cX4_bringInOrder 49 = .ok (.iload 5, 2) := by decide +kernel
theorem dX4_bringInOrder_51 : decode cX4_bringInOrder 51 = .ok (.istore 7, 2) := by decide +kernel
theorem dX4_bringInOrder_53 : decode cX4_bringInOrder 53 = .ok (.iload 7, 2) := by decide +kernel
theorem dX4_bringInOrder_55 : decode cX4_bringInOrder 55 = .ok (.ifCond .le 49, 3) := by decide +kernel
theorem dX4_bringInOrder_58 : decode cX4_bringInOrder 58 = .ok (.aload_n 0, 1) := by decide +kernel
theorem dX4_bringInOrder_59 : decode cX4_bringInOrder 59 = .ok (.getfield 25, 3) := by decide +kernel
theorem dX4_bringInOrder_62 : decode cX4_bringInOrder 62 = .ok (.aload_n 0, 1) := by decide +kernel
theorem dX4_bringInOrder_63 : decode cX4_bringInOrder 63 = .ok (.getfield 22, 3) := by decide +kernel
theorem dX4_bringInOrder_66 : decode cX4_bringInOrder 66 = .ok (.iload 7, 2) := by decide +kernel
theorem dX4_bringInOrder_68 : decode cX4_bringInOrder 68 = .ok (.iconst 1, 1) := by decide +kernel
theorem dX4_bringInOrder_69 : decode cX4_bringInOrder 69 = .ok (.isub, 1) := by decide +kernel
theorem dX4_bringInOrder_70 : decode cX4_bringInOrder 70 = .ok (.iaload, 1) := by decide +kernel
theorem dX4_bringInOrder_71 : decode cX4_bringInOrder 71 = .ok (.iaload, 1) := by decide +kernel
theorem dX4_bringInOrder_72 : decode cX4_bringInOrder 72 = .ok (.aload_n 0, 1) := by decide +kernel
theorem dX4_bringInOrder_73 : decode cX4_bringInOrder 73 = .ok (.getfield 25, 3) := by decide +kernel
theorem dX4_bringInOrder_76 : decode cX4_bringInOrder 76 = .ok (.iload 6, 2) := by decide +kernel
theorem dX4_bringInOrder_78 : decode cX4_bringInOrder 78 = .ok (.iaload, 1) := by decide +kernel
theorem dX4_bringInOrder_79 : decode cX4_bringInOrder 79 = .ok (.if_icmp .le 25, 3) := by decide +kernel
theorem dX4_bringInOrder_82 : decode cX4_bringInOrder 82 = .ok (.aload_n 0, 1) := by decide +kernel
theorem dX4_bringInOrder_83 : decode cX4_bringInOrder 83 = .ok (.getfield 22, 3) := by decide +kernel
theorem dX4_bringInOrder_86 : decode cX4_bringInOrder 86 = .ok (.iload 7, 2) := by decide +kernel
theorem dX4_bringInOrder_88 : decode cX4_bringInOrder 88 = .ok (.aload_n 0, 1) := by decide +kernel
theorem dX4_bringInOrder_89 : decode cX4_bringInOrder 89 = .ok (.getfield 22, 3) := by decide +kernel
theorem dX4_bringInOrder_92 : decode cX4_bringInOrder 92 = .ok (.iload 7, 2) := by decide +kernel
theorem dX4_bringInOrder_94 : decode cX4_bringInOrder 94 = .ok (.iconst 1, 1) := by decide +kernel
theorem dX4_bringInOrder_95 : decode cX4_bringInOrder 95 = .ok (.isub, 1) := by decide +kernel
theorem dX4_bringInOrder_96 : decode cX4_bringInOrder 96 = .ok (.iaload, 1) := by decide +kernel
theorem dX4_bringInOrder_97 : decode cX4_bringInOrder 97 = .ok (.iastore, 1) := by decide +kernel
theorem dX4_bringInOrder_98 : decode cX4_bringInOrder 98 = .ok (.iinc 7 (-1), 3) := by decide +kernel
theorem dX4_bringInOrder_101 : decode cX4_bringInOrder 101 = .ok (.goto (-48), 3) := by decide +kernel
theorem dX4_bringInOrder_104 : decode cX4_bringInOrder 104 = .ok (.aload_n 0, 1) := by decide +kernel
theorem dX4_bringInOrder_105 : decode cX4_bringInOrder 105 = .ok (.getfield 22, 3) := by decide +kernel
theorem dX4_bringInOrder_108 : decode cX4_bringInOrder 108 = .ok (.iload 7, 2) := by decide +kernel
theorem dX4_bringInOrder_110 : decode cX4_bringInOrder 110 = .ok (.iload 6, 2) := by decide +kernel
theorem dX4_bringInOrder_112 : decode cX4_bringInOrder 112 = .ok (.iastore, 1) := by decide +kernel
theorem dX4_bringInOrder_113 : decode cX4_bringInOrder 113 = .ok (.iinc 5 1, 3) := by decide +kernel
theorem dX4_bringInOrder_116 : decode cX4_bringInOrder 116 = .ok (.goto (-113), 3) := by decide +kernel
theorem dX4_bringInOrder_119 : decode cX4_bringInOrder 119 = .ok (.return_, 1) := by decide +kernel
theorem dX4_rank_0 : decode cX4_rank 0 = .ok (.iload_n 1, 1) := by decide +kernel
theorem dX4_rank_1 : decode cX4_rank 1 = .ok (.ifCond .ge 8, 3) := by decide +kernel
theorem dX4_rank_4 : decode cX4_rank 4 = .ok (.bipush 101, 2) := by decide +kernel
theorem dX4_rank_6 : decode cX4_rank 6 = .ok (.goto 4, 3) := by decide +kernel
theorem dX4_rank_9 : decode cX4_rank 9 = .ok (.iload_n 1, 1) := by decide +kernel
theorem dX4_rank_10 : decode cX4_rank 10 = .ok (.istore 4, 2) := by decide +kernel
theorem dX4_rank_12 : decode cX4_rank 12 = .ok (.iload 4, 2) := by decide +kernel
theorem dX4_rank_14 : decode cX4_rank 14 = .ok (.sipush 200, 3) := by decide +kernel
theorem dX4_rank_17 : decode cX4_rank 17 = .ok (.imul, 1) := by decide +kernel
theorem dX4_rank_18 : decode cX4_rank 18 = .ok (.iload_n 2, 1) := by decide +kernel
theorem dX4_rank_19 : decode cX4_rank 19 = .ok (.iadd, 1) := by decide +kernel
theorem dX4_rank_20 : decode cX4_rank 20 = .ok (.sipush 200, 3) := by decide +kernel
theorem dX4_rank_23 : decode cX4_rank 23 = .ok (.imul, 1) := by decide +kernel
theorem dX4_rank_24 : decode cX4_rank 24 = .ok (.iload_n 3, 1) := by decide +kernel
theorem dX4_rank_25 : decode cX4_rank 25 = .ok (.iadd, 1) := by decide +kernel
theorem dX4_rank_26 : decode cX4_rank 26 = .ok (.ireturn, 1) := by decide +kernel
theorem dX4_link_0 : decode cX4_link 0 = .ok (.aload 6, 2) := by decide +kernel
theorem dX4_link_2 : decode cX4_link 2 = .ok (.getfield 71, 3) := by decide +kernel
theorem dX4_link_5 : decode cX4_link 5 = .ok (.iload_n 1, 1) := by decide +kernel
theorem dX4_link_6 : decode cX4_link 6 = .ok (.iaload, 1) := by decide +kernel
theorem dX4_link_7 : decode cX4_link 7 = .ok (.aload 6, 2) := by decide +kernel
theorem dX4_link_9 : decode cX4_link 9 = .ok (.getfield 71, 3) := by decide +kernel
theorem dX4_link_12 : decode cX4_link 12 = .ok (.iload_n 2, 1) := by decide +kernel
theorem dX4_link_13 : decode cX4_link 13 = .ok (.iaload, 1) := by decide +kernel
theorem dX4_link_14 : decode cX4_link 14 = .ok (.if_icmp .ne 7, 3) := by decide +kernel
theorem dX4_link_17 : decode cX4_link 17 = .ok (.iconst 1, 1) := by decide +kernel
theorem dX4_link_18 : decode cX4_link 18 = .ok (.goto 4, 3) := by decide +kernel
theorem dX4_link_21 : decode cX4_link 21 = .ok (.iconst 0, 1) := by decide +kernel
theorem dX4_link_22 : decode cX4_link 22 = .ok (.istore 8, 2) := by decide +kernel
theorem dX4_link_24 : decode cX4_link 24 = .ok (.iload 8, 2) := by decide +kernel
theorem dX4_link_26 : decode cX4_link 26 = .ok (.ifCond .eq 42, 3) := by decide +kernel
theorem dX4_link_29 : decode cX4_link 29 = .ok (.aload 5, 2) := by decide +kernel
theorem dX4_link_31 : decode cX4_link 31 = .ok (.getfield 76, 3) := by decide +kernel
theorem dX4_link_34 : decode cX4_link 34 = .ok (.iload_n 2, 1) := by decide +kernel
theorem dX4_link_35 : decode cX4_link 35 = .ok (.iaload, 1) := by decide +kernel
theorem dX4_link_36 : decode cX4_link 36 = .ok (.aload 5, 2) := by decide +kernel
theorem dX4_link_38 : decode cX4_link 38 = .ok (.getfield 76, 3) := by decide +kernel
theorem dX4_link_41 : decode cX4_link 41 = .ok (.iload_n 1, 1) := by decide +kernel
theorem dX4_link_42 : decode cX4_link 42 = .ok (.iaload, 1) := by decide +kernel
theorem dX4_link_43 : decode cX4_link 43 = .ok (.iconst 1, 1) := by decide +kernel
theorem dX4_link_44 : decode cX4_link 44 = .ok (.iadd, 1) := by decide +kernel
theorem dX4_link_45 : decode cX4_link 45 = .ok (.if_icmp .ne 23, 3) := by decide +kernel
theorem dX4_link_48 : decode cX4_link 48 = .ok (.aload 6, 2) := by decide +kernel
theorem dX4_link_50 : decode cX4_link 50 = .ok (.getfield 79, 3) := by decide +kernel
theorem dX4_link_53 : decode cX4_link 53 = .ok (.iload_n 1, 1) := by decide +kernel
theorem dX4_link_54 : decode cX4_link 54 = .ok (.baload, 1) := by decide +kernel
theorem dX4_link_55 : decode cX4_link 55 = .ok (.ifCond .eq 66, 3) := by decide +kernel
theorem dX4_link_58 : decode cX4_link 58 = .ok (.aload_n 0, 1) := by decide +kernel
theorem dX4_link_59 : decode cX4_link 59 = .ok (.bipush 32, 2) := by decide +kernel
theorem dX4_link_61 : decode cX4_link 61 = .ok (.iconst (-1), 1) := by decide +kernel
theorem dX4_link_62 : decode cX4_link 62 = .ok (.invokevirtual 46, 3) := by decide +kernel
theorem dX4_link_65 : decode cX4_link 65 = .ok (.goto 56, 3) := by decide +kernel
theorem dX4_link_68 : decode cX4_link 68 = .ok (.iload 8, 2) := by decide +kernel
theorem dX4_link_70 : decode cX4_link 70 = .ok (.ifCond .ne 44, 3) := by decide +kernel
theorem dX4_link_73 : decode cX4_link 73 = .ok (.aload_n 3, 1) := by decide +kernel
theorem dX4_link_74 : decode cX4_link 74 = .ok (.getfield 56, 3) := by decide +kernel
theorem dX4_link_77 : decode cX4_link 77 = .ok (.iload_n 1, 1) := by decide +kernel
theorem dX4_link_78 : decode cX4_link 78 = .ok (.iaload, 1) := by decide +kernel
theorem dX4_link_79 : decode cX4_link 79 = .ok (.aload_n 3, 1) := by decide +kernel
theorem dX4_link_80 : decode cX4_link 80 = .ok (.getfield 56, 3) := by decide +kernel
theorem dX4_link_83 : decode cX4_link 83 = .ok (.iload_n 2, 1) := by decide +kernel
theorem dX4_link_84 : decode cX4_link 84 = .ok (.iaload, 1) := by decide +kernel
theorem dX4_link_85 : decode cX4_link 85 = .ok (.if_icmp .ne 29, 3) := by decide +kernel
theorem dX4_link_88 : decode cX4_link 88 = .ok (.aload 7, 2) := by decide +kernel
theorem dX4_link_90 : decode cX4_link 90 = .ok (.aload 6, 2) := by decide +kernel
theorem dX4_link_92 : decode cX4_link 92 = .ok (.iload_n 1, 1) := by decide +kernel
theorem dX4_link_93 : decode cX4_link 93 = .ok (.iload_n 2, 1) := by decide +kernel
theorem dX4_link_94 : decode cX4_link 94 = .ok (.invokevirtual 83, 3) := by decide +kernel
theorem dX4_link_97 : decode cX4_link 97 = .ok (.ifCond .eq 17, 3) := by decide +kernel
theorem dX4_link_100 : decode cX4_link 100 = .ok (.aload_n 0, 1) := by decide +kernel
theorem dX4_link_101 : decode cX4_link 101 = .ok (.aload 4, 2) := by decide +kernel
theorem dX4_link_103 : decode cX4_link 103 = .ok (.getfield 41, 3) := by decide +kernel
theorem dX4_link_106 : decode cX4_link 106 = .ok (.iload_n 2, 1) := by decide +kernel
theorem dX4_link_107 : decode cX4_link 107 = .ok (.iaload, 1) := by decide +kernel
theorem dX4_link_108 : decode cX4_link 108 = .ok (.invokevirtual 87, 3) := by decide +kernel
theorem dX4_link_111 : decode cX4_link 111 = .ok (.goto 10, 3) := by decide +kernel
theorem dX4_link_114 : decode cX4_link 114 = .ok (.aload_n 0, 1) := by decide +kernel
theorem dX4_link_115 : decode cX4_link 115 = .ok (.bipush 10, 2) := by decide +kernel
theorem dX4_link_117 : decode cX4_link 117 = .ok (.iconst (-1), 1) := by decide +kernel
theorem dX4_link_118 : decode cX4_link 118 = .ok (.invokevirtual 46, 3) := by decide +kernel
theorem dX4_link_121 : decode cX4_link 121 = .ok (.return_, 1) := by decide +kernel
theorem dX4_joinOrPart_0 : decode cX4_joinOrPart 0 = .ok (.iload_n 1, 1) := by decide +kernel
theorem dX4_joinOrPart_1 : decode cX4_joinOrPart 1 = .ok (.bipush 97, 2) := by decide +kernel
theorem dX4_joinOrPart_3 : decode cX4_joinOrPart 3 = .ok (.if_icmp .lt 13, 3) := by decide +kernel
theorem dX4_joinOrPart_6 : decode cX4_joinOrPart 6 = .ok (.iload_n 1, 1) := by decide +kernel
theorem dX4_joinOrPart_7 : decode cX4_joinOrPart 7 = .ok (.bipush 122, 2) := by decide +kernel
theorem dX4_joinOrPart_9 : decode cX4_joinOrPart 9 = .ok (.if_icmp .gt 7, 3) := by decide +kernel
theorem dX4_joinOrPart_12 : decode cX4_joinOrPart 12 = .ok (.iconst 1, 1) := by decide +kernel
theorem dX4_joinOrPart_13 : decode cX4_joinOrPart 13 = .ok (.goto 4, 3) := by decide +kernel
theorem dX4_joinOrPart_16 : decode cX4_joinOrPart 16 = .ok (.iconst 0, 1) := by decide +kernel
theorem dX4_joinOrPart_17 : decode cX4_joinOrPart 17 = .ok (.istore_n 2, 1) := by decide +kernel
theorem dX4_joinOrPart_18 : decode cX4_joinOrPart 18 = .ok (.iload_n 2, 1) := by decide +kernel
theorem dX4_joinOrPart_19 : decode cX4_joinOrPart 19 = .ok (.ifCond .eq 39, 3) := by decide +kernel
theorem dX4_joinOrPart_22 : decode cX4_joinOrPart 22 = .ok (.aload_n 0, 1) := by decide +kernel
theorem dX4_joinOrPart_23 : decode cX4_joinOrPart 23 = .ok (.getfield 9, 3) := by decide +kernel
theorem dX4_joinOrPart_26 : decode cX4_joinOrPart 26 = .ok (.ifCond .le 32, 3) := by decide +kernel
theorem dX4_joinOrPart_29 : decode cX4_joinOrPart 29 = .ok (.aload_n 0, 1) := by decide +kernel
theorem dX4_joinOrPart_30 : decode cX4_joinOrPart 30 = .ok (.getfield 15, 3) := by decide +kernel
theorem dX4_joinOrPart_33 : decode cX4_joinOrPart 33 = .ok (.aload_n 0, 1) := by decide +kernel
theorem dX4_joinOrPart_34 : decode cX4_joinOrPart 34 = .ok (.getfield 9, 3) := by decide +kernel
theorem dX4_joinOrPart_37 : decode cX4_joinOrPart 37 = .ok (.iconst 1, 1) := by decide +kernel
theorem dX4_joinOrPart_38 : decode cX4_joinOrPart 38 = .ok (.isub, 1) := by decide +kernel
theorem dX4_joinOrPart_39 : decode cX4_joinOrPart 39 = .ok (.iaload, 1) := by decide +kernel
theorem dX4_joinOrPart_40 : decode cX4_joinOrPart 40 = .ok (.bipush 45, 2) := by decide +kernel
theorem dX4_joinOrPart_42 : decode cX4_joinOrPart 42 = .ok (.if_icmp .ne 16, 3) := by decide +kernel
theorem dX4_joinOrPart_45 : decode cX4_joinOrPart 45 = .ok (.aload_n 0, 1) := by decide +kernel
theorem dX4_joinOrPart_46 : decode cX4_joinOrPart 46 = .ok (.dup, 1) := by decide +kernel
theorem dX4_joinOrPart_47 : decode cX4_joinOrPart 47 = .ok (.getfield 9, 3) := by decide +kernel
theorem dX4_joinOrPart_50 : decode cX4_joinOrPart 50 = .ok (.iconst 1, 1) := by decide +kernel
theorem dX4_joinOrPart_51 : decode cX4_joinOrPart 51 = .ok (.isub, 1) := by decide +kernel
theorem dX4_joinOrPart_52 : decode cX4_joinOrPart 52 = .ok (.putfield 9, 3) := by decide +kernel
theorem dX4_joinOrPart_55 : decode cX4_joinOrPart 55 = .ok (.goto 10, 3) := by decide +kernel
theorem dX4_joinOrPart_58 : decode cX4_joinOrPart 58 = .ok (.aload_n 0, 1) := by decide +kernel
theorem dX4_joinOrPart_59 : decode cX4_joinOrPart 59 = .ok (.bipush 32, 2) := by decide +kernel
theorem dX4_joinOrPart_61 : decode cX4_joinOrPart 61 = .ok (.iconst (-1), 1) := by decide +kernel
theorem dX4_joinOrPart_62 : decode cX4_joinOrPart 62 = .ok (.invokevirtual 46, 3) := by decide +kernel
theorem dX4_joinOrPart_65 : decode cX4_joinOrPart 65 = .ok (.return_, 1) := by decide +kernel
theorem dX4_put_0 : decode cX4_put 0 = .ok (.aload_n 0, 1) := by decide +kernel
theorem dX4_put_1 : decode cX4_put 1 = .ok (.getfield 9, 3) := by decide +kernel
theorem dX4_put_4 : decode cX4_put 4 = .ok (.sipush 600, 3) := by decide +kernel
theorem dX4_put_7 : decode cX4_put 7 = .ok (.if_icmp .ge 33, 3) := by decide +kernel
theorem dX4_put_10 : decode cX4_put 10 = .ok (.aload_n 0, 1) := by decide +kernel
theorem dX4_put_11 : decode cX4_put 11 = .ok (.getfield 15, 3) := by decide +kernel
theorem dX4_put_14 : decode cX4_put 14 = .ok (.aload_n 0, 1) := by decide +kernel
theorem dX4_put_15 : decode cX4_put 15 = .ok (.getfield 9, 3) := by decide +kernel
theorem dX4_put_18 : decode cX4_put 18 = .ok (.iload_n 1, 1) := by decide +kernel
theorem dX4_put_19 : decode cX4_put 19 = .ok (.iastore, 1) := by decide +kernel
theorem dX4_put_20 : decode cX4_put 20 = .ok (.aload_n 0, 1) := by decide +kernel
theorem dX4_put_21 : decode cX4_put 21 = .ok (.getfield 19, 3) := by decide +kernel
theorem dX4_put_24 : decode cX4_put 24 = .ok (.aload_n 0, 1) := by decide +kernel
theorem dX4_put_25 : decode cX4_put 25 = .ok (.getfield 9, 3) := by decide +kernel
theorem dX4_put_28 : decode cX4_put 28 = .ok (.iload_n 2, 1) := by decide +kernel
theorem dX4_put_29 : decode cX4_put 29 = .ok (.iastore, 1) := by decide +kernel
theorem dX4_put_30 : decode cX4_put 30 = .ok (.aload_n 0, 1) := by decide +kernel
theorem dX4_put_31 : decode cX4_put 31 = .ok (.dup, 1) := by decide +kernel
theorem dX4_put_32 : decode cX4_put 32 = .ok (.getfield 9, 3) := by decide +kernel
theorem dX4_put_35 : decode cX4_put 35 = .ok (.iconst 1, 1) := by decide +kernel
theorem dX4_put_36 : decode cX4_put 36 = .ok (.iadd, 1) := by decide +kernel
theorem dX4_put_37 : decode cX4_put 37 = .ok (.putfield 9, 3) := by decide +kernel
theorem dX4_put_40 : decode cX4_put 40 = .ok (.return_, 1) := by decide +kernel
theorem dX4_countWords_0 : decode cX4_countWords 0 = .ok (.iconst 0, 1) := by decide +kernel
theorem dX4_countWords_1 : decode cX4_countWords 1 = .ok (.istore_n 1, 1) := by decide +kernel
theorem dX4_countWords_2 : decode cX4_countWords 2 = .ok (.iconst 0, 1) := by decide +kernel
theorem dX4_countWords_3 : decode cX4_countWords 3 = .ok (.istore_n 2, 1) := by decide +kernel
theorem dX4_countWords_4 : decode cX4_countWords 4 = .ok (.iload_n 2, 1) := by decide +kernel
theorem dX4_countWords_5 : decode cX4_countWords 5 = .ok (.aload_n 0, 1) := by decide +kernel
theorem dX4_countWords_6 : decode cX4_countWords 6 = .ok (.getfield 9, 3) := by decide +kernel
theorem dX4_countWords_9 : decode cX4_countWords 9 = .ok (.if_icmp .ge 20, 3) := by decide +kernel
theorem dX4_countWords_12 : decode cX4_countWords 12 = .ok (.aload_n 0, 1) := by decide +kernel
theorem dX4_countWords_13 : decode cX4_countWords 13 = .ok (.iload_n 2, 1) := by decide +kernel
theorem dX4_countWords_14 : decode cX4_countWords 14 = .ok (.invokevirtual 91, 3) := by decide +kernel
theorem dX4_countWords_17 : decode cX4_countWords 17 = .ok (.ifCond .eq 6, 3) := by decide +kernel
theorem dX4_countWords_20 : decode cX4_countWords 20 = .ok (.iinc 1 1, 3) := by decide +kernel
theorem dX4_countWords_23 : decode cX4_countWords 23 = .ok (.iinc 2 1, 3) := by decide +kernel
theorem dX4_countWords_26 : decode cX4_countWords 26 = .ok (.goto (-22), 3) := by decide +kernel
theorem dX4_countWords_29 : decode cX4_countWords 29 = .ok (.iload_n 1, 1) := by decide +kernel
theorem dX4_countWords_30 : decode cX4_countWords 30 = .ok (.ireturn, 1) := by decide +kernel
theorem dX4_startOfWord_0 : decode cX4_startOfWord 0 = .ok (.iconst 0, 1) := by decide +kernel
theorem dX4_startOfWord_1 : decode cX4_startOfWord 1 = .ok (.istore_n 2, 1) := by decide +kernel
theorem dX4_startOfWord_2 : decode cX4_startOfWord 2 = .ok (.iconst 0, 1) := by decide +kernel
theorem dX4_startOfWord_3 : decode cX4_startOfWord 3 = .ok (.istore_n 3, 1) := by decide +kernel
theorem dX4_startOfWord_4 : decode cX4_startOfWord 4 = .ok (.iload_n 3, 1) := by decide +kernel
theorem dX4_startOfWord_5 : decode cX4_startOfWord 5 = .ok (.aload_n 0, 1) := by decide +kernel
theorem dX4_startOfWord_6 : decode cX4_startOfWord 6 = .ok (.getfield 9, 3) := by decide +kernel
theorem dX4_startOfWord_9 : decode cX4_startOfWord 9 = .ok (.if_icmp .ge 27, 3) := by decide +kernel
theorem dX4_startOfWord_12 : decode cX4_startOfWord 12 = .ok (.aload_n 0, 1) := by decide +kernel
theorem dX4_startOfWord_13 : decode cX4_startOfWord 13 = .ok (.iload_n 3, 1) := by decide +kernel
theorem dX4_startOfWord_14 : decode cX4_startOfWord 14 = .ok (.invokevirtual 91, 3) := by decide +kernel
theorem dX4_startOfWord_17 : decode cX4_startOfWord 17 = .ok (.ifCond .eq 13, 3) := by decide +kernel
theorem dX4_startOfWord_20 : decode cX4_startOfWord 20 = .ok (.iload_n 2, 1) := by decide +kernel
theorem dX4_startOfWord_21 : decode cX4_startOfWord 21 = .ok (.iload_n 1, 1) := by decide +kernel
theorem dX4_startOfWord_22 : decode cX4_startOfWord 22 = .ok (.if_icmp .ne 5, 3) := by decide +kernel
theorem dX4_startOfWord_25 : decode cX4_startOfWord 25 = .ok (.iload_n 3, 1) := by decide +kernel
theorem dX4_startOfWord_26 : decode cX4_startOfWord 26 = .ok (.ireturn, 1) := by decide +kernel
theorem dX4_startOfWord_27 : decode cX4_startOfWord 27 = .ok (.iinc 2 1, 3) := by decide +kernel
theorem dX4_startOfWord_30 : decode cX4_startOfWord 30 = .ok (.iinc 3 1, 3) := by decide +kernel
theorem dX4_startOfWord_33 : decode cX4_startOfWord 33 = .ok (.goto (-29), 3) := by decide +kernel
theorem dX4_startOfWord_36 : decode cX4_startOfWord 36 = .ok (.iconst (-1), 1) := by decide +kernel
theorem dX4_startOfWord_37 : decode cX4_startOfWord 37 = .ok (.ireturn, 1) := by decide +kernel
theorem dX4_endOfWord_0 : decode cX4_endOfWord 0 = .ok (.iload_n 1, 1) := by decide +kernel
theorem dX4_endOfWord_1 : decode cX4_endOfWord 1 = .ok (.istore_n 2, 1) := by decide +kernel
theorem dX4_endOfWord_2 : decode cX4_endOfWord 2 = .ok (.iload_n 2, 1) := by decide +kernel
theorem dX4_endOfWord_3 : decode cX4_endOfWord 3 = .ok (.aload_n 0, 1) := by decide +kernel
theorem dX4_endOfWord_4 : decode cX4_endOfWord 4 = .ok (.getfield 9, 3) := by decide +kernel
theorem dX4_endOfWord_7 : decode cX4_endOfWord 7 = .ok (.if_icmp .ge 17, 3) := by decide +kernel
theorem dX4_endOfWord_10 : decode cX4_endOfWord 10 = .ok (.aload_n 0, 1) := by decide +kernel
theorem dX4_endOfWord_11 : decode cX4_endOfWord 11 = .ok (.iload_n 2, 1) := by decide +kernel
theorem dX4_endOfWord_12 : decode cX4_endOfWord 12 = .ok (.invokevirtual 95, 3) := by decide +kernel
theorem dX4_endOfWord_15 : decode cX4_endOfWord 15 = .ok (.ifCond .eq 9, 3) := by decide +kernel
theorem dX4_endOfWord_18 : decode cX4_endOfWord 18 = .ok (.iinc 2 1, 3) := by decide +kernel
theorem dX4_endOfWord_21 : decode cX4_endOfWord 21 = .ok (.goto (-19), 3) := by decide +kernel
theorem dX4_endOfWord_24 : decode cX4_endOfWord 24 = .ok (.iload_n 2, 1) := by decide +kernel
theorem dX4_endOfWord_25 : decode cX4_endOfWord 25 = .ok (.ireturn, 1) := by decide +kernel
theorem dX4_startsWord_0 : decode cX4_startsWord 0 = .ok (.aload_n 0, 1) := by decide +kernel
theorem dX4_startsWord_1 : decode cX4_startsWord 1 = .ok (.iload_n 1, 1) := by decide +kernel
theorem dX4_startsWord_2 : decode cX4_startsWord 2 = .ok (.invokevirtual 95, 3) := by decide +kernel
theorem dX4_startsWord_5 : decode cX4_startsWord 5 = .ok (.ifCond .eq 21, 3) := by decide +kernel
theorem dX4_startsWord_8 : decode cX4_startsWord 8 = .ok (.iload_n 1, 1) := by decide +kernel
theorem dX4_startsWord_9 : decode cX4_startsWord 9 = .ok (.ifCond .eq 13, 3) := by decide +kernel
theorem dX4_startsWord_12 : decode cX4_startsWord 12 = .ok (.aload_n 0, 1) := by decide +kernel
theorem dX4_startsWord_13 : decode cX4_startsWord 13 = .ok (.iload_n 1, 1) := by decide +kernel
theorem dX4_startsWord_14 : decode cX4_startsWord 14 = .ok (.iconst 1, 1) := by decide +kernel
theorem dX4_startsWord_15 : decode cX4_startsWord 15 = .ok (.isub, 1) := by decide +kernel
theorem dX4_startsWord_16 : decode cX4_startsWord 16 = .ok (.invokevirtual 95, 3) := by decide +kernel
theorem dX4_startsWord_19 : decode cX4_startsWord 19 = .ok (.ifCond .ne 7, 3) := by decide +kernel
theorem dX4_startsWord_22 : decode cX4_startsWord 22 = .ok (.iconst 1, 1) := by decide +kernel
theorem dX4_startsWord_23 : decode cX4_startsWord 23 = .ok (.goto 4, 3) := by decide +kernel
theorem dX4_startsWord_26 : decode cX4_startsWord 26 = .ok (.iconst 0, 1) := by decide +kernel
theorem dX4_startsWord_27 : decode cX4_startsWord 27 = .ok (.ireturn, 1) := by decide +kernel
theorem dX4_isInWord_0 : decode cX4_isInWord 0 = .ok (.aload_n 0, 1) := by decide +kernel
theorem dX4_isInWord_1 : decode cX4_isInWord 1 = .ok (.getfield 15, 3) := by decide +kernel
theorem dX4_isInWord_4 : decode cX4_isInWord 4 = .ok (.iload_n 1, 1) := by decide +kernel
theorem dX4_isInWord_5 : decode cX4_isInWord 5 = .ok (.iaload, 1) := by decide +kernel
theorem dX4_isInWord_6 : decode cX4_isInWord 6 = .ok (.bipush 10, 2) := by decide +kernel
theorem dX4_isInWord_8 : decode cX4_isInWord 8 = .ok (.if_icmp .eq 18, 3) := by decide +kernel
theorem dX4_isInWord_11 : decode cX4_isInWord 11 = .ok (.aload_n 0, 1) := by decide +kernel
theorem dX4_isInWord_12 : decode cX4_isInWord 12 = .ok (.getfield 15, 3) := by decide +kernel
theorem dX4_isInWord_15 : decode cX4_isInWord 15 = .ok (.iload_n 1, 1) := by decide +kernel
theorem dX4_isInWord_16 : decode cX4_isInWord 16 = .ok (.iaload, 1) := by decide +kernel
theorem dX4_isInWord_17 : decode cX4_isInWord 17 = .ok (.bipush 32, 2) := by decide +kernel
theorem dX4_isInWord_19 : decode cX4_isInWord 19 = .ok (.if_icmp .eq 7, 3) := by decide +kernel
theorem dX4_isInWord_22 : decode cX4_isInWord 22 = .ok (.iconst 1, 1) := by decide +kernel
theorem dX4_isInWord_23 : decode cX4_isInWord 23 = .ok (.goto 4, 3) := by decide +kernel
theorem dX4_isInWord_26 : decode cX4_isInWord 26 = .ok (.iconst 0, 1) := by decide +kernel
theorem dX4_isInWord_27 : decode cX4_isInWord 27 = .ok (.ireturn, 1) := by decide +kernel
theorem dX5_init_0 : decode cX5_init 0 = .ok (.aload_n 0, 1) := by decide +kernel
theorem dX5_init_1 : decode cX5_init 1 = .ok (.invokespecial 3, 3) := by decide +kernel
theorem dX5_init_4 : decode cX5_init 4 = .ok (.aload_n 0, 1) := by decide +kernel
theorem dX5_init_5 : decode cX5_init 5 = .ok (.iconst 0, 1) := by decide +kernel
theorem dX5_init_6 : decode cX5_init 6 = .ok (.putfield 9, 3) := by decide +kernel
theorem dX5_init_9 : decode cX5_init 9 = .ok (.aload_n 0, 1) := by decide +kernel
theorem dX5_init_10 : decode cX5_init 10 = .ok (.iconst 0, 1) := by decide +kernel
theorem dX5_init_11 : decode cX5_init 11 = .ok (.putfield 15, 3) := by decide +kernel
theorem dX5_init_14 : decode cX5_init 14 = .ok (.aload_n 0, 1) := by decide +kernel
theorem dX5_init_15 : decode cX5_init 15 = .ok (.sipush 600, 3) := by decide +kernel
theorem dX5_init_18 : decode cX5_init 18 = .ok (.newarray .int, 2) := by decide +kernel
theorem dX5_init_20 : decode cX5_init 20 = .ok (.putfield 18, 3) := by decide +kernel
theorem dX5_init_23 : decode cX5_init 23 = .ok (.aload_n 0, 1) := by decide +kernel
theorem dX5_init_24 : decode cX5_init 24 = .ok (.bipush 20, 2) := by decide +kernel
theorem dX5_init_26 : decode cX5_init 26 = .ok (.newarray .int, 2) := by decide +kernel
theorem dX5_init_28 : decode cX5_init 28 = .ok (.putfield 22, 3) := by decide +kernel
theorem dX5_init_31 : decode cX5_init 31 = .ok (.return_, 1) := by decide +kernel
theorem dX5_seek_0 : decode cX5_seek 0 = .ok (.aload_n 0, 1) := by decide +kernel
theorem dX5_seek_1 : decode cX5_seek 1 = .ok (.getfield 9, 3) := by decide +kernel
theorem dX5_seek_4 : decode cX5_seek 4 = .ok (.bipush 20, 2) := by decide +kernel
theorem dX5_seek_6 : decode cX5_seek 6 = .ok (.if_icmp .ge 23, 3) := by decide +kernel
theorem dX5_seek_9 : decode cX5_seek 9 = .ok (.aload_n 0, 1) := by decide +kernel
theorem dX5_seek_10 : decode cX5_seek 10 = .ok (.getfield 22, 3) := by decide +kernel
theorem dX5_seek_13 : decode cX5_seek 13 = .ok (.aload_n 0, 1) := by decide +kernel
theorem dX5_seek_14 : decode cX5_seek 14 = .ok (.getfield 9, 3) := by decide +kernel
theorem dX5_seek_17 : decode cX5_seek 17 = .ok (.iload_n 1, 1) := by decide +kernel
theorem dX5_seek_18 : decode cX5_seek 18 = .ok (.iastore, 1) := by decide +kernel
theorem dX5_seek_19 : decode cX5_seek 19 = .ok (.aload_n 0, 1) := by decide +kernel
theorem dX5_seek_20 : decode cX5_seek 20 = .ok (.dup, 1) := by decide +kernel
theorem dX5_seek_21 : decode cX5_seek 21 = .ok (.getfield 9, 3) := by decide +kernel
theorem dX5_seek_24 : decode cX5_seek 24 = .ok (.iconst 1, 1) := by decide +kernel
theorem dX5_seek_25 : decode cX5_seek 25 = .ok (.iadd, 1) := by decide +kernel
theorem dX5_seek_26 : decode cX5_seek 26 = .ok (.putfield 9, 3) := by decide +kernel
theorem dX5_seek_29 : decode cX5_seek 29 = .ok (.aload_n 0, 1) := by decide +kernel
theorem dX5_seek_30 : decode cX5_seek 30 = .ok (.getfield 9, 3) := by decide +kernel
theorem dX5_seek_33 : decode cX5_seek 33 = .ok (.ireturn, 1) := by decide +kernel
theorem dX5_run_0 : decode cX5_run 0 = .ok (.aload_n 0, 1) := by decide +kernel
theorem dX5_run_1 : decode cX5_run 1 = .ok (.iconst 0, 1) := by decide +kernel
theorem dX5_run_2 : decode cX5_run 2 = .ok (.putfield 15, 3) := by decide +kernel
theorem dX5_run_5 : decode cX5_run 5 = .ok (.aload_n 0, 1) := by decide +kernel
theorem dX5_run_6 : decode cX5_run 6 = .ok (.getfield 9, 3) := by decide +kernel
theorem dX5_run_9 : decode cX5_run 9 = .ok (.ifCond .ne 7, 3) := by decide +kernel
theorem dX5_run_12 : decode cX5_run 12 = .ok (.iconst (-1), 1) := by decide +kernel
theorem dX5_run_13 : decode cX5_run 13 = .ok (.goto 12, 3) := by decide +kernel
theorem dX5_run_16 : decode cX5_run 16 = .ok (.aload_n 1, 1) := by decide +kernel
theorem dX5_run_17 : decode cX5_run 17 = .ok (.getfield 25, 3) := by decide +kernel
theorem dX5_run_20 : decode cX5_run 20 = .ok (.aload_n 0, 1) := by decide +kernel
theorem dX5_run_21 : decode cX5_run 21 = .ok (.getfield 9, 3) := by decide +kernel
theorem dX5_run_24 : decode cX5_run 24 = .ok (.isub, 1) := by decide +kernel
theorem dX5_run_25 : decode cX5_run 25 = .ok (.istore_n 2, 1) := by decide +kernel
theorem dX5_run_26 : decode cX5_run 26 = .ok (.iconst 0, 1) := by decide +kernel
theorem dX5_run_27 : decode cX5_run 27 = .ok (.istore_n 3, 1) := by decide +kernel
theorem dX5_run_28 : decode cX5_run 28 = .ok (.iload_n 3, 1) := by decide +kernel
theorem dX5_run_29 : decode cX5_run 29 = .ok (.iload_n 2, 1) := by decide +kernel
theorem dX5_run_30 : decode cX5_run 30 = .ok (.if_icmp .gt 38, 3) := by decide +kernel
theorem dX5_run_33 : decode cX5_run 33 = .ok (.aload_n 0, 1) := by decide +kernel
theorem dX5_run_34 : decode cX5_run 34 = .ok (.aload_n 1, 1) := by decide +kernel
theorem dX5_run_35 : decode cX5_run 35 = .ok (.iload_n 3, 1) := by decide +kernel
theorem dX5_run_36 : decode cX5_run 36 = .ok (.invokevirtual 30, 3) := by decide +kernel
theorem dX5_run_39 : decode cX5_run 39 = .ok (.ifCond .eq 23, 3) := by decide +kernel
theorem dX5_run_42 : decode cX5_run 42 = .ok (.aload_n 0, 1) := by decide +kernel
theorem dX5_run_43 : decode cX5_run 43 = .ok (.getfield 18, 3) := by decide +kernel
theorem dX5_run_46 : decode cX5_run 46 = .ok (.aload_n 0, 1) := by decide +kernel
theorem dX5_run_47 : decode cX5_run 47 = .ok (.getfield 15, 3) := by decide +kernel
theorem dX5_run_50 : decode cX5_run 50 = .ok (.iload_n 3, 1) := by decide +kernel
theorem dX5_run_51 : decode cX5_run 51 = .ok (.iastore, 1) := by decide +kernel
theorem dX5_run_52 : decode cX5_run 52 = .ok (.aload_n 0, 1) := by decide +kernel
theorem dX5_run_53 : decode cX5_run 53 = .ok (.dup, 1) := by decide +kernel
theorem dX5_run_54 : decode cX5_run 54 = .ok (.getfield 15, 3) := by decide +kernel
theorem dX5_run_57 : decode cX5_run 57 = .ok (.iconst 1, 1) := by decide +kernel
theorem dX5_run_58 : decode cX5_run 58 = .ok (.iadd, 1) := by decide +kernel
theorem dX5_run_59 : decode cX5_run 59 = .ok (.putfield 15, 3) := by decide +kernel
theorem dX5_run_62 : decode cX5_run 62 = .ok (.iinc 3 1, 3) := by decide +kernel
theorem dX5_run_65 : decode cX5_run 65 = .ok (.goto (-37), 3) := by decide +kernel
theorem dX5_run_68 : decode cX5_run 68 = .ok (.aload_n 0, 1) := by decide +kernel
theorem dX5_run_69 : decode cX5_run 69 = .ok (.iconst 0, 1) := by decide +kernel
theorem dX5_run_70 : decode cX5_run 70 = .ok (.putfield 9, 3) := by decide +kernel
theorem dX5_run_73 : decode cX5_run 73 = .ok (.aload_n 0, 1) := by decide +kernel
theorem dX5_run_74 : decode cX5_run 74 = .ok (.getfield 15, 3) := by decide +kernel
theorem dX5_run_77 : decode cX5_run 77 = .ok (.ireturn, 1) := by decide +kernel
theorem dX5_isAt_0 : decode cX5_isAt 0 = .ok (.iconst 0, 1) := by decide +kernel
theorem dX5_isAt_1 : decode cX5_isAt 1 = .ok (.istore_n 3, 1) := by decide +kernel
theorem dX5_isAt_2 : decode cX5_isAt 2 = .ok (.iload_n 3, 1) := by decide +kernel
theorem dX5_isAt_3 : decode cX5_isAt 3 = .ok (.aload_n 0, 1) := by decide +kernel
theorem dX5_isAt_4 : decode cX5_isAt 4 = .ok (.getfield 9, 3) := by decide +kernel
theorem dX5_isAt_7 : decode cX5_isAt 7 = .ok (.if_icmp .ge 36, 3) := by decide +kernel
theorem dX5_isAt_10 : decode cX5_isAt 10 = .ok (.aload_n 0, 1) := by decide +kernel
theorem dX5_isAt_11 : decode cX5_isAt 11 = .ok (.aload_n 1, 1) := by decide +kernel
theorem dX5_isAt_12 : decode cX5_isAt 12 = .ok (.getfield 34, 3) := by decide +kernel
theorem dX5_isAt_15 : decode cX5_isAt 15 = .ok (.iload_n 2, 1) := by decide +kernel
theorem dX5_isAt_16 : decode cX5_isAt 16 = .ok (.iload_n 3, 1) := by decide +kernel
theorem dX5_isAt_17 : decode cX5_isAt 17 = .ok (.iadd, 1) := by decide +kernel
theorem dX5_isAt_18 : decode cX5_isAt 18 = .ok (.iaload, 1) := by decide +kernel
theorem dX5_isAt_19 : decode cX5_isAt 19 = .ok (.invokevirtual 37, 3) := by decide +kernel
theorem dX5_isAt_22 : decode cX5_isAt 22 = .ok (.aload_n 0, 1) := by decide +kernel
theorem dX5_isAt_23 : decode cX5_isAt 23 = .ok (.aload_n 0, 1) := by decide +kernel
theorem dX5_isAt_24 : decode cX5_isAt 24 = .ok (.getfield 22, 3) := by decide +kernel
theorem dX5_isAt_27 : decode cX5_isAt 27 = .ok (.iload_n 3, 1) := by decide +kernel
theorem dX5_isAt_28 : decode cX5_isAt 28 = .ok (.iaload, 1) := by decide +kernel
theorem dX5_isAt_29 : decode cX5_isAt 29 = .ok (.invokevirtual 37, 3) := by decide +kernel
theorem dX5_isAt_32 : decode cX5_isAt 32 = .ok (.if_icmp .eq 5, 3) := by decide +kernel
theorem dX5_isAt_35 : decode cX5_isAt 35 = .ok (.iconst 0, 1) := by decide +kernel
theorem dX5_isAt_36 : decode cX5_isAt 36 = .ok (.ireturn, 1) := by decide +kernel
theorem dX5_isAt_37 : decode cX5_isAt 37 = .ok (.iinc 3 1, 3) := by decide +kernel
theorem dX5_isAt_40 : decode cX5_isAt 40 = .ok (.goto (-38), 3) := by decide +kernel
theorem dX5_isAt_43 : decode cX5_isAt 43 = .ok (.iconst 1, 1) := by decide +kernel
theorem dX5_isAt_44 : decode cX5_isAt 44 = .ok (.ireturn, 1) := by decide +kernel
theorem dX5_plain_0 : decode cX5_plain 0 = .ok (.iload_n 1, 1) := by decide +kernel
theorem dX5_plain_1 : decode cX5_plain 1 = .ok (.bipush 10, 2) := by decide +kernel
theorem dX5_plain_3 : decode cX5_plain 3 = .ok (.if_icmp .ne 8, 3) := by decide +kernel
theorem dX5_plain_6 : decode cX5_plain 6 = .ok (.bipush 32, 2) := by decide +kernel
theorem dX5_plain_8 : decode cX5_plain 8 = .ok (.goto 4, 3) := by decide +kernel
theorem dX5_plain_11 : decode cX5_plain 11 = .ok (.iload_n 1, 1) := by decide +kernel
theorem dX5_plain_12 : decode cX5_plain 12 = .ok (.ireturn, 1) := by decide +kernel
theorem dX6_init_0 : decode cX6_init 0 = .ok (.aload_n 0, 1) := by decide +kernel
theorem dX6_init_1 : decode cX6_init 1 = .ok (.invokespecial 3, 3) := by decide +kernel
theorem dX6_init_4 : decode cX6_init 4 = .ok (.aload_n 0, 1) := by decide +kernel
theorem dX6_init_5 : decode cX6_init 5 = .ok (.iconst 0, 1) := by decide +kernel
theorem dX6_init_6 : decode cX6_init 6 = .ok (.putfield 9, 3) := by decide +kernel
theorem dX6_init_9 : decode cX6_init 9 = .ok (.aload_n 0, 1) := by decide +kernel
theorem dX6_init_10 : decode cX6_init 10 = .ok (.sipush 200, 3) := by decide +kernel
theorem dX6_init_13 : decode cX6_init 13 = .ok (.newarray .int, 2) := by decide +kernel
theorem dX6_init_15 : decode cX6_init 15 = .ok (.putfield 15, 3) := by decide +kernel
theorem dX6_init_18 : decode cX6_init 18 = .ok (.aload_n 0, 1) := by decide +kernel
theorem dX6_init_19 : decode cX6_init 19 = .ok (.sipush 200, 3) := by decide +kernel
theorem dX6_init_22 : decode cX6_init 22 = .ok (.newarray .boolean, 2) := by decide +kernel
theorem dX6_init_24 : decode cX6_init 24 = .ok (.putfield 19, 3) := by decide +kernel
theorem dX6_init_27 : decode cX6_init 27 = .ok (.aload_n 0, 1) := by decide +kernel
theorem dX6_init_28 : decode cX6_init 28 = .ok (.sipush 200, 3) := by decide +kernel
theorem dX6_init_31 : decode cX6_init 31 = .ok (.newarray .boolean, 2) := by decide +kernel
theorem dX6_init_33 : decode cX6_init 33 = .ok (.putfield 23, 3) := by decide +kernel
theorem dX6_init_36 : decode cX6_init 36 = .ok (.aload_n 0, 1) := by decide +kernel
theorem dX6_init_37 : decode cX6_init 37 = .ok (.sipush 200, 3) := by decide +kernel
theorem dX6_init_40 : decode cX6_init 40 = .ok (.newarray .long, 2) := by decide +kernel
theorem dX6_init_42 : decode cX6_init 42 = .ok (.putfield 26, 3) := by decide +kernel
theorem dX6_init_45 : decode cX6_init 45 = .ok (.aload_n 0, 1) := by decide +kernel
theorem dX6_init_46 : decode cX6_init 46 = .ok (.sipush 200, 3) := by decide +kernel
theorem dX6_init_49 : decode cX6_init 49 = .ok (.newarray .long, 2) := by decide +kernel
theorem dX6_init_51 : decode cX6_init 51 = .ok (.putfield 30, 3) := by decide +kernel
theorem dX6_init_54 : decode cX6_init 54 = .ok (.aload_n 0, 1) := by decide +kernel
theorem dX6_init_55 : decode cX6_init 55 = .ok (.sipush 200, 3) := by decide +kernel
theorem dX6_init_58 : decode cX6_init 58 = .ok (.newarray .long, 2) := by decide +kernel
theorem dX6_init_60 : decode cX6_init 60 = .ok (.putfield 33, 3) := by decide +kernel
theorem dX6_init_63 : decode cX6_init 63 = .ok (.aload_n 0, 1) := by decide +kernel
theorem dX6_init_64 : decode cX6_init 64 = .ok (.sipush 200, 3) := by decide +kernel
theorem dX6_init_67 : decode cX6_init 67 = .ok (.newarray .long, 2) := by decide +kernel
theorem dX6_init_69 : decode cX6_init 69 = .ok (.putfield 36, 3) := by decide +kernel
theorem dX6_init_72 : decode cX6_init 72 = .ok (.aload_n 0, 1) := by decide +kernel
theorem dX6_init_73 : decode cX6_init 73 = .ok (.sipush 200, 3) := by decide +kernel
theorem dX6_init_76 : decode cX6_init 76 = .ok (.newarray .int, 2) := by decide +kernel
theorem dX6_init_78 : decode cX6_init 78 = .ok (.putfield 39, 3) := by decide +kernel
theorem dX6_init_81 : decode cX6_init 81 = .ok (.return_, 1) := by decide +kernel
theorem dX6_cut_0 : decode cX6_cut 0 = .ok (.aload_n 0, 1) := by decide +kernel
theorem dX6_cut_1 : decode cX6_cut 1 = .ok (.iconst 0, 1) := by decide +kernel
theorem dX6_cut_2 : decode cX6_cut 2 = .ok (.putfield 9, 3) := by decide +kernel
theorem dX6_cut_5 : decode cX6_cut 5 = .ok (.iconst 0, 1) := by decide +kernel
theorem dX6_cut_6 : decode cX6_cut 6 = .ok (.istore 4, 2) := by decide +kernel
theorem dX6_cut_8 : decode cX6_cut 8 = .ok (.iload 4, 2) := by decide +kernel
theorem dX6_cut_10 : decode cX6_cut 10 = .ok (.aload_n 1, 1) := by decide +kernel
theorem dX6_cut_11 : decode cX6_cut 11 = .ok (.getfield 42, 3) := by decide +kernel
theorem dX6_cut_14 : decode cX6_cut 14 = .ok (.if_icmp .ge 25, 3) := by decide +kernel
theorem dX6_cut_17 : decode cX6_cut 17 = .ok (.aload_n 0, 1) := by decide +kernel
theorem dX6_cut_18 : decode cX6_cut 18 = .ok (.getfield 15, 3) := by decide +kernel
theorem dX6_cut_21 : decode cX6_cut 21 = .ok (.iload 4, 2) := by decide +kernel
theorem dX6_cut_23 : decode cX6_cut 23 = .ok (.iconst (-1), 1) := by decide +kernel
theorem dX6_cut_24 : decode cX6_cut 24 = .ok (.iastore, 1) := by decide +kernel
theorem dX6_cut_25 : decode cX6_cut 25 = .ok (.aload_n 0, 1) := by decide +kernel
theorem dX6_cut_26 : decode cX6_cut 26 = .ok (.getfield 19, 3) := by decide +kernel
theorem dX6_cut_29 : decode cX6_cut 29 = .ok (.iload 4, 2) := by decide +kernel
theorem dX6_cut_31 : decode cX6_cut 31 = .ok (.iconst 0, 1) := by decide +kernel
theorem dX6_cut_32 : decode cX6_cut 32 = .ok (.bastore, 1) := by decide +kernel
theorem dX6_cut_33 : decode cX6_cut 33 = .ok (.iinc 4 1, 3) := by decide +kernel
theorem dX6_cut_36 : decode cX6_cut 36 = .ok (.goto (-28), 3) := by decide +kernel
theorem dX6_cut_39 : decode cX6_cut 39 = .ok (.iconst 0, 1) := by decide +kernel
theorem dX6_cut_40 : decode cX6_cut 40 = .ok (.istore 4, 2) := by decide +kernel
theorem dX6_cut_42 : decode cX6_cut 42 = .ok (.iload 4, 2) := by decide +kernel
theorem dX6_cut_44 : decode cX6_cut 44 = .ok (.aload_n 3, 1) := by decide +kernel
theorem dX6_cut_45 : decode cX6_cut 45 = .ok (.getfield 45, 3) := by decide +kernel
theorem dX6_cut_48 : decode cX6_cut 48 = .ok (.if_icmp .ge 109, 3) := by decide +kernel
theorem dX6_cut_51 : decode cX6_cut 51 = .ok (.aload_n 3, 1) := by decide +kernel
theorem dX6_cut_52 : decode cX6_cut 52 = .ok (.getfield 50, 3) := by decide +kernel
theorem dX6_cut_55 : decode cX6_cut 55 = .ok (.iload 4, 2) := by decide +kernel
theorem dX6_cut_57 : decode cX6_cut 57 = .ok (.iaload, 1) := by decide +kernel
theorem dX6_cut_58 : decode cX6_cut 58 = .ok (.istore 5, 2) := by decide +kernel
theorem dX6_cut_60 : decode cX6_cut 60 = .ok (.iload 4, 2) := by decide +kernel
theorem dX6_cut_62 : decode cX6_cut 62 = .ok (.ifCond .ne 7, 3) := by decide +kernel
theorem dX6_cut_65 : decode cX6_cut 65 = .ok (.iconst (-1), 1) := by decide +kernel
theorem dX6_cut_66 : decode cX6_cut 66 = .ok (.goto 12, 3) := by decide +kernel
theorem dX6_cut_69 : decode cX6_cut 69 = .ok (.aload_n 3, 1) := by decide +kernel
theorem dX6_cut_70 : decode cX6_cut 70 = .ok (.getfield 50, 3) := by decide +kernel
theorem dX6_cut_73 : decode cX6_cut 73 = .ok (.iload 4, 2) := by decide +kernel
theorem dX6_cut_75 : decode cX6_cut 75 = .ok (.iconst 1, 1) := by decide +kernel
theorem dX6_cut_76 : decode cX6_cut 76 = .ok (.isub, 1) := by decide +kernel
theorem dX6_cut_77 : decode cX6_cut 77 = .ok (.iaload, 1) := by decide +kernel
theorem dX6_cut_78 : decode cX6_cut 78 = .ok (.istore 6, 2) := by decide +kernel
theorem dX6_cut_80 : decode cX6_cut 80 = .ok (.iload 6, 2) := by decide +kernel
theorem dX6_cut_82 : decode cX6_cut 82 = .ok (.ifCond .lt 61, 3) := by decide +kernel
theorem dX6_cut_85 : decode cX6_cut 85 = .ok (.aload_n 3, 1) := by decide +kernel
theorem dX6_cut_86 : decode cX6_cut 86 = .ok (.getfield 53, 3) := by decide +kernel
theorem dX6_cut_89 : decode cX6_cut 89 = .ok (.iload 6, 2) := by decide +kernel
theorem dX6_cut_91 : decode cX6_cut 91 = .ok (.iaload, 1) := by decide +kernel
theorem dX6_cut_92 : decode cX6_cut 92 = .ok (.aload_n 3, 1) := by decide +kernel
theorem dX6_cut_93 : decode cX6_cut 93 = .ok (.getfield 53, 3) := by decide +kernel
theorem dX6_cut_96 : decode cX6_cut 96 = .ok (.iload 5, 2) := by decide +kernel
theorem dX6_cut_98 : decode cX6_cut 98 = .ok (.iaload, 1) := by decide +kernel
theorem dX6_cut_99 : decode cX6_cut 99 = .ok (.if_icmp .ne 44, 3) := by decide +kernel
theorem dX6_cut_102 : decode cX6_cut 102 = .ok (.aload_n 0, 1) := by decide +kernel
theorem dX6_cut_103 : decode cX6_cut 103 = .ok (.aload_n 1, 1) := by decide +kernel
theorem dX6_cut_104 : decode cX6_cut 104 = .ok (.aload_n 2, 1) := by decide +kernel
theorem dX6_cut_105 : decode cX6_cut 105 = .ok (.iload 6, 2) := by decide +kernel
theorem dX6_cut_107 : decode cX6_cut 107 = .ok (.iload 5, 2) := by decide +kernel
theorem dX6_cut_109 : decode cX6_cut 109 = .ok (.invokevirtual 56, 3) := by decide +kernel
theorem dX6_cut_112 : decode cX6_cut 112 = .ok (.ifCond .ne 31, 3) := by decide +kernel
theorem dX6_cut_115 : decode cX6_cut 115 = .ok (.aload_n 0, 1) := by decide +kernel
theorem dX6_cut_116 : decode cX6_cut 116 = .ok (.getfield 19, 3) := by decide +kernel
theorem dX6_cut_119 : decode cX6_cut 119 = .ok (.iload 6, 2) := by decide +kernel
theorem dX6_cut_121 : decode cX6_cut 121 = .ok (.aload_n 0, 1) := by decide +kernel
theorem dX6_cut_122 : decode cX6_cut 122 = .ok (.aload_n 1, 1) := by decide +kernel
theorem dX6_cut_123 : decode cX6_cut 123 = .ok (.aload_n 2, 1) := by decide +kernel
theorem dX6_cut_124 : decode cX6_cut 124 = .ok (.iload 6, 2) := by decide +kernel
theorem dX6_cut_126 : decode cX6_cut 126 = .ok (.iload 5, 2) := by decide +kernel
theorem dX6_cut_128 : decode cX6_cut 128 = .ok (.invokevirtual 60, 3) := by decide +kernel
theorem dX6_cut_131 : decode cX6_cut 131 = .ok (.bastore, 1) := by decide +kernel
theorem dX6_cut_132 : decode cX6_cut 132 = .ok (.aload_n 0, 1) := by decide +kernel
theorem dX6_cut_133 : decode cX6_cut 133 = .ok (.aload_n 1, 1) := by decide +kernel
theorem dX6_cut_134 : decode cX6_cut 134 = .ok (.aload_n 2, 1) := by decide +kernel
theorem dX6_cut_135 : decode cX6_cut 135 = .ok (.iload 5, 2) := by decide +kernel
theorem dX6_cut_137 : decode cX6_cut 137 = .ok (.invokevirtual 63, 3) := by decide +kernel
theorem dX6_cut_140 : decode cX6_cut 140 = .ok (.goto 11, 3) := by decide +kernel
theorem dX6_cut_143 : decode cX6_cut 143 = .ok (.aload_n 0, 1) := by decide +kernel
theorem dX6_cut_144 : decode cX6_cut 144 = .ok (.aload_n 1, 1) := by decide +kernel
theorem dX6_cut_145 : decode cX6_cut 145 = .ok (.aload_n 2, 1) := by decide +kernel
theorem dX6_cut_146 : decode cX6_cut 146 = .ok (.iload 5, 2) := by decide +kernel
theorem dX6_cut_148 : decode cX6_cut 148 = .ok (.invokevirtual 67, 3) := by decide +kernel
theorem dX6_cut_151 : decode cX6_cut 151 = .ok (.iinc 4 1, 3) := by decide +kernel
theorem dX6_cut_154 : decode cX6_cut 154 = .ok (.goto (-112), 3) := by decide +kernel
theorem dX6_cut_157 : decode cX6_cut 157 = .ok (.return_, 1) := by decide +kernel
theorem dX6_gap_0 : decode cX6_gap 0 = .ok (.aload_n 2, 1) := by decide +kernel
theorem dX6_gap_1 : decode cX6_gap 1 = .ok (.getfield 70, 3) := by decide +kernel
theorem dX6_gap_4 : decode cX6_gap 4 = .ok (.iload 4, 2) := by decide +kernel
theorem dX6_gap_6 : decode cX6_gap 6 = .ok (.laload, 1) := by decide +kernel
theorem dX6_gap_7 : decode cX6_gap 7 = .ok (.aload_n 2, 1) := by decide +kernel
theorem dX6_gap_8 : decode cX6_gap 8 = .ok (.getfield 70, 3) := by decide +kernel
theorem dX6_gap_11 : decode cX6_gap 11 = .ok (.iload_n 3, 1) := by decide +kernel
theorem dX6_gap_12 : decode cX6_gap 12 = .ok (.laload, 1) := by decide +kernel
theorem dX6_gap_13 : decode cX6_gap 13 = .ok (.aload_n 1, 1) := by decide +kernel
theorem dX6_gap_14 : decode cX6_gap 14 = .ok (.getfield 75, 3) := by decide +kernel
theorem dX6_gap_17 : decode cX6_gap 17 = .ok (.iload_n 3, 1) := by decide +kernel
theorem dX6_gap_18 : decode cX6_gap 18 = .ok (.laload, 1) := by decide +kernel
theorem dX6_gap_19 : decode cX6_gap 19 = .ok (.ladd, 1) := by decide +kernel
theorem dX6_gap_20 : decode cX6_gap 20 = .ok (.lsub, 1) := by decide +kernel
theorem dX6_gap_21 : decode cX6_gap 21 = .ok (.lreturn, 1) := by decide +kernel
theorem dX6_isCut_0 : decode cX6_isCut 0 = .ok (.aload_n 0, 1) := by decide +kernel
theorem dX6_isCut_1 : decode cX6_isCut 1 = .ok (.aload_n 1, 1) := by decide +kernel
theorem dX6_isCut_2 : decode cX6_isCut 2 = .ok (.aload_n 2, 1) := by decide +kernel
theorem dX6_isCut_3 : decode cX6_isCut 3 = .ok (.iload_n 3, 1) := by decide +kernel
theorem dX6_isCut_4 : decode cX6_isCut 4 = .ok (.iload 4, 2) := by decide +kernel
theorem dX6_isCut_6 : decode cX6_isCut 6 = .ok (.invokevirtual 78, 3) := by decide +kernel
theorem dX6_isCut_9 : decode cX6_isCut 9 = .ok (.ldc2_w 82, 3) := by decide +kernel
theorem dX6_isCut_12 : decode cX6_isCut 12 = .ok (.aload_n 1, 1) := by decide +kernel
theorem dX6_isCut_13 : decode cX6_isCut 13 = .ok (.getfield 84, 3) := by decide +kernel
theorem dX6_isCut_16 : decode cX6_isCut 16 = .ok (.iload_n 3, 1) := by decide +kernel
theorem dX6_isCut_17 : decode cX6_isCut 17 = .ok (.iaload, 1) := by decide +kernel
theorem dX6_isCut_18 : decode cX6_isCut 18 = .ok (.i2l, 1) := by decide +kernel
theorem dX6_isCut_19 : decode cX6_isCut 19 = .ok (.lmul, 1) := by decide +kernel
theorem dX6_isCut_20 : decode cX6_isCut 20 = .ok (.lcmp, 1) := by decide +kernel
theorem dX6_isCut_21 : decode cX6_isCut 21 = .ok (.ifCond .lt 7, 3) := by decide +kernel
theorem dX6_isCut_24 : decode cX6_isCut 24 = .ok (.iconst 1, 1) := by decide +kernel
theorem dX6_isCut_25 : decode cX6_isCut 25 = .ok (.goto 4, 3) := by decide +kernel
theorem dX6_isCut_28 : decode cX6_isCut 28 = .ok (.iconst 0, 1) := by decide +kernel
theorem dX6_isCut_29 : decode cX6_isCut 29 = .ok (.ireturn, 1) := by decide +kernel
theorem dX6_isSpace_0 : decode cX6_isSpace 0 = .ok (.aload_n 0, 1) := by decide +kernel
theorem dX6_isSpace_1 : decode cX6_isSpace 1 = .ok (.aload_n 1, 1) := by decide +kernel
theorem dX6_isSpace_2 : decode cX6_isSpace 2 = .ok (.aload_n 2, 1) := by decide +kernel
theorem dX6_isSpace_3 : decode cX6_isSpace 3 = .ok (.iload_n 3, 1) := by decide +kernel
theorem dX6_isSpace_4 : decode cX6_isSpace 4 = .ok (.iload 4, 2) := by decide +kernel
theorem dX6_isSpace_6 : decode cX6_isSpace 6 = .ok (.invokevirtual 78, 3) := by decide +kernel
theorem dX6_isSpace_9 : decode cX6_isSpace 9 = .ok (.lstore 5, 2) := by decide +kernel
theorem dX6_isSpace_11 : decode cX6_isSpace 11 = .ok (.lload 5, 2) := by decide +kernel
theorem dX6_isSpace_13 : decode cX6_isSpace 13 = .ok (.lconst 0, 1) := by decide +kernel
theorem dX6_isSpace_14 : decode cX6_isSpace 14 = .ok (.lcmp, 1) := by decide +kernel
theorem dX6_isSpace_15 : decode cX6_isSpace 15 = .ok (.ifCond .le 36, 3) := by decide +kernel
theorem dX6_isSpace_18 : decode cX6_isSpace 18 = .ok (.aload_n 1, 1) := by decide +kernel
theorem dX6_isSpace_19 : decode cX6_isSpace 19 = .ok (.getfield 75, 3) := by decide +kernel
theorem dX6_isSpace_22 : decode cX6_isSpace 22 = .ok (.iload_n 3, 1) := by decide +kernel
theorem dX6_isSpace_23 : decode cX6_isSpace 23 = .ok (.laload, 1) := by decide +kernel
theorem dX6_isSpace_24 : decode cX6_isSpace 24 = .ok (.lconst 0, 1) := by decide +kernel
theorem dX6_isSpace_25 : decode cX6_isSpace 25 = .ok (.lcmp, 1) := by decide +kernel
theorem dX6_isSpace_26 : decode cX6_isSpace 26 = .ok (.ifCond .le 25, 3) := by decide +kernel
theorem dX6_isSpace_29 : decode cX6_isSpace 29 = .ok (.lload 5, 2) := by decide +kernel
theorem dX6_isSpace_31 : decode cX6_isSpace 31 = .ok (.aload_n 1, 1) := by decide +kernel
theorem dX6_isSpace_32 : decode cX6_isSpace 32 = .ok (.getfield 75, 3) := by decide +kernel
theorem dX6_isSpace_35 : decode cX6_isSpace 35 = .ok (.iload_n 3, 1) := by decide +kernel
theorem dX6_isSpace_36 : decode cX6_isSpace 36 = .ok (.laload, 1) := by decide +kernel
theorem dX6_isSpace_37 : decode cX6_isSpace 37 = .ok (.invokestatic 85, 3) := by decide +kernel
theorem dX6_isSpace_40 : decode cX6_isSpace 40 = .ok (.ldc2_w 89, 3) := by decide +kernel
theorem dX6_isSpace_43 : decode cX6_isSpace 43 = .ok (.lcmp, 1) := by decide +kernel
theorem dX6_isSpace_44 : decode cX6_isSpace 44 = .ok (.ifCond .lt 7, 3) := by decide +kernel
theorem dX6_isSpace_47 : decode cX6_isSpace 47 = .ok (.iconst 1, 1) := by decide +kernel
theorem dX6_isSpace_48 : decode cX6_isSpace 48 = .ok (.goto 4, 3) := by decide +kernel
theorem dX6_isSpace_51 : decode cX6_isSpace 51 = .ok (.iconst 0, 1) := by decide +kernel
theorem dX6_isSpace_52 : decode cX6_isSpace 52 = .ok (.ireturn, 1) := by decide +kernel
theorem dX6_open_0 : decode cX6_open 0 = .ok (.aload_n 0, 1) := by decide +kernel
theorem dX6_open_1 : decode cX6_open 1 = .ok (.getfield 9, 3) := by decide +kernel
theorem dX6_open_4 : decode cX6_open 4 = .ok (.sipush 200, 3) := by decide +kernel
theorem dX6_open_7 : decode cX6_open 7 = .ok (.if_icmp .lt 4, 3) := by decide +kernel
theorem dX6_open_10 : decode cX6_open 10 = .ok (.return_, 1) := by decide +kernel
theorem dX6_open_11 : decode cX6_open 11 = .ok (.aload_n 0, 1) := by decide +kernel
theorem dX6_open_12 : decode cX6_open 12 = .ok (.getfield 9, 3) := by decide +kernel
theorem dX6_open_15 : decode cX6_open 15 = .ok (.istore 4, 2) := by decide +kernel
theorem dX6_open_17 : decode cX6_open 17 = .ok (.aload_n 0, 1) := by decide +kernel
theorem dX6_open_18 : decode cX6_open 18 = .ok (.getfield 23, 3) := by decide +kernel
theorem dX6_open_21 : decode cX6_open 21 = .ok (.iload 4, 2) := by decide +kernel
theorem dX6_open_23 : decode cX6_open 23 = .ok (.aload_n 1, 1) := by decide +kernel
theorem dX6_open_24 : decode cX6_open 24 = .ok (.getfield 91, 3) := by decide +kernel
theorem dX6_open_27 : decode cX6_open 27 = .ok (.iload_n 3, 1) := by decide +kernel
theorem dX6_open_28 : decode cX6_open 28 = .ok (.baload, 1) := by decide +kernel
theorem dX6_open_29 : decode cX6_open 29 = .ok (.bastore, 1) := by decide +kernel
theorem dX6_open_30 : decode cX6_open 30 = .ok (.aload_n 0, 1) := by decide +kernel
theorem dX6_open_31 : decode cX6_open 31 = .ok (.getfield 26, 3) := by decide +kernel
theorem dX6_open_34 : decode cX6_open 34 = .ok (.iload 4, 2) := by decide +kernel
theorem dX6_open_36 : decode cX6_open 36 = .ok (.aload_n 2, 1) := by decide +kernel
theorem dX6_open_37 : decode cX6_open 37 = .ok (.getfield 70, 3) := by decide +kernel
theorem dX6_open_40 : decode cX6_open 40 = .ok (.iload_n 3, 1) := by decide +kernel
theorem dX6_open_41 : decode cX6_open 41 = .ok (.laload, 1) := by decide +kernel
theorem dX6_open_42 : decode cX6_open 42 = .ok (.lastore, 1) := by decide +kernel
theorem dX6_open_43 : decode cX6_open 43 = .ok (.aload_n 0, 1) := by decide +kernel
theorem dX6_open_44 : decode cX6_open 44 = .ok (.getfield 30, 3) := by decide +kernel
theorem dX6_open_47 : decode cX6_open 47 = .ok (.iload 4, 2) := by decide +kernel
theorem dX6_open_49 : decode cX6_open 49 = .ok (.aload_n 2, 1) := by decide +kernel
theorem dX6_open_50 : decode cX6_open 50 = .ok (.getfield 70, 3) := by decide +kernel
theorem dX6_open_53 : decode cX6_open 53 = .ok (.iload_n 3, 1) := by decide +kernel
theorem dX6_open_54 : decode cX6_open 54 = .ok (.laload, 1) := by decide +kernel
theorem dX6_open_55 : decode cX6_open 55 = .ok (.aload_n 1, 1) := by decide +kernel
theorem dX6_open_56 : decode cX6_open 56 = .ok (.getfield 75, 3) := by decide +kernel
theorem dX6_open_59 : decode cX6_open 59 = .ok (.iload_n 3, 1) := by decide +kernel
theorem dX6_open_60 : decode cX6_open 60 = .ok (.laload, 1) := by decide +kernel
theorem dX6_open_61 : decode cX6_open 61 = .ok (.ladd, 1) := by decide +kernel
theorem dX6_open_62 : decode cX6_open 62 = .ok (.lastore, 1) := by decide +kernel
theorem dX6_open_63 : decode cX6_open 63 = .ok (.aload_n 0, 1) := by decide +kernel
theorem dX6_open_64 : decode cX6_open 64 = .ok (.getfield 33, 3) := by decide +kernel
theorem dX6_open_67 : decode cX6_open 67 = .ok (.iload 4, 2) := by decide +kernel
theorem dX6_open_69 : decode cX6_open 69 = .ok (.aload_n 2, 1) := by decide +kernel
theorem dX6_open_70 : decode cX6_open 70 = .ok (.getfield 92, 3) := by decide +kernel
theorem dX6_open_73 : decode cX6_open 73 = .ok (.iload_n 3, 1) := by decide +kernel
theorem dX6_open_74 : decode cX6_open 74 = .ok (.laload, 1) := by decide +kernel
theorem dX6_open_75 : decode cX6_open 75 = .ok (.aload_n 1, 1) := by decide +kernel
theorem dX6_open_76 : decode cX6_open 76 = .ok (.getfield 84, 3) := by decide +kernel
theorem dX6_open_79 : decode cX6_open 79 = .ok (.iload_n 3, 1) := by decide +kernel
theorem dX6_open_80 : decode cX6_open 80 = .ok (.iaload, 1) := by decide +kernel
theorem dX6_open_81 : decode cX6_open 81 = .ok (.i2l, 1) := by decide +kernel
theorem dX6_open_82 : decode cX6_open 82 = .ok (.ladd, 1) := by decide +kernel
theorem dX6_open_83 : decode cX6_open 83 = .ok (.lneg, 1) := by decide +kernel
theorem dX6_open_84 : decode cX6_open 84 = .ok (.lastore, 1) := by decide +kernel
theorem dX6_open_85 : decode cX6_open 85 = .ok (.aload_n 0, 1) := by decide +kernel
theorem dX6_open_86 : decode cX6_open 86 = .ok (.getfield 36, 3) := by decide +kernel
theorem dX6_open_89 : decode cX6_open 89 = .ok (.iload 4, 2) := by decide +kernel
theorem dX6_open_91 : decode cX6_open 91 = .ok (.aload_n 2, 1) := by decide +kernel
theorem dX6_open_92 : decode cX6_open 92 = .ok (.getfield 92, 3) := by decide +kernel
theorem dX6_open_95 : decode cX6_open 95 = .ok (.iload_n 3, 1) := by decide +kernel
theorem dX6_open_96 : decode cX6_open 96 = .ok (.laload, 1) := by decide +kernel
theorem dX6_open_97 : decode cX6_open 97 = .ok (.lneg, 1) := by decide +kernel
theorem dX6_open_98 : decode cX6_open 98 = .ok (.lastore, 1) := by decide +kernel
theorem dX6_open_99 : decode cX6_open 99 = .ok (.aload_n 0, 1) := by decide +kernel
theorem dX6_open_100 : decode cX6_open 100 = .ok (.getfield 39, 3) := by decide +kernel
theorem dX6_open_103 : decode cX6_open 103 = .ok (.iload 4, 2) := by decide +kernel
theorem dX6_open_105 : decode cX6_open 105 = .ok (.aload_n 1, 1) := by decide +kernel
theorem dX6_open_106 : decode cX6_open 106 = .ok (.getfield 84, 3) := by decide +kernel
theorem dX6_open_109 : decode cX6_open 109 = .ok (.iload_n 3, 1) := by decide +kernel
theorem dX6_open_110 : decode cX6_open 110 = .ok (.iaload, 1) := by decide +kernel
theorem dX6_open_111 : decode cX6_open 111 = .ok (.iastore, 1) := by decide +kernel
theorem dX6_open_112 : decode cX6_open 112 = .ok (.aload_n 0, 1) := by decide +kernel
theorem dX6_open_113 : decode cX6_open 113 = .ok (.getfield 15, 3) := by decide +kernel
theorem dX6_open_116 : decode cX6_open 116 = .ok (.iload_n 3, 1) := by decide +kernel
theorem dX6_open_117 : decode cX6_open 117 = .ok (.iload 4, 2) := by decide +kernel
theorem dX6_open_119 : decode cX6_open 119 = .ok (.iastore, 1) := by decide +kernel
theorem dX6_open_120 : decode cX6_open 120 = .ok (.aload_n 0, 1) := by decide +kernel
theorem dX6_open_121 : decode cX6_open 121 = .ok (.iload 4, 2) := by decide +kernel
theorem dX6_open_123 : decode cX6_open 123 = .ok (.iconst 1, 1) := by decide +kernel
theorem dX6_open_124 : decode cX6_open 124 = .ok (.iadd, 1) := by decide +kernel
theorem dX6_open_125 : decode cX6_open 125 = .ok (.putfield 9, 3) := by decide +kernel
theorem dX6_open_128 : decode cX6_open 128 = .ok (.return_, 1) := by decide +kernel
theorem dX6_widen_0 : decode cX6_widen 0 = .ok (.aload_n 0, 1) := by decide +kernel
theorem dX6_widen_1 : decode cX6_widen 1 = .ok (.getfield 9, 3) := by decide +kernel
theorem dX6_widen_4 : decode cX6_widen 4 = .ok (.iconst 1, 1) := by decide +kernel
theorem dX6_widen_5 : decode cX6_widen 5 = .ok (.isub, 1) := by decide +kernel
theorem dX6_widen_6 : decode cX6_widen 6 = .ok (.istore 4, 2) := by decide +kernel
theorem dX6_widen_8 : decode cX6_widen 8 = .ok (.iload 4, 2) := by decide +kernel
theorem dX6_widen_10 : decode cX6_widen 10 = .ok (.ifCond .ge 4, 3) := by decide +kernel
theorem dX6_widen_13 : decode cX6_widen 13 = .ok (.return_, 1) := by decide +kernel
theorem dX6_widen_14 : decode cX6_widen 14 = .ok (.aload_n 0, 1) := by decide +kernel
theorem dX6_widen_15 : decode cX6_widen 15 = .ok (.getfield 30, 3) := by decide +kernel
theorem dX6_widen_18 : decode cX6_widen 18 = .ok (.iload 4, 2) := by decide +kernel
theorem dX6_widen_20 : decode cX6_widen 20 = .ok (.aload_n 0, 1) := by decide +kernel
theorem dX6_widen_21 : decode cX6_widen 21 = .ok (.getfield 30, 3) := by decide +kernel
theorem dX6_widen_24 : decode cX6_widen 24 = .ok (.iload 4, 2) := by decide +kernel
theorem dX6_widen_26 : decode cX6_widen 26 = .ok (.laload, 1) := by decide +kernel
theorem dX6_widen_27 : decode cX6_widen 27 = .ok (.aload_n 2, 1) := by decide +kernel
theorem dX6_widen_28 : decode cX6_widen 28 = .ok (.getfield 70, 3) := by decide +kernel
theorem dX6_widen_31 : decode cX6_widen 31 = .ok (.iload_n 3, 1) := by decide +kernel
theorem dX6_widen_32 : decode cX6_widen 32 = .ok (.laload, 1) := by decide +kernel
theorem dX6_widen_33 : decode cX6_widen 33 = .ok (.aload_n 1, 1) := by decide +kernel
theorem dX6_widen_34 : decode cX6_widen 34 = .ok (.getfield 75, 3) := by decide +kernel
theorem dX6_widen_37 : decode cX6_widen 37 = .ok (.iload_n 3, 1) := by decide +kernel
theorem dX6_widen_38 : decode cX6_widen 38 = .ok (.laload, 1) := by decide +kernel
theorem dX6_widen_39 : decode cX6_widen 39 = .ok (.ladd, 1) := by decide +kernel
theorem dX6_widen_40 : decode cX6_widen 40 = .ok (.invokestatic 95, 3) := by decide +kernel
theorem dX6_widen_43 : decode cX6_widen 43 = .ok (.lastore, 1) := by decide +kernel
theorem dX6_widen_44 : decode cX6_widen 44 = .ok (.aload_n 0, 1) := by decide +kernel
theorem dX6_widen_45 : decode cX6_widen 45 = .ok (.getfield 33, 3) := by decide +kernel
theorem dX6_widen_48 : decode cX6_widen 48 = .ok (.iload 4, 2) := by decide +kernel
theorem dX6_widen_50 : decode cX6_widen 50 = .ok (.aload_n 0, 1) := by decide +kernel
theorem dX6_widen_51 : decode cX6_widen 51 = .ok (.getfield 33, 3) := by decide +kernel
theorem dX6_widen_54 : decode cX6_widen 54 = .ok (.iload 4, 2) := by decide +kernel
theorem dX6_widen_56 : decode cX6_widen 56 = .ok (.laload, 1) := by decide +kernel
theorem dX6_widen_57 : decode cX6_widen 57 = .ok (.aload_n 2, 1) := by decide +kernel
theorem dX6_widen_58 : decode cX6_widen 58 = .ok (.getfield 92, 3) := by decide +kernel
theorem dX6_widen_61 : decode cX6_widen 61 = .ok (.iload_n 3, 1) := by decide +kernel
theorem dX6_widen_62 : decode cX6_widen 62 = .ok (.laload, 1) := by decide +kernel
theorem dX6_widen_63 : decode cX6_widen 63 = .ok (.aload_n 1, 1) := by decide +kernel
theorem dX6_widen_64 : decode cX6_widen 64 = .ok (.getfield 84, 3) := by decide +kernel
theorem dX6_widen_67 : decode cX6_widen 67 = .ok (.iload_n 3, 1) := by decide +kernel
theorem dX6_widen_68 : decode cX6_widen 68 = .ok (.iaload, 1) := by decide +kernel
theorem dX6_widen_69 : decode cX6_widen 69 = .ok (.i2l, 1) := by decide +kernel
theorem dX6_widen_70 : decode cX6_widen 70 = .ok (.ladd, 1) := by decide +kernel
theorem dX6_widen_71 : decode cX6_widen 71 = .ok (.lneg, 1) := by decide +kernel
theorem dX6_widen_72 : decode cX6_widen 72 = .ok (.invokestatic 100, 3) := by decide +kernel
theorem dX6_widen_75 : decode cX6_widen 75 = .ok (.lastore, 1) := by decide +kernel
theorem dX6_widen_76 : decode cX6_widen 76 = .ok (.aload_n 0, 1) := by decide +kernel
theorem dX6_widen_77 : decode cX6_widen 77 = .ok (.getfield 36, 3) := by decide +kernel
theorem dX6_widen_80 : decode cX6_widen 80 = .ok (.iload 4, 2) := by decide +kernel
theorem dX6_widen_82 : decode cX6_widen 82 = .ok (.aload_n 0, 1) := by decide +kernel
theorem dX6_widen_83 : decode cX6_widen 83 = .ok (.getfield 36, 3) := by decide +kernel
theorem dX6_widen_86 : decode cX6_widen 86 = .ok (.iload 4, 2) := by decide +kernel
theorem dX6_widen_88 : decode cX6_widen 88 = .ok (.laload, 1) := by decide +kernel
theorem dX6_widen_89 : decode cX6_widen 89 = .ok (.aload_n 2, 1) := by decide +kernel
theorem dX6_widen_90 : decode cX6_widen 90 = .ok (.getfield 92, 3) := by decide +kernel
theorem dX6_widen_93 : decode cX6_widen 93 = .ok (.iload_n 3, 1) := by decide +kernel
theorem dX6_widen_94 : decode cX6_widen 94 = .ok (.laload, 1) := by decide +kernel
theorem dX6_widen_95 : decode cX6_widen 95 = .ok (.lneg, 1) := by decide +kernel
theorem dX6_widen_96 : decode cX6_widen 96 = .ok (.invokestatic 95, 3) := by decide +kernel
theorem dX6_widen_99 : decode cX6_widen 99 = .ok (.lastore, 1) := by decide +kernel
theorem dX6_widen_100 : decode cX6_widen 100 = .ok (.aload_n 0, 1) := by decide +kernel
theorem dX6_widen_101 : decode cX6_widen 101 = .ok (.getfield 39, 3) := by decide +kernel
theorem dX6_widen_104 : decode cX6_widen 104 = .ok (.iload 4, 2) := by decide +kernel
theorem dX6_widen_106 : decode cX6_widen 106 = .ok (.aload_n 0, 1) := by decide +kernel
theorem dX6_widen_107 : decode cX6_widen 107 = .ok (.getfield 39, 3) := by decide +kernel
theorem dX6_widen_110 : decode cX6_widen 110 = .ok (.iload 4, 2) := by decide +kernel
theorem dX6_widen_112 : decode cX6_widen 112 = .ok (.iaload, 1) := by decide +kernel
theorem dX6_widen_113 : decode cX6_widen 113 = .ok (.aload_n 1, 1) := by decide +kernel
theorem dX6_widen_114 : decode cX6_widen 114 = .ok (.getfield 84, 3) := by decide +kernel
theorem dX6_widen_117 : decode cX6_widen 117 = .ok (.iload_n 3, 1) := by decide +kernel
theorem dX6_widen_118 : decode cX6_widen 118 = .ok (.iaload, 1) := by decide +kernel
theorem dX6_widen_119 : decode cX6_widen 119 = .ok (.invokestatic 103, 3) := by decide +kernel
theorem dX6_widen_122 : decode cX6_widen 122 = .ok (.iastore, 1) := by decide +kernel
theorem dX6_widen_123 : decode cX6_widen 123 = .ok (.aload_n 0, 1) := by decide +kernel
theorem dX6_widen_124 : decode cX6_widen 124 = .ok (.getfield 15, 3) := by decide +kernel
theorem dX6_widen_127 : decode cX6_widen 127 = .ok (.iload_n 3, 1) := by decide +kernel
theorem dX6_widen_128 : decode cX6_widen 128 = .ok (.iload 4, 2) := by decide +kernel
theorem dX6_widen_130 : decode cX6_widen 130 = .ok (.iastore, 1) := by decide +kernel
theorem dX6_widen_131 : decode cX6_widen 131 = .ok (.return_, 1) := by decide +kernel
theorem dX7_init_0 : decode cX7_init 0 = .ok (.aload_n 0, 1) := by decide +kernel
theorem dX7_init_1 : decode cX7_init 1 = .ok (.invokespecial 3, 3) := by decide +kernel
theorem dX7_init_4 : decode cX7_init 4 = .ok (.aload_n 0, 1) := by decide +kernel
theorem dX7_init_5 : decode cX7_init 5 = .ok (.iconst 0, 1) := by decide +kernel
theorem dX7_init_6 : decode cX7_init 6 = .ok (.putfield 9, 3) := by decide +kernel
theorem dX7_init_9 : decode cX7_init 9 = .ok (.aload_n 0, 1) := by decide +kernel
theorem dX7_init_10 : decode cX7_init 10 = .ok (.sipush 200, 3) := by decide +kernel
theorem dX7_init_13 : decode cX7_init 13 = .ok (.newarray .int, 2) := by decide +kernel
theorem dX7_init_15 : decode cX7_init 15 = .ok (.putfield 15, 3) := by decide +kernel
theorem dX7_init_18 : decode cX7_init 18 = .ok (.aload_n 0, 1) := by decide +kernel
theorem dX7_init_19 : decode cX7_init 19 = .ok (.sipush 200, 3) := by decide +kernel
theorem dX7_init_22 : decode cX7_init 22 = .ok (.newarray .long, 2) := by decide +kernel
theorem dX7_init_24 : decode cX7_init 24 = .ok (.putfield 19, 3) := by decide +kernel
theorem dX7_init_27 : decode cX7_init 27 = .ok (.aload_n 0, 1) := by decide +kernel
theorem dX7_init_28 : decode cX7_init 28 = .ok (.sipush 200, 3) := by decide +kernel
theorem dX7_init_31 : decode cX7_init 31 = .ok (.newarray .long, 2) := by decide +kernel
theorem dX7_init_33 : decode cX7_init 33 = .ok (.putfield 23, 3) := by decide +kernel
theorem dX7_init_36 : decode cX7_init 36 = .ok (.aload_n 0, 1) := by decide +kernel
theorem dX7_init_37 : decode cX7_init 37 = .ok (.sipush 200, 3) := by decide +kernel
theorem dX7_init_40 : decode cX7_init 40 = .ok (.newarray .long, 2) := by decide +kernel
theorem dX7_init_42 : decode cX7_init 42 = .ok (.putfield 26, 3) := by decide +kernel
theorem dX7_init_45 : decode cX7_init 45 = .ok (.aload_n 0, 1) := by decide +kernel
theorem dX7_init_46 : decode cX7_init 46 = .ok (.sipush 200, 3) := by decide +kernel
theorem dX7_init_49 : decode cX7_init 49 = .ok (.newarray .int, 2) := by decide +kernel
theorem dX7_init_51 : decode cX7_init 51 = .ok (.putfield 29, 3) := by decide +kernel
theorem dX7_init_54 : decode cX7_init 54 = .ok (.aload_n 0, 1) := by decide +kernel
theorem dX7_init_55 : decode cX7_init 55 = .ok (.sipush 200, 3) := by decide +kernel
theorem dX7_init_58 : decode cX7_init 58 = .ok (.newarray .boolean, 2) := by decide +kernel
theorem dX7_init_60 : decode cX7_init 60 = .ok (.putfield 32, 3) := by decide +kernel
theorem dX7_init_63 : decode cX7_init 63 = .ok (.aload_n 0, 1) := by decide +kernel
theorem dX7_init_64 : decode cX7_init 64 = .ok (.sipush 200, 3) := by decide +kernel
theorem dX7_init_67 : decode cX7_init 67 = .ok (.newarray .int, 2) := by decide +kernel
theorem dX7_init_69 : decode cX7_init 69 = .ok (.putfield 36, 3) := by decide +kernel
theorem dX7_init_72 : decode cX7_init 72 = .ok (.return_, 1) := by decide +kernel
theorem dX7_add_0 : decode cX7_add 0 = .ok (.aload_n 0, 1) := by decide +kernel
theorem dX7_add_1 : decode cX7_add 1 = .ok (.getfield 9, 3) := by decide +kernel
theorem dX7_add_4 : decode cX7_add 4 = .ok (.sipush 200, 3) := by decide +kernel
theorem dX7_add_7 : decode cX7_add 7 = .ok (.if_icmp .lt 5, 3) := by decide +kernel
theorem dX7_add_10 : decode cX7_add 10 = .ok (.iconst (-1), 1) := by decide +kernel
theorem dX7_add_11 : decode cX7_add 11 = .ok (.ireturn, 1) := by decide +kernel
theorem dX7_add_12 : decode cX7_add 12 = .ok (.aload_n 0, 1) := by decide +kernel
theorem dX7_add_13 : decode cX7_add 13 = .ok (.getfield 9, 3) := by decide +kernel
theorem dX7_add_16 : decode cX7_add 16 = .ok (.istore 9, 2) := by decide +kernel
theorem dX7_add_18 : decode cX7_add 18 = .ok (.aload_n 0, 1) := by decide +kernel
theorem dX7_add_19 : decode cX7_add 19 = .ok (.getfield 15, 3) := by decide +kernel
theorem dX7_add_22 : decode cX7_add 22 = .ok (.iload 9, 2) := by decide +kernel
theorem dX7_add_24 : decode cX7_add 24 = .ok (.iload_n 1, 1) := by decide +kernel
theorem dX7_add_25 : decode cX7_add 25 = .ok (.iastore, 1) := by decide +kernel
theorem dX7_add_26 : decode cX7_add 26 = .ok (.aload_n 0, 1) := by decide +kernel
theorem dX7_add_27 : decode cX7_add 27 = .ok (.getfield 19, 3) := by decide +kernel
theorem dX7_add_30 : decode cX7_add 30 = .ok (.iload 9, 2) := by decide +kernel
theorem dX7_add_32 : decode cX7_add 32 = .ok (.lload_n 2, 1) := by decide +kernel
theorem dX7_add_33 : decode cX7_add 33 = .ok (.lastore, 1) := by decide +kernel
theorem dX7_add_34 : decode cX7_add 34 = .ok (.aload_n 0, 1) := by decide +kernel
theorem dX7_add_35 : decode cX7_add 35 = .ok (.getfield 23, 3) := by decide +kernel
theorem dX7_add_38 : decode cX7_add 38 = .ok (.iload 9, 2) := by decide +kernel
theorem dX7_add_40 : decode cX7_add 40 = .ok (.lload 4, 2) := by decide +kernel
theorem dX7_add_42 : decode cX7_add 42 = .ok (.lastore, 1) := by decide +kernel
theorem dX7_add_43 : decode cX7_add 43 = .ok (.aload_n 0, 1) := by decide +kernel
theorem dX7_add_44 : decode cX7_add 44 = .ok (.getfield 26, 3) := by decide +kernel
theorem dX7_add_47 : decode cX7_add 47 = .ok (.iload 9, 2) := by decide +kernel
theorem dX7_add_49 : decode cX7_add 49 = .ok (.lload 6, 2) := by decide +kernel
theorem dX7_add_51 : decode cX7_add 51 = .ok (.lastore, 1) := by decide +kernel
theorem dX7_add_52 : decode cX7_add 52 = .ok (.aload_n 0, 1) := by decide +kernel
theorem dX7_add_53 : decode cX7_add 53 = .ok (.getfield 29, 3) := by decide +kernel
theorem dX7_add_56 : decode cX7_add 56 = .ok (.iload 9, 2) := by decide +kernel
theorem dX7_add_58 : decode cX7_add 58 = .ok (.iload 8, 2) := by decide +kernel
theorem dX7_add_60 : decode cX7_add 60 = .ok (.iastore, 1) := by decide +kernel
theorem dX7_add_61 : decode cX7_add 61 = .ok (.aload_n 0, 1) := by decide +kernel
theorem dX7_add_62 : decode cX7_add 62 = .ok (.getfield 36, 3) := by decide +kernel
theorem dX7_add_65 : decode cX7_add 65 = .ok (.iload 9, 2) := by decide +kernel
theorem dX7_add_67 : decode cX7_add 67 = .ok (.iconst (-1), 1) := by decide +kernel
theorem dX7_add_68 : decode cX7_add 68 = .ok (.iastore, 1) := by decide +kernel
theorem dX7_add_69 : decode cX7_add 69 = .ok (.aload_n 0, 1) := by decide +kernel
theorem dX7_add_70 : decode cX7_add 70 = .ok (.iload 9, 2) := by decide +kernel
theorem dX7_add_72 : decode cX7_add 72 = .ok (.iconst 1, 1) := by decide +kernel
theorem dX7_add_73 : decode cX7_add 73 = .ok (.iadd, 1) := by decide +kernel
theorem dX7_add_74 : decode cX7_add 74 = .ok (.putfield 9, 3) := by decide +kernel
theorem dX7_add_77 : decode cX7_add 77 = .ok (.iload 9, 2) := by decide +kernel
theorem dX7_add_79 : decode cX7_add 79 = .ok (.ireturn, 1) := by decide +kernel
theorem dX8_init_0 : decode cX8_init 0 = .ok (.aload_n 0, 1) := by decide +kernel
theorem dX8_init_1 : decode cX8_init 1 = .ok (.invokespecial 3, 3) := by decide +kernel
theorem dX8_init_4 : decode cX8_init 4 = .ok (.aload_n 0, 1) := by decide +kernel
theorem dX8_init_5 : decode cX8_init 5 = .ok (.new 9, 3) := by decide +kernel
theorem dX8_init_8 : decode cX8_init 8 = .ok (.dup, 1) := by decide +kernel
theorem dX8_init_9 : decode cX8_init 9 = .ok (.invokespecial 11, 3) := by decide +kernel
theorem dX8_init_12 : decode cX8_init 12 = .ok (.putfield 12, 3) := by decide +kernel
theorem dX8_init_15 : decode cX8_init 15 = .ok (.aload_n 0, 1) := by decide +kernel
theorem dX8_init_16 : decode cX8_init 16 = .ok (.new 16, 3) := by decide +kernel
theorem dX8_init_19 : decode cX8_init 19 = .ok (.dup, 1) := by decide +kernel
theorem dX8_init_20 : decode cX8_init 20 = .ok (.invokespecial 18, 3) := by decide +kernel
theorem dX8_init_23 : decode cX8_init 23 = .ok (.putfield 19, 3) := by decide +kernel
theorem dX8_init_26 : decode cX8_init 26 = .ok (.aload_n 0, 1) := by decide +kernel
theorem dX8_init_27 : decode cX8_init 27 = .ok (.new 23, 3) := by decide +kernel
theorem dX8_init_30 : decode cX8_init 30 = .ok (.dup, 1) := by decide +kernel
theorem dX8_init_31 : decode cX8_init 31 = .ok (.invokespecial 25, 3) := by decide +kernel
theorem dX8_init_34 : decode cX8_init 34 = .ok (.putfield 26, 3) := by decide +kernel
theorem dX8_init_37 : decode cX8_init 37 = .ok (.aload_n 0, 1) := by decide +kernel
theorem dX8_init_38 : decode cX8_init 38 = .ok (.new 30, 3) := by decide +kernel
theorem dX8_init_41 : decode cX8_init 41 = .ok (.dup, 1) := by decide +kernel
theorem dX8_init_42 : decode cX8_init 42 = .ok (.invokespecial 32, 3) := by decide +kernel
theorem dX8_init_45 : decode cX8_init 45 = .ok (.putfield 33, 3) := by decide +kernel
theorem dX8_init_48 : decode cX8_init 48 = .ok (.aload_n 0, 1) := by decide +kernel
theorem dX8_init_49 : decode cX8_init 49 = .ok (.new 37, 3) := by decide +kernel
theorem dX8_init_52 : decode cX8_init 52 = .ok (.dup, 1) := by decide +kernel
theorem dX8_init_53 : decode cX8_init 53 = .ok (.invokespecial 39, 3) := by decide +kernel
theorem dX8_init_56 : decode cX8_init 56 = .ok (.putfield 40, 3) := by decide +kernel
theorem dX8_init_59 : decode cX8_init 59 = .ok (.aload_n 0, 1) := by decide +kernel
theorem dX8_init_60 : decode cX8_init 60 = .ok (.new 44, 3) := by decide +kernel
theorem dX8_init_63 : decode cX8_init 63 = .ok (.dup, 1) := by decide +kernel
theorem dX8_init_64 : decode cX8_init 64 = .ok (.invokespecial 46, 3) := by decide +kernel
theorem dX8_init_67 : decode cX8_init 67 = .ok (.putfield 47, 3) := by decide +kernel
theorem dX8_init_70 : decode cX8_init 70 = .ok (.aload_n 0, 1) := by decide +kernel
theorem dX8_init_71 : decode cX8_init 71 = .ok (.new 51, 3) := by decide +kernel
theorem dX8_init_74 : decode cX8_init 74 = .ok (.dup, 1) := by decide +kernel
theorem dX8_init_75 : decode cX8_init 75 = .ok (.invokespecial 53, 3) := by decide +kernel
theorem dX8_init_78 : decode cX8_init 78 = .ok (.putfield 54, 3) := by decide +kernel
theorem dX8_init_81 : decode cX8_init 81 = .ok (.aload_n 0, 1) := by decide +kernel
theorem dX8_init_82 : decode cX8_init 82 = .ok (.new 58, 3) := by decide +kernel
theorem dX8_init_85 : decode cX8_init 85 = .ok (.dup, 1) := by decide +kernel
theorem dX8_init_86 : decode cX8_init 86 = .ok (.invokespecial 60, 3) := by decide +kernel
theorem dX8_init_89 : decode cX8_init 89 = .ok (.putfield 61, 3) := by decide +kernel
theorem dX8_init_92 : decode cX8_init 92 = .ok (.aload_n 0, 1) := by decide +kernel
theorem dX8_init_93 : decode cX8_init 93 = .ok (.iconst 1, 1) := by decide +kernel
theorem dX8_init_94 : decode cX8_init 94 = .ok (.putfield 65, 3) := by decide +kernel
theorem dX8_init_97 : decode cX8_init 97 = .ok (.return_, 1) := by decide +kernel
theorem dX8_sign_0 : decode cX8_sign 0 = .ok (.iload_n 1, 1) := by decide +kernel
theorem dX8_sign_1 : decode cX8_sign 1 = .ok (.ifCond .lt 59, 3) := by decide +kernel
theorem dX8_sign_4 : decode cX8_sign 4 = .ok (.iload_n 1, 1) := by decide +kernel
theorem dX8_sign_5 : decode cX8_sign 5 = .ok (.sipush 256, 3) := by decide +kernel
theorem dX8_sign_8 : decode cX8_sign 8 = .ok (.if_icmp .ge 52, 3) := by decide +kernel
theorem dX8_sign_11 : decode cX8_sign 11 = .ok (.lload_n 2, 1) := by decide +kernel
theorem dX8_sign_12 : decode cX8_sign 12 = .ok (.invokestatic 69, 3) := by decide +kernel
theorem dX8_sign_15 : decode cX8_sign 15 = .ok (.ifCond .eq 45, 3) := by decide +kernel
theorem dX8_sign_18 : decode cX8_sign 18 = .ok (.lload 4, 2) := by decide +kernel
theorem dX8_sign_20 : decode cX8_sign 20 = .ok (.invokestatic 69, 3) := by decide +kernel
theorem dX8_sign_23 : decode cX8_sign 23 = .ok (.ifCond .eq 37, 3) := by decide +kernel
theorem dX8_sign_26 : decode cX8_sign 26 = .ok (.lload 6, 2) := by decide +kernel
theorem dX8_sign_28 : decode cX8_sign 28 = .ok (.lconst 0, 1) := by decide +kernel
theorem dX8_sign_29 : decode cX8_sign 29 = .ok (.lcmp, 1) := by decide +kernel
theorem dX8_sign_30 : decode cX8_sign 30 = .ok (.ifCond .lt 30, 3) := by decide +kernel
theorem dX8_sign_33 : decode cX8_sign 33 = .ok (.lload 6, 2) := by decide +kernel
theorem dX8_sign_35 : decode cX8_sign 35 = .ok (.ldc2_w 73, 3) := by decide +kernel
theorem dX8_sign_38 : decode cX8_sign 38 = .ok (.lcmp, 1) := by decide +kernel
theorem dX8_sign_39 : decode cX8_sign 39 = .ok (.ifCond .gt 21, 3) := by decide +kernel
theorem dX8_sign_42 : decode cX8_sign 42 = .ok (.iload 8, 2) := by decide +kernel
theorem dX8_sign_44 : decode cX8_sign 44 = .ok (.iconst 1, 1) := by decide +kernel
theorem dX8_sign_45 : decode cX8_sign 45 = .ok (.if_icmp .lt 15, 3) := by decide +kernel
theorem dX8_sign_48 : decode cX8_sign 48 = .ok (.iload 8, 2) := by decide +kernel
theorem dX8_sign_50 : decode cX8_sign 50 = .ok (.sipush 1000, 3) := by decide +kernel
theorem dX8_sign_53 : decode cX8_sign 53 = .ok (.if_icmp .gt 7, 3) := by decide +kernel
theorem dX8_sign_56 : decode cX8_sign 56 = .ok (.iconst 1, 1) := by decide +kernel
theorem dX8_sign_57 : decode cX8_sign 57 = .ok (.goto 4, 3) := by decide +kernel
theorem dX8_sign_60 : decode cX8_sign 60 = .ok (.iconst 0, 1) := by decide +kernel
theorem dX8_sign_61 : decode cX8_sign 61 = .ok (.istore 9, 2) := by decide +kernel
theorem dX8_sign_63 : decode cX8_sign 63 = .ok (.iload 9, 2) := by decide +kernel
theorem dX8_sign_65 : decode cX8_sign 65 = .ok (.ifCond .ne 13, 3) := by decide +kernel
theorem dX8_sign_68 : decode cX8_sign 68 = .ok (.new 75, 3) := by decide +kernel
theorem dX8_sign_71 : decode cX8_sign 71 = .ok (.dup, 1) := by decide +kernel
theorem dX8_sign_72 : decode cX8_sign 72 = .ok (.ldc 77, 2) := by decide +kernel
theorem dX8_sign_74 : decode cX8_sign 74 = .ok (.invokespecial 79, 3) := by decide +kernel
theorem dX8_sign_77 : decode cX8_sign 77 = .ok (.athrow, 1) := by decide +kernel
theorem dX8_sign_78 : decode cX8_sign 78 = .ok (.aload_n 0, 1) := by decide +kernel
theorem dX8_sign_79 : decode cX8_sign 79 = .ok (.getfield 12, 3) := by decide +kernel
theorem dX8_sign_82 : decode cX8_sign 82 = .ok (.getfield 82, 3) := by decide +kernel
theorem dX8_sign_85 : decode cX8_sign 85 = .ok (.sipush 200, 3) := by decide +kernel
theorem dX8_sign_88 : decode cX8_sign 88 = .ok (.if_icmp .lt 13, 3) := by decide +kernel
theorem dX8_sign_91 : decode cX8_sign 91 = .ok (.new 86, 3) := by decide +kernel
theorem dX8_sign_94 : decode cX8_sign 94 = .ok (.dup, 1) := by decide +kernel
theorem dX8_sign_95 : decode cX8_sign 95 = .ok (.ldc 88, 2) := by decide +kernel
theorem dX8_sign_97 : decode cX8_sign 97 = .ok (.invokespecial 90, 3) := by decide +kernel
theorem dX8_sign_100 : decode cX8_sign 100 = .ok (.athrow, 1) := by decide +kernel
theorem dX8_sign_101 : decode cX8_sign 101 = .ok (.aload_n 0, 1) := by decide +kernel
theorem dX8_sign_102 : decode cX8_sign 102 = .ok (.iconst 0, 1) := by decide +kernel
theorem dX8_sign_103 : decode cX8_sign 103 = .ok (.putfield 65, 3) := by decide +kernel
theorem dX8_sign_106 : decode cX8_sign 106 = .ok (.aload_n 0, 1) := by decide +kernel
theorem dX8_sign_107 : decode cX8_sign 107 = .ok (.getfield 12, 3) := by decide +kernel
theorem dX8_sign_110 : decode cX8_sign 110 = .ok (.iload_n 1, 1) := by decide +kernel
theorem dX8_sign_111 : decode cX8_sign 111 = .ok (.lload_n 2, 1) := by decide +kernel
theorem dX8_sign_112 : decode cX8_sign 112 = .ok (.lload 4, 2) := by decide +kernel
theorem dX8_sign_114 : decode cX8_sign 114 = .ok (.lload 6, 2) := by decide +kernel
theorem dX8_sign_116 : decode cX8_sign 116 = .ok (.iload 8, 2) := by decide +kernel
theorem dX8_sign_118 : decode cX8_sign 118 = .ok (.invokevirtual 91, 3) := by decide +kernel
theorem dX8_sign_121 : decode cX8_sign 121 = .ok (.ireturn, 1) := by decide +kernel
theorem dX8_turn_0 : decode cX8_turn 0 = .ok (.aload_n 0, 1) := by decide +kernel
theorem dX8_turn_1 : decode cX8_turn 1 = .ok (.iload_n 1, 1) := by decide +kernel
theorem dX8_turn_2 : decode cX8_turn 2 = .ok (.invokevirtual 95, 3) := by decide +kernel
theorem dX8_turn_5 : decode cX8_turn 5 = .ok (.aload_n 0, 1) := by decide +kernel
theorem dX8_turn_6 : decode cX8_turn 6 = .ok (.getfield 12, 3) := by decide +kernel
theorem dX8_turn_9 : decode cX8_turn 9 = .ok (.getfield 99, 3) := by decide +kernel
theorem dX8_turn_12 : decode cX8_turn 12 = .ok (.iload_n 1, 1) := by decide +kernel
theorem dX8_turn_13 : decode cX8_turn 13 = .ok (.baload, 1) := by decide +kernel
theorem dX8_turn_14 : decode cX8_turn 14 = .ok (.istore_n 3, 1) := by decide +kernel
theorem dX8_turn_15 : decode cX8_turn 15 = .ok (.aload_n 0, 1) := by decide +kernel
theorem dX8_turn_16 : decode cX8_turn 16 = .ok (.getfield 12, 3) := by decide +kernel
theorem dX8_turn_19 : decode cX8_turn 19 = .ok (.getfield 99, 3) := by decide +kernel
theorem dX8_turn_22 : decode cX8_turn 22 = .ok (.iload_n 1, 1) := by decide +kernel
theorem dX8_turn_23 : decode cX8_turn 23 = .ok (.iload_n 2, 1) := by decide +kernel
theorem dX8_turn_24 : decode cX8_turn 24 = .ok (.bastore, 1) := by decide +kernel
theorem dX8_turn_25 : decode cX8_turn 25 = .ok (.aload_n 0, 1) := by decide +kernel
theorem dX8_turn_26 : decode cX8_turn 26 = .ok (.iconst 0, 1) := by decide +kernel
theorem dX8_turn_27 : decode cX8_turn 27 = .ok (.putfield 65, 3) := by decide +kernel
theorem dX8_turn_30 : decode cX8_turn 30 = .ok (.iload_n 3, 1) := by decide +kernel
theorem dX8_turn_31 : decode cX8_turn 31 = .ok (.ifCond .eq 7, 3) := by decide +kernel
theorem dX8_turn_34 : decode cX8_turn 34 = .ok (.iconst 1, 1) := by decide +kernel
theorem dX8_turn_35 : decode cX8_turn 35 = .ok (.goto 4, 3) := by decide +kernel
theorem dX8_turn_38 : decode cX8_turn 38 = .ok (.iconst 0, 1) := by decide +kernel
theorem dX8_turn_39 : decode cX8_turn 39 = .ok (.ireturn, 1) := by decide +kernel
theorem dX8_map_0 : decode cX8_map 0 = .ok (.iload_n 1, 1) := by decide +kernel
theorem dX8_map_1 : decode cX8_map 1 = .ok (.ifCond .lt 19, 3) := by decide +kernel
theorem dX8_map_4 : decode cX8_map 4 = .ok (.iload_n 1, 1) := by decide +kernel
theorem dX8_map_5 : decode cX8_map 5 = .ok (.iconst 4, 1) := by decide +kernel
theorem dX8_map_6 : decode cX8_map 6 = .ok (.if_icmp .ge 14, 3) := by decide +kernel
theorem dX8_map_9 : decode cX8_map 9 = .ok (.iload_n 2, 1) := by decide +kernel
theorem dX8_map_10 : decode cX8_map 10 = .ok (.ifCond .lt 10, 3) := by decide +kernel
theorem dX8_map_13 : decode cX8_map 13 = .ok (.iload_n 2, 1) := by decide +kernel
theorem dX8_map_14 : decode cX8_map 14 = .ok (.sipush 256, 3) := by decide +kernel
theorem dX8_map_17 : decode cX8_map 17 = .ok (.if_icmp .lt 13, 3) := by decide +kernel
theorem dX8_map_20 : decode cX8_map 20 = .ok (.new 103, 3) := by decide +kernel
theorem dX8_map_23 : decode cX8_map 23 = .ok (.dup, 1) := by decide +kernel
theorem dX8_map_24 : decode cX8_map 24 = .ok (.ldc 105, 2) := by decide +kernel
theorem dX8_map_26 : decode cX8_map 26 = .ok (.invokespecial 107, 3) := by decide +kernel
theorem dX8_map_29 : decode cX8_map 29 = .ok (.athrow, 1) := by decide +kernel
theorem dX8_map_30 : decode cX8_map 30 = .ok (.iload_n 3, 1) := by decide +kernel
theorem dX8_map_31 : decode cX8_map 31 = .ok (.iload 4, 2) := by decide +kernel
theorem dX8_map_33 : decode cX8_map 33 = .ok (.invokestatic 108, 3) := by decide +kernel
theorem dX8_map_36 : decode cX8_map 36 = .ok (.ifCond .ne 13, 3) := by decide +kernel
theorem dX8_map_39 : decode cX8_map 39 = .ok (.new 75, 3) := by decide +kernel
theorem dX8_map_42 : decode cX8_map 42 = .ok (.dup, 1) := by decide +kernel
theorem dX8_map_43 : decode cX8_map 43 = .ok (.ldc 112, 2) := by decide +kernel
theorem dX8_map_45 : decode cX8_map 45 = .ok (.invokespecial 79, 3) := by decide +kernel
theorem dX8_map_48 : decode cX8_map 48 = .ok (.athrow, 1) := by decide +kernel
theorem dX8_map_49 : decode cX8_map 49 = .ok (.aload_n 0, 1) := by decide +kernel
theorem dX8_map_50 : decode cX8_map 50 = .ok (.getfield 19, 3) := by decide +kernel
theorem dX8_map_53 : decode cX8_map 53 = .ok (.iload_n 1, 1) := by decide +kernel
theorem dX8_map_54 : decode cX8_map 54 = .ok (.iload_n 2, 1) := by decide +kernel
theorem dX8_map_55 : decode cX8_map 55 = .ok (.invokevirtual 114, 3) := by decide +kernel
theorem dX8_map_58 : decode cX8_map 58 = .ok (.istore 5, 2) := by decide +kernel
theorem dX8_map_60 : decode cX8_map 60 = .ok (.aload_n 0, 1) := by decide +kernel
theorem dX8_map_61 : decode cX8_map 61 = .ok (.getfield 19, 3) := by decide +kernel
theorem dX8_map_64 : decode cX8_map 64 = .ok (.iload_n 1, 1) := by decide +kernel
theorem dX8_map_65 : decode cX8_map 65 = .ok (.iload_n 2, 1) := by decide +kernel
theorem dX8_map_66 : decode cX8_map 66 = .ok (.iload_n 3, 1) := by decide +kernel
theorem dX8_map_67 : decode cX8_map 67 = .ok (.iload 4, 2) := by decide +kernel
theorem dX8_map_69 : decode cX8_map 69 = .ok (.invokevirtual 118, 3) := by decide +kernel
theorem dX8_map_72 : decode cX8_map 72 = .ok (.aload_n 0, 1) := by decide +kernel
theorem dX8_map_73 : decode cX8_map 73 = .ok (.iconst 0, 1) := by decide +kernel
theorem dX8_map_74 : decode cX8_map 74 = .ok (.putfield 65, 3) := by decide +kernel
theorem dX8_map_77 : decode cX8_map 77 = .ok (.iload 5, 2) := by decide +kernel
theorem dX8_map_79 : decode cX8_map 79 = .ok (.ireturn, 1) := by decide +kernel
theorem dX8_tag_0 : decode cX8_tag 0 = .ok (.aload_n 0, 1) := by decide +kernel
theorem dX8_tag_1 : decode cX8_tag 1 = .ok (.iload_n 1, 1) := by decide +kernel
theorem dX8_tag_2 : decode cX8_tag 2 = .ok (.invokevirtual 95, 3) := by decide +kernel
theorem dX8_tag_5 : decode cX8_tag 5 = .ok (.iload_n 2, 1) := by decide +kernel
theorem dX8_tag_6 : decode cX8_tag 6 = .ok (.iconst (-1), 1) := by decide +kernel
theorem dX8_tag_7 : decode cX8_tag 7 = .ok (.if_icmp .lt 9, 3) := by decide +kernel
theorem dX8_tag_10 : decode cX8_tag 10 = .ok (.iload_n 2, 1) := by decide +kernel
theorem dX8_tag_11 : decode cX8_tag 11 = .ok (.bipush 100, 2) := by decide +kernel
theorem dX8_tag_13 : decode cX8_tag 13 = .ok (.if_icmp .le 13, 3) := by decide +kernel
theorem dX8_tag_16 : decode cX8_tag 16 = .ok (.new 75, 3) := by decide +kernel
theorem dX8_tag_19 : decode cX8_tag 19 = .ok (.dup, 1) := by decide +kernel
theorem dX8_tag_20 : decode cX8_tag 20 = .ok (.ldc 122, 2) := by decide +kernel
theorem dX8_tag_22 : decode cX8_tag 22 = .ok (.invokespecial 79, 3) := by decide +kernel
theorem dX8_tag_25 : decode cX8_tag 25 = .ok (.athrow, 1) := by decide +kernel
theorem dX8_tag_26 : decode cX8_tag 26 = .ok (.aload_n 0, 1) := by decide +kernel
theorem dX8_tag_27 : decode cX8_tag 27 = .ok (.getfield 12, 3) := by decide +kernel
theorem dX8_tag_30 : decode cX8_tag 30 = .ok (.getfield 124, 3) := by decide +kernel
theorem dX8_tag_33 : decode cX8_tag 33 = .ok (.iload_n 1, 1) := by decide +kernel
theorem dX8_tag_34 : decode cX8_tag 34 = .ok (.iaload, 1) := by decide +kernel
theorem dX8_tag_35 : decode cX8_tag 35 = .ok (.istore_n 3, 1) := by decide +kernel
theorem dX8_tag_36 : decode cX8_tag 36 = .ok (.aload_n 0, 1) := by decide +kernel
theorem dX8_tag_37 : decode cX8_tag 37 = .ok (.getfield 12, 3) := by decide +kernel
theorem dX8_tag_40 : decode cX8_tag 40 = .ok (.getfield 124, 3) := by decide +kernel
theorem dX8_tag_43 : decode cX8_tag 43 = .ok (.iload_n 1, 1) := by decide +kernel
theorem dX8_tag_44 : decode cX8_tag 44 = .ok (.iload_n 2, 1) := by decide +kernel
theorem dX8_tag_45 : decode cX8_tag 45 = .ok (.iastore, 1) := by decide +kernel
theorem dX8_tag_46 : decode cX8_tag 46 = .ok (.aload_n 0, 1) := by decide +kernel
theorem dX8_tag_47 : decode cX8_tag 47 = .ok (.iconst 0, 1) := by decide +kernel
theorem dX8_tag_48 : decode cX8_tag 48 = .ok (.putfield 65, 3) := by decide +kernel
theorem dX8_tag_51 : decode cX8_tag 51 = .ok (.iload_n 3, 1) := by decide +kernel
theorem dX8_tag_52 : decode cX8_tag 52 = .ok (.ireturn, 1) := by decide +kernel
theorem dX8_length_0 : decode cX8_length 0 = .ok (.aload_n 0, 1) := by decide +kernel
theorem dX8_length_1 : decode cX8_length 1 = .ok (.invokevirtual 128, 3) := by decide +kernel
theorem dX8_length_4 : decode cX8_length 4 = .ok (.aload_n 0, 1) := by decide +kernel
theorem dX8_length_5 : decode cX8_length 5 = .ok (.getfield 54, 3) := by decide +kernel
theorem dX8_length_8 : decode cX8_length 8 = .ok (.getfield 131, 3) := by decide +kernel
theorem dX8_length_11 : decode cX8_length 11 = .ok (.ireturn, 1) := by decide +kernel
theorem dX8_letter_0 : decode cX8_letter 0 = .ok (.aload_n 0, 1) := by decide +kernel
theorem dX8_letter_1 : decode cX8_letter 1 = .ok (.invokevirtual 128, 3) := by decide +kernel
theorem dX8_letter_4 : decode cX8_letter 4 = .ok (.aload_n 0, 1) := by decide +kernel
theorem dX8_letter_5 : decode cX8_letter 5 = .ok (.iload_n 1, 1) := by decide +kernel
theorem dX8_letter_6 : decode cX8_letter 6 = .ok (.aload_n 0, 1) := by decide +kernel
theorem dX8_letter_7 : decode cX8_letter 7 = .ok (.getfield 54, 3) := by decide +kernel
theorem dX8_letter_10 : decode cX8_letter 10 = .ok (.getfield 131, 3) := by decide +kernel
theorem dX8_letter_13 : decode cX8_letter 13 = .ok (.invokevirtual 132, 3) := by decide +kernel
theorem dX8_letter_16 : decode cX8_letter 16 = .ok (.aload_n 0, 1) := by decide +kernel
theorem dX8_letter_17 : decode cX8_letter 17 = .ok (.getfield 54, 3) := by decide +kernel
theorem dX8_letter_20 : decode cX8_letter 20 = .ok (.getfield 136, 3) := by decide +kernel
theorem dX8_letter_23 : decode cX8_letter 23 = .ok (.iload_n 1, 1) := by decide +kernel
theorem dX8_letter_24 : decode cX8_letter 24 = .ok (.iaload, 1) := by decide +kernel
theorem dX8_letter_25 : decode cX8_letter 25 = .ok (.ireturn, 1) := by decide +kernel
theorem dX8_from_0 : decode cX8_from 0 = .ok (.aload_n 0, 1) := by decide +kernel
theorem dX8_from_1 : decode cX8_from 1 = .ok (.invokevirtual 128, 3) := by decide +kernel
theorem dX8_from_4 : decode cX8_from 4 = .ok (.aload_n 0, 1) := by decide +kernel
theorem dX8_from_5 : decode cX8_from 5 = .ok (.iload_n 1, 1) := by decide +kernel
theorem dX8_from_6 : decode cX8_from 6 = .ok (.aload_n 0, 1) := by decide +kernel
theorem dX8_from_7 : decode cX8_from 7 = .ok (.getfield 54, 3) := by decide +kernel
theorem dX8_from_10 : decode cX8_from 10 = .ok (.getfield 131, 3) := by decide +kernel
theorem dX8_from_13 : decode cX8_from 13 = .ok (.invokevirtual 132, 3) := by decide +kernel
theorem dX8_from_16 : decode cX8_from 16 = .ok (.aload_n 0, 1) := by decide +kernel
theorem dX8_from_17 : decode cX8_from 17 = .ok (.getfield 54, 3) := by decide +kernel
theorem dX8_from_20 : decode cX8_from 20 = .ok (.getfield 139, 3) := by decide +kernel
theorem dX8_from_23 : decode cX8_from 23 = .ok (.iload_n 1, 1) := by decide +kernel
theorem dX8_from_24 : decode cX8_from 24 = .ok (.iaload, 1) := by decide +kernel
theorem dX8_from_25 : decode cX8_from 25 = .ok (.ireturn, 1) := by decide +kernel
theorem dX8_line_0 : decode cX8_line 0 = .ok (.aload_n 0, 1) := by decide +kernel
theorem dX8_line_1 : decode cX8_line 1 = .ok (.iload_n 1, 1) := by decide +kernel
theorem dX8_line_2 : decode cX8_line 2 = .ok (.invokevirtual 95, 3) := by decide +kernel
theorem dX8_line_5 : decode cX8_line 5 = .ok (.aload_n 0, 1) := by decide +kernel
theorem dX8_line_6 : decode cX8_line 6 = .ok (.invokevirtual 128, 3) := by decide +kernel
theorem dX8_line_9 : decode cX8_line 9 = .ok (.aload_n 0, 1) := by decide +kernel
theorem dX8_line_10 : decode cX8_line 10 = .ok (.getfield 33, 3) := by decide +kernel
theorem dX8_line_13 : decode cX8_line 13 = .ok (.getfield 142, 3) := by decide +kernel
theorem dX8_line_16 : decode cX8_line 16 = .ok (.iload_n 1, 1) := by decide +kernel
theorem dX8_line_17 : decode cX8_line 17 = .ok (.iaload, 1) := by decide +kernel
theorem dX8_line_18 : decode cX8_line 18 = .ok (.ireturn, 1) := by decide +kernel
theorem dX8_block_0 : decode cX8_block 0 = .ok (.aload_n 0, 1) := by decide +kernel
theorem dX8_block_1 : decode cX8_block 1 = .ok (.iload_n 1, 1) := by decide +kernel
theorem dX8_block_2 : decode cX8_block 2 = .ok (.invokevirtual 95, 3) := by decide +kernel
theorem dX8_block_5 : decode cX8_block 5 = .ok (.aload_n 0, 1) := by decide +kernel
theorem dX8_block_6 : decode cX8_block 6 = .ok (.invokevirtual 128, 3) := by decide +kernel
theorem dX8_block_9 : decode cX8_block 9 = .ok (.aload_n 0, 1) := by decide +kernel
theorem dX8_block_10 : decode cX8_block 10 = .ok (.getfield 47, 3) := by decide +kernel
theorem dX8_block_13 : decode cX8_block 13 = .ok (.aload_n 0, 1) := by decide +kernel
theorem dX8_block_14 : decode cX8_block 14 = .ok (.getfield 40, 3) := by decide +kernel
theorem dX8_block_17 : decode cX8_block 17 = .ok (.iload_n 1, 1) := by decide +kernel
theorem dX8_block_18 : decode cX8_block 18 = .ok (.invokevirtual 145, 3) := by decide +kernel
theorem dX8_block_21 : decode cX8_block 21 = .ok (.ireturn, 1) := by decide +kernel
theorem dX8_twice_0 : decode cX8_twice 0 = .ok (.aload_n 0, 1) := by decide +kernel
theorem dX8_twice_1 : decode cX8_twice 1 = .ok (.iload_n 1, 1) := by decide +kernel
theorem dX8_twice_2 : decode cX8_twice 2 = .ok (.invokevirtual 95, 3) := by decide +kernel
theorem dX8_twice_5 : decode cX8_twice 5 = .ok (.aload_n 0, 1) := by decide +kernel
theorem dX8_twice_6 : decode cX8_twice 6 = .ok (.invokevirtual 128, 3) := by decide +kernel
theorem dX8_twice_9 : decode cX8_twice 9 = .ok (.aload_n 0, 1) := by decide +kernel
theorem dX8_twice_10 : decode cX8_twice 10 = .ok (.getfield 26, 3) := by decide +kernel
theorem dX8_twice_13 : decode cX8_twice 13 = .ok (.getfield 149, 3) := by decide +kernel
theorem dX8_twice_16 : decode cX8_twice 16 = .ok (.iload_n 1, 1) := by decide +kernel
theorem dX8_twice_17 : decode cX8_twice 17 = .ok (.iaload, 1) := by decide +kernel
theorem dX8_twice_18 : decode cX8_twice 18 = .ok (.ireturn, 1) := by decide +kernel
theorem dX8_space_0 : decode cX8_space 0 = .ok (.aload_n 0, 1) := by decide +kernel
theorem dX8_space_1 : decode cX8_space 1 = .ok (.iload_n 1, 1) := by decide +kernel
theorem dX8_space_2 : decode cX8_space 2 = .ok (.invokevirtual 95, 3) := by decide +kernel
theorem dX8_space_5 : decode cX8_space 5 = .ok (.aload_n 0, 1) := by decide +kernel
theorem dX8_space_6 : decode cX8_space 6 = .ok (.invokevirtual 128, 3) := by decide +kernel
theorem dX8_space_9 : decode cX8_space 9 = .ok (.aload_n 0, 1) := by decide +kernel
theorem dX8_space_10 : decode cX8_space 10 = .ok (.getfield 40, 3) := by decide +kernel
theorem dX8_space_13 : decode cX8_space 13 = .ok (.getfield 152, 3) := by decide +kernel
theorem dX8_space_16 : decode cX8_space 16 = .ok (.iload_n 1, 1) := by decide +kernel
theorem dX8_space_17 : decode cX8_space 17 = .ok (.baload, 1) := by decide +kernel
theorem dX8_space_18 : decode cX8_space 18 = .ok (.ireturn, 1) := by decide +kernel
theorem dX8_share_0 : decode cX8_share 0 = .ok (.lload_n 3, 1) := by decide +kernel
theorem dX8_share_1 : decode cX8_share 1 = .ok (.lconst 0, 1) := by decide +kernel
theorem dX8_share_2 : decode cX8_share 2 = .ok (.lcmp, 1) := by decide +kernel
theorem dX8_share_3 : decode cX8_share 3 = .ok (.ifCond .ne 13, 3) := by decide +kernel
theorem dX8_share_6 : decode cX8_share 6 = .ok (.new 155, 3) := by decide +kernel
theorem dX8_share_9 : decode cX8_share 9 = .ok (.dup, 1) := by decide +kernel
theorem dX8_share_10 : decode cX8_share 10 = .ok (.ldc 157, 2) := by decide +kernel
theorem dX8_share_12 : decode cX8_share 12 = .ok (.invokespecial 159, 3) := by decide +kernel
theorem dX8_share_15 : decode cX8_share 15 = .ok (.athrow, 1) := by decide +kernel
theorem dX8_share_16 : decode cX8_share 16 = .ok (.lload_n 1, 1) := by decide +kernel
theorem dX8_share_17 : decode cX8_share 17 = .ok (.lload_n 3, 1) := by decide +kernel
theorem dX8_share_18 : decode cX8_share 18 = .ok (.invokestatic 160, 3) := by decide +kernel
theorem dX8_share_21 : decode cX8_share 21 = .ok (.lreturn, 1) := by decide +kernel
theorem dX8_word_0 : decode cX8_word 0 = .ok (.aload_n 0, 1) := by decide +kernel
theorem dX8_word_1 : decode cX8_word 1 = .ok (.invokevirtual 128, 3) := by decide +kernel
theorem dX8_word_4 : decode cX8_word 4 = .ok (.iload_n 1, 1) := by decide +kernel
theorem dX8_word_5 : decode cX8_word 5 = .ok (.iconst (-1), 1) := by decide +kernel
theorem dX8_word_6 : decode cX8_word 6 = .ok (.if_icmp .ne 11, 3) := by decide +kernel
theorem dX8_word_9 : decode cX8_word 9 = .ok (.aload_n 0, 1) := by decide +kernel
theorem dX8_word_10 : decode cX8_word 10 = .ok (.getfield 54, 3) := by decide +kernel
theorem dX8_word_13 : decode cX8_word 13 = .ok (.invokevirtual 164, 3) := by decide +kernel
theorem dX8_word_16 : decode cX8_word 16 = .ok (.ireturn, 1) := by decide +kernel
theorem dX8_word_17 : decode cX8_word 17 = .ok (.iload_n 1, 1) := by decide +kernel
theorem dX8_word_18 : decode cX8_word 18 = .ok (.ifCond .lt 12, 3) := by decide +kernel
theorem dX8_word_21 : decode cX8_word 21 = .ok (.iload_n 2, 1) := by decide +kernel
theorem dX8_word_22 : decode cX8_word 22 = .ok (.ifCond .lt 8, 3) := by decide +kernel
theorem dX8_word_25 : decode cX8_word 25 = .ok (.iload_n 2, 1) := by decide +kernel
theorem dX8_word_26 : decode cX8_word 26 = .ok (.iconst 1, 1) := by decide +kernel
theorem dX8_word_27 : decode cX8_word 27 = .ok (.if_icmp .le 13, 3) := by decide +kernel
theorem dX8_word_30 : decode cX8_word 30 = .ok (.new 103, 3) := by decide +kernel
theorem dX8_word_33 : decode cX8_word 33 = .ok (.dup, 1) := by decide +kernel
theorem dX8_word_34 : decode cX8_word 34 = .ok (.ldc 168, 2) := by decide +kernel
theorem dX8_word_36 : decode cX8_word 36 = .ok (.invokespecial 107, 3) := by decide +kernel
theorem dX8_word_39 : decode cX8_word 39 = .ok (.athrow, 1) := by decide +kernel
theorem dX8_word_40 : decode cX8_word 40 = .ok (.aload_n 0, 1) := by decide +kernel
theorem dX8_word_41 : decode cX8_word 41 = .ok (.getfield 54, 3) := by decide +kernel
theorem dX8_word_44 : decode cX8_word 44 = .ok (.iload_n 1, 1) := by decide +kernel
theorem dX8_word_45 : decode cX8_word 45 = .ok (.invokevirtual 170, 3) := by decide +kernel
theorem dX8_word_48 : decode cX8_word 48 = .ok (.istore_n 3, 1) := by decide +kernel
theorem dX8_word_49 : decode cX8_word 49 = .ok (.iload_n 3, 1) := by decide +kernel
theorem dX8_word_50 : decode cX8_word 50 = .ok (.ifCond .ge 13, 3) := by decide +kernel
theorem dX8_word_53 : decode cX8_word 53 = .ok (.new 103, 3) := by decide +kernel
theorem dX8_word_56 : decode cX8_word 56 = .ok (.dup, 1) := by decide +kernel
theorem dX8_word_57 : decode cX8_word 57 = .ok (.ldc 174, 2) := by decide +kernel
theorem dX8_word_59 : decode cX8_word 59 = .ok (.invokespecial 107, 3) := by decide +kernel
theorem dX8_word_62 : decode cX8_word 62 = .ok (.athrow, 1) := by decide +kernel
theorem dX8_word_63 : decode cX8_word 63 = .ok (.iload_n 2, 1) := by decide +kernel
theorem dX8_word_64 : decode cX8_word 64 = .ok (.ifCond .ne 7, 3) := by decide +kernel
theorem dX8_word_67 : decode cX8_word 67 = .ok (.iload_n 3, 1) := by decide +kernel
theorem dX8_word_68 : decode cX8_word 68 = .ok (.goto 13, 3) := by decide +kernel
theorem dX8_word_71 : decode cX8_word 71 = .ok (.aload_n 0, 1) := by decide +kernel
theorem dX8_word_72 : decode cX8_word 72 = .ok (.getfield 54, 3) := by decide +kernel
theorem dX8_word_75 : decode cX8_word 75 = .ok (.iload_n 3, 1) := by decide +kernel
theorem dX8_word_76 : decode cX8_word 76 = .ok (.invokevirtual 176, 3) := by decide +kernel
theorem dX8_word_79 : decode cX8_word 79 = .ok (.iload_n 3, 1) := by decide +kernel
theorem dX8_word_80 : decode cX8_word 80 = .ok (.isub, 1) := by decide +kernel
theorem dX8_word_81 : decode cX8_word 81 = .ok (.ireturn, 1) := by decide +kernel
theorem dX8_find_0 : decode cX8_find 0 = .ok (.iload_n 1, 1) := by decide +kernel
theorem dX8_find_1 : decode cX8_find 1 = .ok (.ifCond .lt 9, 3) := by decide +kernel
theorem dX8_find_4 : decode cX8_find 4 = .ok (.iload_n 1, 1) := by decide +kernel
theorem dX8_find_5 : decode cX8_find 5 = .ok (.ldc 179, 2) := by decide +kernel
theorem dX8_find_7 : decode cX8_find 7 = .ok (.if_icmp .le 13, 3) := by decide +kernel
theorem dX8_find_10 : decode cX8_find 10 = .ok (.new 75, 3) := by decide +kernel
theorem dX8_find_13 : decode cX8_find 13 = .ok (.dup, 1) := by decide +kernel
theorem dX8_find_14 : decode cX8_find 14 = .ok (.ldc 180, 2) := by decide +kernel
theorem dX8_find_16 : decode cX8_find 16 = .ok (.invokespecial 79, 3) := by decide +kernel
theorem dX8_find_19 : decode cX8_find 19 = .ok (.athrow, 1) := by decide +kernel
theorem dX8_find_20 : decode cX8_find 20 = .ok (.iload_n 1, 1) := by decide +kernel
theorem dX8_find_21 : decode cX8_find 21 = .ok (.ifCond .ne 19, 3) := by decide +kernel
theorem dX8_find_24 : decode cX8_find 24 = .ok (.aload_n 0, 1) := by decide +kernel
theorem dX8_find_25 : decode cX8_find 25 = .ok (.invokevirtual 128, 3) := by decide +kernel
theorem dX8_find_28 : decode cX8_find 28 = .ok (.aload_n 0, 1) := by decide +kernel
theorem dX8_find_29 : decode cX8_find 29 = .ok (.getfield 61, 3) := by decide +kernel
theorem dX8_find_32 : decode cX8_find 32 = .ok (.aload_n 0, 1) := by decide +kernel
theorem dX8_find_33 : decode cX8_find 33 = .ok (.getfield 54, 3) := by decide +kernel
theorem dX8_find_36 : decode cX8_find 36 = .ok (.invokevirtual 182, 3) := by decide +kernel
theorem dX8_find_39 : decode cX8_find 39 = .ok (.ireturn, 1) := by decide +kernel
theorem dX8_find_40 : decode cX8_find 40 = .ok (.aload_n 0, 1) := by decide +kernel
theorem dX8_find_41 : decode cX8_find 41 = .ok (.getfield 61, 3) := by decide +kernel
theorem dX8_find_44 : decode cX8_find 44 = .ok (.getfield 186, 3) := by decide +kernel
theorem dX8_find_47 : decode cX8_find 47 = .ok (.bipush 20, 2) := by decide +kernel
theorem dX8_find_49 : decode cX8_find 49 = .ok (.if_icmp .lt 13, 3) := by decide +kernel
theorem dX8_find_52 : decode cX8_find 52 = .ok (.new 86, 3) := by decide +kernel
theorem dX8_find_55 : decode cX8_find 55 = .ok (.dup, 1) := by decide +kernel
theorem dX8_find_56 : decode cX8_find 56 = .ok (.ldc 189, 2) := by decide +kernel
theorem dX8_find_58 : decode cX8_find 58 = .ok (.invokespecial 90, 3) := by decide +kernel
theorem dX8_find_61 : decode cX8_find 61 = .ok (.athrow, 1) := by decide +kernel
theorem dX8_find_62 : decode cX8_find 62 = .ok (.aload_n 0, 1) := by decide +kernel
theorem dX8_find_63 : decode cX8_find 63 = .ok (.getfield 61, 3) := by decide +kernel
theorem dX8_find_66 : decode cX8_find 66 = .ok (.iload_n 1, 1) := by decide +kernel
theorem dX8_find_67 : decode cX8_find 67 = .ok (.invokevirtual 191, 3) := by decide +kernel
theorem dX8_find_70 : decode cX8_find 70 = .ok (.ireturn, 1) := by decide +kernel
theorem dX8_found_0 : decode cX8_found 0 = .ok (.aload_n 0, 1) := by decide +kernel
theorem dX8_found_1 : decode cX8_found 1 = .ok (.iload_n 1, 1) := by decide +kernel
theorem dX8_found_2 : decode cX8_found 2 = .ok (.aload_n 0, 1) := by decide +kernel
theorem dX8_found_3 : decode cX8_found 3 = .ok (.getfield 61, 3) := by decide +kernel
theorem dX8_found_6 : decode cX8_found 6 = .ok (.getfield 194, 3) := by decide +kernel
theorem dX8_found_9 : decode cX8_found 9 = .ok (.invokevirtual 132, 3) := by decide +kernel
theorem dX8_found_12 : decode cX8_found 12 = .ok (.aload_n 0, 1) := by decide +kernel
theorem dX8_found_13 : decode cX8_found 13 = .ok (.getfield 61, 3) := by decide +kernel
theorem dX8_found_16 : decode cX8_found 16 = .ok (.getfield 197, 3) := by decide +kernel
theorem dX8_found_19 : decode cX8_found 19 = .ok (.iload_n 1, 1) := by decide +kernel
theorem dX8_found_20 : decode cX8_found 20 = .ok (.iaload, 1) := by decide +kernel
theorem dX8_found_21 : decode cX8_found 21 = .ok (.ireturn, 1) := by decide +kernel
theorem dX8_area_0 : decode cX8_area 0 = .ok (.aload_n 0, 1) := by decide +kernel
theorem dX8_area_1 : decode cX8_area 1 = .ok (.invokevirtual 128, 3) := by decide +kernel
theorem dX8_area_4 : decode cX8_area 4 = .ok (.iconst 0, 1) := by decide +kernel
theorem dX8_area_5 : decode cX8_area 5 = .ok (.istore 9, 2) := by decide +kernel
theorem dX8_area_7 : decode cX8_area 7 = .ok (.iconst 0, 1) := by decide +kernel
theorem dX8_area_8 : decode cX8_area 8 = .ok (.istore 10, 2) := by decide +kernel
theorem dX8_area_10 : decode cX8_area 10 = .ok (.iload 10, 2) := by decide +kernel
theorem dX8_area_12 : decode cX8_area 12 = .ok (.aload_n 0, 1) := by decide +kernel
theorem dX8_area_13 : decode cX8_area 13 = .ok (.getfield 54, 3) := by decide +kernel
theorem dX8_area_16 : decode cX8_area 16 = .ok (.getfield 131, 3) := by decide +kernel
theorem dX8_area_19 : decode cX8_area 19 = .ok (.if_icmp .ge 67, 3) := by decide +kernel
theorem dX8_area_22 : decode cX8_area 22 = .ok (.aload_n 0, 1) := by decide +kernel
theorem dX8_area_23 : decode cX8_area 23 = .ok (.getfield 54, 3) := by decide +kernel
theorem dX8_area_26 : decode cX8_area 26 = .ok (.getfield 139, 3) := by decide +kernel
theorem dX8_area_29 : decode cX8_area 29 = .ok (.iload 10, 2) := by decide +kernel
theorem dX8_area_31 : decode cX8_area 31 = .ok (.iaload, 1) := by decide +kernel
theorem dX8_area_32 : decode cX8_area 32 = .ok (.istore 11, 2) := by decide +kernel
theorem dX8_area_34 : decode cX8_area 34 = .ok (.iload 11, 2) := by decide +kernel
theorem dX8_area_36 : decode cX8_area 36 = .ok (.ifCond .lt 44, 3) := by decide +kernel
theorem dX8_area_39 : decode cX8_area 39 = .ok (.aload_n 0, 1) := by decide +kernel
theorem dX8_area_40 : decode cX8_area 40 = .ok (.getfield 12, 3) := by decide +kernel
theorem dX8_area_43 : decode cX8_area 43 = .ok (.getfield 200, 3) := by decide +kernel
theorem dX8_area_46 : decode cX8_area 46 = .ok (.iload 11, 2) := by decide +kernel
theorem dX8_area_48 : decode cX8_area 48 = .ok (.laload, 1) := by decide +kernel
theorem dX8_area_49 : decode cX8_area 49 = .ok (.lload_n 1, 1) := by decide +kernel
theorem dX8_area_50 : decode cX8_area 50 = .ok (.lload 5, 2) := by decide +kernel
theorem dX8_area_52 : decode cX8_area 52 = .ok (.invokestatic 204, 3) := by decide +kernel
theorem dX8_area_55 : decode cX8_area 55 = .ok (.ifCond .eq 25, 3) := by decide +kernel
theorem dX8_area_58 : decode cX8_area 58 = .ok (.aload_n 0, 1) := by decide +kernel
theorem dX8_area_59 : decode cX8_area 59 = .ok (.getfield 12, 3) := by decide +kernel
theorem dX8_area_62 : decode cX8_area 62 = .ok (.getfield 208, 3) := by decide +kernel
theorem dX8_area_65 : decode cX8_area 65 = .ok (.iload 11, 2) := by decide +kernel
theorem dX8_area_67 : decode cX8_area 67 = .ok (.laload, 1) := by decide +kernel
theorem dX8_area_68 : decode cX8_area 68 = .ok (.lload_n 3, 1) := by decide +kernel
theorem dX8_area_69 : decode cX8_area 69 = .ok (.lload 7, 2) := by decide +kernel
theorem dX8_area_71 : decode cX8_area 71 = .ok (.invokestatic 204, 3) := by decide +kernel
theorem dX8_area_74 : decode cX8_area 74 = .ok (.ifCond .eq 6, 3) := by decide +kernel
theorem dX8_area_77 : decode cX8_area 77 = .ok (.iinc 9 1, 3) := by decide +kernel
theorem dX8_area_80 : decode cX8_area 80 = .ok (.iinc 10 1, 3) := by decide +kernel
theorem dX8_area_83 : decode cX8_area 83 = .ok (.goto (-73), 3) := by decide +kernel
theorem dX8_area_86 : decode cX8_area 86 = .ok (.iload 9, 2) := by decide +kernel
theorem dX8_area_88 : decode cX8_area 88 = .ok (.ireturn, 1) := by decide +kernel
theorem dX8_requireSign_0 : decode cX8_requireSign 0 = .ok (.iload_n 1, 1) := by decide +kernel
theorem dX8_requireSign_1 : decode cX8_requireSign 1 = .ok (.ifCond .lt 14, 3) := by decide +kernel
theorem dX8_requireSign_4 : decode cX8_requireSign 4 = .ok (.iload_n 1, 1) := by decide +kernel
theorem dX8_requireSign_5 : decode cX8_requireSign 5 = .ok (.aload_n 0, 1) := by decide +kernel
theorem dX8_requireSign_6 : decode cX8_requireSign 6 = .ok (.getfield 12, 3) := by decide +kernel
theorem dX8_requireSign_9 : decode cX8_requireSign 9 = .ok (.getfield 82, 3) := by decide +kernel
theorem dX8_requireSign_12 : decode cX8_requireSign 12 = .ok (.if_icmp .lt 13, 3) := by decide +kernel
theorem dX8_requireSign_15 : decode cX8_requireSign 15 = .ok (.new 211, 3) := by decide +kernel
theorem dX8_requireSign_18 : decode cX8_requireSign 18 = .ok (.dup, 1) := by decide +kernel
theorem dX8_requireSign_19 : decode cX8_requireSign 19 = .ok (.ldc 213, 2) := by decide +kernel
theorem dX8_requireSign_21 : decode cX8_requireSign 21 = .ok (.invokespecial 215, 3) := by decide +kernel
theorem dX8_requireSign_24 : decode cX8_requireSign 24 = .ok (.athrow, 1) := by decide +kernel
theorem dX8_requireSign_25 : decode cX8_requireSign 25 = .ok (.return_, 1) := by decide +kernel
theorem dX8_requireWithin_0 : decode cX8_requireWithin 0 = .ok (.iload_n 1, 1) := by decide +kernel
theorem dX8_requireWithin_1 : decode cX8_requireWithin 1 = .ok (.ifCond .lt 8, 3) := by decide +kernel
theorem dX8_requireWithin_4 : decode cX8_requireWithin 4 = .ok (.iload_n 1, 1) := by decide +kernel
theorem dX8_requireWithin_5 : decode cX8_requireWithin 5 = .ok (.iload_n 2, 1) := by decide +kernel
theorem dX8_requireWithin_6 : decode cX8_requireWithin 6 = .ok (.if_icmp .lt 13, 3) := by decide +kernel
theorem dX8_requireWithin_9 : decode cX8_requireWithin 9 = .ok (.new 103, 3) := by decide +kernel
theorem dX8_requireWithin_12 : decode cX8_requireWithin 12 = .ok (.dup, 1) := by decide +kernel
theorem dX8_requireWithin_13 : decode cX8_requireWithin 13 = .ok (.ldc 216, 2) := by decide +kernel
theorem dX8_requireWithin_15 : decode cX8_requireWithin 15 = .ok (.invokespecial 107, 3) := by decide +kernel
theorem dX8_requireWithin_18 : decode cX8_requireWithin 18 = .ok (.athrow, 1) := by decide +kernel
theorem dX8_requireWithin_19 : decode cX8_requireWithin 19 = .ok (.return_, 1) := by decide +kernel
theorem dX8_refresh_0 : decode cX8_refresh 0 = .ok (.aload_n 0, 1) := by decide +kernel
theorem dX8_refresh_1 : decode cX8_refresh 1 = .ok (.getfield 65, 3) := by decide +kernel
theorem dX8_refresh_4 : decode cX8_refresh 4 = .ok (.ifCond .eq 4, 3) := by decide +kernel
theorem dX8_refresh_7 : decode cX8_refresh 7 = .ok (.return_, 1) := by decide +kernel
theorem dX8_refresh_8 : decode cX8_refresh 8 = .ok (.aload_n 0, 1) := by decide +kernel
theorem dX8_refresh_9 : decode cX8_refresh 9 = .ok (.getfield 26, 3) := by decide +kernel
theorem dX8_refresh_12 : decode cX8_refresh 12 = .ok (.aload_n 0, 1) := by decide +kernel
theorem dX8_refresh_13 : decode cX8_refresh 13 = .ok (.getfield 12, 3) := by decide +kernel
theorem dX8_refresh_16 : decode cX8_refresh 16 = .ok (.aload_n 0, 1) := by decide +kernel
theorem dX8_refresh_17 : decode cX8_refresh 17 = .ok (.getfield 19, 3) := by decide +kernel
theorem dX8_refresh_20 : decode cX8_refresh 20 = .ok (.invokevirtual 218, 3) := by decide +kernel
theorem dX8_refresh_23 : decode cX8_refresh 23 = .ok (.aload_n 0, 1) := by decide +kernel
theorem dX8_refresh_24 : decode cX8_refresh 24 = .ok (.getfield 33, 3) := by decide +kernel
theorem dX8_refresh_27 : decode cX8_refresh 27 = .ok (.aload_n 0, 1) := by decide +kernel
theorem dX8_refresh_28 : decode cX8_refresh 28 = .ok (.getfield 12, 3) := by decide +kernel
theorem dX8_refresh_31 : decode cX8_refresh 31 = .ok (.aload_n 0, 1) := by decide +kernel
theorem dX8_refresh_32 : decode cX8_refresh 32 = .ok (.getfield 26, 3) := by decide +kernel
theorem dX8_refresh_35 : decode cX8_refresh 35 = .ok (.invokevirtual 222, 3) := by decide +kernel
theorem dX8_refresh_38 : decode cX8_refresh 38 = .ok (.aload_n 0, 1) := by decide +kernel
theorem dX8_refresh_39 : decode cX8_refresh 39 = .ok (.getfield 40, 3) := by decide +kernel
theorem dX8_refresh_42 : decode cX8_refresh 42 = .ok (.aload_n 0, 1) := by decide +kernel
theorem dX8_refresh_43 : decode cX8_refresh 43 = .ok (.getfield 12, 3) := by decide +kernel
theorem dX8_refresh_46 : decode cX8_refresh 46 = .ok (.aload_n 0, 1) := by decide +kernel
theorem dX8_refresh_47 : decode cX8_refresh 47 = .ok (.getfield 26, 3) := by decide +kernel
theorem dX8_refresh_50 : decode cX8_refresh 50 = .ok (.aload_n 0, 1) := by decide +kernel
theorem dX8_refresh_51 : decode cX8_refresh 51 = .ok (.getfield 33, 3) := by decide +kernel
theorem dX8_refresh_54 : decode cX8_refresh 54 = .ok (.invokevirtual 226, 3) := by decide +kernel
theorem dX8_refresh_57 : decode cX8_refresh 57 = .ok (.aload_n 0, 1) := by decide +kernel
theorem dX8_refresh_58 : decode cX8_refresh 58 = .ok (.getfield 47, 3) := by decide +kernel
theorem dX8_refresh_61 : decode cX8_refresh 61 = .ok (.aload_n 0, 1) := by decide +kernel
theorem dX8_refresh_62 : decode cX8_refresh 62 = .ok (.getfield 40, 3) := by decide +kernel
theorem dX8_refresh_65 : decode cX8_refresh 65 = .ok (.invokevirtual 230, 3) := by decide +kernel
theorem dX8_refresh_68 : decode cX8_refresh 68 = .ok (.aload_n 0, 1) := by decide +kernel
theorem dX8_refresh_69 : decode cX8_refresh 69 = .ok (.getfield 54, 3) := by decide +kernel
theorem dX8_refresh_72 : decode cX8_refresh 72 = .ok (.aload_n 0, 1) := by decide +kernel
theorem dX8_refresh_73 : decode cX8_refresh 73 = .ok (.getfield 12, 3) := by decide +kernel
theorem dX8_refresh_76 : decode cX8_refresh 76 = .ok (.aload_n 0, 1) := by decide +kernel
theorem dX8_refresh_77 : decode cX8_refresh 77 = .ok (.getfield 26, 3) := by decide +kernel
theorem dX8_refresh_80 : decode cX8_refresh 80 = .ok (.aload_n 0, 1) := by decide +kernel
theorem dX8_refresh_81 : decode cX8_refresh 81 = .ok (.getfield 33, 3) := by decide +kernel
theorem dX8_refresh_84 : decode cX8_refresh 84 = .ok (.aload_n 0, 1) := by decide +kernel
theorem dX8_refresh_85 : decode cX8_refresh 85 = .ok (.getfield 40, 3) := by decide +kernel
theorem dX8_refresh_88 : decode cX8_refresh 88 = .ok (.aload_n 0, 1) := by decide +kernel
theorem dX8_refresh_89 : decode cX8_refresh 89 = .ok (.getfield 47, 3) := by decide +kernel
theorem dX8_refresh_92 : decode cX8_refresh 92 = .ok (.invokevirtual 234, 3) := by decide +kernel
theorem dX8_refresh_95 : decode cX8_refresh 95 = .ok (.aload_n 0, 1) := by decide +kernel
theorem dX8_refresh_96 : decode cX8_refresh 96 = .ok (.iconst 1, 1) := by decide +kernel
theorem dX8_refresh_97 : decode cX8_refresh 97 = .ok (.putfield 65, 3) := by decide +kernel
theorem dX8_refresh_100 : decode cX8_refresh 100 = .ok (.return_, 1) := by decide +kernel
theorem dX8_isCoordinate_0 : decode cX8_isCoordinate 0 = .ok (.lload_n 0, 1) := by decide +kernel
theorem dX8_isCoordinate_1 : decode cX8_isCoordinate 1 = .ok (.ldc2_w 238, 3) := by decide +kernel
theorem dX8_isCoordinate_4 : decode cX8_isCoordinate 4 = .ok (.ldc2_w 73, 3) := by decide +kernel
theorem dX8_isCoordinate_7 : decode cX8_isCoordinate 7 = .ok (.invokestatic 204, 3) := by decide +kernel
theorem dX8_isCoordinate_10 : decode cX8_isCoordinate 10 = .ok (.ireturn, 1) := by decide +kernel
theorem dX8_isBetween_0 : decode cX8_isBetween 0 = .ok (.lload_n 0, 1) := by decide +kernel
theorem dX8_isBetween_1 : decode cX8_isBetween 1 = .ok (.lload_n 2, 1) := by decide +kernel
theorem dX8_isBetween_2 : decode cX8_isBetween 2 = .ok (.lcmp, 1) := by decide +kernel
theorem dX8_isBetween_3 : decode cX8_isBetween 3 = .ok (.ifCond .lt 14, 3) := by decide +kernel
theorem dX8_isBetween_6 : decode cX8_isBetween 6 = .ok (.lload_n 0, 1) := by decide +kernel
theorem dX8_isBetween_7 : decode cX8_isBetween 7 = .ok (.lload 4, 2) := by decide +kernel
theorem dX8_isBetween_9 : decode cX8_isBetween 9 = .ok (.lcmp, 1) := by decide +kernel
theorem dX8_isBetween_10 : decode cX8_isBetween 10 = .ok (.ifCond .gt 7, 3) := by decide +kernel
theorem dX8_isBetween_13 : decode cX8_isBetween 13 = .ok (.iconst 1, 1) := by decide +kernel
theorem dX8_isBetween_14 : decode cX8_isBetween 14 = .ok (.goto 4, 3) := by decide +kernel
theorem dX8_isBetween_17 : decode cX8_isBetween 17 = .ok (.iconst 0, 1) := by decide +kernel
theorem dX8_isBetween_18 : decode cX8_isBetween 18 = .ok (.ireturn, 1) := by decide +kernel
theorem dX8_areLetters_0 : decode cX8_areLetters 0 = .ok (.iload_n 0, 1) := by decide +kernel
theorem dX8_areLetters_1 : decode cX8_areLetters 1 = .ok (.ifCond .ne 13, 3) := by decide +kernel
theorem dX8_areLetters_4 : decode cX8_areLetters 4 = .ok (.iload_n 1, 1) := by decide +kernel
theorem dX8_areLetters_5 : decode cX8_areLetters 5 = .ok (.ifCond .ne 7, 3) := by decide +kernel
theorem dX8_areLetters_8 : decode cX8_areLetters 8 = .ok (.iconst 1, 1) := by decide +kernel
theorem dX8_areLetters_9 : decode cX8_areLetters 9 = .ok (.goto 4, 3) := by decide +kernel
theorem dX8_areLetters_12 : decode cX8_areLetters 12 = .ok (.iconst 0, 1) := by decide +kernel
theorem dX8_areLetters_13 : decode cX8_areLetters 13 = .ok (.ireturn, 1) := by decide +kernel
theorem dX8_areLetters_14 : decode cX8_areLetters 14 = .ok (.iload_n 0, 1) := by decide +kernel
theorem dX8_areLetters_15 : decode cX8_areLetters 15 = .ok (.iconst 1, 1) := by decide +kernel
theorem dX8_areLetters_16 : decode cX8_areLetters 16 = .ok (.if_icmp .lt 23, 3) := by decide +kernel
theorem dX8_areLetters_19 : decode cX8_areLetters 19 = .ok (.iload_n 0, 1) := by decide +kernel
theorem dX8_areLetters_20 : decode cX8_areLetters 20 = .ok (.ldc 179, 2) := by decide +kernel
theorem dX8_areLetters_22 : decode cX8_areLetters 22 = .ok (.if_icmp .gt 17, 3) := by decide +kernel
theorem dX8_areLetters_25 : decode cX8_areLetters 25 = .ok (.iload_n 1, 1) := by decide +kernel
theorem dX8_areLetters_26 : decode cX8_areLetters 26 = .ok (.ifCond .lt 13, 3) := by decide +kernel
theorem dX8_areLetters_29 : decode cX8_areLetters 29 = .ok (.iload_n 1, 1) := by decide +kernel
theorem dX8_areLetters_30 : decode cX8_areLetters 30 = .ok (.ldc 179, 2) := by decide +kernel
theorem dX8_areLetters_32 : decode cX8_areLetters 32 = .ok (.if_icmp .gt 7, 3) := by decide +kernel
theorem dX8_areLetters_35 : decode cX8_areLetters 35 = .ok (.iconst 1, 1) := by decide +kernel
theorem dX8_areLetters_36 : decode cX8_areLetters 36 = .ok (.goto 4, 3) := by decide +kernel
theorem dX8_areLetters_39 : decode cX8_areLetters 39 = .ok (.iconst 0, 1) := by decide +kernel
theorem dX8_areLetters_40 : decode cX8_areLetters 40 = .ok (.ireturn, 1) := by decide +kernel
theorem dX8_shareOf_0 : decode cX8_shareOf 0 = .ok (.lload_n 2, 1) := by decide +kernel
theorem dX8_shareOf_1 : decode cX8_shareOf 1 = .ok (.lconst 0, 1) := by decide +kernel
theorem dX8_shareOf_2 : decode cX8_shareOf 2 = .ok (.lcmp, 1) := by decide +kernel
theorem dX8_shareOf_3 : decode cX8_shareOf 3 = .ok (.ifCond .ne 7, 3) := by decide +kernel
theorem dX8_shareOf_6 : decode cX8_shareOf 6 = .ok (.lconst 0, 1) := by decide +kernel
theorem dX8_shareOf_7 : decode cX8_shareOf 7 = .ok (.goto 10, 3) := by decide +kernel
theorem dX8_shareOf_10 : decode cX8_shareOf 10 = .ok (.ldc2_w 240, 3) := by decide +kernel
theorem dX8_shareOf_13 : decode cX8_shareOf 13 = .ok (.lload_n 0, 1) := by decide +kernel
theorem dX8_shareOf_14 : decode cX8_shareOf 14 = .ok (.lmul, 1) := by decide +kernel
theorem dX8_shareOf_15 : decode cX8_shareOf 15 = .ok (.lload_n 2, 1) := by decide +kernel
theorem dX8_shareOf_16 : decode cX8_shareOf 16 = .ok (.ldiv, 1) := by decide +kernel
theorem dX8_shareOf_17 : decode cX8_shareOf 17 = .ok (.lreturn, 1) := by decide +kernel
