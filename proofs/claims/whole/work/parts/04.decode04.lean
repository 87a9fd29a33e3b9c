theorem dX3_dispatch_58 : decode cX3_dispatch 58 = .ok (.iload 4, 2) := by decide +kernel
theorem dX3_dispatch_60 : decode cX3_dispatch 60 = .ok (.ifCond .eq 30, 3) := by decide +kernel
theorem dX3_dispatch_63 : decode cX3_dispatch 63 = .ok (.aload_n 0, 1) := by decide +kernel
theorem dX3_dispatch_64 : decode cX3_dispatch 64 = .ok (.getfield 26, 3) := by decide +kernel
theorem dX3_dispatch_67 : decode cX3_dispatch 67 = .ok (.aload_n 0, 1) := by decide +kernel
theorem dX3_dispatch_68 : decode cX3_dispatch 68 = .ok (.getfield 60, 3) := by decide +kernel
theorem dX3_dispatch_71 : decode cX3_dispatch 71 = .ok (.iload_n 3, 1) := by decide +kernel
theorem dX3_dispatch_72 : decode cX3_dispatch 72 = .ok (.iaload, 1) := by decide +kernel
theorem dX3_dispatch_73 : decode cX3_dispatch 73 = .ok (.baload, 1) := by decide +kernel
theorem dX3_dispatch_74 : decode cX3_dispatch 74 = .ok (.ifCond .eq 16, 3) := by decide +kernel
theorem dX3_dispatch_77 : decode cX3_dispatch 77 = .ok (.aload_n 0, 1) := by decide +kernel
theorem dX3_dispatch_78 : decode cX3_dispatch 78 = .ok (.aload_n 0, 1) := by decide +kernel
theorem dX3_dispatch_79 : decode cX3_dispatch 79 = .ok (.getfield 60, 3) := by decide +kernel
theorem dX3_dispatch_82 : decode cX3_dispatch 82 = .ok (.iload_n 3, 1) := by decide +kernel
theorem dX3_dispatch_83 : decode cX3_dispatch 83 = .ok (.iaload, 1) := by decide +kernel
theorem dX3_dispatch_84 : decode cX3_dispatch 84 = .ok (.invokevirtual 135, 3) := by decide +kernel
theorem dX3_dispatch_87 : decode cX3_dispatch 87 = .ok (.goto 16, 3) := by decide +kernel
theorem dX3_dispatch_90 : decode cX3_dispatch 90 = .ok (.iload_n 2, 1) := by decide +kernel
theorem dX3_dispatch_91 : decode cX3_dispatch 91 = .ok (.iload 4, 2) := by decide +kernel
theorem dX3_dispatch_93 : decode cX3_dispatch 93 = .ok (.ifCond .eq 7, 3) := by decide +kernel
theorem dX3_dispatch_96 : decode cX3_dispatch 96 = .ok (.iconst 1, 1) := by decide +kernel
theorem dX3_dispatch_97 : decode cX3_dispatch 97 = .ok (.goto 4, 3) := by decide +kernel
theorem dX3_dispatch_100 : decode cX3_dispatch 100 = .ok (.iconst 0, 1) := by decide +kernel
theorem dX3_dispatch_101 : decode cX3_dispatch 101 = .ok (.iadd, 1) := by decide +kernel
theorem dX3_dispatch_102 : decode cX3_dispatch 102 = .ok (.istore_n 2, 1) := by decide +kernel
theorem dX3_dispatch_103 : decode cX3_dispatch 103 = .ok (.iinc 3 1, 3) := by decide +kernel
theorem dX3_dispatch_106 : decode cX3_dispatch 106 = .ok (.goto (-88), 3) := by decide +kernel
theorem dX3_dispatch_109 : decode cX3_dispatch 109 = .ok (.aload_n 0, 1) := by decide +kernel
theorem dX3_dispatch_110 : decode cX3_dispatch 110 = .ok (.iload_n 2, 1) := by decide +kernel
theorem dX3_dispatch_111 : decode cX3_dispatch 111 = .ok (.invokevirtual 138, 3) := by decide +kernel
theorem dX3_dispatch_114 : decode cX3_dispatch 114 = .ok (.iload_n 2, 1) := by decide +kernel
theorem dX3_dispatch_115 : decode cX3_dispatch 115 = .ok (.ireturn, 1) := by decide +kernel
theorem dX3_setHours_0 : decode cX3_setHours 0 = .ok (.aload_n 0, 1) := by decide +kernel
theorem dX3_setHours_1 : decode cX3_setHours 1 = .ok (.iload_n 1, 1) := by decide +kernel
theorem dX3_setHours_2 : decode cX3_setHours 2 = .ok (.iconst 1, 1) := by decide +kernel
theorem dX3_setHours_3 : decode cX3_setHours 3 = .ok (.bipush 12, 2) := by decide +kernel
theorem dX3_setHours_5 : decode cX3_setHours 5 = .ok (.invokestatic 72, 3) := by decide +kernel
theorem dX3_setHours_8 : decode cX3_setHours 8 = .ok (.aload_n 0, 1) := by decide +kernel
theorem dX3_setHours_9 : decode cX3_setHours 9 = .ok (.getfield 118, 3) := by decide +kernel
theorem dX3_setHours_12 : decode cX3_setHours 12 = .ok (.ifCond .ne 7, 3) := by decide +kernel
theorem dX3_setHours_15 : decode cX3_setHours 15 = .ok (.iconst 1, 1) := by decide +kernel
theorem dX3_setHours_16 : decode cX3_setHours 16 = .ok (.goto 4, 3) := by decide +kernel
theorem dX3_setHours_19 : decode cX3_setHours 19 = .ok (.iconst 0, 1) := by decide +kernel
theorem dX3_setHours_20 : decode cX3_setHours 20 = .ok (.iconst 1, 1) := by decide +kernel
theorem dX3_setHours_21 : decode cX3_setHours 21 = .ok (.invokevirtual 91, 3) := by decide +kernel
theorem dX3_setHours_24 : decode cX3_setHours 24 = .ok (.ifCond .ne 5, 3) := by decide +kernel
theorem dX3_setHours_27 : decode cX3_setHours 27 = .ok (.iconst 0, 1) := by decide +kernel
theorem dX3_setHours_28 : decode cX3_setHours 28 = .ok (.ireturn, 1) := by decide +kernel
theorem dX3_setHours_29 : decode cX3_setHours 29 = .ok (.aload_n 0, 1) := by decide +kernel
theorem dX3_setHours_30 : decode cX3_setHours 30 = .ok (.getfield 56, 3) := by decide +kernel
theorem dX3_setHours_33 : decode cX3_setHours 33 = .ok (.istore_n 2, 1) := by decide +kernel
theorem dX3_setHours_34 : decode cX3_setHours 34 = .ok (.aload_n 0, 1) := by decide +kernel
theorem dX3_setHours_35 : decode cX3_setHours 35 = .ok (.iload_n 1, 1) := by decide +kernel
theorem dX3_setHours_36 : decode cX3_setHours 36 = .ok (.putfield 56, 3) := by decide +kernel
theorem dX3_setHours_39 : decode cX3_setHours 39 = .ok (.iload_n 2, 1) := by decide +kernel
theorem dX3_setHours_40 : decode cX3_setHours 40 = .ok (.ireturn, 1) := by decide +kernel
theorem dX3_works_0 : decode cX3_works 0 = .ok (.aload_n 0, 1) := by decide +kernel
theorem dX3_works_1 : decode cX3_works 1 = .ok (.getfield 38, 3) := by decide +kernel
theorem dX3_works_4 : decode cX3_works 4 = .ok (.iload_n 1, 1) := by decide +kernel
theorem dX3_works_5 : decode cX3_works 5 = .ok (.dup2, 1) := by decide +kernel
theorem dX3_works_6 : decode cX3_works 6 = .ok (.iaload, 1) := by decide +kernel
theorem dX3_works_7 : decode cX3_works 7 = .ok (.iload_n 2, 1) := by decide +kernel
theorem dX3_works_8 : decode cX3_works 8 = .ok (.aload_n 0, 1) := by decide +kernel
theorem dX3_works_9 : decode cX3_works 9 = .ok (.getfield 35, 3) := by decide +kernel
theorem dX3_works_12 : decode cX3_works 12 = .ok (.iload_n 1, 1) := by decide +kernel
theorem dX3_works_13 : decode cX3_works 13 = .ok (.iaload, 1) := by decide +kernel
theorem dX3_works_14 : decode cX3_works 14 = .ok (.isub, 1) := by decide +kernel
theorem dX3_works_15 : decode cX3_works 15 = .ok (.iadd, 1) := by decide +kernel
theorem dX3_works_16 : decode cX3_works 16 = .ok (.iastore, 1) := by decide +kernel
theorem dX3_works_17 : decode cX3_works 17 = .ok (.aload_n 0, 1) := by decide +kernel
theorem dX3_works_18 : decode cX3_works 18 = .ok (.dup, 1) := by decide +kernel
theorem dX3_works_19 : decode cX3_works 19 = .ok (.getfield 141, 3) := by decide +kernel
theorem dX3_works_22 : decode cX3_works 22 = .ok (.iload_n 2, 1) := by decide +kernel
theorem dX3_works_23 : decode cX3_works 23 = .ok (.aload_n 0, 1) := by decide +kernel
theorem dX3_works_24 : decode cX3_works 24 = .ok (.getfield 35, 3) := by decide +kernel
theorem dX3_works_27 : decode cX3_works 27 = .ok (.iload_n 1, 1) := by decide +kernel
theorem dX3_works_28 : decode cX3_works 28 = .ok (.iaload, 1) := by decide +kernel
theorem dX3_works_29 : decode cX3_works 29 = .ok (.isub, 1) := by decide +kernel
theorem dX3_works_30 : decode cX3_works 30 = .ok (.iadd, 1) := by decide +kernel
theorem dX3_works_31 : decode cX3_works 31 = .ok (.putfield 141, 3) := by decide +kernel
theorem dX3_works_34 : decode cX3_works 34 = .ok (.aload_n 0, 1) := by decide +kernel
theorem dX3_works_35 : decode cX3_works 35 = .ok (.getfield 32, 3) := by decide +kernel
theorem dX3_works_38 : decode cX3_works 38 = .ok (.iload_n 1, 1) := by decide +kernel
theorem dX3_works_39 : decode cX3_works 39 = .ok (.iconst (-1), 1) := by decide +kernel
theorem dX3_works_40 : decode cX3_works 40 = .ok (.iastore, 1) := by decide +kernel
theorem dX3_works_41 : decode cX3_works 41 = .ok (.return_, 1) := by decide +kernel
theorem dX3_leave_0 : decode cX3_leave 0 = .ok (.aload_n 0, 1) := by decide +kernel
theorem dX3_leave_1 : decode cX3_leave 1 = .ok (.iload_n 1, 1) := by decide +kernel
theorem dX3_leave_2 : decode cX3_leave 2 = .ok (.invokevirtual 102, 3) := by decide +kernel
theorem dX3_leave_5 : decode cX3_leave 5 = .ok (.istore_n 3, 1) := by decide +kernel
theorem dX3_leave_6 : decode cX3_leave 6 = .ok (.aload_n 0, 1) := by decide +kernel
theorem dX3_leave_7 : decode cX3_leave 7 = .ok (.iload_n 3, 1) := by decide +kernel
theorem dX3_leave_8 : decode cX3_leave 8 = .ok (.ifCond .lt 7, 3) := by decide +kernel
theorem dX3_leave_11 : decode cX3_leave 11 = .ok (.iconst 1, 1) := by decide +kernel
theorem dX3_leave_12 : decode cX3_leave 12 = .ok (.goto 4, 3) := by decide +kernel
theorem dX3_leave_15 : decode cX3_leave 15 = .ok (.iconst 0, 1) := by decide +kernel
theorem dX3_leave_16 : decode cX3_leave 16 = .ok (.iload_n 2, 1) := by decide +kernel
theorem dX3_leave_17 : decode cX3_leave 17 = .ok (.iconst 0, 1) := by decide +kernel
theorem dX3_leave_18 : decode cX3_leave 18 = .ok (.aload_n 0, 1) := by decide +kernel
theorem dX3_leave_19 : decode cX3_leave 19 = .ok (.getfield 56, 3) := by decide +kernel
theorem dX3_leave_22 : decode cX3_leave 22 = .ok (.invokestatic 72, 3) := by decide +kernel
theorem dX3_leave_25 : decode cX3_leave 25 = .ok (.iload_n 3, 1) := by decide +kernel
theorem dX3_leave_26 : decode cX3_leave 26 = .ok (.ifCond .lt 25, 3) := by decide +kernel
theorem dX3_leave_29 : decode cX3_leave 29 = .ok (.aload_n 0, 1) := by decide +kernel
theorem dX3_leave_30 : decode cX3_leave 30 = .ok (.getfield 32, 3) := by decide +kernel
theorem dX3_leave_33 : decode cX3_leave 33 = .ok (.iload_n 3, 1) := by decide +kernel
theorem dX3_leave_34 : decode cX3_leave 34 = .ok (.iaload, 1) := by decide +kernel
theorem dX3_leave_35 : decode cX3_leave 35 = .ok (.iconst (-1), 1) := by decide +kernel
theorem dX3_leave_36 : decode cX3_leave 36 = .ok (.if_icmp .eq 15, 3) := by decide +kernel
theorem dX3_leave_39 : decode cX3_leave 39 = .ok (.iload_n 2, 1) := by decide +kernel
theorem dX3_leave_40 : decode cX3_leave 40 = .ok (.aload_n 0, 1) := by decide +kernel
theorem dX3_leave_41 : decode cX3_leave 41 = .ok (.getfield 115, 3) := by decide +kernel
theorem dX3_leave_44 : decode cX3_leave 44 = .ok (.if_icmp .lt 7, 3) := by decide +kernel
theorem dX3_leave_47 : decode cX3_leave 47 = .ok (.iconst 1, 1) := by decide +kernel
theorem dX3_leave_48 : decode cX3_leave 48 = .ok (.goto 4, 3) := by decide +kernel
theorem dX3_leave_51 : decode cX3_leave 51 = .ok (.iconst 0, 1) := by decide +kernel
theorem dX3_leave_52 : decode cX3_leave 52 = .ok (.invokevirtual 91, 3) := by decide +kernel
theorem dX3_leave_55 : decode cX3_leave 55 = .ok (.ifCond .ne 5, 3) := by decide +kernel
theorem dX3_leave_58 : decode cX3_leave 58 = .ok (.iconst 0, 1) := by decide +kernel
theorem dX3_leave_59 : decode cX3_leave 59 = .ok (.ireturn, 1) := by decide +kernel
theorem dX3_leave_60 : decode cX3_leave 60 = .ok (.aload_n 0, 1) := by decide +kernel
theorem dX3_leave_61 : decode cX3_leave 61 = .ok (.getfield 32, 3) := by decide +kernel
theorem dX3_leave_64 : decode cX3_leave 64 = .ok (.iload_n 3, 1) := by decide +kernel
theorem dX3_leave_65 : decode cX3_leave 65 = .ok (.iaload, 1) := by decide +kernel
theorem dX3_leave_66 : decode cX3_leave 66 = .ok (.istore 4, 2) := by decide +kernel
theorem dX3_leave_68 : decode cX3_leave 68 = .ok (.aload_n 0, 1) := by decide +kernel
theorem dX3_leave_69 : decode cX3_leave 69 = .ok (.iload_n 3, 1) := by decide +kernel
theorem dX3_leave_70 : decode cX3_leave 70 = .ok (.iload_n 2, 1) := by decide +kernel
theorem dX3_leave_71 : decode cX3_leave 71 = .ok (.invokevirtual 144, 3) := by decide +kernel
theorem dX3_leave_74 : decode cX3_leave 74 = .ok (.aload_n 0, 1) := by decide +kernel
theorem dX3_leave_75 : decode cX3_leave 75 = .ok (.getfield 53, 3) := by decide +kernel
theorem dX3_leave_78 : decode cX3_leave 78 = .ok (.iload 4, 2) := by decide +kernel
theorem dX3_leave_80 : decode cX3_leave 80 = .ok (.iconst (-1), 1) := by decide +kernel
theorem dX3_leave_81 : decode cX3_leave 81 = .ok (.iastore, 1) := by decide +kernel
theorem dX3_leave_82 : decode cX3_leave 82 = .ok (.aload_n 0, 1) := by decide +kernel
theorem dX3_leave_83 : decode cX3_leave 83 = .ok (.iload_n 2, 1) := by decide +kernel
theorem dX3_leave_84 : decode cX3_leave 84 = .ok (.putfield 115, 3) := by decide +kernel
theorem dX3_leave_87 : decode cX3_leave 87 = .ok (.iload 4, 2) := by decide +kernel
theorem dX3_leave_89 : decode cX3_leave 89 = .ok (.ireturn, 1) := by decide +kernel
theorem dX3_isPlace_0 : decode cX3_isPlace 0 = .ok (.iload_n 1, 1) := by decide +kernel
theorem dX3_isPlace_1 : decode cX3_isPlace 1 = .ok (.iconst 0, 1) := by decide +kernel
theorem dX3_isPlace_2 : decode cX3_isPlace 2 = .ok (.aload_n 0, 1) := by decide +kernel
theorem dX3_isPlace_3 : decode cX3_isPlace 3 = .ok (.getfield 112, 3) := by decide +kernel
theorem dX3_isPlace_6 : decode cX3_isPlace 6 = .ok (.iconst 1, 1) := by decide +kernel
theorem dX3_isPlace_7 : decode cX3_isPlace 7 = .ok (.isub, 1) := by decide +kernel
theorem dX3_isPlace_8 : decode cX3_isPlace 8 = .ok (.invokestatic 72, 3) := by decide +kernel
theorem dX3_isPlace_11 : decode cX3_isPlace 11 = .ok (.ireturn, 1) := by decide +kernel
theorem dX3_replace_0 : decode cX3_replace 0 = .ok (.aload_n 0, 1) := by decide +kernel
theorem dX3_replace_1 : decode cX3_replace 1 = .ok (.aload_n 0, 1) := by decide +kernel
theorem dX3_replace_2 : decode cX3_replace 2 = .ok (.iload_n 1, 1) := by decide +kernel
theorem dX3_replace_3 : decode cX3_replace 3 = .ok (.invokevirtual 147, 3) := by decide +kernel
theorem dX3_replace_6 : decode cX3_replace 6 = .ok (.aload_n 0, 1) := by decide +kernel
theorem dX3_replace_7 : decode cX3_replace 7 = .ok (.iload_n 1, 1) := by decide +kernel
theorem dX3_replace_8 : decode cX3_replace 8 = .ok (.invokevirtual 147, 3) := by decide +kernel
theorem dX3_replace_11 : decode cX3_replace 11 = .ok (.ifCond .eq 17, 3) := by decide +kernel
theorem dX3_replace_14 : decode cX3_replace 14 = .ok (.aload_n 0, 1) := by decide +kernel
theorem dX3_replace_15 : decode cX3_replace 15 = .ok (.getfield 53, 3) := by decide +kernel
theorem dX3_replace_18 : decode cX3_replace 18 = .ok (.iload_n 1, 1) := by decide +kernel
theorem dX3_replace_19 : decode cX3_replace 19 = .ok (.iaload, 1) := by decide +kernel
theorem dX3_replace_20 : decode cX3_replace 20 = .ok (.iconst (-1), 1) := by decide +kernel
theorem dX3_replace_21 : decode cX3_replace 21 = .ok (.if_icmp .ne 7, 3) := by decide +kernel
theorem dX3_replace_24 : decode cX3_replace 24 = .ok (.iconst 1, 1) := by decide +kernel
theorem dX3_replace_25 : decode cX3_replace 25 = .ok (.goto 4, 3) := by decide +kernel
theorem dX3_replace_28 : decode cX3_replace 28 = .ok (.iconst 0, 1) := by decide +kernel
theorem dX3_replace_29 : decode cX3_replace 29 = .ok (.iconst 1, 1) := by decide +kernel
theorem dX3_replace_30 : decode cX3_replace 30 = .ok (.invokevirtual 91, 3) := by decide +kernel
theorem dX3_replace_33 : decode cX3_replace 33 = .ok (.ifCond .ne 5, 3) := by decide +kernel
theorem dX3_replace_36 : decode cX3_replace 36 = .ok (.iconst 0, 1) := by decide +kernel
theorem dX3_replace_37 : decode cX3_replace 37 = .ok (.ireturn, 1) := by decide +kernel
theorem dX3_replace_38 : decode cX3_replace 38 = .ok (.aload_n 0, 1) := by decide +kernel
theorem dX3_replace_39 : decode cX3_replace 39 = .ok (.invokevirtual 106, 3) := by decide +kernel
theorem dX3_replace_42 : decode cX3_replace 42 = .ok (.istore_n 2, 1) := by decide +kernel
theorem dX3_replace_43 : decode cX3_replace 43 = .ok (.iconst 0, 1) := by decide +kernel
theorem dX3_replace_44 : decode cX3_replace 44 = .ok (.istore_n 3, 1) := by decide +kernel
theorem dX3_replace_45 : decode cX3_replace 45 = .ok (.iload_n 3, 1) := by decide +kernel
theorem dX3_replace_46 : decode cX3_replace 46 = .ok (.iload_n 2, 1) := by decide +kernel
theorem dX3_replace_47 : decode cX3_replace 47 = .ok (.if_icmp .ge 103, 3) := by decide +kernel
theorem dX3_replace_50 : decode cX3_replace 50 = .ok (.aload_n 0, 1) := by decide +kernel
theorem dX3_replace_51 : decode cX3_replace 51 = .ok (.getfield 60, 3) := by decide +kernel
theorem dX3_replace_54 : decode cX3_replace 54 = .ok (.iload_n 3, 1) := by decide +kernel
theorem dX3_replace_55 : decode cX3_replace 55 = .ok (.iaload, 1) := by decide +kernel
theorem dX3_replace_56 : decode cX3_replace 56 = .ok (.istore 4, 2) := by decide +kernel
theorem dX3_replace_58 : decode cX3_replace 58 = .ok (.aload_n 0, 1) := by decide +kernel
theorem dX3_replace_59 : decode cX3_replace 59 = .ok (.iload 4, 2) := by decide +kernel
theorem dX3_replace_61 : decode cX3_replace 61 = .ok (.invokevirtual 132, 3) := by decide +kernel
theorem dX3_replace_64 : decode cX3_replace 64 = .ok (.ifCond .eq 27, 3) := by decide +kernel
theorem dX3_replace_67 : decode cX3_replace 67 = .ok (.aload_n 0, 1) := by decide +kernel
theorem dX3_replace_68 : decode cX3_replace 68 = .ok (.getfield 19, 3) := by decide +kernel
theorem dX3_replace_71 : decode cX3_replace 71 = .ok (.iload 4, 2) := by decide +kernel
theorem dX3_replace_73 : decode cX3_replace 73 = .ok (.iaload, 1) := by decide +kernel
theorem dX3_replace_74 : decode cX3_replace 74 = .ok (.aload_n 0, 1) := by decide +kernel
theorem dX3_replace_75 : decode cX3_replace 75 = .ok (.getfield 50, 3) := by decide +kernel
theorem dX3_replace_78 : decode cX3_replace 78 = .ok (.iload_n 1, 1) := by decide +kernel
theorem dX3_replace_79 : decode cX3_replace 79 = .ok (.iaload, 1) := by decide +kernel
theorem dX3_replace_80 : decode cX3_replace 80 = .ok (.ishr, 1) := by decide +kernel
theorem dX3_replace_81 : decode cX3_replace 81 = .ok (.iconst 1, 1) := by decide +kernel
theorem dX3_replace_82 : decode cX3_replace 82 = .ok (.iand, 1) := by decide +kernel
theorem dX3_replace_83 : decode cX3_replace 83 = .ok (.iconst 1, 1) := by decide +kernel
theorem dX3_replace_84 : decode cX3_replace 84 = .ok (.if_icmp .ne 7, 3) := by decide +kernel
theorem dX3_replace_87 : decode cX3_replace 87 = .ok (.iconst 1, 1) := by decide +kernel
theorem dX3_replace_88 : decode cX3_replace 88 = .ok (.goto 4, 3) := by decide +kernel
theorem dX3_replace_91 : decode cX3_replace 91 = .ok (.iconst 0, 1) := by decide +kernel
theorem dX3_replace_92 : decode cX3_replace 92 = .ok (.istore 5, 2) := by decide +kernel
theorem dX3_replace_94 : decode cX3_replace 94 = .ok (.iload 5, 2) := by decide +kernel
theorem dX3_replace_96 : decode cX3_replace 96 = .ok (.ifCond .eq 22, 3) := by decide +kernel
theorem dX3_replace_99 : decode cX3_replace 99 = .ok (.aload_n 0, 1) := by decide +kernel
theorem dX3_replace_100 : decode cX3_replace 100 = .ok (.getfield 26, 3) := by decide +kernel
theorem dX3_replace_103 : decode cX3_replace 103 = .ok (.iload 4, 2) := by decide +kernel
theorem dX3_replace_105 : decode cX3_replace 105 = .ok (.baload, 1) := by decide +kernel
theorem dX3_replace_106 : decode cX3_replace 106 = .ok (.ifCond .eq 12, 3) := by decide +kernel
theorem dX3_replace_109 : decode cX3_replace 109 = .ok (.aload_n 0, 1) := by decide +kernel
theorem dX3_replace_110 : decode cX3_replace 110 = .ok (.iload 4, 2) := by decide +kernel
theorem dX3_replace_112 : decode cX3_replace 112 = .ok (.invokevirtual 135, 3) := by decide +kernel
theorem dX3_replace_115 : decode cX3_replace 115 = .ok (.goto 29, 3) := by decide +kernel
theorem dX3_replace_118 : decode cX3_replace 118 = .ok (.iload 5, 2) := by decide +kernel
theorem dX3_replace_120 : decode cX3_replace 120 = .ok (.ifCond .eq 24, 3) := by decide +kernel
theorem dX3_replace_123 : decode cX3_replace 123 = .ok (.aload_n 0, 1) := by decide +kernel
theorem dX3_replace_124 : decode cX3_replace 124 = .ok (.iload 4, 2) := by decide +kernel
theorem dX3_replace_126 : decode cX3_replace 126 = .ok (.iload_n 1, 1) := by decide +kernel
theorem dX3_replace_127 : decode cX3_replace 127 = .ok (.invokevirtual 125, 3) := by decide +kernel
theorem dX3_replace_130 : decode cX3_replace 130 = .ok (.aload_n 0, 1) := by decide +kernel
theorem dX3_replace_131 : decode cX3_replace 131 = .ok (.iload 4, 2) := by decide +kernel
theorem dX3_replace_133 : decode cX3_replace 133 = .ok (.invokevirtual 98, 3) := by decide +kernel
theorem dX3_replace_136 : decode cX3_replace 136 = .ok (.aload_n 0, 1) := by decide +kernel
theorem dX3_replace_137 : decode cX3_replace 137 = .ok (.getfield 7, 3) := by decide +kernel
theorem dX3_replace_140 : decode cX3_replace 140 = .ok (.iload 4, 2) := by decide +kernel
theorem dX3_replace_142 : decode cX3_replace 142 = .ok (.iaload, 1) := by decide +kernel
theorem dX3_replace_143 : decode cX3_replace 143 = .ok (.ireturn, 1) := by decide +kernel
theorem dX3_replace_144 : decode cX3_replace 144 = .ok (.iinc 3 1, 3) := by decide +kernel
theorem dX3_replace_147 : decode cX3_replace 147 = .ok (.goto (-102), 3) := by decide +kernel
theorem dX3_replace_150 : decode cX3_replace 150 = .ok (.iconst (-1), 1) := by decide +kernel
theorem dX3_replace_151 : decode cX3_replace 151 = .ok (.ireturn, 1) := by decide +kernel
theorem dX3_endShift_0 : decode cX3_endShift 0 = .ok (.aload_n 0, 1) := by decide +kernel
theorem dX3_endShift_1 : decode cX3_endShift 1 = .ok (.iconst 0, 1) := by decide +kernel
theorem dX3_endShift_2 : decode cX3_endShift 2 = .ok (.putfield 69, 3) := by decide +kernel
theorem dX3_endShift_5 : decode cX3_endShift 5 = .ok (.iconst 0, 1) := by decide +kernel
theorem dX3_endShift_6 : decode cX3_endShift 6 = .ok (.istore_n 1, 1) := by decide +kernel
theorem dX3_endShift_7 : decode cX3_endShift 7 = .ok (.iload_n 1, 1) := by decide +kernel
theorem dX3_endShift_8 : decode cX3_endShift 8 = .ok (.bipush 30, 2) := by decide +kernel
theorem dX3_endShift_10 : decode cX3_endShift 10 = .ok (.if_icmp .ge 52, 3) := by decide +kernel
theorem dX3_endShift_13 : decode cX3_endShift 13 = .ok (.aload_n 0, 1) := by decide +kernel
theorem dX3_endShift_14 : decode cX3_endShift 14 = .ok (.getfield 7, 3) := by decide +kernel
theorem dX3_endShift_17 : decode cX3_endShift 17 = .ok (.iload_n 1, 1) := by decide +kernel
theorem dX3_endShift_18 : decode cX3_endShift 18 = .ok (.iaload, 1) := by decide +kernel
theorem dX3_endShift_19 : decode cX3_endShift 19 = .ok (.iconst (-1), 1) := by decide +kernel
theorem dX3_endShift_20 : decode cX3_endShift 20 = .ok (.if_icmp .eq 22, 3) := by decide +kernel
theorem dX3_endShift_23 : decode cX3_endShift 23 = .ok (.aload_n 0, 1) := by decide +kernel
theorem dX3_endShift_24 : decode cX3_endShift 24 = .ok (.getfield 32, 3) := by decide +kernel
theorem dX3_endShift_27 : decode cX3_endShift 27 = .ok (.iload_n 1, 1) := by decide +kernel
theorem dX3_endShift_28 : decode cX3_endShift 28 = .ok (.iaload, 1) := by decide +kernel
theorem dX3_endShift_29 : decode cX3_endShift 29 = .ok (.iconst (-1), 1) := by decide +kernel
theorem dX3_endShift_30 : decode cX3_endShift 30 = .ok (.if_icmp .eq 12, 3) := by decide +kernel
theorem dX3_endShift_33 : decode cX3_endShift 33 = .ok (.aload_n 0, 1) := by decide +kernel
theorem dX3_endShift_34 : decode cX3_endShift 34 = .ok (.iload_n 1, 1) := by decide +kernel
theorem dX3_endShift_35 : decode cX3_endShift 35 = .ok (.aload_n 0, 1) := by decide +kernel
theorem dX3_endShift_36 : decode cX3_endShift 36 = .ok (.getfield 56, 3) := by decide +kernel
theorem dX3_endShift_39 : decode cX3_endShift 39 = .ok (.invokevirtual 144, 3) := by decide +kernel
theorem dX3_endShift_42 : decode cX3_endShift 42 = .ok (.aload_n 0, 1) := by decide +kernel
theorem dX3_endShift_43 : decode cX3_endShift 43 = .ok (.getfield 29, 3) := by decide +kernel
theorem dX3_endShift_46 : decode cX3_endShift 46 = .ok (.iload_n 1, 1) := by decide +kernel
theorem dX3_endShift_47 : decode cX3_endShift 47 = .ok (.iconst 0, 1) := by decide +kernel
theorem dX3_endShift_48 : decode cX3_endShift 48 = .ok (.bastore, 1) := by decide +kernel
theorem dX3_endShift_49 : decode cX3_endShift 49 = .ok (.aload_n 0, 1) := by decide +kernel
theorem dX3_endShift_50 : decode cX3_endShift 50 = .ok (.getfield 26, 3) := by decide +kernel
theorem dX3_endShift_53 : decode cX3_endShift 53 = .ok (.iload_n 1, 1) := by decide +kernel
theorem dX3_endShift_54 : decode cX3_endShift 54 = .ok (.iconst 0, 1) := by decide +kernel
theorem dX3_endShift_55 : decode cX3_endShift 55 = .ok (.bastore, 1) := by decide +kernel
theorem dX3_endShift_56 : decode cX3_endShift 56 = .ok (.iinc 1 1, 3) := by decide +kernel
theorem dX3_endShift_59 : decode cX3_endShift 59 = .ok (.goto (-52), 3) := by decide +kernel
theorem dX3_endShift_62 : decode cX3_endShift 62 = .ok (.aload_n 0, 1) := by decide +kernel
theorem dX3_endShift_63 : decode cX3_endShift 63 = .ok (.getfield 141, 3) := by decide +kernel
theorem dX3_endShift_66 : decode cX3_endShift 66 = .ok (.istore_n 1, 1) := by decide +kernel
theorem dX3_endShift_67 : decode cX3_endShift 67 = .ok (.aload_n 0, 1) := by decide +kernel
theorem dX3_endShift_68 : decode cX3_endShift 68 = .ok (.iconst 0, 1) := by decide +kernel
theorem dX3_endShift_69 : decode cX3_endShift 69 = .ok (.putfield 112, 3) := by decide +kernel
theorem dX3_endShift_72 : decode cX3_endShift 72 = .ok (.aload_n 0, 1) := by decide +kernel
theorem dX3_endShift_73 : decode cX3_endShift 73 = .ok (.iconst 0, 1) := by decide +kernel
theorem dX3_endShift_74 : decode cX3_endShift 74 = .ok (.putfield 115, 3) := by decide +kernel
theorem dX3_endShift_77 : decode cX3_endShift 77 = .ok (.aload_n 0, 1) := by decide +kernel
theorem dX3_endShift_78 : decode cX3_endShift 78 = .ok (.iconst 0, 1) := by decide +kernel
theorem dX3_endShift_79 : decode cX3_endShift 79 = .ok (.putfield 141, 3) := by decide +kernel
theorem dX3_endShift_82 : decode cX3_endShift 82 = .ok (.aload_n 0, 1) := by decide +kernel
theorem dX3_endShift_83 : decode cX3_endShift 83 = .ok (.iconst 0, 1) := by decide +kernel
theorem dX3_endShift_84 : decode cX3_endShift 84 = .ok (.putfield 118, 3) := by decide +kernel
theorem dX3_endShift_87 : decode cX3_endShift 87 = .ok (.iload_n 1, 1) := by decide +kernel
theorem dX3_endShift_88 : decode cX3_endShift 88 = .ok (.ireturn, 1) := by decide +kernel
theorem dX3_owes_0 : decode cX3_owes 0 = .ok (.aload_n 0, 1) := by decide +kernel
theorem dX3_owes_1 : decode cX3_owes 1 = .ok (.getfield 47, 3) := by decide +kernel
theorem dX3_owes_4 : decode cX3_owes 4 = .ok (.aload_n 0, 1) := by decide +kernel
theorem dX3_owes_5 : decode cX3_owes 5 = .ok (.getfield 13, 3) := by decide +kernel
theorem dX3_owes_8 : decode cX3_owes 8 = .ok (.iload_n 1, 1) := by decide +kernel
theorem dX3_owes_9 : decode cX3_owes 9 = .ok (.iaload, 1) := by decide +kernel
theorem dX3_owes_10 : decode cX3_owes 10 = .ok (.iaload, 1) := by decide +kernel
theorem dX3_owes_11 : decode cX3_owes 11 = .ok (.aload_n 0, 1) := by decide +kernel
theorem dX3_owes_12 : decode cX3_owes 12 = .ok (.getfield 38, 3) := by decide +kernel
theorem dX3_owes_15 : decode cX3_owes 15 = .ok (.iload_n 1, 1) := by decide +kernel
theorem dX3_owes_16 : decode cX3_owes 16 = .ok (.iaload, 1) := by decide +kernel
theorem dX3_owes_17 : decode cX3_owes 17 = .ok (.isub, 1) := by decide +kernel
theorem dX3_owes_18 : decode cX3_owes 18 = .ok (.istore_n 2, 1) := by decide +kernel
theorem dX3_owes_19 : decode cX3_owes 19 = .ok (.aload_n 0, 1) := by decide +kernel
theorem dX3_owes_20 : decode cX3_owes 20 = .ok (.getfield 22, 3) := by decide +kernel
theorem dX3_owes_23 : decode cX3_owes 23 = .ok (.iload_n 1, 1) := by decide +kernel
theorem dX3_owes_24 : decode cX3_owes 24 = .ok (.baload, 1) := by decide +kernel
theorem dX3_owes_25 : decode cX3_owes 25 = .ok (.ifCond .ne 17, 3) := by decide +kernel
theorem dX3_owes_28 : decode cX3_owes 28 = .ok (.aload_n 0, 1) := by decide +kernel
theorem dX3_owes_29 : decode cX3_owes 29 = .ok (.getfield 41, 3) := by decide +kernel
theorem dX3_owes_32 : decode cX3_owes 32 = .ok (.iload_n 1, 1) := by decide +kernel
theorem dX3_owes_33 : decode cX3_owes 33 = .ok (.iaload, 1) := by decide +kernel
theorem dX3_owes_34 : decode cX3_owes 34 = .ok (.iconst 3, 1) := by decide +kernel
theorem dX3_owes_35 : decode cX3_owes 35 = .ok (.if_icmp .ge 7, 3) := by decide +kernel
theorem dX3_owes_38 : decode cX3_owes 38 = .ok (.iload_n 2, 1) := by decide +kernel
theorem dX3_owes_39 : decode cX3_owes 39 = .ok (.ifCond .ge 7, 3) := by decide +kernel
theorem dX3_owes_42 : decode cX3_owes 42 = .ok (.iconst 0, 1) := by decide +kernel
theorem dX3_owes_43 : decode cX3_owes 43 = .ok (.goto 4, 3) := by decide +kernel
theorem dX3_owes_46 : decode cX3_owes 46 = .ok (.iload_n 2, 1) := by decide +kernel
theorem dX3_owes_47 : decode cX3_owes 47 = .ok (.ireturn, 1) := by decide +kernel
theorem dX3_endPeriod_0 : decode cX3_endPeriod 0 = .ok (.aload_n 0, 1) := by decide +kernel
theorem dX3_endPeriod_1 : decode cX3_endPeriod 1 = .ok (.aload_n 0, 1) := by decide +kernel
theorem dX3_endPeriod_2 : decode cX3_endPeriod 2 = .ok (.getfield 118, 3) := by decide +kernel
theorem dX3_endPeriod_5 : decode cX3_endPeriod 5 = .ok (.ifCond .ne 7, 3) := by decide +kernel
theorem dX3_endPeriod_8 : decode cX3_endPeriod 8 = .ok (.iconst 1, 1) := by decide +kernel
theorem dX3_endPeriod_9 : decode cX3_endPeriod 9 = .ok (.goto 4, 3) := by decide +kernel
theorem dX3_endPeriod_12 : decode cX3_endPeriod 12 = .ok (.iconst 0, 1) := by decide +kernel
theorem dX3_endPeriod_13 : decode cX3_endPeriod 13 = .ok (.iconst 1, 1) := by decide +kernel
theorem dX3_endPeriod_14 : decode cX3_endPeriod 14 = .ok (.iconst 1, 1) := by decide +kernel
theorem dX3_endPeriod_15 : decode cX3_endPeriod 15 = .ok (.invokevirtual 91, 3) := by decide +kernel
theorem dX3_endPeriod_18 : decode cX3_endPeriod 18 = .ok (.ifCond .ne 5, 3) := by decide +kernel
theorem dX3_endPeriod_21 : decode cX3_endPeriod 21 = .ok (.iconst 0, 1) := by decide +kernel
theorem dX3_endPeriod_22 : decode cX3_endPeriod 22 = .ok (.ireturn, 1) := by decide +kernel
theorem dX3_endPeriod_23 : decode cX3_endPeriod 23 = .ok (.iconst 0, 1) := by decide +kernel
theorem dX3_endPeriod_24 : decode cX3_endPeriod 24 = .ok (.istore_n 1, 1) := by decide +kernel
theorem dX3_endPeriod_25 : decode cX3_endPeriod 25 = .ok (.iconst 0, 1) := by decide +kernel
theorem dX3_endPeriod_26 : decode cX3_endPeriod 26 = .ok (.istore_n 2, 1) := by decide +kernel
theorem dX3_endPeriod_27 : decode cX3_endPeriod 27 = .ok (.iload_n 2, 1) := by decide +kernel
theorem dX3_endPeriod_28 : decode cX3_endPeriod 28 = .ok (.bipush 30, 2) := by decide +kernel
theorem dX3_endPeriod_30 : decode cX3_endPeriod 30 = .ok (.if_icmp .ge 45, 3) := by decide +kernel
theorem dX3_endPeriod_33 : decode cX3_endPeriod 33 = .ok (.iload_n 1, 1) := by decide +kernel
theorem dX3_endPeriod_34 : decode cX3_endPeriod 34 = .ok (.aload_n 0, 1) := by decide +kernel
theorem dX3_endPeriod_35 : decode cX3_endPeriod 35 = .ok (.getfield 7, 3) := by decide +kernel
theorem dX3_endPeriod_38 : decode cX3_endPeriod 38 = .ok (.iload_n 2, 1) := by decide +kernel
theorem dX3_endPeriod_39 : decode cX3_endPeriod 39 = .ok (.iaload, 1) := by decide +kernel
theorem dX3_endPeriod_40 : decode cX3_endPeriod 40 = .ok (.iconst (-1), 1) := by decide +kernel
theorem dX3_endPeriod_41 : decode cX3_endPeriod 41 = .ok (.if_icmp .eq 11, 3) := by decide +kernel
theorem dX3_endPeriod_44 : decode cX3_endPeriod 44 = .ok (.aload_n 0, 1) := by decide +kernel
theorem dX3_endPeriod_45 : decode cX3_endPeriod 45 = .ok (.iload_n 2, 1) := by decide +kernel
theorem dX3_endPeriod_46 : decode cX3_endPeriod 46 = .ok (.invokevirtual 150, 3) := by decide +kernel
theorem dX3_endPeriod_49 : decode cX3_endPeriod 49 = .ok (.goto 4, 3) := by decide +kernel
theorem dX3_endPeriod_52 : decode cX3_endPeriod 52 = .ok (.iconst 0, 1) := by decide +kernel
theorem dX3_endPeriod_53 : decode cX3_endPeriod 53 = .ok (.iadd, 1) := by decide +kernel
theorem dX3_endPeriod_54 : decode cX3_endPeriod 54 = .ok (.istore_n 1, 1) := by decide +kernel
theorem dX3_endPeriod_55 : decode cX3_endPeriod 55 = .ok (.aload_n 0, 1) := by decide +kernel
theorem dX3_endPeriod_56 : decode cX3_endPeriod 56 = .ok (.getfield 38, 3) := by decide +kernel
theorem dX3_endPeriod_59 : decode cX3_endPeriod 59 = .ok (.iload_n 2, 1) := by decide +kernel
theorem dX3_endPeriod_60 : decode cX3_endPeriod 60 = .ok (.iconst 0, 1) := by decide +kernel
theorem dX3_endPeriod_61 : decode cX3_endPeriod 61 = .ok (.iastore, 1) := by decide +kernel
theorem dX3_endPeriod_62 : decode cX3_endPeriod 62 = .ok (.aload_n 0, 1) := by decide +kernel
theorem dX3_endPeriod_63 : decode cX3_endPeriod 63 = .ok (.getfield 41, 3) := by decide +kernel
theorem dX3_endPeriod_66 : decode cX3_endPeriod 66 = .ok (.iload_n 2, 1) := by decide +kernel
theorem dX3_endPeriod_67 : decode cX3_endPeriod 67 = .ok (.iconst 0, 1) := by decide +kernel
theorem dX3_endPeriod_68 : decode cX3_endPeriod 68 = .ok (.iastore, 1) := by decide +kernel
theorem dX3_endPeriod_69 : decode cX3_endPeriod 69 = .ok (.iinc 2 1, 3) := by decide +kernel
theorem dX3_endPeriod_72 : decode cX3_endPeriod 72 = .ok (.goto (-45), 3) := by decide +kernel
theorem dX3_endPeriod_75 : decode cX3_endPeriod 75 = .ok (.iload_n 1, 1) := by decide +kernel
theorem dX3_endPeriod_76 : decode cX3_endPeriod 76 = .ok (.ireturn, 1) := by decide +kernel
theorem dX3_workers_0 : decode cX3_workers 0 = .ok (.aload_n 0, 1) := by decide +kernel
theorem dX3_workers_1 : decode cX3_workers 1 = .ok (.iconst 0, 1) := by decide +kernel
theorem dX3_workers_2 : decode cX3_workers 2 = .ok (.putfield 69, 3) := by decide +kernel
theorem dX3_workers_5 : decode cX3_workers 5 = .ok (.aload_n 0, 1) := by decide +kernel
theorem dX3_workers_6 : decode cX3_workers 6 = .ok (.invokevirtual 87, 3) := by decide +kernel
theorem dX3_workers_9 : decode cX3_workers 9 = .ok (.ireturn, 1) := by decide +kernel
theorem dX3_boardOf_0 : decode cX3_boardOf 0 = .ok (.aload_n 0, 1) := by decide +kernel
theorem dX3_boardOf_1 : decode cX3_boardOf 1 = .ok (.iload_n 1, 1) := by decide +kernel
theorem dX3_boardOf_2 : decode cX3_boardOf 2 = .ok (.invokevirtual 102, 3) := by decide +kernel
theorem dX3_boardOf_5 : decode cX3_boardOf 5 = .ok (.istore_n 2, 1) := by decide +kernel
theorem dX3_boardOf_6 : decode cX3_boardOf 6 = .ok (.aload_n 0, 1) := by decide +kernel
theorem dX3_boardOf_7 : decode cX3_boardOf 7 = .ok (.iload_n 2, 1) := by decide +kernel
theorem dX3_boardOf_8 : decode cX3_boardOf 8 = .ok (.ifCond .lt 7, 3) := by decide +kernel
theorem dX3_boardOf_11 : decode cX3_boardOf 11 = .ok (.iconst 1, 1) := by decide +kernel
theorem dX3_boardOf_12 : decode cX3_boardOf 12 = .ok (.goto 4, 3) := by decide +kernel
theorem dX3_boardOf_15 : decode cX3_boardOf 15 = .ok (.iconst 0, 1) := by decide +kernel
theorem dX3_boardOf_16 : decode cX3_boardOf 16 = .ok (.iconst 1, 1) := by decide +kernel
theorem dX3_boardOf_17 : decode cX3_boardOf 17 = .ok (.iconst 1, 1) := by decide +kernel
theorem dX3_boardOf_18 : decode cX3_boardOf 18 = .ok (.invokevirtual 91, 3) := by decide +kernel
theorem dX3_boardOf_21 : decode cX3_boardOf 21 = .ok (.ifCond .eq 12, 3) := by decide +kernel
theorem dX3_boardOf_24 : decode cX3_boardOf 24 = .ok (.aload_n 0, 1) := by decide +kernel
theorem dX3_boardOf_25 : decode cX3_boardOf 25 = .ok (.getfield 13, 3) := by decide +kernel
theorem dX3_boardOf_28 : decode cX3_boardOf 28 = .ok (.iload_n 2, 1) := by decide +kernel
theorem dX3_boardOf_29 : decode cX3_boardOf 29 = .ok (.iaload, 1) := by decide +kernel
theorem dX3_boardOf_30 : decode cX3_boardOf 30 = .ok (.goto 4, 3) := by decide +kernel
theorem dX3_boardOf_33 : decode cX3_boardOf 33 = .ok (.iconst 0, 1) := by decide +kernel
theorem dX3_boardOf_34 : decode cX3_boardOf 34 = .ok (.ireturn, 1) := by decide +kernel
theorem dX3_rankOf_0 : decode cX3_rankOf 0 = .ok (.aload_n 0, 1) := by decide +kernel
theorem dX3_rankOf_1 : decode cX3_rankOf 1 = .ok (.iload_n 1, 1) := by decide +kernel
theorem dX3_rankOf_2 : decode cX3_rankOf 2 = .ok (.invokevirtual 102, 3) := by decide +kernel
theorem dX3_rankOf_5 : decode cX3_rankOf 5 = .ok (.istore_n 2, 1) := by decide +kernel
theorem dX3_rankOf_6 : decode cX3_rankOf 6 = .ok (.aload_n 0, 1) := by decide +kernel
theorem dX3_rankOf_7 : decode cX3_rankOf 7 = .ok (.iload_n 2, 1) := by decide +kernel
theorem dX3_rankOf_8 : decode cX3_rankOf 8 = .ok (.ifCond .lt 7, 3) := by decide +kernel
theorem dX3_rankOf_11 : decode cX3_rankOf 11 = .ok (.iconst 1, 1) := by decide +kernel
theorem dX3_rankOf_12 : decode cX3_rankOf 12 = .ok (.goto 4, 3) := by decide +kernel
theorem dX3_rankOf_15 : decode cX3_rankOf 15 = .ok (.iconst 0, 1) := by decide +kernel
theorem dX3_rankOf_16 : decode cX3_rankOf 16 = .ok (.iconst 1, 1) := by decide +kernel
theorem dX3_rankOf_17 : decode cX3_rankOf 17 = .ok (.iconst 1, 1) := by decide +kernel
theorem dX3_rankOf_18 : decode cX3_rankOf 18 = .ok (.invokevirtual 91, 3) := by decide +kernel
theorem dX3_rankOf_21 : decode cX3_rankOf 21 = .ok (.ifCond .eq 11, 3) := by decide +kernel
theorem dX3_rankOf_24 : decode cX3_rankOf 24 = .ok (.aload_n 0, 1) := by decide +kernel
theorem dX3_rankOf_25 : decode cX3_rankOf 25 = .ok (.iload_n 2, 1) := by decide +kernel
theorem dX3_rankOf_26 : decode cX3_rankOf 26 = .ok (.invokevirtual 109, 3) := by decide +kernel
theorem dX3_rankOf_29 : decode cX3_rankOf 29 = .ok (.goto 4, 3) := by decide +kernel
theorem dX3_rankOf_32 : decode cX3_rankOf 32 = .ok (.iconst 0, 1) := by decide +kernel
theorem dX3_rankOf_33 : decode cX3_rankOf 33 = .ok (.ireturn, 1) := by decide +kernel
theorem dX3_hoursOf_0 : decode cX3_hoursOf 0 = .ok (.aload_n 0, 1) := by decide +kernel
theorem dX3_hoursOf_1 : decode cX3_hoursOf 1 = .ok (.iload_n 1, 1) := by decide +kernel
theorem dX3_hoursOf_2 : decode cX3_hoursOf 2 = .ok (.invokevirtual 102, 3) := by decide +kernel
theorem dX3_hoursOf_5 : decode cX3_hoursOf 5 = .ok (.istore_n 2, 1) := by decide +kernel
theorem dX3_hoursOf_6 : decode cX3_hoursOf 6 = .ok (.aload_n 0, 1) := by decide +kernel
theorem dX3_hoursOf_7 : decode cX3_hoursOf 7 = .ok (.iload_n 2, 1) := by decide +kernel
theorem dX3_hoursOf_8 : decode cX3_hoursOf 8 = .ok (.ifCond .lt 7, 3) := by decide +kernel
theorem dX3_hoursOf_11 : decode cX3_hoursOf 11 = .ok (.iconst 1, 1) := by decide +kernel
theorem dX3_hoursOf_12 : decode cX3_hoursOf 12 = .ok (.goto 4, 3) := by decide +kernel
theorem dX3_hoursOf_15 : decode cX3_hoursOf 15 = .ok (.iconst 0, 1) := by decide +kernel
theorem dX3_hoursOf_16 : decode cX3_hoursOf 16 = .ok (.iconst 1, 1) := by decide +kernel
theorem dX3_hoursOf_17 : decode cX3_hoursOf 17 = .ok (.iconst 1, 1) := by decide +kernel
theorem dX3_hoursOf_18 : decode cX3_hoursOf 18 = .ok (.invokevirtual 91, 3) := by decide +kernel
theorem dX3_hoursOf_21 : decode cX3_hoursOf 21 = .ok (.ifCond .eq 12, 3) := by decide +kernel
theorem dX3_hoursOf_24 : decode cX3_hoursOf 24 = .ok (.aload_n 0, 1) := by decide +kernel
theorem dX3_hoursOf_25 : decode cX3_hoursOf 25 = .ok (.getfield 38, 3) := by decide +kernel
theorem dX3_hoursOf_28 : decode cX3_hoursOf 28 = .ok (.iload_n 2, 1) := by decide +kernel
theorem dX3_hoursOf_29 : decode cX3_hoursOf 29 = .ok (.iaload, 1) := by decide +kernel
theorem dX3_hoursOf_30 : decode cX3_hoursOf 30 = .ok (.goto 4, 3) := by decide +kernel
theorem dX3_hoursOf_33 : decode cX3_hoursOf 33 = .ok (.iconst 0, 1) := by decide +kernel
theorem dX3_hoursOf_34 : decode cX3_hoursOf 34 = .ok (.ireturn, 1) := by decide +kernel
theorem dX3_refusalsOf_0 : decode cX3_refusalsOf 0 = .ok (.aload_n 0, 1) := by decide +kernel
theorem dX3_refusalsOf_1 : decode cX3_refusalsOf 1 = .ok (.iload_n 1, 1) := by decide +kernel
theorem dX3_refusalsOf_2 : decode cX3_refusalsOf 2 = .ok (.invokevirtual 102, 3) := by decide +kernel
theorem dX3_refusalsOf_5 : decode cX3_refusalsOf 5 = .ok (.istore_n 2, 1) := by decide +kernel
theorem dX3_refusalsOf_6 : decode cX3_refusalsOf 6 = .ok (.aload_n 0, 1) := by decide +kernel
theorem dX3_refusalsOf_7 : decode cX3_refusalsOf 7 = .ok (.iload_n 2, 1) := by decide +kernel
theorem dX3_refusalsOf_8 : decode cX3_refusalsOf 8 = .ok (.ifCond .lt 7, 3) := by decide +kernel
theorem dX3_refusalsOf_11 : decode cX3_refusalsOf 11 = .ok (.iconst 1, 1) := by decide +kernel
theorem dX3_refusalsOf_12 : decode cX3_refusalsOf 12 = .ok (.goto 4, 3) := by decide +kernel
theorem dX3_refusalsOf_15 : decode cX3_refusalsOf 15 = .ok (.iconst 0, 1) := by decide +kernel
theorem dX3_refusalsOf_16 : decode cX3_refusalsOf 16 = .ok (.iconst 1, 1) := by decide +kernel
theorem dX3_refusalsOf_17 : decode cX3_refusalsOf 17 = .ok (.iconst 1, 1) := by decide +kernel
theorem dX3_refusalsOf_18 : decode cX3_refusalsOf 18 = .ok (.invokevirtual 91, 3) := by decide +kernel
theorem dX3_refusalsOf_21 : decode cX3_refusalsOf 21 = .ok (.ifCond .eq 12, 3) := by decide +kernel
theorem dX3_refusalsOf_24 : decode cX3_refusalsOf 24 = .ok (.aload_n 0, 1) := by decide +kernel
theorem dX3_refusalsOf_25 : decode cX3_refusalsOf 25 = .ok (.getfield 41, 3) := by decide +kernel
theorem dX3_refusalsOf_28 : decode cX3_refusalsOf 28 = .ok (.iload_n 2, 1) := by decide +kernel
theorem dX3_refusalsOf_29 : decode cX3_refusalsOf 29 = .ok (.iaload, 1) := by decide +kernel
theorem dX3_refusalsOf_30 : decode cX3_refusalsOf 30 = .ok (.goto 4, 3) := by decide +kernel
theorem dX3_refusalsOf_33 : decode cX3_refusalsOf 33 = .ok (.iconst 0, 1) := by decide +kernel
theorem dX3_refusalsOf_34 : decode cX3_refusalsOf 34 = .ok (.ireturn, 1) := by decide +kernel
theorem dX3_placeOf_0 : decode cX3_placeOf 0 = .ok (.aload_n 0, 1) := by decide +kernel
theorem dX3_placeOf_1 : decode cX3_placeOf 1 = .ok (.iload_n 1, 1) := by decide +kernel
theorem dX3_placeOf_2 : decode cX3_placeOf 2 = .ok (.invokevirtual 102, 3) := by decide +kernel
theorem dX3_placeOf_5 : decode cX3_placeOf 5 = .ok (.istore_n 2, 1) := by decide +kernel
theorem dX3_placeOf_6 : decode cX3_placeOf 6 = .ok (.aload_n 0, 1) := by decide +kernel
theorem dX3_placeOf_7 : decode cX3_placeOf 7 = .ok (.iload_n 2, 1) := by decide +kernel
theorem dX3_placeOf_8 : decode cX3_placeOf 8 = .ok (.ifCond .lt 7, 3) := by decide +kernel
theorem dX3_placeOf_11 : decode cX3_placeOf 11 = .ok (.iconst 1, 1) := by decide +kernel
theorem dX3_placeOf_12 : decode cX3_placeOf 12 = .ok (.goto 4, 3) := by decide +kernel
theorem dX3_placeOf_15 : decode cX3_placeOf 15 = .ok (.iconst 0, 1) := by decide +kernel
theorem dX3_placeOf_16 : decode cX3_placeOf 16 = .ok (.iconst 1, 1) := by decide +kernel
theorem dX3_placeOf_17 : decode cX3_placeOf 17 = .ok (.iconst 1, 1) := by decide +kernel
theorem dX3_placeOf_18 : decode cX3_placeOf 18 = .ok (.invokevirtual 91, 3) := by decide +kernel
theorem dX3_placeOf_21 : decode cX3_placeOf 21 = .ok (.ifCond .eq 12, 3) := by decide +kernel
theorem dX3_placeOf_24 : decode cX3_placeOf 24 = .ok (.aload_n 0, 1) := by decide +kernel
theorem dX3_placeOf_25 : decode cX3_placeOf 25 = .ok (.getfield 32, 3) := by decide +kernel
theorem dX3_placeOf_28 : decode cX3_placeOf 28 = .ok (.iload_n 2, 1) := by decide +kernel
theorem dX3_placeOf_29 : decode cX3_placeOf 29 = .ok (.iaload, 1) := by decide +kernel
theorem dX3_placeOf_30 : decode cX3_placeOf 30 = .ok (.goto 4, 3) := by decide +kernel
theorem dX3_placeOf_33 : decode cX3_placeOf 33 = .ok (.iconst 0, 1) := by decide +kernel
theorem dX3_placeOf_34 : decode cX3_placeOf 34 = .ok (.ireturn, 1) := by decide +kernel
theorem dX3_owedTo_0 : decode cX3_owedTo 0 = .ok (.aload_n 0, 1) := by decide +kernel
theorem dX3_owedTo_1 : decode cX3_owedTo 1 = .ok (.iload_n 1, 1) := by decide +kernel
theorem dX3_owedTo_2 : decode cX3_owedTo 2 = .ok (.invokevirtual 102, 3) := by decide +kernel
theorem dX3_owedTo_5 : decode cX3_owedTo 5 = .ok (.istore_n 2, 1) := by decide +kernel
theorem dX3_owedTo_6 : decode cX3_owedTo 6 = .ok (.aload_n 0, 1) := by decide +kernel
theorem dX3_owedTo_7 : decode cX3_owedTo 7 = .ok (.iload_n 2, 1) := by decide +kernel
theorem dX3_owedTo_8 : decode cX3_owedTo 8 = .ok (.ifCond .lt 7, 3) := by decide +kernel
theorem dX3_owedTo_11 : decode cX3_owedTo 11 = .ok (.iconst 1, 1) := by decide +kernel
theorem dX3_owedTo_12 : decode cX3_owedTo 12 = .ok (.goto 4, 3) := by decide +kernel
theorem dX3_owedTo_15 : decode cX3_owedTo 15 = .ok (.iconst 0, 1) := by decide +kernel
theorem dX3_owedTo_16 : decode cX3_owedTo 16 = .ok (.iconst 1, 1) := by decide +kernel
theorem dX3_owedTo_17 : decode cX3_owedTo 17 = .ok (.iconst 1, 1) := by decide +kernel
theorem dX3_owedTo_18 : decode cX3_owedTo 18 = .ok (.invokevirtual 91, 3) := by decide +kernel
theorem dX3_owedTo_21 : decode cX3_owedTo 21 = .ok (.ifCond .eq 11, 3) := by decide +kernel
theorem dX3_owedTo_24 : decode cX3_owedTo 24 = .ok (.aload_n 0, 1) := by decide +kernel
theorem dX3_owedTo_25 : decode cX3_owedTo 25 = .ok (.iload_n 2, 1) := by decide +kernel
theorem dX3_owedTo_26 : decode cX3_owedTo 26 = .ok (.invokevirtual 150, 3) := by decide +kernel
theorem dX3_owedTo_29 : decode cX3_owedTo 29 = .ok (.goto 4, 3) := by decide +kernel
theorem dX3_owedTo_32 : decode cX3_owedTo 32 = .ok (.iconst 0, 1) := by decide +kernel
theorem dX3_owedTo_33 : decode cX3_owedTo 33 = .ok (.ireturn, 1) := by decide +kernel
theorem dX3_places_0 : decode cX3_places 0 = .ok (.aload_n 0, 1) := by decide +kernel
theorem dX3_places_1 : decode cX3_places 1 = .ok (.iconst 0, 1) := by decide +kernel
theorem dX3_places_2 : decode cX3_places 2 = .ok (.putfield 69, 3) := by decide +kernel
theorem dX3_places_5 : decode cX3_places 5 = .ok (.aload_n 0, 1) := by decide +kernel
theorem dX3_places_6 : decode cX3_places 6 = .ok (.getfield 112, 3) := by decide +kernel
theorem dX3_places_9 : decode cX3_places 9 = .ok (.ireturn, 1) := by decide +kernel
theorem dX3_workerAt_0 : decode cX3_workerAt 0 = .ok (.aload_n 0, 1) := by decide +kernel
theorem dX3_workerAt_1 : decode cX3_workerAt 1 = .ok (.aload_n 0, 1) := by decide +kernel
theorem dX3_workerAt_2 : decode cX3_workerAt 2 = .ok (.iload_n 1, 1) := by decide +kernel
theorem dX3_workerAt_3 : decode cX3_workerAt 3 = .ok (.invokevirtual 147, 3) := by decide +kernel
theorem dX3_workerAt_6 : decode cX3_workerAt 6 = .ok (.iconst 1, 1) := by decide +kernel
theorem dX3_workerAt_7 : decode cX3_workerAt 7 = .ok (.iconst 1, 1) := by decide +kernel
theorem dX3_workerAt_8 : decode cX3_workerAt 8 = .ok (.invokevirtual 91, 3) := by decide +kernel
theorem dX3_workerAt_11 : decode cX3_workerAt 11 = .ok (.ifCond .ne 7, 3) := by decide +kernel
theorem dX3_workerAt_14 : decode cX3_workerAt 14 = .ok (.iconst 0, 1) := by decide +kernel
theorem dX3_workerAt_15 : decode cX3_workerAt 15 = .ok (.goto 28, 3) := by decide +kernel
theorem dX3_workerAt_18 : decode cX3_workerAt 18 = .ok (.aload_n 0, 1) := by decide +kernel
theorem dX3_workerAt_19 : decode cX3_workerAt 19 = .ok (.getfield 53, 3) := by decide +kernel
theorem dX3_workerAt_22 : decode cX3_workerAt 22 = .ok (.iload_n 1, 1) := by decide +kernel
theorem dX3_workerAt_23 : decode cX3_workerAt 23 = .ok (.iaload, 1) := by decide +kernel
theorem dX3_workerAt_24 : decode cX3_workerAt 24 = .ok (.iconst (-1), 1) := by decide +kernel
theorem dX3_workerAt_25 : decode cX3_workerAt 25 = .ok (.if_icmp .ne 7, 3) := by decide +kernel
theorem dX3_workerAt_28 : decode cX3_workerAt 28 = .ok (.iconst (-1), 1) := by decide +kernel
theorem dX3_workerAt_29 : decode cX3_workerAt 29 = .ok (.goto 14, 3) := by decide +kernel
theorem dX3_workerAt_32 : decode cX3_workerAt 32 = .ok (.aload_n 0, 1) := by decide +kernel
theorem dX3_workerAt_33 : decode cX3_workerAt 33 = .ok (.getfield 7, 3) := by decide +kernel
theorem dX3_workerAt_36 : decode cX3_workerAt 36 = .ok (.aload_n 0, 1) := by decide +kernel
theorem dX3_workerAt_37 : decode cX3_workerAt 37 = .ok (.getfield 53, 3) := by decide +kernel
theorem dX3_workerAt_40 : decode cX3_workerAt 40 = .ok (.iload_n 1, 1) := by decide +kernel
theorem dX3_workerAt_41 : decode cX3_workerAt 41 = .ok (.iaload, 1) := by decide +kernel
theorem dX3_workerAt_42 : decode cX3_workerAt 42 = .ok (.iaload, 1) := by decide +kernel
theorem dX3_workerAt_43 : decode cX3_workerAt 43 = .ok (.ireturn, 1) := by decide +kernel
theorem dX3_nextUp_0 : decode cX3_nextUp 0 = .ok (.aload_n 0, 1) := by decide +kernel
theorem dX3_nextUp_1 : decode cX3_nextUp 1 = .ok (.iload_n 1, 1) := by decide +kernel
theorem dX3_nextUp_2 : decode cX3_nextUp 2 = .ok (.invokestatic 83, 3) := by decide +kernel
theorem dX3_nextUp_5 : decode cX3_nextUp 5 = .ok (.iconst 1, 1) := by decide +kernel
theorem dX3_nextUp_6 : decode cX3_nextUp 6 = .ok (.iconst 1, 1) := by decide +kernel
theorem dX3_nextUp_7 : decode cX3_nextUp 7 = .ok (.invokevirtual 91, 3) := by decide +kernel
theorem dX3_nextUp_10 : decode cX3_nextUp 10 = .ok (.ifCond .ne 5, 3) := by decide +kernel
theorem dX3_nextUp_13 : decode cX3_nextUp 13 = .ok (.iconst 0, 1) := by decide +kernel
theorem dX3_nextUp_14 : decode cX3_nextUp 14 = .ok (.ireturn, 1) := by decide +kernel
theorem dX3_nextUp_15 : decode cX3_nextUp 15 = .ok (.aload_n 0, 1) := by decide +kernel
theorem dX3_nextUp_16 : decode cX3_nextUp 16 = .ok (.invokevirtual 106, 3) := by decide +kernel
theorem dX3_nextUp_19 : decode cX3_nextUp 19 = .ok (.istore_n 2, 1) := by decide +kernel
theorem dX3_nextUp_20 : decode cX3_nextUp 20 = .ok (.iconst 0, 1) := by decide +kernel
theorem dX3_nextUp_21 : decode cX3_nextUp 21 = .ok (.istore_n 3, 1) := by decide +kernel
theorem dX3_nextUp_22 : decode cX3_nextUp 22 = .ok (.iload_n 3, 1) := by decide +kernel
theorem dX3_nextUp_23 : decode cX3_nextUp 23 = .ok (.iload_n 2, 1) := by decide +kernel
theorem dX3_nextUp_24 : decode cX3_nextUp 24 = .ok (.if_icmp .ge 49, 3) := by decide +kernel
theorem dX3_nextUp_27 : decode cX3_nextUp 27 = .ok (.aload_n 0, 1) := by decide +kernel
theorem dX3_nextUp_28 : decode cX3_nextUp 28 = .ok (.getfield 13, 3) := by decide +kernel
theorem dX3_nextUp_31 : decode cX3_nextUp 31 = .ok (.aload_n 0, 1) := by decide +kernel
theorem dX3_nextUp_32 : decode cX3_nextUp 32 = .ok (.getfield 60, 3) := by decide +kernel
theorem dX3_nextUp_35 : decode cX3_nextUp 35 = .ok (.iload_n 3, 1) := by decide +kernel
theorem dX3_nextUp_36 : decode cX3_nextUp 36 = .ok (.iaload, 1) := by decide +kernel
theorem dX3_nextUp_37 : decode cX3_nextUp 37 = .ok (.iaload, 1) := by decide +kernel
theorem dX3_nextUp_38 : decode cX3_nextUp 38 = .ok (.iload_n 1, 1) := by decide +kernel
theorem dX3_nextUp_39 : decode cX3_nextUp 39 = .ok (.if_icmp .ne 28, 3) := by decide +kernel
theorem dX3_nextUp_42 : decode cX3_nextUp 42 = .ok (.aload_n 0, 1) := by decide +kernel
theorem dX3_nextUp_43 : decode cX3_nextUp 43 = .ok (.aload_n 0, 1) := by decide +kernel
theorem dX3_nextUp_44 : decode cX3_nextUp 44 = .ok (.getfield 60, 3) := by decide +kernel
theorem dX3_nextUp_47 : decode cX3_nextUp 47 = .ok (.iload_n 3, 1) := by decide +kernel
theorem dX3_nextUp_48 : decode cX3_nextUp 48 = .ok (.iaload, 1) := by decide +kernel
theorem dX3_nextUp_49 : decode cX3_nextUp 49 = .ok (.invokevirtual 132, 3) := by decide +kernel
theorem dX3_nextUp_52 : decode cX3_nextUp 52 = .ok (.ifCond .eq 15, 3) := by decide +kernel
theorem dX3_nextUp_55 : decode cX3_nextUp 55 = .ok (.aload_n 0, 1) := by decide +kernel
theorem dX3_nextUp_56 : decode cX3_nextUp 56 = .ok (.getfield 7, 3) := by decide +kernel
theorem dX3_nextUp_59 : decode cX3_nextUp 59 = .ok (.aload_n 0, 1) := by decide +kernel
theorem dX3_nextUp_60 : decode cX3_nextUp 60 = .ok (.getfield 60, 3) := by decide +kernel
theorem dX3_nextUp_63 : decode cX3_nextUp 63 = .ok (.iload_n 3, 1) := by decide +kernel
theorem dX3_nextUp_64 : decode cX3_nextUp 64 = .ok (.iaload, 1) := by decide +kernel
theorem dX3_nextUp_65 : decode cX3_nextUp 65 = .ok (.iaload, 1) := by decide +kernel
theorem dX3_nextUp_66 : decode cX3_nextUp 66 = .ok (.ireturn, 1) := by decide +kernel
theorem dX3_nextUp_67 : decode cX3_nextUp 67 = .ok (.iinc 3 1, 3) := by decide +kernel
theorem dX3_nextUp_70 : decode cX3_nextUp 70 = .ok (.goto (-48), 3) := by decide +kernel
theorem dX3_nextUp_73 : decode cX3_nextUp 73 = .ok (.iconst (-1), 1) := by decide +kernel
theorem dX3_nextUp_74 : decode cX3_nextUp 74 = .ok (.ireturn, 1) := by decide +kernel
theorem dX3_fillable_0 : decode cX3_fillable 0 = .ok (.aload_n 0, 1) := by decide +kernel
theorem dX3_fillable_1 : decode cX3_fillable 1 = .ok (.iconst 0, 1) := by decide +kernel
theorem dX3_fillable_2 : decode cX3_fillable 2 = .ok (.putfield 69, 3) := by decide +kernel
theorem dX3_fillable_5 : decode cX3_fillable 5 = .ok (.aload_n 0, 1) := by decide +kernel
theorem dX3_fillable_6 : decode cX3_fillable 6 = .ok (.invokevirtual 106, 3) := by decide +kernel
theorem dX3_fillable_9 : decode cX3_fillable 9 = .ok (.istore_n 1, 1) := by decide +kernel
theorem dX3_fillable_10 : decode cX3_fillable 10 = .ok (.iconst 0, 1) := by decide +kernel
theorem dX3_fillable_11 : decode cX3_fillable 11 = .ok (.istore_n 2, 1) := by decide +kernel
theorem dX3_fillable_12 : decode cX3_fillable 12 = .ok (.aload_n 0, 1) := by decide +kernel
theorem dX3_fillable_13 : decode cX3_fillable 13 = .ok (.invokevirtual 129, 3) := by decide +kernel
theorem dX3_fillable_16 : decode cX3_fillable 16 = .ok (.iconst 0, 1) := by decide +kernel
theorem dX3_fillable_17 : decode cX3_fillable 17 = .ok (.istore_n 3, 1) := by decide +kernel
theorem dX3_fillable_18 : decode cX3_fillable 18 = .ok (.iload_n 3, 1) := by decide +kernel
theorem dX3_fillable_19 : decode cX3_fillable 19 = .ok (.iload_n 1, 1) := by decide +kernel
theorem dX3_fillable_20 : decode cX3_fillable 20 = .ok (.if_icmp .ge 67, 3) := by decide +kernel
theorem dX3_fillable_23 : decode cX3_fillable 23 = .ok (.aload_n 0, 1) := by decide +kernel
theorem dX3_fillable_24 : decode cX3_fillable 24 = .ok (.aload_n 0, 1) := by decide +kernel
theorem dX3_fillable_25 : decode cX3_fillable 25 = .ok (.getfield 60, 3) := by decide +kernel
theorem dX3_fillable_28 : decode cX3_fillable 28 = .ok (.iload_n 3, 1) := by decide +kernel
theorem dX3_fillable_29 : decode cX3_fillable 29 = .ok (.iaload, 1) := by decide +kernel
theorem dX3_fillable_30 : decode cX3_fillable 30 = .ok (.invokevirtual 132, 3) := by decide +kernel
theorem dX3_fillable_33 : decode cX3_fillable 33 = .ok (.ifCond .eq 48, 3) := by decide +kernel
theorem dX3_fillable_36 : decode cX3_fillable 36 = .ok (.aload_n 0, 1) := by decide +kernel
theorem dX3_fillable_37 : decode cX3_fillable 37 = .ok (.getfield 26, 3) := by decide +kernel
theorem dX3_fillable_40 : decode cX3_fillable 40 = .ok (.aload_n 0, 1) := by decide +kernel
theorem dX3_fillable_41 : decode cX3_fillable 41 = .ok (.getfield 60, 3) := by decide +kernel
theorem dX3_fillable_44 : decode cX3_fillable 44 = .ok (.iload_n 3, 1) := by decide +kernel
theorem dX3_fillable_45 : decode cX3_fillable 45 = .ok (.iaload, 1) := by decide +kernel
theorem dX3_fillable_46 : decode cX3_fillable 46 = .ok (.baload, 1) := by decide +kernel
theorem dX3_fillable_47 : decode cX3_fillable 47 = .ok (.ifCond .ne 34, 3) := by decide +kernel
theorem dX3_fillable_50 : decode cX3_fillable 50 = .ok (.aload_n 0, 1) := by decide +kernel
theorem dX3_fillable_51 : decode cX3_fillable 51 = .ok (.getfield 63, 3) := by decide +kernel
theorem dX3_fillable_54 : decode cX3_fillable 54 = .ok (.iload_n 2, 1) := by decide +kernel
theorem dX3_fillable_55 : decode cX3_fillable 55 = .ok (.aload_n 0, 1) := by decide +kernel
theorem dX3_fillable_56 : decode cX3_fillable 56 = .ok (.getfield 60, 3) := by decide +kernel
theorem dX3_fillable_59 : decode cX3_fillable 59 = .ok (.iload_n 3, 1) := by decide +kernel
theorem dX3_fillable_60 : decode cX3_fillable 60 = .ok (.iaload, 1) := by decide +kernel
theorem dX3_fillable_61 : decode cX3_fillable 61 = .ok (.iastore, 1) := by decide +kernel
theorem dX3_fillable_62 : decode cX3_fillable 62 = .ok (.iload_n 2, 1) := by decide +kernel
theorem dX3_fillable_63 : decode cX3_fillable 63 = .ok (.aload_n 0, 1) := by decide +kernel
theorem dX3_fillable_64 : decode cX3_fillable 64 = .ok (.iconst 0, 1) := by decide +kernel
theorem dX3_fillable_65 : decode cX3_fillable 65 = .ok (.iload_n 2, 1) := by decide +kernel
theorem dX3_fillable_66 : decode cX3_fillable 66 = .ok (.iconst 1, 1) := by decide +kernel
theorem dX3_fillable_67 : decode cX3_fillable 67 = .ok (.iadd, 1) := by decide +kernel
theorem dX3_fillable_68 : decode cX3_fillable 68 = .ok (.invokevirtual 122, 3) := by decide +kernel
theorem dX3_fillable_71 : decode cX3_fillable 71 = .ok (.ifCond .eq 7, 3) := by decide +kernel
theorem dX3_fillable_74 : decode cX3_fillable 74 = .ok (.iconst 1, 1) := by decide +kernel
theorem dX3_fillable_75 : decode cX3_fillable 75 = .ok (.goto 4, 3) := by decide +kernel
theorem dX3_fillable_78 : decode cX3_fillable 78 = .ok (.iconst 0, 1) := by decide +kernel
theorem dX3_fillable_79 : decode cX3_fillable 79 = .ok (.iadd, 1) := by decide +kernel
theorem dX3_fillable_80 : decode cX3_fillable 80 = .ok (.istore_n 2, 1) := by decide +kernel
theorem dX3_fillable_81 : decode cX3_fillable 81 = .ok (.iinc 3 1, 3) := by decide +kernel
theorem dX3_fillable_84 : decode cX3_fillable 84 = .ok (.goto (-66), 3) := by decide +kernel
theorem dX3_fillable_87 : decode cX3_fillable 87 = .ok (.iload_n 2, 1) := by decide +kernel
theorem dX3_fillable_88 : decode cX3_fillable 88 = .ok (.ireturn, 1) := by decide +kernel
theorem dJ9_max_7cf53_0 : decode cJ9_max_7cf53 0 = .ok (.iload_n 0, 1) := by decide +kernel
theorem dJ9_max_7cf53_1 : decode cJ9_max_7cf53 1 = .ok (.iload_n 1, 1) := by decide +kernel
theorem dJ9_max_7cf53_2 : decode cJ9_max_7cf53 2 = .ok (.if_icmp .lt 7, 3) := by decide +kernel
theorem dJ9_max_7cf53_5 : decode cJ9_max_7cf53 5 = .ok (.iload_n 0, 1) := by decide +kernel
theorem dJ9_max_7cf53_6 : decode cJ9_max_7cf53 6 = .ok (.goto 4, 3) := by decide +kernel
theorem dJ9_max_7cf53_9 : decode cJ9_max_7cf53 9 = .ok (.iload_n 1, 1) := by decide +kernel
theorem dJ9_max_7cf53_10 : decode cJ9_max_7cf53 10 = .ok (.ireturn, 1) := by decide +kernel
theorem dJ9_min_7cf53_0 : decode cJ9_min_7cf53 0 = .ok (.iload_n 0, 1) := by decide +kernel
theorem dJ9_min_7cf53_1 : decode cJ9_min_7cf53 1 = .ok (.iload_n 1, 1) := by decide +kernel
theorem dJ9_min_7cf53_2 : decode cJ9_min_7cf53 2 = .ok (.if_icmp .gt 7, 3) := by decide +kernel
theorem dJ9_min_7cf53_5 : decode cJ9_min_7cf53 5 = .ok (.iload_n 0, 1) := by decide +kernel
theorem dJ9_min_7cf53_6 : decode cJ9_min_7cf53 6 = .ok (.goto 4, 3) := by decide +kernel
theorem dJ9_min_7cf53_9 : decode cJ9_min_7cf53 9 = .ok (.iload_n 1, 1) := by decide +kernel
theorem dJ9_min_7cf53_10 : decode cJ9_min_7cf53 10 = .ok (.ireturn, 1) := by decide +kernel
theorem dJxa1e45_init_da8c8_0 : decode cJxa1e45_init_da8c8 0 = .ok (.aload_n 0, 1) := by decide +kernel
theorem dJxa1e45_init_da8c8_1 : decode cJxa1e45_init_da8c8 1 = .ok (.invokespecial 1, 3) := by decide +kernel
theorem dJxa1e45_init_da8c8_4 : decode cJxa1e45_init_da8c8 4 = .ok (.return_, 1) := by decide +kernel
theorem dJxc12de_init_da8c8_0 : decode cJxc12de_init_da8c8 0 = .ok (.aload_n 0, 1) := by decide +kernel
theorem dJxc12de_init_da8c8_1 : decode cJxc12de_init_da8c8 1 = .ok (.invokespecial 1, 3) := by decide +kernel
theorem dJxc12de_init_da8c8_4 : decode cJxc12de_init_da8c8 4 = .ok (.aload_n 0, 1) := by decide +kernel
theorem dJxc12de_init_da8c8_5 : decode cJxc12de_init_da8c8 5 = .ok (.iconst 0, 1) := by decide +kernel
theorem dJxc12de_init_da8c8_6 : decode cJxc12de_init_da8c8 6 = .ok (.putfield 7, 3) := by decide +kernel
theorem dJxc12de_init_da8c8_9 : decode cJxc12de_init_da8c8 9 = .ok (.return_, 1) := by decide +kernel
theorem dJx4a65c_init_da8c8_0 : decode cJx4a65c_init_da8c8 0 = .ok (.aload_n 0, 1) := by decide +kernel
theorem dJx4a65c_init_da8c8_1 : decode cJx4a65c_init_da8c8 1 = .ok (.invokespecial 1, 3) := by decide +kernel
theorem dJx4a65c_init_da8c8_4 : decode cJx4a65c_init_da8c8 4 = .ok (.aload_n 0, 1) := by decide +kernel
theorem dJx4a65c_init_da8c8_5 : decode cJx4a65c_init_da8c8 5 = .ok (.getstatic 39, 3) := by decide +kernel
theorem dJx4a65c_init_da8c8_8 : decode cJx4a65c_init_da8c8 8 = .ok (.putfield 9, 3) := by decide +kernel
theorem dJx4a65c_init_da8c8_11 : decode cJx4a65c_init_da8c8 11 = .ok (.return_, 1) := by decide +kernel
theorem dJx4a65c_grow_92f84_0 : decode cJx4a65c_grow_92f84 0 = .ok (.aload_n 0, 1) := by decide +kernel
theorem dJx4a65c_grow_92f84_1 : decode cJx4a65c_grow_92f84 1 = .ok (.getfield 9, 3) := by decide +kernel
theorem dJx4a65c_grow_92f84_4 : decode cJx4a65c_grow_92f84 4 = .ok (.arraylength, 1) := by decide +kernel
theorem dJx4a65c_grow_92f84_5 : decode cJx4a65c_grow_92f84 5 = .ok (.istore_n 2, 1) := by decide +kernel
theorem dJx4a65c_grow_92f84_6 : decode cJx4a65c_grow_92f84 6 = .ok (.iload_n 2, 1) := by decide +kernel
theorem dJx4a65c_grow_92f84_7 : decode cJx4a65c_grow_92f84 7 = .ok (.ifCond .gt 13, 3) := by decide +kernel
theorem dJx4a65c_grow_92f84_10 : decode cJx4a65c_grow_92f84 10 = .ok (.aload_n 0, 1) := by decide +kernel
theorem dJx4a65c_grow_92f84_11 : decode cJx4a65c_grow_92f84 11 = .ok (.getfield 9, 3) := by decide +kernel
theorem dJx4a65c_grow_92f84_14 : decode cJx4a65c_grow_92f84 14 = .ok (.getstatic 39, 3) := by decide +kernel
theorem dJx4a65c_grow_92f84_17 : decode cJx4a65c_grow_92f84 17 = .ok (.if_acmp .eq 28, 3) := by decide +kernel
theorem dJx4a65c_grow_92f84_20 : decode cJx4a65c_grow_92f84 20 = .ok (.iload_n 2, 1) := by decide +kernel
theorem dJx4a65c_grow_92f84_21 : decode cJx4a65c_grow_92f84 21 = .ok (.iload_n 1, 1) := by decide +kernel
theorem dJx4a65c_grow_92f84_22 : decode cJx4a65c_grow_92f84 22 = .ok (.iload_n 2, 1) := by decide +kernel
theorem dJx4a65c_grow_92f84_23 : decode cJx4a65c_grow_92f84 23 = .ok (.isub, 1) := by decide +kernel
theorem dJx4a65c_grow_92f84_24 : decode cJx4a65c_grow_92f84 24 = .ok (.iload_n 2, 1) := by decide +kernel
theorem dJx4a65c_grow_92f84_25 : decode cJx4a65c_grow_92f84 25 = .ok (.iconst 1, 1) := by decide +kernel
theorem dJx4a65c_grow_92f84_26 : decode cJx4a65c_grow_92f84 26 = .ok (.ishr, 1) := by decide +kernel
theorem dJx4a65c_grow_92f84_27 : decode cJx4a65c_grow_92f84 27 = .ok (.invokestatic 73, 3) := by decide +kernel
theorem dJx4a65c_grow_92f84_30 : decode cJx4a65c_grow_92f84 30 = .ok (.istore_n 3, 1) := by decide +kernel
theorem dJx4a65c_grow_92f84_31 : decode cJx4a65c_grow_92f84 31 = .ok (.aload_n 0, 1) := by decide +kernel
theorem dJx4a65c_grow_92f84_32 : decode cJx4a65c_grow_92f84 32 = .ok (.aload_n 0, 1) := by decide +kernel
theorem dJx4a65c_grow_92f84_33 : decode cJx4a65c_grow_92f84 33 = .ok (.getfield 9, 3) := by decide +kernel
theorem dJx4a65c_grow_92f84_36 : decode cJx4a65c_grow_92f84 36 = .ok (.iload_n 3, 1) := by decide +kernel
theorem dJx4a65c_grow_92f84_37 : decode cJx4a65c_grow_92f84 37 = .ok (.invokestatic 66, 3) := by decide +kernel
theorem dJx4a65c_grow_92f84_40 : decode cJx4a65c_grow_92f84 40 = .ok (.dup_x1, 1) := by decide +kernel
theorem dJx4a65c_grow_92f84_41 : decode cJx4a65c_grow_92f84 41 = .ok (.putfield 9, 3) := by decide +kernel
theorem dJx4a65c_grow_92f84_44 : decode cJx4a65c_grow_92f84 44 = .ok (.areturn, 1) := by decide +kernel
theorem dJx4a65c_grow_92f84_45 : decode cJx4a65c_grow_92f84 45 = .ok (.aload_n 0, 1) := by decide +kernel
theorem dJx4a65c_grow_92f84_46 : decode cJx4a65c_grow_92f84 46 = .ok (.bipush 10, 2) := by decide +kernel
theorem dJx4a65c_grow_92f84_48 : decode cJx4a65c_grow_92f84 48 = .ok (.iload_n 1, 1) := by decide +kernel
theorem dJx4a65c_grow_92f84_49 : decode cJx4a65c_grow_92f84 49 = .ok (.invokestatic 79, 3) := by decide +kernel
theorem dJx4a65c_grow_92f84_52 : decode cJx4a65c_grow_92f84 52 = .ok (.anewarray 7, 3) := by decide +kernel
theorem dJx4a65c_grow_92f84_55 : decode cJx4a65c_grow_92f84 55 = .ok (.dup_x1, 1) := by decide +kernel
theorem dJx4a65c_grow_92f84_56 : decode cJx4a65c_grow_92f84 56 = .ok (.putfield 9, 3) := by decide +kernel
theorem dJx4a65c_grow_92f84_59 : decode cJx4a65c_grow_92f84 59 = .ok (.areturn, 1) := by decide +kernel
theorem dJx4a65c_grow_d5877_0 : decode cJx4a65c_grow_d5877 0 = .ok (.aload_n 0, 1) := by decide +kernel
theorem dJx4a65c_grow_d5877_1 : decode cJx4a65c_grow_d5877 1 = .ok (.aload_n 0, 1) := by decide +kernel
theorem dJx4a65c_grow_d5877_2 : decode cJx4a65c_grow_d5877 2 = .ok (.getfield 48, 3) := by decide +kernel
theorem dJx4a65c_grow_d5877_5 : decode cJx4a65c_grow_d5877 5 = .ok (.iconst 1, 1) := by decide +kernel
theorem dJx4a65c_grow_d5877_6 : decode cJx4a65c_grow_d5877 6 = .ok (.iadd, 1) := by decide +kernel
theorem dJx4a65c_grow_d5877_7 : decode cJx4a65c_grow_d5877 7 = .ok (.invokevirtual 69, 3) := by decide +kernel
theorem dJx4a65c_grow_d5877_10 : decode cJx4a65c_grow_d5877 10 = .ok (.areturn, 1) := by decide +kernel
theorem dJx4a65c_size_8abf5_0 : decode cJx4a65c_size_8abf5 0 = .ok (.aload_n 0, 1) := by decide +kernel
theorem dJx4a65c_size_8abf5_1 : decode cJx4a65c_size_8abf5 1 = .ok (.getfield 48, 3) := by decide +kernel
theorem dJx4a65c_size_8abf5_4 : decode cJx4a65c_size_8abf5 4 = .ok (.ireturn, 1) := by decide +kernel
theorem dJx4a65c_elementData_915e3_0 : decode cJx4a65c_elementData_915e3 0 = .ok (.aload_n 0, 1) := by decide +kernel
theorem dJx4a65c_elementData_915e3_1 : decode cJx4a65c_elementData_915e3 1 = .ok (.getfield 9, 3) := by decide +kernel
theorem dJx4a65c_elementData_915e3_4 : decode cJx4a65c_elementData_915e3 4 = .ok (.iload_n 1, 1) := by decide +kernel
theorem dJx4a65c_elementData_915e3_5 : decode cJx4a65c_elementData_915e3 5 = .ok (.aaload, 1) := by decide +kernel
theorem dJx4a65c_elementData_915e3_6 : decode cJx4a65c_elementData_915e3 6 = .ok (.areturn, 1) := by decide +kernel
theorem dJx4a65c_get_915e3_0 : decode cJx4a65c_get_915e3 0 = .ok (.iload_n 1, 1) := by decide +kernel
theorem dJx4a65c_get_915e3_1 : decode cJx4a65c_get_915e3 1 = .ok (.aload_n 0, 1) := by decide +kernel
theorem dJx4a65c_get_915e3_2 : decode cJx4a65c_get_915e3 2 = .ok (.getfield 48, 3) := by decide +kernel
theorem dJx4a65c_get_915e3_5 : decode cJx4a65c_get_915e3 5 = .ok (.invokestatic 118, 3) := by decide +kernel
theorem dJx4a65c_get_915e3_8 : decode cJx4a65c_get_915e3 8 = .ok (.pop, 1) := by decide +kernel
theorem dJx4a65c_get_915e3_9 : decode cJx4a65c_get_915e3 9 = .ok (.aload_n 0, 1) := by decide +kernel
theorem dJx4a65c_get_915e3_10 : decode cJx4a65c_get_915e3 10 = .ok (.iload_n 1, 1) := by decide +kernel
theorem dJx4a65c_get_915e3_11 : decode cJx4a65c_get_915e3 11 = .ok (.invokevirtual 123, 3) := by decide +kernel
theorem dJx4a65c_get_915e3_14 : decode cJx4a65c_get_915e3 14 = .ok (.areturn, 1) := by decide +kernel
theorem dJx4a65c_set_bcc79_0 : decode cJx4a65c_set_bcc79 0 = .ok (.iload_n 1, 1) := by decide +kernel
theorem dJx4a65c_set_bcc79_1 : decode cJx4a65c_set_bcc79 1 = .ok (.aload_n 0, 1) := by decide +kernel
theorem dJx4a65c_set_bcc79_2 : decode cJx4a65c_set_bcc79 2 = .ok (.getfield 48, 3) := by decide +kernel
theorem dJx4a65c_set_bcc79_5 : decode cJx4a65c_set_bcc79 5 = .ok (.invokestatic 118, 3) := by decide +kernel
theorem dJx4a65c_set_bcc79_8 : decode cJx4a65c_set_bcc79 8 = .ok (.pop, 1) := by decide +kernel
theorem dJx4a65c_set_bcc79_9 : decode cJx4a65c_set_bcc79 9 = .ok (.aload_n 0, 1) := by decide +kernel
theorem dJx4a65c_set_bcc79_10 : decode cJx4a65c_set_bcc79 10 = .ok (.iload_n 1, 1) := by decide +kernel
theorem dJx4a65c_set_bcc79_11 : decode cJx4a65c_set_bcc79 11 = .ok (.invokevirtual 123, 3) := by decide +kernel
theorem dJx4a65c_set_bcc79_14 : decode cJx4a65c_set_bcc79 14 = .ok (.astore_n 3, 1) := by decide +kernel
theorem dJx4a65c_set_bcc79_15 : decode cJx4a65c_set_bcc79 15 = .ok (.aload_n 0, 1) := by decide +kernel
theorem dJx4a65c_set_bcc79_16 : decode cJx4a65c_set_bcc79 16 = .ok (.getfield 9, 3) := by decide +kernel
theorem dJx4a65c_set_bcc79_19 : decode cJx4a65c_set_bcc79 19 = .ok (.iload_n 1, 1) := by decide +kernel
theorem dJx4a65c_set_bcc79_20 : decode cJx4a65c_set_bcc79 20 = .ok (.aload_n 2, 1) := by decide +kernel
theorem dJx4a65c_set_bcc79_21 : decode cJx4a65c_set_bcc79 21 = .ok (.aastore, 1) := by decide +kernel
theorem dJx4a65c_set_bcc79_22 : decode cJx4a65c_set_bcc79 22 = .ok (.aload_n 3, 1) := by decide +kernel
theorem dJx4a65c_set_bcc79_23 : decode cJx4a65c_set_bcc79 23 = .ok (.areturn, 1) := by decide +kernel
theorem dJx4a65c_add_72be8_0 : decode cJx4a65c_add_72be8 0 = .ok (.iload_n 3, 1) := by decide +kernel
theorem dJx4a65c_add_72be8_1 : decode cJx4a65c_add_72be8 1 = .ok (.aload_n 2, 1) := by decide +kernel
theorem dJx4a65c_add_72be8_2 : decode cJx4a65c_add_72be8 2 = .ok (.arraylength, 1) := by decide +kernel
theorem dJx4a65c_add_72be8_3 : decode cJx4a65c_add_72be8 3 = .ok (.if_icmp .ne 8, 3) := by decide +kernel
theorem dJx4a65c_add_72be8_6 : decode cJx4a65c_add_72be8 6 = .ok (.aload_n 0, 1) := by decide +kernel
theorem dJx4a65c_add_72be8_7 : decode cJx4a65c_add_72be8 7 = .ok (.invokevirtual 129, 3) := by decide +kernel
theorem dJx4a65c_add_72be8_10 : decode cJx4a65c_add_72be8 10 = .ok (.astore_n 2, 1) := by decide +kernel
theorem dJx4a65c_add_72be8_11 : decode cJx4a65c_add_72be8 11 = .ok (.aload_n 2, 1) := by decide +kernel
theorem dJx4a65c_add_72be8_12 : decode cJx4a65c_add_72be8 12 = .ok (.iload_n 3, 1) := by decide +kernel
theorem dJx4a65c_add_72be8_13 : decode cJx4a65c_add_72be8 13 = .ok (.aload_n 1, 1) := by decide +kernel
theorem dJx4a65c_add_72be8_14 : decode cJx4a65c_add_72be8 14 = .ok (.aastore, 1) := by decide +kernel
theorem dJx4a65c_add_72be8_15 : decode cJx4a65c_add_72be8 15 = .ok (.aload_n 0, 1) := by decide +kernel
theorem dJx4a65c_add_72be8_16 : decode cJx4a65c_add_72be8 16 = .ok (.iload_n 3, 1) := by decide +kernel
theorem dJx4a65c_add_72be8_17 : decode cJx4a65c_add_72be8 17 = .ok (.iconst 1, 1) := by decide +kernel
theorem dJx4a65c_add_72be8_18 : decode cJx4a65c_add_72be8 18 = .ok (.iadd, 1) := by decide +kernel
theorem dJx4a65c_add_72be8_19 : decode cJx4a65c_add_72be8 19 = .ok (.putfield 48, 3) := by decide +kernel
theorem dJx4a65c_add_72be8_22 : decode cJx4a65c_add_72be8 22 = .ok (.return_, 1) := by decide +kernel
theorem dJx4a65c_add_9ea2d_0 : decode cJx4a65c_add_9ea2d 0 = .ok (.aload_n 0, 1) := by decide +kernel
theorem dJx4a65c_add_9ea2d_1 : decode cJx4a65c_add_9ea2d 1 = .ok (.dup, 1) := by decide +kernel
theorem dJx4a65c_add_9ea2d_2 : decode cJx4a65c_add_9ea2d 2 = .ok (.getfield 63, 3) := by decide +kernel
theorem dJx4a65c_add_9ea2d_5 : decode cJx4a65c_add_9ea2d 5 = .ok (.iconst 1, 1) := by decide +kernel
theorem dJx4a65c_add_9ea2d_6 : decode cJx4a65c_add_9ea2d 6 = .ok (.iadd, 1) := by decide +kernel
theorem dJx4a65c_add_9ea2d_7 : decode cJx4a65c_add_9ea2d 7 = .ok (.putfield 63, 3) := by decide +kernel
theorem dJx4a65c_add_9ea2d_10 : decode cJx4a65c_add_9ea2d 10 = .ok (.aload_n 0, 1) := by decide +kernel
theorem dJx4a65c_add_9ea2d_11 : decode cJx4a65c_add_9ea2d 11 = .ok (.aload_n 1, 1) := by decide +kernel
theorem dJx4a65c_add_9ea2d_12 : decode cJx4a65c_add_9ea2d 12 = .ok (.aload_n 0, 1) := by decide +kernel
theorem dJx4a65c_add_9ea2d_13 : decode cJx4a65c_add_9ea2d 13 = .ok (.getfield 9, 3) := by decide +kernel
theorem dJx4a65c_add_9ea2d_16 : decode cJx4a65c_add_9ea2d 16 = .ok (.aload_n 0, 1) := by decide +kernel
theorem dJx4a65c_add_9ea2d_17 : decode cJx4a65c_add_9ea2d 17 = .ok (.getfield 48, 3) := by decide +kernel
theorem dJx4a65c_add_9ea2d_20 : decode cJx4a65c_add_9ea2d 20 = .ok (.invokevirtual 131, 3) := by decide +kernel
theorem dJx4a65c_add_9ea2d_23 : decode cJx4a65c_add_9ea2d 23 = .ok (.iconst 1, 1) := by decide +kernel
theorem dJx4a65c_add_9ea2d_24 : decode cJx4a65c_add_9ea2d 24 = .ok (.ireturn, 1) := by decide +kernel
theorem dJx4a65c_add_7a177_0 : decode cJx4a65c_add_7a177 0 = .ok (.aload_n 0, 1) := by decide +kernel
theorem dJx4a65c_add_7a177_1 : decode cJx4a65c_add_7a177 1 = .ok (.iload_n 1, 1) := by decide +kernel
theorem dJx4a65c_add_7a177_2 : decode cJx4a65c_add_7a177 2 = .ok (.invokevirtual 135, 3) := by decide +kernel
theorem dJx4a65c_add_7a177_5 : decode cJx4a65c_add_7a177 5 = .ok (.aload_n 0, 1) := by decide +kernel
theorem dJx4a65c_add_7a177_6 : decode cJx4a65c_add_7a177 6 = .ok (.dup, 1) := by decide +kernel
theorem dJx4a65c_add_7a177_7 : decode cJx4a65c_add_7a177 7 = .ok (.getfield 63, 3) := by decide +kernel
theorem dJx4a65c_add_7a177_10 : decode cJx4a65c_add_7a177 10 = .ok (.iconst 1, 1) := by decide +kernel
theorem dJx4a65c_add_7a177_11 : decode cJx4a65c_add_7a177 11 = .ok (.iadd, 1) := by decide +kernel
theorem dJx4a65c_add_7a177_12 : decode cJx4a65c_add_7a177 12 = .ok (.putfield 63, 3) := by decide +kernel
theorem dJx4a65c_add_7a177_15 : decode cJx4a65c_add_7a177 15 = .ok (.aload_n 0, 1) := by decide +kernel
theorem dJx4a65c_add_7a177_16 : decode cJx4a65c_add_7a177 16 = .ok (.getfield 48, 3) := by decide +kernel
theorem dJx4a65c_add_7a177_19 : decode cJx4a65c_add_7a177 19 = .ok (.dup, 1) := by decide +kernel
theorem dJx4a65c_add_7a177_20 : decode cJx4a65c_add_7a177 20 = .ok (.istore_n 3, 1) := by decide +kernel
theorem dJx4a65c_add_7a177_21 : decode cJx4a65c_add_7a177 21 = .ok (.aload_n 0, 1) := by decide +kernel
theorem dJx4a65c_add_7a177_22 : decode cJx4a65c_add_7a177 22 = .ok (.getfield 9, 3) := by decide +kernel
theorem dJx4a65c_add_7a177_25 : decode cJx4a65c_add_7a177 25 = .ok (.dup, 1) := by decide +kernel
theorem dJx4a65c_add_7a177_26 : decode cJx4a65c_add_7a177 26 = .ok (.astore 4, 2) := by decide +kernel
theorem dJx4a65c_add_7a177_28 : decode cJx4a65c_add_7a177 28 = .ok (.arraylength, 1) := by decide +kernel
theorem dJx4a65c_add_7a177_29 : decode cJx4a65c_add_7a177 29 = .ok (.if_icmp .ne 9, 3) := by decide +kernel
theorem dJx4a65c_add_7a177_32 : decode cJx4a65c_add_7a177 32 = .ok (.aload_n 0, 1) := by decide +kernel
theorem dJx4a65c_add_7a177_33 : decode cJx4a65c_add_7a177 33 = .ok (.invokevirtual 129, 3) := by decide +kernel
theorem dJx4a65c_add_7a177_36 : decode cJx4a65c_add_7a177 36 = .ok (.astore 4, 2) := by decide +kernel
theorem dJx4a65c_add_7a177_38 : decode cJx4a65c_add_7a177 38 = .ok (.aload 4, 2) := by decide +kernel
theorem dJx4a65c_add_7a177_40 : decode cJx4a65c_add_7a177 40 = .ok (.iload_n 1, 1) := by decide +kernel
theorem dJx4a65c_add_7a177_41 : decode cJx4a65c_add_7a177 41 = .ok (.aload 4, 2) := by decide +kernel
theorem dJx4a65c_add_7a177_43 : decode cJx4a65c_add_7a177 43 = .ok (.iload_n 1, 1) := by decide +kernel
theorem dJx4a65c_add_7a177_44 : decode cJx4a65c_add_7a177 44 = .ok (.iconst 1, 1) := by decide +kernel
theorem dJx4a65c_add_7a177_45 : decode cJx4a65c_add_7a177 45 = .ok (.iadd, 1) := by decide +kernel
theorem dJx4a65c_add_7a177_46 : decode cJx4a65c_add_7a177 46 = .ok (.iload_n 3, 1) := by decide +kernel
theorem dJx4a65c_add_7a177_47 : decode cJx4a65c_add_7a177 47 = .ok (.iload_n 1, 1) := by decide +kernel
theorem dJx4a65c_add_7a177_48 : decode cJx4a65c_add_7a177 48 = .ok (.isub, 1) := by decide +kernel
theorem dJx4a65c_add_7a177_49 : decode cJx4a65c_add_7a177 49 = .ok (.invokestatic 112, 3) := by decide +kernel
theorem dJx4a65c_add_7a177_52 : decode cJx4a65c_add_7a177 52 = .ok (.aload 4, 2) := by decide +kernel
theorem dJx4a65c_add_7a177_54 : decode cJx4a65c_add_7a177 54 = .ok (.iload_n 1, 1) := by decide +kernel
theorem dJx4a65c_add_7a177_55 : decode cJx4a65c_add_7a177 55 = .ok (.aload_n 2, 1) := by decide +kernel
theorem dJx4a65c_add_7a177_56 : decode cJx4a65c_add_7a177 56 = .ok (.aastore, 1) := by decide +kernel
theorem dJx4a65c_add_7a177_57 : decode cJx4a65c_add_7a177 57 = .ok (.aload_n 0, 1) := by decide +kernel
theorem dJx4a65c_add_7a177_58 : decode cJx4a65c_add_7a177 58 = .ok (.iload_n 3, 1) := by decide +kernel
