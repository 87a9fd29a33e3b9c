theorem dX2_owedTo_9 : decode cX2_owedTo 9 = .ok (.ireturn, 1) := by decide +kernel
theorem dX2_places_0 : decode cX2_places 0 = .ok (.aload_n 0, 1) := by decide +kernel
theorem dX2_places_1 : decode cX2_places 1 = .ok (.getfield 44, 3) := by decide +kernel
theorem dX2_places_4 : decode cX2_places 4 = .ok (.ireturn, 1) := by decide +kernel
theorem dX2_workerAt_0 : decode cX2_workerAt 0 = .ok (.aload_n 0, 1) := by decide +kernel
theorem dX2_workerAt_1 : decode cX2_workerAt 1 = .ok (.iload_n 1, 1) := by decide +kernel
theorem dX2_workerAt_2 : decode cX2_workerAt 2 = .ok (.invokevirtual 169, 3) := by decide +kernel
theorem dX2_workerAt_5 : decode cX2_workerAt 5 = .ok (.aload_n 0, 1) := by decide +kernel
theorem dX2_workerAt_6 : decode cX2_workerAt 6 = .ok (.iload_n 1, 1) := by decide +kernel
theorem dX2_workerAt_7 : decode cX2_workerAt 7 = .ok (.invokevirtual 201, 3) := by decide +kernel
theorem dX2_workerAt_10 : decode cX2_workerAt 10 = .ok (.ireturn, 1) := by decide +kernel
theorem dX2_nextUp_0 : decode cX2_nextUp 0 = .ok (.iload_n 1, 1) := by decide +kernel
theorem dX2_nextUp_1 : decode cX2_nextUp 1 = .ok (.invokestatic 60, 3) := by decide +kernel
theorem dX2_nextUp_4 : decode cX2_nextUp 4 = .ok (.iconst 0, 1) := by decide +kernel
theorem dX2_nextUp_5 : decode cX2_nextUp 5 = .ok (.istore_n 2, 1) := by decide +kernel
theorem dX2_nextUp_6 : decode cX2_nextUp 6 = .ok (.iload_n 2, 1) := by decide +kernel
theorem dX2_nextUp_7 : decode cX2_nextUp 7 = .ok (.aload_n 0, 1) := by decide +kernel
theorem dX2_nextUp_8 : decode cX2_nextUp 8 = .ok (.getfield 10, 3) := by decide +kernel
theorem dX2_nextUp_11 : decode cX2_nextUp 11 = .ok (.invokevirtual 67, 3) := by decide +kernel
theorem dX2_nextUp_14 : decode cX2_nextUp 14 = .ok (.if_icmp .ge 41, 3) := by decide +kernel
theorem dX2_nextUp_17 : decode cX2_nextUp 17 = .ok (.aload_n 0, 1) := by decide +kernel
theorem dX2_nextUp_18 : decode cX2_nextUp 18 = .ok (.getfield 10, 3) := by decide +kernel
theorem dX2_nextUp_21 : decode cX2_nextUp 21 = .ok (.iload_n 2, 1) := by decide +kernel
theorem dX2_nextUp_22 : decode cX2_nextUp 22 = .ok (.invokevirtual 123, 3) := by decide +kernel
theorem dX2_nextUp_25 : decode cX2_nextUp 25 = .ok (.checkcast 78, 3) := by decide +kernel
theorem dX2_nextUp_28 : decode cX2_nextUp 28 = .ok (.astore_n 3, 1) := by decide +kernel
theorem dX2_nextUp_29 : decode cX2_nextUp 29 = .ok (.aload_n 3, 1) := by decide +kernel
theorem dX2_nextUp_30 : decode cX2_nextUp 30 = .ok (.getfield 106, 3) := by decide +kernel
theorem dX2_nextUp_33 : decode cX2_nextUp 33 = .ok (.iload_n 1, 1) := by decide +kernel
theorem dX2_nextUp_34 : decode cX2_nextUp 34 = .ok (.if_icmp .ne 15, 3) := by decide +kernel
theorem dX2_nextUp_37 : decode cX2_nextUp 37 = .ok (.aload_n 3, 1) := by decide +kernel
theorem dX2_nextUp_38 : decode cX2_nextUp 38 = .ok (.invokevirtual 178, 3) := by decide +kernel
theorem dX2_nextUp_41 : decode cX2_nextUp 41 = .ok (.ifCond .eq 8, 3) := by decide +kernel
theorem dX2_nextUp_44 : decode cX2_nextUp 44 = .ok (.aload_n 3, 1) := by decide +kernel
theorem dX2_nextUp_45 : decode cX2_nextUp 45 = .ok (.getfield 87, 3) := by decide +kernel
theorem dX2_nextUp_48 : decode cX2_nextUp 48 = .ok (.ireturn, 1) := by decide +kernel
theorem dX2_nextUp_49 : decode cX2_nextUp 49 = .ok (.iinc 2 1, 3) := by decide +kernel
theorem dX2_nextUp_52 : decode cX2_nextUp 52 = .ok (.goto (-46), 3) := by decide +kernel
theorem dX2_nextUp_55 : decode cX2_nextUp 55 = .ok (.iconst (-1), 1) := by decide +kernel
theorem dX2_nextUp_56 : decode cX2_nextUp 56 = .ok (.ireturn, 1) := by decide +kernel
theorem dX2_fillable_0 : decode cX2_fillable 0 = .ok (.aload_n 0, 1) := by decide +kernel
theorem dX2_fillable_1 : decode cX2_fillable 1 = .ok (.getfield 25, 3) := by decide +kernel
theorem dX2_fillable_4 : decode cX2_fillable 4 = .ok (.invokevirtual 137, 3) := by decide +kernel
theorem dX2_fillable_7 : decode cX2_fillable 7 = .ok (.aload_n 0, 1) := by decide +kernel
theorem dX2_fillable_8 : decode cX2_fillable 8 = .ok (.invokevirtual 140, 3) := by decide +kernel
theorem dX2_fillable_11 : decode cX2_fillable 11 = .ok (.iconst 0, 1) := by decide +kernel
theorem dX2_fillable_12 : decode cX2_fillable 12 = .ok (.istore_n 1, 1) := by decide +kernel
theorem dX2_fillable_13 : decode cX2_fillable 13 = .ok (.iload_n 1, 1) := by decide +kernel
theorem dX2_fillable_14 : decode cX2_fillable 14 = .ok (.aload_n 0, 1) := by decide +kernel
theorem dX2_fillable_15 : decode cX2_fillable 15 = .ok (.getfield 10, 3) := by decide +kernel
theorem dX2_fillable_18 : decode cX2_fillable 18 = .ok (.invokevirtual 67, 3) := by decide +kernel
theorem dX2_fillable_21 : decode cX2_fillable 21 = .ok (.if_icmp .ge 46, 3) := by decide +kernel
theorem dX2_fillable_24 : decode cX2_fillable 24 = .ok (.aload_n 0, 1) := by decide +kernel
theorem dX2_fillable_25 : decode cX2_fillable 25 = .ok (.getfield 10, 3) := by decide +kernel
theorem dX2_fillable_28 : decode cX2_fillable 28 = .ok (.iload_n 1, 1) := by decide +kernel
theorem dX2_fillable_29 : decode cX2_fillable 29 = .ok (.invokevirtual 123, 3) := by decide +kernel
theorem dX2_fillable_32 : decode cX2_fillable 32 = .ok (.checkcast 78, 3) := by decide +kernel
theorem dX2_fillable_35 : decode cX2_fillable 35 = .ok (.astore_n 2, 1) := by decide +kernel
theorem dX2_fillable_36 : decode cX2_fillable 36 = .ok (.aload_n 2, 1) := by decide +kernel
theorem dX2_fillable_37 : decode cX2_fillable 37 = .ok (.invokevirtual 178, 3) := by decide +kernel
theorem dX2_fillable_40 : decode cX2_fillable 40 = .ok (.ifCond .eq 21, 3) := by decide +kernel
theorem dX2_fillable_43 : decode cX2_fillable 43 = .ok (.aload_n 2, 1) := by decide +kernel
theorem dX2_fillable_44 : decode cX2_fillable 44 = .ok (.getfield 112, 3) := by decide +kernel
theorem dX2_fillable_47 : decode cX2_fillable 47 = .ok (.ifCond .ne 14, 3) := by decide +kernel
theorem dX2_fillable_50 : decode cX2_fillable 50 = .ok (.aload_n 0, 1) := by decide +kernel
theorem dX2_fillable_51 : decode cX2_fillable 51 = .ok (.getfield 25, 3) := by decide +kernel
theorem dX2_fillable_54 : decode cX2_fillable 54 = .ok (.aload_n 2, 1) := by decide +kernel
theorem dX2_fillable_55 : decode cX2_fillable 55 = .ok (.getfield 103, 3) := by decide +kernel
theorem dX2_fillable_58 : decode cX2_fillable 58 = .ok (.invokevirtual 204, 3) := by decide +kernel
theorem dX2_fillable_61 : decode cX2_fillable 61 = .ok (.iinc 1 1, 3) := by decide +kernel
theorem dX2_fillable_64 : decode cX2_fillable 64 = .ok (.goto (-51), 3) := by decide +kernel
theorem dX2_fillable_67 : decode cX2_fillable 67 = .ok (.aload_n 0, 1) := by decide +kernel
theorem dX2_fillable_68 : decode cX2_fillable 68 = .ok (.getfield 25, 3) := by decide +kernel
theorem dX2_fillable_71 : decode cX2_fillable 71 = .ok (.invokevirtual 207, 3) := by decide +kernel
theorem dX2_fillable_74 : decode cX2_fillable 74 = .ok (.ireturn, 1) := by decide +kernel
theorem dX2_find_0 : decode cX2_find 0 = .ok (.iconst 0, 1) := by decide +kernel
theorem dX2_find_1 : decode cX2_find 1 = .ok (.istore_n 2, 1) := by decide +kernel
theorem dX2_find_2 : decode cX2_find 2 = .ok (.iload_n 2, 1) := by decide +kernel
theorem dX2_find_3 : decode cX2_find 3 = .ok (.aload_n 0, 1) := by decide +kernel
theorem dX2_find_4 : decode cX2_find 4 = .ok (.getfield 10, 3) := by decide +kernel
theorem dX2_find_7 : decode cX2_find 7 = .ok (.invokevirtual 67, 3) := by decide +kernel
theorem dX2_find_10 : decode cX2_find 10 = .ok (.if_icmp .ge 31, 3) := by decide +kernel
theorem dX2_find_13 : decode cX2_find 13 = .ok (.aload_n 0, 1) := by decide +kernel
theorem dX2_find_14 : decode cX2_find 14 = .ok (.getfield 10, 3) := by decide +kernel
theorem dX2_find_17 : decode cX2_find 17 = .ok (.iload_n 2, 1) := by decide +kernel
theorem dX2_find_18 : decode cX2_find 18 = .ok (.invokevirtual 123, 3) := by decide +kernel
theorem dX2_find_21 : decode cX2_find 21 = .ok (.checkcast 78, 3) := by decide +kernel
theorem dX2_find_24 : decode cX2_find 24 = .ok (.astore_n 3, 1) := by decide +kernel
theorem dX2_find_25 : decode cX2_find 25 = .ok (.aload_n 3, 1) := by decide +kernel
theorem dX2_find_26 : decode cX2_find 26 = .ok (.getfield 87, 3) := by decide +kernel
theorem dX2_find_29 : decode cX2_find 29 = .ok (.iload_n 1, 1) := by decide +kernel
theorem dX2_find_30 : decode cX2_find 30 = .ok (.if_icmp .ne 5, 3) := by decide +kernel
theorem dX2_find_33 : decode cX2_find 33 = .ok (.aload_n 3, 1) := by decide +kernel
theorem dX2_find_34 : decode cX2_find 34 = .ok (.areturn, 1) := by decide +kernel
theorem dX2_find_35 : decode cX2_find 35 = .ok (.iinc 2 1, 3) := by decide +kernel
theorem dX2_find_38 : decode cX2_find 38 = .ok (.goto (-36), 3) := by decide +kernel
theorem dX2_find_41 : decode cX2_find 41 = .ok (.new 210, 3) := by decide +kernel
theorem dX2_find_44 : decode cX2_find 44 = .ok (.dup, 1) := by decide +kernel
theorem dX2_find_45 : decode cX2_find 45 = .ok (.ldc 212, 2) := by decide +kernel
theorem dX2_find_47 : decode cX2_find 47 = .ok (.invokespecial 214, 3) := by decide +kernel
theorem dX2_find_50 : decode cX2_find 50 = .ok (.athrow, 1) := by decide +kernel
theorem dX2_checkPlace_0 : decode cX2_checkPlace 0 = .ok (.iload_n 1, 1) := by decide +kernel
theorem dX2_checkPlace_1 : decode cX2_checkPlace 1 = .ok (.ifCond .lt 11, 3) := by decide +kernel
theorem dX2_checkPlace_4 : decode cX2_checkPlace 4 = .ok (.iload_n 1, 1) := by decide +kernel
theorem dX2_checkPlace_5 : decode cX2_checkPlace 5 = .ok (.aload_n 0, 1) := by decide +kernel
theorem dX2_checkPlace_6 : decode cX2_checkPlace 6 = .ok (.getfield 44, 3) := by decide +kernel
theorem dX2_checkPlace_9 : decode cX2_checkPlace 9 = .ok (.if_icmp .lt 13, 3) := by decide +kernel
theorem dX2_checkPlace_12 : decode cX2_checkPlace 12 = .ok (.new 210, 3) := by decide +kernel
theorem dX2_checkPlace_15 : decode cX2_checkPlace 15 = .ok (.dup, 1) := by decide +kernel
theorem dX2_checkPlace_16 : decode cX2_checkPlace 16 = .ok (.ldc 215, 2) := by decide +kernel
theorem dX2_checkPlace_18 : decode cX2_checkPlace 18 = .ok (.invokespecial 214, 3) := by decide +kernel
theorem dX2_checkPlace_21 : decode cX2_checkPlace 21 = .ok (.athrow, 1) := by decide +kernel
theorem dX2_checkPlace_22 : decode cX2_checkPlace 22 = .ok (.return_, 1) := by decide +kernel
theorem dX2_checkBoard_0 : decode cX2_checkBoard 0 = .ok (.iload_n 0, 1) := by decide +kernel
theorem dX2_checkBoard_1 : decode cX2_checkBoard 1 = .ok (.ifCond .lt 8, 3) := by decide +kernel
theorem dX2_checkBoard_4 : decode cX2_checkBoard 4 = .ok (.iload_n 0, 1) := by decide +kernel
theorem dX2_checkBoard_5 : decode cX2_checkBoard 5 = .ok (.iconst 4, 1) := by decide +kernel
theorem dX2_checkBoard_6 : decode cX2_checkBoard 6 = .ok (.if_icmp .lt 13, 3) := by decide +kernel
theorem dX2_checkBoard_9 : decode cX2_checkBoard 9 = .ok (.new 115, 3) := by decide +kernel
theorem dX2_checkBoard_12 : decode cX2_checkBoard 12 = .ok (.dup, 1) := by decide +kernel
theorem dX2_checkBoard_13 : decode cX2_checkBoard 13 = .ok (.ldc 217, 2) := by decide +kernel
theorem dX2_checkBoard_15 : decode cX2_checkBoard 15 = .ok (.invokespecial 119, 3) := by decide +kernel
theorem dX2_checkBoard_18 : decode cX2_checkBoard 18 = .ok (.athrow, 1) := by decide +kernel
theorem dX2_checkBoard_19 : decode cX2_checkBoard 19 = .ok (.return_, 1) := by decide +kernel
theorem dX2_checkSkills_0 : decode cX2_checkSkills 0 = .ok (.iload_n 0, 1) := by decide +kernel
theorem dX2_checkSkills_1 : decode cX2_checkSkills 1 = .ok (.ifCond .lt 9, 3) := by decide +kernel
theorem dX2_checkSkills_4 : decode cX2_checkSkills 4 = .ok (.iload_n 0, 1) := by decide +kernel
theorem dX2_checkSkills_5 : decode cX2_checkSkills 5 = .ok (.bipush 32, 2) := by decide +kernel
theorem dX2_checkSkills_7 : decode cX2_checkSkills 7 = .ok (.if_icmp .lt 13, 3) := by decide +kernel
theorem dX2_checkSkills_10 : decode cX2_checkSkills 10 = .ok (.new 115, 3) := by decide +kernel
theorem dX2_checkSkills_13 : decode cX2_checkSkills 13 = .ok (.dup, 1) := by decide +kernel
theorem dX2_checkSkills_14 : decode cX2_checkSkills 14 = .ok (.ldc 219, 2) := by decide +kernel
theorem dX2_checkSkills_16 : decode cX2_checkSkills 16 = .ok (.invokespecial 119, 3) := by decide +kernel
theorem dX2_checkSkills_19 : decode cX2_checkSkills 19 = .ok (.athrow, 1) := by decide +kernel
theorem dX2_checkSkills_20 : decode cX2_checkSkills 20 = .ok (.return_, 1) := by decide +kernel
theorem dX2_checkNotAtWork_0 : decode cX2_checkNotAtWork 0 = .ok (.aload_n 0, 1) := by decide +kernel
theorem dX2_checkNotAtWork_1 : decode cX2_checkNotAtWork 1 = .ok (.invokevirtual 156, 3) := by decide +kernel
theorem dX2_checkNotAtWork_4 : decode cX2_checkNotAtWork 4 = .ok (.ifCond .eq 13, 3) := by decide +kernel
theorem dX2_checkNotAtWork_7 : decode cX2_checkNotAtWork 7 = .ok (.new 71, 3) := by decide +kernel
theorem dX2_checkNotAtWork_10 : decode cX2_checkNotAtWork 10 = .ok (.dup, 1) := by decide +kernel
theorem dX2_checkNotAtWork_11 : decode cX2_checkNotAtWork 11 = .ok (.ldc 221, 2) := by decide +kernel
theorem dX2_checkNotAtWork_13 : decode cX2_checkNotAtWork 13 = .ok (.invokespecial 75, 3) := by decide +kernel
theorem dX2_checkNotAtWork_16 : decode cX2_checkNotAtWork 16 = .ok (.athrow, 1) := by decide +kernel
theorem dX2_checkNotAtWork_17 : decode cX2_checkNotAtWork 17 = .ok (.return_, 1) := by decide +kernel
theorem dX2_checkWorkHasNotBegun_0 : decode cX2_checkWorkHasNotBegun 0 = .ok (.aload_n 0, 1) := by decide +kernel
theorem dX2_checkWorkHasNotBegun_1 : decode cX2_checkWorkHasNotBegun 1 = .ok (.getfield 56, 3) := by decide +kernel
theorem dX2_checkWorkHasNotBegun_4 : decode cX2_checkWorkHasNotBegun 4 = .ok (.ifCond .eq 13, 3) := by decide +kernel
theorem dX2_checkWorkHasNotBegun_7 : decode cX2_checkWorkHasNotBegun 7 = .ok (.new 71, 3) := by decide +kernel
theorem dX2_checkWorkHasNotBegun_10 : decode cX2_checkWorkHasNotBegun 10 = .ok (.dup, 1) := by decide +kernel
theorem dX2_checkWorkHasNotBegun_11 : decode cX2_checkWorkHasNotBegun 11 = .ok (.ldc 223, 2) := by decide +kernel
theorem dX2_checkWorkHasNotBegun_13 : decode cX2_checkWorkHasNotBegun 13 = .ok (.invokespecial 75, 3) := by decide +kernel
theorem dX2_checkWorkHasNotBegun_16 : decode cX2_checkWorkHasNotBegun 16 = .ok (.athrow, 1) := by decide +kernel
theorem dX2_checkWorkHasNotBegun_17 : decode cX2_checkWorkHasNotBegun 17 = .ok (.return_, 1) := by decide +kernel
theorem dX2_takeOffBoard_0 : decode cX2_takeOffBoard 0 = .ok (.iconst 0, 1) := by decide +kernel
theorem dX2_takeOffBoard_1 : decode cX2_takeOffBoard 1 = .ok (.istore_n 2, 1) := by decide +kernel
theorem dX2_takeOffBoard_2 : decode cX2_takeOffBoard 2 = .ok (.iload_n 2, 1) := by decide +kernel
theorem dX2_takeOffBoard_3 : decode cX2_takeOffBoard 3 = .ok (.aload_n 0, 1) := by decide +kernel
theorem dX2_takeOffBoard_4 : decode cX2_takeOffBoard 4 = .ok (.getfield 10, 3) := by decide +kernel
theorem dX2_takeOffBoard_7 : decode cX2_takeOffBoard 7 = .ok (.invokevirtual 67, 3) := by decide +kernel
theorem dX2_takeOffBoard_10 : decode cX2_takeOffBoard 10 = .ok (.if_icmp .ge 31, 3) := by decide +kernel
theorem dX2_takeOffBoard_13 : decode cX2_takeOffBoard 13 = .ok (.aload_n 0, 1) := by decide +kernel
theorem dX2_takeOffBoard_14 : decode cX2_takeOffBoard 14 = .ok (.getfield 10, 3) := by decide +kernel
theorem dX2_takeOffBoard_17 : decode cX2_takeOffBoard 17 = .ok (.iload_n 2, 1) := by decide +kernel
theorem dX2_takeOffBoard_18 : decode cX2_takeOffBoard 18 = .ok (.invokevirtual 123, 3) := by decide +kernel
theorem dX2_takeOffBoard_21 : decode cX2_takeOffBoard 21 = .ok (.aload_n 1, 1) := by decide +kernel
theorem dX2_takeOffBoard_22 : decode cX2_takeOffBoard 22 = .ok (.if_acmp .ne 13, 3) := by decide +kernel
theorem dX2_takeOffBoard_25 : decode cX2_takeOffBoard 25 = .ok (.aload_n 0, 1) := by decide +kernel
theorem dX2_takeOffBoard_26 : decode cX2_takeOffBoard 26 = .ok (.getfield 10, 3) := by decide +kernel
theorem dX2_takeOffBoard_29 : decode cX2_takeOffBoard 29 = .ok (.iload_n 2, 1) := by decide +kernel
theorem dX2_takeOffBoard_30 : decode cX2_takeOffBoard 30 = .ok (.invokevirtual 225, 3) := by decide +kernel
theorem dX2_takeOffBoard_33 : decode cX2_takeOffBoard 33 = .ok (.pop, 1) := by decide +kernel
theorem dX2_takeOffBoard_34 : decode cX2_takeOffBoard 34 = .ok (.return_, 1) := by decide +kernel
theorem dX2_takeOffBoard_35 : decode cX2_takeOffBoard 35 = .ok (.iinc 2 1, 3) := by decide +kernel
theorem dX2_takeOffBoard_38 : decode cX2_takeOffBoard 38 = .ok (.goto (-36), 3) := by decide +kernel
theorem dX2_takeOffBoard_41 : decode cX2_takeOffBoard 41 = .ok (.return_, 1) := by decide +kernel
theorem dX2_putAtBottom_0 : decode cX2_putAtBottom 0 = .ok (.iconst 0, 1) := by decide +kernel
theorem dX2_putAtBottom_1 : decode cX2_putAtBottom 1 = .ok (.istore_n 2, 1) := by decide +kernel
theorem dX2_putAtBottom_2 : decode cX2_putAtBottom 2 = .ok (.iload_n 2, 1) := by decide +kernel
theorem dX2_putAtBottom_3 : decode cX2_putAtBottom 3 = .ok (.aload_n 0, 1) := by decide +kernel
theorem dX2_putAtBottom_4 : decode cX2_putAtBottom 4 = .ok (.getfield 10, 3) := by decide +kernel
theorem dX2_putAtBottom_7 : decode cX2_putAtBottom 7 = .ok (.invokevirtual 67, 3) := by decide +kernel
theorem dX2_putAtBottom_10 : decode cX2_putAtBottom 10 = .ok (.if_icmp .ge 30, 3) := by decide +kernel
theorem dX2_putAtBottom_13 : decode cX2_putAtBottom 13 = .ok (.aload_n 0, 1) := by decide +kernel
theorem dX2_putAtBottom_14 : decode cX2_putAtBottom 14 = .ok (.getfield 10, 3) := by decide +kernel
theorem dX2_putAtBottom_17 : decode cX2_putAtBottom 17 = .ok (.iload_n 2, 1) := by decide +kernel
theorem dX2_putAtBottom_18 : decode cX2_putAtBottom 18 = .ok (.invokevirtual 123, 3) := by decide +kernel
theorem dX2_putAtBottom_21 : decode cX2_putAtBottom 21 = .ok (.checkcast 78, 3) := by decide +kernel
theorem dX2_putAtBottom_24 : decode cX2_putAtBottom 24 = .ok (.getfield 106, 3) := by decide +kernel
theorem dX2_putAtBottom_27 : decode cX2_putAtBottom 27 = .ok (.aload_n 1, 1) := by decide +kernel
theorem dX2_putAtBottom_28 : decode cX2_putAtBottom 28 = .ok (.getfield 106, 3) := by decide +kernel
theorem dX2_putAtBottom_31 : decode cX2_putAtBottom 31 = .ok (.if_icmp .gt 9, 3) := by decide +kernel
theorem dX2_putAtBottom_34 : decode cX2_putAtBottom 34 = .ok (.iinc 2 1, 3) := by decide +kernel
theorem dX2_putAtBottom_37 : decode cX2_putAtBottom 37 = .ok (.goto (-35), 3) := by decide +kernel
theorem dX2_putAtBottom_40 : decode cX2_putAtBottom 40 = .ok (.aload_n 0, 1) := by decide +kernel
theorem dX2_putAtBottom_41 : decode cX2_putAtBottom 41 = .ok (.getfield 10, 3) := by decide +kernel
theorem dX2_putAtBottom_44 : decode cX2_putAtBottom 44 = .ok (.iload_n 2, 1) := by decide +kernel
theorem dX2_putAtBottom_45 : decode cX2_putAtBottom 45 = .ok (.aload_n 1, 1) := by decide +kernel
theorem dX2_putAtBottom_46 : decode cX2_putAtBottom 46 = .ok (.invokevirtual 228, 3) := by decide +kernel
theorem dX2_putAtBottom_49 : decode cX2_putAtBottom 49 = .ok (.return_, 1) := by decide +kernel
theorem dX2_sendToBottom_0 : decode cX2_sendToBottom 0 = .ok (.aload_n 0, 1) := by decide +kernel
theorem dX2_sendToBottom_1 : decode cX2_sendToBottom 1 = .ok (.aload_n 1, 1) := by decide +kernel
theorem dX2_sendToBottom_2 : decode cX2_sendToBottom 2 = .ok (.invokevirtual 97, 3) := by decide +kernel
theorem dX2_sendToBottom_5 : decode cX2_sendToBottom 5 = .ok (.aload_n 0, 1) := by decide +kernel
theorem dX2_sendToBottom_6 : decode cX2_sendToBottom 6 = .ok (.aload_n 1, 1) := by decide +kernel
theorem dX2_sendToBottom_7 : decode cX2_sendToBottom 7 = .ok (.invokevirtual 83, 3) := by decide +kernel
theorem dX2_sendToBottom_10 : decode cX2_sendToBottom 10 = .ok (.return_, 1) := by decide +kernel
theorem dX2_rememberTurn_0 : decode cX2_rememberTurn 0 = .ok (.aload_n 0, 1) := by decide +kernel
theorem dX2_rememberTurn_1 : decode cX2_rememberTurn 1 = .ok (.getfield 16, 3) := by decide +kernel
theorem dX2_rememberTurn_4 : decode cX2_rememberTurn 4 = .ok (.invokevirtual 232, 3) := by decide +kernel
theorem dX2_rememberTurn_7 : decode cX2_rememberTurn 7 = .ok (.iconst 0, 1) := by decide +kernel
theorem dX2_rememberTurn_8 : decode cX2_rememberTurn 8 = .ok (.istore_n 1, 1) := by decide +kernel
theorem dX2_rememberTurn_9 : decode cX2_rememberTurn 9 = .ok (.iload_n 1, 1) := by decide +kernel
theorem dX2_rememberTurn_10 : decode cX2_rememberTurn 10 = .ok (.aload_n 0, 1) := by decide +kernel
theorem dX2_rememberTurn_11 : decode cX2_rememberTurn 11 = .ok (.getfield 10, 3) := by decide +kernel
theorem dX2_rememberTurn_14 : decode cX2_rememberTurn 14 = .ok (.invokevirtual 67, 3) := by decide +kernel
theorem dX2_rememberTurn_17 : decode cX2_rememberTurn 17 = .ok (.if_icmp .ge 28, 3) := by decide +kernel
theorem dX2_rememberTurn_20 : decode cX2_rememberTurn 20 = .ok (.aload_n 0, 1) := by decide +kernel
theorem dX2_rememberTurn_21 : decode cX2_rememberTurn 21 = .ok (.getfield 16, 3) := by decide +kernel
theorem dX2_rememberTurn_24 : decode cX2_rememberTurn 24 = .ok (.aload_n 0, 1) := by decide +kernel
theorem dX2_rememberTurn_25 : decode cX2_rememberTurn 25 = .ok (.getfield 10, 3) := by decide +kernel
theorem dX2_rememberTurn_28 : decode cX2_rememberTurn 28 = .ok (.iload_n 1, 1) := by decide +kernel
theorem dX2_rememberTurn_29 : decode cX2_rememberTurn 29 = .ok (.invokevirtual 123, 3) := by decide +kernel
theorem dX2_rememberTurn_32 : decode cX2_rememberTurn 32 = .ok (.checkcast 78, 3) := by decide +kernel
theorem dX2_rememberTurn_35 : decode cX2_rememberTurn 35 = .ok (.invokevirtual 233, 3) := by decide +kernel
theorem dX2_rememberTurn_38 : decode cX2_rememberTurn 38 = .ok (.pop, 1) := by decide +kernel
theorem dX2_rememberTurn_39 : decode cX2_rememberTurn 39 = .ok (.iinc 1 1, 3) := by decide +kernel
theorem dX2_rememberTurn_42 : decode cX2_rememberTurn 42 = .ok (.goto (-33), 3) := by decide +kernel
theorem dX2_rememberTurn_45 : decode cX2_rememberTurn 45 = .ok (.return_, 1) := by decide +kernel
theorem dX2_riseByHours_0 : decode cX2_riseByHours 0 = .ok (.iload_n 1, 1) := by decide +kernel
theorem dX2_riseByHours_1 : decode cX2_riseByHours 1 = .ok (.istore_n 2, 1) := by decide +kernel
theorem dX2_riseByHours_2 : decode cX2_riseByHours 2 = .ok (.iload_n 2, 1) := by decide +kernel
theorem dX2_riseByHours_3 : decode cX2_riseByHours 3 = .ok (.ifCond .le 95, 3) := by decide +kernel
theorem dX2_riseByHours_6 : decode cX2_riseByHours 6 = .ok (.iload_n 2, 1) := by decide +kernel
theorem dX2_riseByHours_7 : decode cX2_riseByHours 7 = .ok (.aload_n 0, 1) := by decide +kernel
theorem dX2_riseByHours_8 : decode cX2_riseByHours 8 = .ok (.getfield 10, 3) := by decide +kernel
theorem dX2_riseByHours_11 : decode cX2_riseByHours 11 = .ok (.invokevirtual 67, 3) := by decide +kernel
theorem dX2_riseByHours_14 : decode cX2_riseByHours 14 = .ok (.if_icmp .ge 84, 3) := by decide +kernel
theorem dX2_riseByHours_17 : decode cX2_riseByHours 17 = .ok (.aload_n 0, 1) := by decide +kernel
theorem dX2_riseByHours_18 : decode cX2_riseByHours 18 = .ok (.getfield 10, 3) := by decide +kernel
theorem dX2_riseByHours_21 : decode cX2_riseByHours 21 = .ok (.iload_n 2, 1) := by decide +kernel
theorem dX2_riseByHours_22 : decode cX2_riseByHours 22 = .ok (.invokevirtual 123, 3) := by decide +kernel
theorem dX2_riseByHours_25 : decode cX2_riseByHours 25 = .ok (.checkcast 78, 3) := by decide +kernel
theorem dX2_riseByHours_28 : decode cX2_riseByHours 28 = .ok (.astore_n 3, 1) := by decide +kernel
theorem dX2_riseByHours_29 : decode cX2_riseByHours 29 = .ok (.aload_n 0, 1) := by decide +kernel
theorem dX2_riseByHours_30 : decode cX2_riseByHours 30 = .ok (.getfield 10, 3) := by decide +kernel
theorem dX2_riseByHours_33 : decode cX2_riseByHours 33 = .ok (.iload_n 2, 1) := by decide +kernel
theorem dX2_riseByHours_34 : decode cX2_riseByHours 34 = .ok (.iconst 1, 1) := by decide +kernel
theorem dX2_riseByHours_35 : decode cX2_riseByHours 35 = .ok (.isub, 1) := by decide +kernel
theorem dX2_riseByHours_36 : decode cX2_riseByHours 36 = .ok (.invokevirtual 123, 3) := by decide +kernel
theorem dX2_riseByHours_39 : decode cX2_riseByHours 39 = .ok (.checkcast 78, 3) := by decide +kernel
theorem dX2_riseByHours_42 : decode cX2_riseByHours 42 = .ok (.astore 4, 2) := by decide +kernel
theorem dX2_riseByHours_44 : decode cX2_riseByHours 44 = .ok (.aload 4, 2) := by decide +kernel
theorem dX2_riseByHours_46 : decode cX2_riseByHours 46 = .ok (.getfield 106, 3) := by decide +kernel
theorem dX2_riseByHours_49 : decode cX2_riseByHours 49 = .ok (.aload_n 3, 1) := by decide +kernel
theorem dX2_riseByHours_50 : decode cX2_riseByHours 50 = .ok (.getfield 106, 3) := by decide +kernel
theorem dX2_riseByHours_53 : decode cX2_riseByHours 53 = .ok (.if_icmp .ne 15, 3) := by decide +kernel
theorem dX2_riseByHours_56 : decode cX2_riseByHours 56 = .ok (.aload 4, 2) := by decide +kernel
theorem dX2_riseByHours_58 : decode cX2_riseByHours 58 = .ok (.getfield 100, 3) := by decide +kernel
theorem dX2_riseByHours_61 : decode cX2_riseByHours 61 = .ok (.aload_n 3, 1) := by decide +kernel
theorem dX2_riseByHours_62 : decode cX2_riseByHours 62 = .ok (.getfield 100, 3) := by decide +kernel
theorem dX2_riseByHours_65 : decode cX2_riseByHours 65 = .ok (.if_icmp .gt 4, 3) := by decide +kernel
theorem dX2_riseByHours_68 : decode cX2_riseByHours 68 = .ok (.return_, 1) := by decide +kernel
theorem dX2_riseByHours_69 : decode cX2_riseByHours 69 = .ok (.aload_n 0, 1) := by decide +kernel
theorem dX2_riseByHours_70 : decode cX2_riseByHours 70 = .ok (.getfield 10, 3) := by decide +kernel
theorem dX2_riseByHours_73 : decode cX2_riseByHours 73 = .ok (.iload_n 2, 1) := by decide +kernel
theorem dX2_riseByHours_74 : decode cX2_riseByHours 74 = .ok (.iconst 1, 1) := by decide +kernel
theorem dX2_riseByHours_75 : decode cX2_riseByHours 75 = .ok (.isub, 1) := by decide +kernel
theorem dX2_riseByHours_76 : decode cX2_riseByHours 76 = .ok (.aload_n 3, 1) := by decide +kernel
theorem dX2_riseByHours_77 : decode cX2_riseByHours 77 = .ok (.invokevirtual 236, 3) := by decide +kernel
theorem dX2_riseByHours_80 : decode cX2_riseByHours 80 = .ok (.pop, 1) := by decide +kernel
theorem dX2_riseByHours_81 : decode cX2_riseByHours 81 = .ok (.aload_n 0, 1) := by decide +kernel
theorem dX2_riseByHours_82 : decode cX2_riseByHours 82 = .ok (.getfield 10, 3) := by decide +kernel
theorem dX2_riseByHours_85 : decode cX2_riseByHours 85 = .ok (.iload_n 2, 1) := by decide +kernel
theorem dX2_riseByHours_86 : decode cX2_riseByHours 86 = .ok (.aload 4, 2) := by decide +kernel
theorem dX2_riseByHours_88 : decode cX2_riseByHours 88 = .ok (.invokevirtual 236, 3) := by decide +kernel
theorem dX2_riseByHours_91 : decode cX2_riseByHours 91 = .ok (.pop, 1) := by decide +kernel
theorem dX2_riseByHours_92 : decode cX2_riseByHours 92 = .ok (.iinc 2 (-1), 3) := by decide +kernel
theorem dX2_riseByHours_95 : decode cX2_riseByHours 95 = .ok (.goto (-93), 3) := by decide +kernel
theorem dX2_riseByHours_98 : decode cX2_riseByHours 98 = .ok (.return_, 1) := by decide +kernel
theorem dX2_countDisplaced_0 : decode cX2_countDisplaced 0 = .ok (.iconst 0, 1) := by decide +kernel
theorem dX2_countDisplaced_1 : decode cX2_countDisplaced 1 = .ok (.istore_n 1, 1) := by decide +kernel
theorem dX2_countDisplaced_2 : decode cX2_countDisplaced 2 = .ok (.iconst 0, 1) := by decide +kernel
theorem dX2_countDisplaced_3 : decode cX2_countDisplaced 3 = .ok (.istore_n 2, 1) := by decide +kernel
theorem dX2_countDisplaced_4 : decode cX2_countDisplaced 4 = .ok (.iload_n 2, 1) := by decide +kernel
theorem dX2_countDisplaced_5 : decode cX2_countDisplaced 5 = .ok (.aload_n 0, 1) := by decide +kernel
theorem dX2_countDisplaced_6 : decode cX2_countDisplaced 6 = .ok (.getfield 10, 3) := by decide +kernel
theorem dX2_countDisplaced_9 : decode cX2_countDisplaced 9 = .ok (.invokevirtual 67, 3) := by decide +kernel
theorem dX2_countDisplaced_12 : decode cX2_countDisplaced 12 = .ok (.if_icmp .ge 42, 3) := by decide +kernel
theorem dX2_countDisplaced_15 : decode cX2_countDisplaced 15 = .ok (.iload_n 2, 1) := by decide +kernel
theorem dX2_countDisplaced_16 : decode cX2_countDisplaced 16 = .ok (.aload_n 0, 1) := by decide +kernel
theorem dX2_countDisplaced_17 : decode cX2_countDisplaced 17 = .ok (.getfield 16, 3) := by decide +kernel
theorem dX2_countDisplaced_20 : decode cX2_countDisplaced 20 = .ok (.invokevirtual 67, 3) := by decide +kernel
theorem dX2_countDisplaced_23 : decode cX2_countDisplaced 23 = .ok (.if_icmp .ge 31, 3) := by decide +kernel
theorem dX2_countDisplaced_26 : decode cX2_countDisplaced 26 = .ok (.aload_n 0, 1) := by decide +kernel
theorem dX2_countDisplaced_27 : decode cX2_countDisplaced 27 = .ok (.getfield 10, 3) := by decide +kernel
theorem dX2_countDisplaced_30 : decode cX2_countDisplaced 30 = .ok (.iload_n 2, 1) := by decide +kernel
theorem dX2_countDisplaced_31 : decode cX2_countDisplaced 31 = .ok (.invokevirtual 123, 3) := by decide +kernel
theorem dX2_countDisplaced_34 : decode cX2_countDisplaced 34 = .ok (.aload_n 0, 1) := by decide +kernel
theorem dX2_countDisplaced_35 : decode cX2_countDisplaced 35 = .ok (.getfield 16, 3) := by decide +kernel
theorem dX2_countDisplaced_38 : decode cX2_countDisplaced 38 = .ok (.iload_n 2, 1) := by decide +kernel
theorem dX2_countDisplaced_39 : decode cX2_countDisplaced 39 = .ok (.invokevirtual 123, 3) := by decide +kernel
theorem dX2_countDisplaced_42 : decode cX2_countDisplaced 42 = .ok (.if_acmp .eq 6, 3) := by decide +kernel
theorem dX2_countDisplaced_45 : decode cX2_countDisplaced 45 = .ok (.iinc 1 1, 3) := by decide +kernel
theorem dX2_countDisplaced_48 : decode cX2_countDisplaced 48 = .ok (.iinc 2 1, 3) := by decide +kernel
theorem dX2_countDisplaced_51 : decode cX2_countDisplaced 51 = .ok (.goto (-47), 3) := by decide +kernel
theorem dX2_countDisplaced_54 : decode cX2_countDisplaced 54 = .ok (.iload_n 1, 1) := by decide +kernel
theorem dX2_countDisplaced_55 : decode cX2_countDisplaced 55 = .ok (.ireturn, 1) := by decide +kernel
theorem dX2_matchOpenPlaces_0 : decode cX2_matchOpenPlaces 0 = .ok (.iconst 0, 1) := by decide +kernel
theorem dX2_matchOpenPlaces_1 : decode cX2_matchOpenPlaces 1 = .ok (.istore_n 1, 1) := by decide +kernel
theorem dX2_matchOpenPlaces_2 : decode cX2_matchOpenPlaces 2 = .ok (.iload_n 1, 1) := by decide +kernel
theorem dX2_matchOpenPlaces_3 : decode cX2_matchOpenPlaces 3 = .ok (.aload_n 0, 1) := by decide +kernel
theorem dX2_matchOpenPlaces_4 : decode cX2_matchOpenPlaces 4 = .ok (.getfield 44, 3) := by decide +kernel
theorem dX2_matchOpenPlaces_7 : decode cX2_matchOpenPlaces 7 = .ok (.if_icmp .ge 30, 3) := by decide +kernel
theorem dX2_matchOpenPlaces_10 : decode cX2_matchOpenPlaces 10 = .ok (.aload_n 0, 1) := by decide +kernel
theorem dX2_matchOpenPlaces_11 : decode cX2_matchOpenPlaces 11 = .ok (.iload_n 1, 1) := by decide +kernel
theorem dX2_matchOpenPlaces_12 : decode cX2_matchOpenPlaces 12 = .ok (.invokevirtual 172, 3) := by decide +kernel
theorem dX2_matchOpenPlaces_15 : decode cX2_matchOpenPlaces 15 = .ok (.ifCond .eq 16, 3) := by decide +kernel
theorem dX2_matchOpenPlaces_18 : decode cX2_matchOpenPlaces 18 = .ok (.aload_n 0, 1) := by decide +kernel
theorem dX2_matchOpenPlaces_19 : decode cX2_matchOpenPlaces 19 = .ok (.getfield 25, 3) := by decide +kernel
theorem dX2_matchOpenPlaces_22 : decode cX2_matchOpenPlaces 22 = .ok (.aload_n 0, 1) := by decide +kernel
theorem dX2_matchOpenPlaces_23 : decode cX2_matchOpenPlaces 23 = .ok (.getfield 37, 3) := by decide +kernel
theorem dX2_matchOpenPlaces_26 : decode cX2_matchOpenPlaces 26 = .ok (.iload_n 1, 1) := by decide +kernel
theorem dX2_matchOpenPlaces_27 : decode cX2_matchOpenPlaces 27 = .ok (.iaload, 1) := by decide +kernel
theorem dX2_matchOpenPlaces_28 : decode cX2_matchOpenPlaces 28 = .ok (.invokevirtual 240, 3) := by decide +kernel
theorem dX2_matchOpenPlaces_31 : decode cX2_matchOpenPlaces 31 = .ok (.iinc 1 1, 3) := by decide +kernel
theorem dX2_matchOpenPlaces_34 : decode cX2_matchOpenPlaces 34 = .ok (.goto (-32), 3) := by decide +kernel
theorem dX2_matchOpenPlaces_37 : decode cX2_matchOpenPlaces 37 = .ok (.return_, 1) := by decide +kernel
theorem dX2_takeInTurn_0 : decode cX2_takeInTurn 0 = .ok (.aload_n 0, 1) := by decide +kernel
theorem dX2_takeInTurn_1 : decode cX2_takeInTurn 1 = .ok (.getfield 19, 3) := by decide +kernel
theorem dX2_takeInTurn_4 : decode cX2_takeInTurn 4 = .ok (.invokevirtual 232, 3) := by decide +kernel
theorem dX2_takeInTurn_7 : decode cX2_takeInTurn 7 = .ok (.aload_n 0, 1) := by decide +kernel
theorem dX2_takeInTurn_8 : decode cX2_takeInTurn 8 = .ok (.invokevirtual 120, 3) := by decide +kernel
theorem dX2_takeInTurn_11 : decode cX2_takeInTurn 11 = .ok (.iconst 0, 1) := by decide +kernel
theorem dX2_takeInTurn_12 : decode cX2_takeInTurn 12 = .ok (.istore_n 1, 1) := by decide +kernel
theorem dX2_takeInTurn_13 : decode cX2_takeInTurn 13 = .ok (.iload_n 1, 1) := by decide +kernel
theorem dX2_takeInTurn_14 : decode cX2_takeInTurn 14 = .ok (.aload_n 0, 1) := by decide +kernel
theorem dX2_takeInTurn_15 : decode cX2_takeInTurn 15 = .ok (.getfield 16, 3) := by decide +kernel
theorem dX2_takeInTurn_18 : decode cX2_takeInTurn 18 = .ok (.invokevirtual 67, 3) := by decide +kernel
theorem dX2_takeInTurn_21 : decode cX2_takeInTurn 21 = .ok (.if_icmp .ge 77, 3) := by decide +kernel
theorem dX2_takeInTurn_24 : decode cX2_takeInTurn 24 = .ok (.aload_n 0, 1) := by decide +kernel
theorem dX2_takeInTurn_25 : decode cX2_takeInTurn 25 = .ok (.getfield 16, 3) := by decide +kernel
theorem dX2_takeInTurn_28 : decode cX2_takeInTurn 28 = .ok (.iload_n 1, 1) := by decide +kernel
theorem dX2_takeInTurn_29 : decode cX2_takeInTurn 29 = .ok (.invokevirtual 123, 3) := by decide +kernel
theorem dX2_takeInTurn_32 : decode cX2_takeInTurn 32 = .ok (.checkcast 78, 3) := by decide +kernel
theorem dX2_takeInTurn_35 : decode cX2_takeInTurn 35 = .ok (.astore_n 2, 1) := by decide +kernel
theorem dX2_takeInTurn_36 : decode cX2_takeInTurn 36 = .ok (.aload_n 2, 1) := by decide +kernel
theorem dX2_takeInTurn_37 : decode cX2_takeInTurn 37 = .ok (.invokevirtual 178, 3) := by decide +kernel
theorem dX2_takeInTurn_40 : decode cX2_takeInTurn 40 = .ok (.ifCond .eq 52, 3) := by decide +kernel
theorem dX2_takeInTurn_43 : decode cX2_takeInTurn 43 = .ok (.aload_n 0, 1) := by decide +kernel
theorem dX2_takeInTurn_44 : decode cX2_takeInTurn 44 = .ok (.getfield 25, 3) := by decide +kernel
theorem dX2_takeInTurn_47 : decode cX2_takeInTurn 47 = .ok (.aload_n 2, 1) := by decide +kernel
theorem dX2_takeInTurn_48 : decode cX2_takeInTurn 48 = .ok (.getfield 103, 3) := by decide +kernel
theorem dX2_takeInTurn_51 : decode cX2_takeInTurn 51 = .ok (.invokevirtual 243, 3) := by decide +kernel
theorem dX2_takeInTurn_54 : decode cX2_takeInTurn 54 = .ok (.ifCond .eq 38, 3) := by decide +kernel
theorem dX2_takeInTurn_57 : decode cX2_takeInTurn 57 = .ok (.aload_n 2, 1) := by decide +kernel
theorem dX2_takeInTurn_58 : decode cX2_takeInTurn 58 = .ok (.getfield 112, 3) := by decide +kernel
theorem dX2_takeInTurn_61 : decode cX2_takeInTurn 61 = .ok (.ifCond .eq 11, 3) := by decide +kernel
theorem dX2_takeInTurn_64 : decode cX2_takeInTurn 64 = .ok (.aload_n 0, 1) := by decide +kernel
theorem dX2_takeInTurn_65 : decode cX2_takeInTurn 65 = .ok (.aload_n 2, 1) := by decide +kernel
theorem dX2_takeInTurn_66 : decode cX2_takeInTurn 66 = .ok (.invokevirtual 188, 3) := by decide +kernel
theorem dX2_takeInTurn_69 : decode cX2_takeInTurn 69 = .ok (.goto 23, 3) := by decide +kernel
theorem dX2_takeInTurn_72 : decode cX2_takeInTurn 72 = .ok (.aload_n 0, 1) := by decide +kernel
theorem dX2_takeInTurn_73 : decode cX2_takeInTurn 73 = .ok (.getfield 25, 3) := by decide +kernel
theorem dX2_takeInTurn_76 : decode cX2_takeInTurn 76 = .ok (.aload_n 2, 1) := by decide +kernel
theorem dX2_takeInTurn_77 : decode cX2_takeInTurn 77 = .ok (.getfield 103, 3) := by decide +kernel
theorem dX2_takeInTurn_80 : decode cX2_takeInTurn 80 = .ok (.invokevirtual 204, 3) := by decide +kernel
theorem dX2_takeInTurn_83 : decode cX2_takeInTurn 83 = .ok (.aload_n 0, 1) := by decide +kernel
theorem dX2_takeInTurn_84 : decode cX2_takeInTurn 84 = .ok (.getfield 19, 3) := by decide +kernel
theorem dX2_takeInTurn_87 : decode cX2_takeInTurn 87 = .ok (.aload_n 2, 1) := by decide +kernel
theorem dX2_takeInTurn_88 : decode cX2_takeInTurn 88 = .ok (.invokevirtual 233, 3) := by decide +kernel
theorem dX2_takeInTurn_91 : decode cX2_takeInTurn 91 = .ok (.pop, 1) := by decide +kernel
theorem dX2_takeInTurn_92 : decode cX2_takeInTurn 92 = .ok (.iinc 1 1, 3) := by decide +kernel
theorem dX2_takeInTurn_95 : decode cX2_takeInTurn 95 = .ok (.goto (-82), 3) := by decide +kernel
theorem dX2_takeInTurn_98 : decode cX2_takeInTurn 98 = .ok (.return_, 1) := by decide +kernel
theorem dX2_placeTaken_0 : decode cX2_placeTaken 0 = .ok (.iconst 0, 1) := by decide +kernel
theorem dX2_placeTaken_1 : decode cX2_placeTaken 1 = .ok (.istore_n 1, 1) := by decide +kernel
theorem dX2_placeTaken_2 : decode cX2_placeTaken 2 = .ok (.iload_n 1, 1) := by decide +kernel
theorem dX2_placeTaken_3 : decode cX2_placeTaken 3 = .ok (.aload_n 0, 1) := by decide +kernel
theorem dX2_placeTaken_4 : decode cX2_placeTaken 4 = .ok (.getfield 19, 3) := by decide +kernel
theorem dX2_placeTaken_7 : decode cX2_placeTaken 7 = .ok (.invokevirtual 67, 3) := by decide +kernel
theorem dX2_placeTaken_10 : decode cX2_placeTaken 10 = .ok (.if_icmp .ge 62, 3) := by decide +kernel
theorem dX2_placeTaken_13 : decode cX2_placeTaken 13 = .ok (.aload_n 0, 1) := by decide +kernel
theorem dX2_placeTaken_14 : decode cX2_placeTaken 14 = .ok (.getfield 19, 3) := by decide +kernel
theorem dX2_placeTaken_17 : decode cX2_placeTaken 17 = .ok (.iload_n 1, 1) := by decide +kernel
theorem dX2_placeTaken_18 : decode cX2_placeTaken 18 = .ok (.invokevirtual 123, 3) := by decide +kernel
theorem dX2_placeTaken_21 : decode cX2_placeTaken 21 = .ok (.checkcast 78, 3) := by decide +kernel
theorem dX2_placeTaken_24 : decode cX2_placeTaken 24 = .ok (.astore_n 2, 1) := by decide +kernel
theorem dX2_placeTaken_25 : decode cX2_placeTaken 25 = .ok (.aload_n 0, 1) := by decide +kernel
theorem dX2_placeTaken_26 : decode cX2_placeTaken 26 = .ok (.getfield 25, 3) := by decide +kernel
theorem dX2_placeTaken_29 : decode cX2_placeTaken 29 = .ok (.aload_n 2, 1) := by decide +kernel
theorem dX2_placeTaken_30 : decode cX2_placeTaken 30 = .ok (.getfield 103, 3) := by decide +kernel
theorem dX2_placeTaken_33 : decode cX2_placeTaken 33 = .ok (.invokevirtual 246, 3) := by decide +kernel
theorem dX2_placeTaken_36 : decode cX2_placeTaken 36 = .ok (.aload_n 0, 1) := by decide +kernel
theorem dX2_placeTaken_37 : decode cX2_placeTaken 37 = .ok (.aload_n 2, 1) := by decide +kernel
theorem dX2_placeTaken_38 : decode cX2_placeTaken 38 = .ok (.invokevirtual 249, 3) := by decide +kernel
theorem dX2_placeTaken_41 : decode cX2_placeTaken 41 = .ok (.istore_n 3, 1) := by decide +kernel
theorem dX2_placeTaken_42 : decode cX2_placeTaken 42 = .ok (.iload_n 3, 1) := by decide +kernel
theorem dX2_placeTaken_43 : decode cX2_placeTaken 43 = .ok (.iconst (-1), 1) := by decide +kernel
theorem dX2_placeTaken_44 : decode cX2_placeTaken 44 = .ok (.if_icmp .eq 22, 3) := by decide +kernel
theorem dX2_placeTaken_47 : decode cX2_placeTaken 47 = .ok (.aload_n 0, 1) := by decide +kernel
theorem dX2_placeTaken_48 : decode cX2_placeTaken 48 = .ok (.getfield 25, 3) := by decide +kernel
theorem dX2_placeTaken_51 : decode cX2_placeTaken 51 = .ok (.aload_n 0, 1) := by decide +kernel
theorem dX2_placeTaken_52 : decode cX2_placeTaken 52 = .ok (.getfield 37, 3) := by decide +kernel
theorem dX2_placeTaken_55 : decode cX2_placeTaken 55 = .ok (.iload_n 3, 1) := by decide +kernel
theorem dX2_placeTaken_56 : decode cX2_placeTaken 56 = .ok (.iaload, 1) := by decide +kernel
theorem dX2_placeTaken_57 : decode cX2_placeTaken 57 = .ok (.invokevirtual 252, 3) := by decide +kernel
theorem dX2_placeTaken_60 : decode cX2_placeTaken 60 = .ok (.aload_n 0, 1) := by decide +kernel
theorem dX2_placeTaken_61 : decode cX2_placeTaken 61 = .ok (.aload_n 2, 1) := by decide +kernel
theorem dX2_placeTaken_62 : decode cX2_placeTaken 62 = .ok (.iload_n 3, 1) := by decide +kernel
theorem dX2_placeTaken_63 : decode cX2_placeTaken 63 = .ok (.invokevirtual 184, 3) := by decide +kernel
theorem dX2_placeTaken_66 : decode cX2_placeTaken 66 = .ok (.iinc 1 1, 3) := by decide +kernel
theorem dX2_placeTaken_69 : decode cX2_placeTaken 69 = .ok (.goto (-67), 3) := by decide +kernel
theorem dX2_placeTaken_72 : decode cX2_placeTaken 72 = .ok (.return_, 1) := by decide +kernel
theorem dX2_lowestPlaceFor_0 : decode cX2_lowestPlaceFor 0 = .ok (.iconst 0, 1) := by decide +kernel
theorem dX2_lowestPlaceFor_1 : decode cX2_lowestPlaceFor 1 = .ok (.istore_n 2, 1) := by decide +kernel
theorem dX2_lowestPlaceFor_2 : decode cX2_lowestPlaceFor 2 = .ok (.iload_n 2, 1) := by decide +kernel
theorem dX2_lowestPlaceFor_3 : decode cX2_lowestPlaceFor 3 = .ok (.aload_n 0, 1) := by decide +kernel
theorem dX2_lowestPlaceFor_4 : decode cX2_lowestPlaceFor 4 = .ok (.getfield 44, 3) := by decide +kernel
theorem dX2_lowestPlaceFor_7 : decode cX2_lowestPlaceFor 7 = .ok (.if_icmp .ge 45, 3) := by decide +kernel
theorem dX2_lowestPlaceFor_10 : decode cX2_lowestPlaceFor 10 = .ok (.aload_n 0, 1) := by decide +kernel
theorem dX2_lowestPlaceFor_11 : decode cX2_lowestPlaceFor 11 = .ok (.getfield 37, 3) := by decide +kernel
theorem dX2_lowestPlaceFor_14 : decode cX2_lowestPlaceFor 14 = .ok (.iload_n 2, 1) := by decide +kernel
theorem dX2_lowestPlaceFor_15 : decode cX2_lowestPlaceFor 15 = .ok (.iaload, 1) := by decide +kernel
theorem dX2_lowestPlaceFor_16 : decode cX2_lowestPlaceFor 16 = .ok (.istore_n 3, 1) := by decide +kernel
theorem dX2_lowestPlaceFor_17 : decode cX2_lowestPlaceFor 17 = .ok (.aload_n 0, 1) := by decide +kernel
theorem dX2_lowestPlaceFor_18 : decode cX2_lowestPlaceFor 18 = .ok (.iload_n 2, 1) := by decide +kernel
theorem dX2_lowestPlaceFor_19 : decode cX2_lowestPlaceFor 19 = .ok (.invokevirtual 172, 3) := by decide +kernel
theorem dX2_lowestPlaceFor_22 : decode cX2_lowestPlaceFor 22 = .ok (.ifCond .eq 24, 3) := by decide +kernel
theorem dX2_lowestPlaceFor_25 : decode cX2_lowestPlaceFor 25 = .ok (.aload_n 1, 1) := by decide +kernel
theorem dX2_lowestPlaceFor_26 : decode cX2_lowestPlaceFor 26 = .ok (.iload_n 3, 1) := by decide +kernel
theorem dX2_lowestPlaceFor_27 : decode cX2_lowestPlaceFor 27 = .ok (.invokevirtual 181, 3) := by decide +kernel
theorem dX2_lowestPlaceFor_30 : decode cX2_lowestPlaceFor 30 = .ok (.ifCond .eq 16, 3) := by decide +kernel
theorem dX2_lowestPlaceFor_33 : decode cX2_lowestPlaceFor 33 = .ok (.aload_n 0, 1) := by decide +kernel
theorem dX2_lowestPlaceFor_34 : decode cX2_lowestPlaceFor 34 = .ok (.getfield 25, 3) := by decide +kernel
theorem dX2_lowestPlaceFor_37 : decode cX2_lowestPlaceFor 37 = .ok (.iload_n 3, 1) := by decide +kernel
theorem dX2_lowestPlaceFor_38 : decode cX2_lowestPlaceFor 38 = .ok (.invokevirtual 255, 3) := by decide +kernel
theorem dX2_lowestPlaceFor_41 : decode cX2_lowestPlaceFor 41 = .ok (.ifCond .eq 5, 3) := by decide +kernel
theorem dX2_lowestPlaceFor_44 : decode cX2_lowestPlaceFor 44 = .ok (.iload_n 2, 1) := by decide +kernel
theorem dX2_lowestPlaceFor_45 : decode cX2_lowestPlaceFor 45 = .ok (.ireturn, 1) := by decide +kernel
theorem dX2_lowestPlaceFor_46 : decode cX2_lowestPlaceFor 46 = .ok (.iinc 2 1, 3) := by decide +kernel
theorem dX2_lowestPlaceFor_49 : decode cX2_lowestPlaceFor 49 = .ok (.goto (-47), 3) := by decide +kernel
theorem dX2_lowestPlaceFor_52 : decode cX2_lowestPlaceFor 52 = .ok (.iconst (-1), 1) := by decide +kernel
theorem dX2_lowestPlaceFor_53 : decode cX2_lowestPlaceFor 53 = .ok (.ireturn, 1) := by decide +kernel
theorem dX2_startWork_0 : decode cX2_startWork 0 = .ok (.aload_n 1, 1) := by decide +kernel
theorem dX2_startWork_1 : decode cX2_startWork 1 = .ok (.iload_n 2, 1) := by decide +kernel
theorem dX2_startWork_2 : decode cX2_startWork 2 = .ok (.putfield 162, 3) := by decide +kernel
theorem dX2_startWork_5 : decode cX2_startWork 5 = .ok (.aload_n 1, 1) := by decide +kernel
theorem dX2_startWork_6 : decode cX2_startWork 6 = .ok (.aload_n 0, 1) := by decide +kernel
theorem dX2_startWork_7 : decode cX2_startWork 7 = .ok (.getfield 50, 3) := by decide +kernel
theorem dX2_startWork_10 : decode cX2_startWork 10 = .ok (.putfield 258, 3) := by decide +kernel
theorem dX2_startWork_13 : decode cX2_startWork 13 = .ok (.aload_n 1, 1) := by decide +kernel
theorem dX2_startWork_14 : decode cX2_startWork 14 = .ok (.iconst 1, 1) := by decide +kernel
theorem dX2_startWork_15 : decode cX2_startWork 15 = .ok (.putfield 191, 3) := by decide +kernel
theorem dX2_startWork_18 : decode cX2_startWork 18 = .ok (.aload_n 0, 1) := by decide +kernel
theorem dX2_startWork_19 : decode cX2_startWork 19 = .ok (.iconst 1, 1) := by decide +kernel
theorem dX2_startWork_20 : decode cX2_startWork 20 = .ok (.putfield 56, 3) := by decide +kernel
theorem dX2_startWork_23 : decode cX2_startWork 23 = .ok (.aload_n 0, 1) := by decide +kernel
theorem dX2_startWork_24 : decode cX2_startWork 24 = .ok (.aload_n 1, 1) := by decide +kernel
theorem dX2_startWork_25 : decode cX2_startWork 25 = .ok (.invokevirtual 261, 3) := by decide +kernel
theorem dX2_startWork_28 : decode cX2_startWork 28 = .ok (.return_, 1) := by decide +kernel
theorem dX2_countRefusal_0 : decode cX2_countRefusal 0 = .ok (.aload_n 1, 1) := by decide +kernel
theorem dX2_countRefusal_1 : decode cX2_countRefusal 1 = .ok (.dup, 1) := by decide +kernel
theorem dX2_countRefusal_2 : decode cX2_countRefusal 2 = .ok (.getfield 198, 3) := by decide +kernel
theorem dX2_countRefusal_5 : decode cX2_countRefusal 5 = .ok (.iconst 1, 1) := by decide +kernel
theorem dX2_countRefusal_6 : decode cX2_countRefusal 6 = .ok (.iadd, 1) := by decide +kernel
theorem dX2_countRefusal_7 : decode cX2_countRefusal 7 = .ok (.putfield 198, 3) := by decide +kernel
theorem dX2_countRefusal_10 : decode cX2_countRefusal 10 = .ok (.aload_n 0, 1) := by decide +kernel
theorem dX2_countRefusal_11 : decode cX2_countRefusal 11 = .ok (.getfield 29, 3) := by decide +kernel
theorem dX2_countRefusal_14 : decode cX2_countRefusal 14 = .ok (.aload_n 1, 1) := by decide +kernel
theorem dX2_countRefusal_15 : decode cX2_countRefusal 15 = .ok (.getfield 106, 3) := by decide +kernel
theorem dX2_countRefusal_18 : decode cX2_countRefusal 18 = .ok (.baload, 1) := by decide +kernel
theorem dX2_countRefusal_19 : decode cX2_countRefusal 19 = .ok (.ifCond .eq 8, 3) := by decide +kernel
theorem dX2_countRefusal_22 : decode cX2_countRefusal 22 = .ok (.aload_n 0, 1) := by decide +kernel
theorem dX2_countRefusal_23 : decode cX2_countRefusal 23 = .ok (.aload_n 1, 1) := by decide +kernel
theorem dX2_countRefusal_24 : decode cX2_countRefusal 24 = .ok (.invokevirtual 261, 3) := by decide +kernel
theorem dX2_countRefusal_27 : decode cX2_countRefusal 27 = .ok (.return_, 1) := by decide +kernel
theorem dX2_isOpen_0 : decode cX2_isOpen 0 = .ok (.aload_n 0, 1) := by decide +kernel
theorem dX2_isOpen_1 : decode cX2_isOpen 1 = .ok (.iload_n 1, 1) := by decide +kernel
theorem dX2_isOpen_2 : decode cX2_isOpen 2 = .ok (.invokevirtual 201, 3) := by decide +kernel
theorem dX2_isOpen_5 : decode cX2_isOpen 5 = .ok (.iconst (-1), 1) := by decide +kernel
theorem dX2_isOpen_6 : decode cX2_isOpen 6 = .ok (.if_icmp .ne 7, 3) := by decide +kernel
theorem dX2_isOpen_9 : decode cX2_isOpen 9 = .ok (.iconst 1, 1) := by decide +kernel
theorem dX2_isOpen_10 : decode cX2_isOpen 10 = .ok (.goto 4, 3) := by decide +kernel
theorem dX2_isOpen_13 : decode cX2_isOpen 13 = .ok (.iconst 0, 1) := by decide +kernel
theorem dX2_isOpen_14 : decode cX2_isOpen 14 = .ok (.ireturn, 1) := by decide +kernel
theorem dX2_holderOf_0 : decode cX2_holderOf 0 = .ok (.iconst 0, 1) := by decide +kernel
theorem dX2_holderOf_1 : decode cX2_holderOf 1 = .ok (.istore_n 2, 1) := by decide +kernel
theorem dX2_holderOf_2 : decode cX2_holderOf 2 = .ok (.iload_n 2, 1) := by decide +kernel
theorem dX2_holderOf_3 : decode cX2_holderOf 3 = .ok (.aload_n 0, 1) := by decide +kernel
theorem dX2_holderOf_4 : decode cX2_holderOf 4 = .ok (.getfield 10, 3) := by decide +kernel
theorem dX2_holderOf_7 : decode cX2_holderOf 7 = .ok (.invokevirtual 67, 3) := by decide +kernel
theorem dX2_holderOf_10 : decode cX2_holderOf 10 = .ok (.if_icmp .ge 42, 3) := by decide +kernel
theorem dX2_holderOf_13 : decode cX2_holderOf 13 = .ok (.aload_n 0, 1) := by decide +kernel
theorem dX2_holderOf_14 : decode cX2_holderOf 14 = .ok (.getfield 10, 3) := by decide +kernel
theorem dX2_holderOf_17 : decode cX2_holderOf 17 = .ok (.iload_n 2, 1) := by decide +kernel
theorem dX2_holderOf_18 : decode cX2_holderOf 18 = .ok (.invokevirtual 123, 3) := by decide +kernel
theorem dX2_holderOf_21 : decode cX2_holderOf 21 = .ok (.checkcast 78, 3) := by decide +kernel
theorem dX2_holderOf_24 : decode cX2_holderOf 24 = .ok (.getfield 162, 3) := by decide +kernel
theorem dX2_holderOf_27 : decode cX2_holderOf 27 = .ok (.iload_n 1, 1) := by decide +kernel
theorem dX2_holderOf_28 : decode cX2_holderOf 28 = .ok (.if_icmp .ne 18, 3) := by decide +kernel
theorem dX2_holderOf_31 : decode cX2_holderOf 31 = .ok (.aload_n 0, 1) := by decide +kernel
theorem dX2_holderOf_32 : decode cX2_holderOf 32 = .ok (.getfield 10, 3) := by decide +kernel
theorem dX2_holderOf_35 : decode cX2_holderOf 35 = .ok (.iload_n 2, 1) := by decide +kernel
theorem dX2_holderOf_36 : decode cX2_holderOf 36 = .ok (.invokevirtual 123, 3) := by decide +kernel
theorem dX2_holderOf_39 : decode cX2_holderOf 39 = .ok (.checkcast 78, 3) := by decide +kernel
theorem dX2_holderOf_42 : decode cX2_holderOf 42 = .ok (.getfield 87, 3) := by decide +kernel
theorem dX2_holderOf_45 : decode cX2_holderOf 45 = .ok (.ireturn, 1) := by decide +kernel
theorem dX2_holderOf_46 : decode cX2_holderOf 46 = .ok (.iinc 2 1, 3) := by decide +kernel
theorem dX2_holderOf_49 : decode cX2_holderOf 49 = .ok (.goto (-47), 3) := by decide +kernel
theorem dX2_holderOf_52 : decode cX2_holderOf 52 = .ok (.iconst (-1), 1) := by decide +kernel
theorem dX2_holderOf_53 : decode cX2_holderOf 53 = .ok (.ireturn, 1) := by decide +kernel
theorem dX2_hoursOwed_0 : decode cX2_hoursOwed 0 = .ok (.aload_n 0, 1) := by decide +kernel
theorem dX2_hoursOwed_1 : decode cX2_hoursOwed 1 = .ok (.getfield 33, 3) := by decide +kernel
theorem dX2_hoursOwed_4 : decode cX2_hoursOwed 4 = .ok (.aload_n 1, 1) := by decide +kernel
theorem dX2_hoursOwed_5 : decode cX2_hoursOwed 5 = .ok (.getfield 106, 3) := by decide +kernel
theorem dX2_hoursOwed_8 : decode cX2_hoursOwed 8 = .ok (.iaload, 1) := by decide +kernel
theorem dX2_hoursOwed_9 : decode cX2_hoursOwed 9 = .ok (.aload_n 1, 1) := by decide +kernel
theorem dX2_hoursOwed_10 : decode cX2_hoursOwed 10 = .ok (.getfield 100, 3) := by decide +kernel
theorem dX2_hoursOwed_13 : decode cX2_hoursOwed 13 = .ok (.isub, 1) := by decide +kernel
theorem dX2_hoursOwed_14 : decode cX2_hoursOwed 14 = .ok (.istore_n 2, 1) := by decide +kernel
theorem dX2_hoursOwed_15 : decode cX2_hoursOwed 15 = .ok (.aload_n 1, 1) := by decide +kernel
theorem dX2_hoursOwed_16 : decode cX2_hoursOwed 16 = .ok (.getfield 109, 3) := by decide +kernel
theorem dX2_hoursOwed_19 : decode cX2_hoursOwed 19 = .ok (.ifCond .ne 15, 3) := by decide +kernel
theorem dX2_hoursOwed_22 : decode cX2_hoursOwed 22 = .ok (.aload_n 1, 1) := by decide +kernel
theorem dX2_hoursOwed_23 : decode cX2_hoursOwed 23 = .ok (.getfield 198, 3) := by decide +kernel
theorem dX2_hoursOwed_26 : decode cX2_hoursOwed 26 = .ok (.iconst 3, 1) := by decide +kernel
theorem dX2_hoursOwed_27 : decode cX2_hoursOwed 27 = .ok (.if_icmp .ge 7, 3) := by decide +kernel
theorem dX2_hoursOwed_30 : decode cX2_hoursOwed 30 = .ok (.iconst 1, 1) := by decide +kernel
theorem dX2_hoursOwed_31 : decode cX2_hoursOwed 31 = .ok (.goto 4, 3) := by decide +kernel
theorem dX2_hoursOwed_34 : decode cX2_hoursOwed 34 = .ok (.iconst 0, 1) := by decide +kernel
theorem dX2_hoursOwed_35 : decode cX2_hoursOwed 35 = .ok (.istore_n 3, 1) := by decide +kernel
theorem dX2_hoursOwed_36 : decode cX2_hoursOwed 36 = .ok (.iload_n 3, 1) := by decide +kernel
theorem dX2_hoursOwed_37 : decode cX2_hoursOwed 37 = .ok (.ifCond .eq 11, 3) := by decide +kernel
theorem dX2_hoursOwed_40 : decode cX2_hoursOwed 40 = .ok (.iload_n 2, 1) := by decide +kernel
theorem dX2_hoursOwed_41 : decode cX2_hoursOwed 41 = .ok (.ifCond .le 7, 3) := by decide +kernel
theorem dX2_hoursOwed_44 : decode cX2_hoursOwed 44 = .ok (.iload_n 2, 1) := by decide +kernel
theorem dX2_hoursOwed_45 : decode cX2_hoursOwed 45 = .ok (.goto 4, 3) := by decide +kernel
theorem dX2_hoursOwed_48 : decode cX2_hoursOwed 48 = .ok (.iconst 0, 1) := by decide +kernel
theorem dX2_hoursOwed_49 : decode cX2_hoursOwed 49 = .ok (.ireturn, 1) := by decide +kernel
theorem dX3_init_0 : decode cX3_init 0 = .ok (.aload_n 0, 1) := by decide +kernel
theorem dX3_init_1 : decode cX3_init 1 = .ok (.invokespecial 1, 3) := by decide +kernel
theorem dX3_init_4 : decode cX3_init 4 = .ok (.aload_n 0, 1) := by decide +kernel
theorem dX3_init_5 : decode cX3_init 5 = .ok (.bipush 30, 2) := by decide +kernel
theorem dX3_init_7 : decode cX3_init 7 = .ok (.newarray .int, 2) := by decide +kernel
theorem dX3_init_9 : decode cX3_init 9 = .ok (.putfield 7, 3) := by decide +kernel
theorem dX3_init_12 : decode cX3_init 12 = .ok (.aload_n 0, 1) := by decide +kernel
theorem dX3_init_13 : decode cX3_init 13 = .ok (.bipush 30, 2) := by decide +kernel
theorem dX3_init_15 : decode cX3_init 15 = .ok (.newarray .int, 2) := by decide +kernel
theorem dX3_init_17 : decode cX3_init 17 = .ok (.putfield 13, 3) := by decide +kernel
theorem dX3_init_20 : decode cX3_init 20 = .ok (.aload_n 0, 1) := by decide +kernel
theorem dX3_init_21 : decode cX3_init 21 = .ok (.bipush 30, 2) := by decide +kernel
theorem dX3_init_23 : decode cX3_init 23 = .ok (.newarray .int, 2) := by decide +kernel
theorem dX3_init_25 : decode cX3_init 25 = .ok (.putfield 16, 3) := by decide +kernel
theorem dX3_init_28 : decode cX3_init 28 = .ok (.aload_n 0, 1) := by decide +kernel
theorem dX3_init_29 : decode cX3_init 29 = .ok (.bipush 30, 2) := by decide +kernel
theorem dX3_init_31 : decode cX3_init 31 = .ok (.newarray .int, 2) := by decide +kernel
theorem dX3_init_33 : decode cX3_init 33 = .ok (.putfield 19, 3) := by decide +kernel
theorem dX3_init_36 : decode cX3_init 36 = .ok (.aload_n 0, 1) := by decide +kernel
theorem dX3_init_37 : decode cX3_init 37 = .ok (.bipush 30, 2) := by decide +kernel
theorem dX3_init_39 : decode cX3_init 39 = .ok (.newarray .boolean, 2) := by decide +kernel
theorem dX3_init_41 : decode cX3_init 41 = .ok (.putfield 22, 3) := by decide +kernel
theorem dX3_init_44 : decode cX3_init 44 = .ok (.aload_n 0, 1) := by decide +kernel
theorem dX3_init_45 : decode cX3_init 45 = .ok (.bipush 30, 2) := by decide +kernel
theorem dX3_init_47 : decode cX3_init 47 = .ok (.newarray .boolean, 2) := by decide +kernel
theorem dX3_init_49 : decode cX3_init 49 = .ok (.putfield 26, 3) := by decide +kernel
theorem dX3_init_52 : decode cX3_init 52 = .ok (.aload_n 0, 1) := by decide +kernel
theorem dX3_init_53 : decode cX3_init 53 = .ok (.bipush 30, 2) := by decide +kernel
theorem dX3_init_55 : decode cX3_init 55 = .ok (.newarray .boolean, 2) := by decide +kernel
theorem dX3_init_57 : decode cX3_init 57 = .ok (.putfield 29, 3) := by decide +kernel
theorem dX3_init_60 : decode cX3_init 60 = .ok (.aload_n 0, 1) := by decide +kernel
theorem dX3_init_61 : decode cX3_init 61 = .ok (.bipush 30, 2) := by decide +kernel
theorem dX3_init_63 : decode cX3_init 63 = .ok (.newarray .int, 2) := by decide +kernel
theorem dX3_init_65 : decode cX3_init 65 = .ok (.putfield 32, 3) := by decide +kernel
theorem dX3_init_68 : decode cX3_init 68 = .ok (.aload_n 0, 1) := by decide +kernel
theorem dX3_init_69 : decode cX3_init 69 = .ok (.bipush 30, 2) := by decide +kernel
theorem dX3_init_71 : decode cX3_init 71 = .ok (.newarray .int, 2) := by decide +kernel
theorem dX3_init_73 : decode cX3_init 73 = .ok (.putfield 35, 3) := by decide +kernel
theorem dX3_init_76 : decode cX3_init 76 = .ok (.aload_n 0, 1) := by decide +kernel
theorem dX3_init_77 : decode cX3_init 77 = .ok (.bipush 30, 2) := by decide +kernel
theorem dX3_init_79 : decode cX3_init 79 = .ok (.newarray .int, 2) := by decide +kernel
theorem dX3_init_81 : decode cX3_init 81 = .ok (.putfield 38, 3) := by decide +kernel
theorem dX3_init_84 : decode cX3_init 84 = .ok (.aload_n 0, 1) := by decide +kernel
theorem dX3_init_85 : decode cX3_init 85 = .ok (.bipush 30, 2) := by decide +kernel
theorem dX3_init_87 : decode cX3_init 87 = .ok (.newarray .int, 2) := by decide +kernel
theorem dX3_init_89 : decode cX3_init 89 = .ok (.putfield 41, 3) := by decide +kernel
theorem dX3_init_92 : decode cX3_init 92 = .ok (.aload_n 0, 1) := by decide +kernel
theorem dX3_init_93 : decode cX3_init 93 = .ok (.iconst 4, 1) := by decide +kernel
theorem dX3_init_94 : decode cX3_init 94 = .ok (.newarray .boolean, 2) := by decide +kernel
theorem dX3_init_96 : decode cX3_init 96 = .ok (.putfield 44, 3) := by decide +kernel
theorem dX3_init_99 : decode cX3_init 99 = .ok (.aload_n 0, 1) := by decide +kernel
theorem dX3_init_100 : decode cX3_init 100 = .ok (.iconst 4, 1) := by decide +kernel
theorem dX3_init_101 : decode cX3_init 101 = .ok (.newarray .int, 2) := by decide +kernel
theorem dX3_init_103 : decode cX3_init 103 = .ok (.putfield 47, 3) := by decide +kernel
theorem dX3_init_106 : decode cX3_init 106 = .ok (.aload_n 0, 1) := by decide +kernel
theorem dX3_init_107 : decode cX3_init 107 = .ok (.bipush 16, 2) := by decide +kernel
theorem dX3_init_109 : decode cX3_init 109 = .ok (.newarray .int, 2) := by decide +kernel
theorem dX3_init_111 : decode cX3_init 111 = .ok (.putfield 50, 3) := by decide +kernel
theorem dX3_init_114 : decode cX3_init 114 = .ok (.aload_n 0, 1) := by decide +kernel
theorem dX3_init_115 : decode cX3_init 115 = .ok (.bipush 16, 2) := by decide +kernel
theorem dX3_init_117 : decode cX3_init 117 = .ok (.newarray .int, 2) := by decide +kernel
theorem dX3_init_119 : decode cX3_init 119 = .ok (.putfield 53, 3) := by decide +kernel
theorem dX3_init_122 : decode cX3_init 122 = .ok (.aload_n 0, 1) := by decide +kernel
theorem dX3_init_123 : decode cX3_init 123 = .ok (.bipush 8, 2) := by decide +kernel
theorem dX3_init_125 : decode cX3_init 125 = .ok (.putfield 56, 3) := by decide +kernel
theorem dX3_init_128 : decode cX3_init 128 = .ok (.aload_n 0, 1) := by decide +kernel
theorem dX3_init_129 : decode cX3_init 129 = .ok (.bipush 30, 2) := by decide +kernel
theorem dX3_init_131 : decode cX3_init 131 = .ok (.newarray .int, 2) := by decide +kernel
theorem dX3_init_133 : decode cX3_init 133 = .ok (.putfield 60, 3) := by decide +kernel
theorem dX3_init_136 : decode cX3_init 136 = .ok (.aload_n 0, 1) := by decide +kernel
theorem dX3_init_137 : decode cX3_init 137 = .ok (.bipush 30, 2) := by decide +kernel
theorem dX3_init_139 : decode cX3_init 139 = .ok (.newarray .int, 2) := by decide +kernel
theorem dX3_init_141 : decode cX3_init 141 = .ok (.putfield 63, 3) := by decide +kernel
theorem dX3_init_144 : decode cX3_init 144 = .ok (.aload_n 0, 1) := by decide +kernel
theorem dX3_init_145 : decode cX3_init 145 = .ok (.iconst 5, 1) := by decide +kernel
theorem dX3_init_146 : decode cX3_init 146 = .ok (.newarray .int, 2) := by decide +kernel
theorem dX3_init_148 : decode cX3_init 148 = .ok (.putfield 66, 3) := by decide +kernel
theorem dX3_init_151 : decode cX3_init 151 = .ok (.iconst 0, 1) := by decide +kernel
theorem dX3_init_152 : decode cX3_init 152 = .ok (.istore_n 1, 1) := by decide +kernel
theorem dX3_init_153 : decode cX3_init 153 = .ok (.iload_n 1, 1) := by decide +kernel
theorem dX3_init_154 : decode cX3_init 154 = .ok (.bipush 30, 2) := by decide +kernel
theorem dX3_init_156 : decode cX3_init 156 = .ok (.if_icmp .ge 16, 3) := by decide +kernel
theorem dX3_init_159 : decode cX3_init 159 = .ok (.aload_n 0, 1) := by decide +kernel
theorem dX3_init_160 : decode cX3_init 160 = .ok (.getfield 7, 3) := by decide +kernel
theorem dX3_init_163 : decode cX3_init 163 = .ok (.iload_n 1, 1) := by decide +kernel
theorem dX3_init_164 : decode cX3_init 164 = .ok (.iconst (-1), 1) := by decide +kernel
theorem dX3_init_165 : decode cX3_init 165 = .ok (.iastore, 1) := by decide +kernel
theorem dX3_init_166 : decode cX3_init 166 = .ok (.iinc 1 1, 3) := by decide +kernel
theorem dX3_init_169 : decode cX3_init 169 = .ok (.goto (-16), 3) := by decide +kernel
theorem dX3_init_172 : decode cX3_init 172 = .ok (.return_, 1) := by decide +kernel
theorem dX3_thrown_0 : decode cX3_thrown 0 = .ok (.aload_n 0, 1) := by decide +kernel
theorem dX3_thrown_1 : decode cX3_thrown 1 = .ok (.getfield 69, 3) := by decide +kernel
theorem dX3_thrown_4 : decode cX3_thrown 4 = .ok (.ireturn, 1) := by decide +kernel
theorem dX3_in_0 : decode cX3_in 0 = .ok (.iload_n 0, 1) := by decide +kernel
theorem dX3_in_1 : decode cX3_in 1 = .ok (.iload_n 1, 1) := by decide +kernel
theorem dX3_in_2 : decode cX3_in 2 = .ok (.if_icmp .lt 12, 3) := by decide +kernel
theorem dX3_in_5 : decode cX3_in 5 = .ok (.iload_n 0, 1) := by decide +kernel
theorem dX3_in_6 : decode cX3_in 6 = .ok (.iload_n 2, 1) := by decide +kernel
theorem dX3_in_7 : decode cX3_in 7 = .ok (.if_icmp .gt 7, 3) := by decide +kernel
theorem dX3_in_10 : decode cX3_in 10 = .ok (.iconst 1, 1) := by decide +kernel
theorem dX3_in_11 : decode cX3_in 11 = .ok (.goto 4, 3) := by decide +kernel
theorem dX3_in_14 : decode cX3_in 14 = .ok (.iconst 0, 1) := by decide +kernel
theorem dX3_in_15 : decode cX3_in 15 = .ok (.ireturn, 1) := by decide +kernel
theorem dX3_goes_0 : decode cX3_goes 0 = .ok (.aload_n 0, 1) := by decide +kernel
theorem dX3_goes_1 : decode cX3_goes 1 = .ok (.iload_n 1, 1) := by decide +kernel
theorem dX3_goes_2 : decode cX3_goes 2 = .ok (.ifCond .ne 7, 3) := by decide +kernel
theorem dX3_goes_5 : decode cX3_goes 5 = .ok (.iconst 1, 1) := by decide +kernel
theorem dX3_goes_6 : decode cX3_goes 6 = .ok (.goto 20, 3) := by decide +kernel
theorem dX3_goes_9 : decode cX3_goes 9 = .ok (.iload_n 2, 1) := by decide +kernel
theorem dX3_goes_10 : decode cX3_goes 10 = .ok (.ifCond .ne 7, 3) := by decide +kernel
theorem dX3_goes_13 : decode cX3_goes 13 = .ok (.iconst 2, 1) := by decide +kernel
theorem dX3_goes_14 : decode cX3_goes 14 = .ok (.goto 12, 3) := by decide +kernel
theorem dX3_goes_17 : decode cX3_goes 17 = .ok (.iload_n 3, 1) := by decide +kernel
theorem dX3_goes_18 : decode cX3_goes 18 = .ok (.ifCond .eq 7, 3) := by decide +kernel
theorem dX3_goes_21 : decode cX3_goes 21 = .ok (.iconst 0, 1) := by decide +kernel
theorem dX3_goes_22 : decode cX3_goes 22 = .ok (.goto 4, 3) := by decide +kernel
theorem dX3_goes_25 : decode cX3_goes 25 = .ok (.iconst 3, 1) := by decide +kernel
theorem dX3_goes_26 : decode cX3_goes 26 = .ok (.putfield 69, 3) := by decide +kernel
theorem dX3_goes_29 : decode cX3_goes 29 = .ok (.aload_n 0, 1) := by decide +kernel
theorem dX3_goes_30 : decode cX3_goes 30 = .ok (.getfield 69, 3) := by decide +kernel
theorem dX3_goes_33 : decode cX3_goes 33 = .ok (.ifCond .ne 7, 3) := by decide +kernel
theorem dX3_goes_36 : decode cX3_goes 36 = .ok (.iconst 1, 1) := by decide +kernel
theorem dX3_goes_37 : decode cX3_goes 37 = .ok (.goto 4, 3) := by decide +kernel
theorem dX3_goes_40 : decode cX3_goes 40 = .ok (.iconst 0, 1) := by decide +kernel
theorem dX3_goes_41 : decode cX3_goes 41 = .ok (.ireturn, 1) := by decide +kernel
theorem dX3_isBoard_0 : decode cX3_isBoard 0 = .ok (.iload_n 0, 1) := by decide +kernel
theorem dX3_isBoard_1 : decode cX3_isBoard 1 = .ok (.iconst 0, 1) := by decide +kernel
theorem dX3_isBoard_2 : decode cX3_isBoard 2 = .ok (.iconst 3, 1) := by decide +kernel
theorem dX3_isBoard_3 : decode cX3_isBoard 3 = .ok (.invokestatic 72, 3) := by decide +kernel
theorem dX3_isBoard_6 : decode cX3_isBoard 6 = .ok (.ireturn, 1) := by decide +kernel
theorem dX3_kept_0 : decode cX3_kept 0 = .ok (.iconst 0, 1) := by decide +kernel
theorem dX3_kept_1 : decode cX3_kept 1 = .ok (.istore_n 2, 1) := by decide +kernel
theorem dX3_kept_2 : decode cX3_kept 2 = .ok (.iload_n 2, 1) := by decide +kernel
theorem dX3_kept_3 : decode cX3_kept 3 = .ok (.bipush 30, 2) := by decide +kernel
theorem dX3_kept_5 : decode cX3_kept 5 = .ok (.if_icmp .ge 25, 3) := by decide +kernel
theorem dX3_kept_8 : decode cX3_kept 8 = .ok (.iload_n 1, 1) := by decide +kernel
theorem dX3_kept_9 : decode cX3_kept 9 = .ok (.ifCond .lt 15, 3) := by decide +kernel
theorem dX3_kept_12 : decode cX3_kept 12 = .ok (.aload_n 0, 1) := by decide +kernel
theorem dX3_kept_13 : decode cX3_kept 13 = .ok (.getfield 7, 3) := by decide +kernel
theorem dX3_kept_16 : decode cX3_kept 16 = .ok (.iload_n 2, 1) := by decide +kernel
theorem dX3_kept_17 : decode cX3_kept 17 = .ok (.iaload, 1) := by decide +kernel
theorem dX3_kept_18 : decode cX3_kept 18 = .ok (.iload_n 1, 1) := by decide +kernel
theorem dX3_kept_19 : decode cX3_kept 19 = .ok (.if_icmp .ne 5, 3) := by decide +kernel
theorem dX3_kept_22 : decode cX3_kept 22 = .ok (.iload_n 2, 1) := by decide +kernel
theorem dX3_kept_23 : decode cX3_kept 23 = .ok (.ireturn, 1) := by decide +kernel
theorem dX3_kept_24 : decode cX3_kept 24 = .ok (.iinc 2 1, 3) := by decide +kernel
theorem dX3_kept_27 : decode cX3_kept 27 = .ok (.goto (-25), 3) := by decide +kernel
theorem dX3_kept_30 : decode cX3_kept 30 = .ok (.iconst (-1), 1) := by decide +kernel
theorem dX3_kept_31 : decode cX3_kept 31 = .ok (.ireturn, 1) := by decide +kernel
theorem dX3_count_0 : decode cX3_count 0 = .ok (.iconst 0, 1) := by decide +kernel
theorem dX3_count_1 : decode cX3_count 1 = .ok (.istore_n 1, 1) := by decide +kernel
theorem dX3_count_2 : decode cX3_count 2 = .ok (.iconst 0, 1) := by decide +kernel
theorem dX3_count_3 : decode cX3_count 3 = .ok (.istore_n 2, 1) := by decide +kernel
theorem dX3_count_4 : decode cX3_count 4 = .ok (.iload_n 2, 1) := by decide +kernel
theorem dX3_count_5 : decode cX3_count 5 = .ok (.bipush 30, 2) := by decide +kernel
theorem dX3_count_7 : decode cX3_count 7 = .ok (.if_icmp .ge 27, 3) := by decide +kernel
theorem dX3_count_10 : decode cX3_count 10 = .ok (.iload_n 1, 1) := by decide +kernel
theorem dX3_count_11 : decode cX3_count 11 = .ok (.aload_n 0, 1) := by decide +kernel
theorem dX3_count_12 : decode cX3_count 12 = .ok (.getfield 7, 3) := by decide +kernel
theorem dX3_count_15 : decode cX3_count 15 = .ok (.iload_n 2, 1) := by decide +kernel
theorem dX3_count_16 : decode cX3_count 16 = .ok (.iaload, 1) := by decide +kernel
theorem dX3_count_17 : decode cX3_count 17 = .ok (.iconst (-1), 1) := by decide +kernel
theorem dX3_count_18 : decode cX3_count 18 = .ok (.if_icmp .ne 7, 3) := by decide +kernel
theorem dX3_count_21 : decode cX3_count 21 = .ok (.iconst 0, 1) := by decide +kernel
theorem dX3_count_22 : decode cX3_count 22 = .ok (.goto 4, 3) := by decide +kernel
theorem dX3_count_25 : decode cX3_count 25 = .ok (.iconst 1, 1) := by decide +kernel
theorem dX3_count_26 : decode cX3_count 26 = .ok (.iadd, 1) := by decide +kernel
theorem dX3_count_27 : decode cX3_count 27 = .ok (.istore_n 1, 1) := by decide +kernel
theorem dX3_count_28 : decode cX3_count 28 = .ok (.iinc 2 1, 3) := by decide +kernel
theorem dX3_count_31 : decode cX3_count 31 = .ok (.goto (-27), 3) := by decide +kernel
theorem dX3_count_34 : decode cX3_count 34 = .ok (.iload_n 1, 1) := by decide +kernel
theorem dX3_count_35 : decode cX3_count 35 = .ok (.ireturn, 1) := by decide +kernel
theorem dX3_lowers_0 : decode cX3_lowers 0 = .ok (.aload_n 0, 1) := by decide +kernel
theorem dX3_lowers_1 : decode cX3_lowers 1 = .ok (.dup, 1) := by decide +kernel
theorem dX3_lowers_2 : decode cX3_lowers 2 = .ok (.getfield 76, 3) := by decide +kernel
theorem dX3_lowers_5 : decode cX3_lowers 5 = .ok (.iconst 1, 1) := by decide +kernel
theorem dX3_lowers_6 : decode cX3_lowers 6 = .ok (.iadd, 1) := by decide +kernel
theorem dX3_lowers_7 : decode cX3_lowers 7 = .ok (.putfield 76, 3) := by decide +kernel
theorem dX3_lowers_10 : decode cX3_lowers 10 = .ok (.aload_n 0, 1) := by decide +kernel
theorem dX3_lowers_11 : decode cX3_lowers 11 = .ok (.getfield 16, 3) := by decide +kernel
theorem dX3_lowers_14 : decode cX3_lowers 14 = .ok (.iload_n 1, 1) := by decide +kernel
theorem dX3_lowers_15 : decode cX3_lowers 15 = .ok (.aload_n 0, 1) := by decide +kernel
theorem dX3_lowers_16 : decode cX3_lowers 16 = .ok (.getfield 76, 3) := by decide +kernel
theorem dX3_lowers_19 : decode cX3_lowers 19 = .ok (.iastore, 1) := by decide +kernel
theorem dX3_lowers_20 : decode cX3_lowers 20 = .ok (.return_, 1) := by decide +kernel
theorem dX3_isBefore_0 : decode cX3_isBefore 0 = .ok (.aload_n 0, 1) := by decide +kernel
theorem dX3_isBefore_1 : decode cX3_isBefore 1 = .ok (.getfield 13, 3) := by decide +kernel
theorem dX3_isBefore_4 : decode cX3_isBefore 4 = .ok (.iload_n 1, 1) := by decide +kernel
theorem dX3_isBefore_5 : decode cX3_isBefore 5 = .ok (.iaload, 1) := by decide +kernel
theorem dX3_isBefore_6 : decode cX3_isBefore 6 = .ok (.aload_n 0, 1) := by decide +kernel
theorem dX3_isBefore_7 : decode cX3_isBefore 7 = .ok (.getfield 13, 3) := by decide +kernel
theorem dX3_isBefore_10 : decode cX3_isBefore 10 = .ok (.iload_n 2, 1) := by decide +kernel
theorem dX3_isBefore_11 : decode cX3_isBefore 11 = .ok (.iaload, 1) := by decide +kernel
theorem dX3_isBefore_12 : decode cX3_isBefore 12 = .ok (.if_icmp .lt 33, 3) := by decide +kernel
theorem dX3_isBefore_15 : decode cX3_isBefore 15 = .ok (.aload_n 0, 1) := by decide +kernel
theorem dX3_isBefore_16 : decode cX3_isBefore 16 = .ok (.getfield 13, 3) := by decide +kernel
theorem dX3_isBefore_19 : decode cX3_isBefore 19 = .ok (.iload_n 1, 1) := by decide +kernel
theorem dX3_isBefore_20 : decode cX3_isBefore 20 = .ok (.iaload, 1) := by decide +kernel
theorem dX3_isBefore_21 : decode cX3_isBefore 21 = .ok (.aload_n 0, 1) := by decide +kernel
theorem dX3_isBefore_22 : decode cX3_isBefore 22 = .ok (.getfield 13, 3) := by decide +kernel
theorem dX3_isBefore_25 : decode cX3_isBefore 25 = .ok (.iload_n 2, 1) := by decide +kernel
theorem dX3_isBefore_26 : decode cX3_isBefore 26 = .ok (.iaload, 1) := by decide +kernel
theorem dX3_isBefore_27 : decode cX3_isBefore 27 = .ok (.if_icmp .ne 22, 3) := by decide +kernel
theorem dX3_isBefore_30 : decode cX3_isBefore 30 = .ok (.aload_n 0, 1) := by decide +kernel
theorem dX3_isBefore_31 : decode cX3_isBefore 31 = .ok (.getfield 16, 3) := by decide +kernel
theorem dX3_isBefore_34 : decode cX3_isBefore 34 = .ok (.iload_n 1, 1) := by decide +kernel
theorem dX3_isBefore_35 : decode cX3_isBefore 35 = .ok (.iaload, 1) := by decide +kernel
theorem dX3_isBefore_36 : decode cX3_isBefore 36 = .ok (.aload_n 0, 1) := by decide +kernel
theorem dX3_isBefore_37 : decode cX3_isBefore 37 = .ok (.getfield 16, 3) := by decide +kernel
theorem dX3_isBefore_40 : decode cX3_isBefore 40 = .ok (.iload_n 2, 1) := by decide +kernel
theorem dX3_isBefore_41 : decode cX3_isBefore 41 = .ok (.iaload, 1) := by decide +kernel
theorem dX3_isBefore_42 : decode cX3_isBefore 42 = .ok (.if_icmp .ge 7, 3) := by decide +kernel
theorem dX3_isBefore_45 : decode cX3_isBefore 45 = .ok (.iconst 1, 1) := by decide +kernel
theorem dX3_isBefore_46 : decode cX3_isBefore 46 = .ok (.goto 4, 3) := by decide +kernel
theorem dX3_isBefore_49 : decode cX3_isBefore 49 = .ok (.iconst 0, 1) := by decide +kernel
theorem dX3_isBefore_50 : decode cX3_isBefore 50 = .ok (.ireturn, 1) := by decide +kernel
theorem dX3_isReady_0 : decode cX3_isReady 0 = .ok (.aload_n 0, 1) := by decide +kernel
theorem dX3_isReady_1 : decode cX3_isReady 1 = .ok (.getfield 7, 3) := by decide +kernel
theorem dX3_isReady_4 : decode cX3_isReady 4 = .ok (.iload_n 1, 1) := by decide +kernel
theorem dX3_isReady_5 : decode cX3_isReady 5 = .ok (.iaload, 1) := by decide +kernel
theorem dX3_isReady_6 : decode cX3_isReady 6 = .ok (.iconst (-1), 1) := by decide +kernel
theorem dX3_isReady_7 : decode cX3_isReady 7 = .ok (.if_icmp .eq 35, 3) := by decide +kernel
theorem dX3_isReady_10 : decode cX3_isReady 10 = .ok (.aload_n 0, 1) := by decide +kernel
theorem dX3_isReady_11 : decode cX3_isReady 11 = .ok (.getfield 22, 3) := by decide +kernel
theorem dX3_isReady_14 : decode cX3_isReady 14 = .ok (.iload_n 1, 1) := by decide +kernel
theorem dX3_isReady_15 : decode cX3_isReady 15 = .ok (.baload, 1) := by decide +kernel
theorem dX3_isReady_16 : decode cX3_isReady 16 = .ok (.ifCond .ne 26, 3) := by decide +kernel
theorem dX3_isReady_19 : decode cX3_isReady 19 = .ok (.aload_n 0, 1) := by decide +kernel
theorem dX3_isReady_20 : decode cX3_isReady 20 = .ok (.getfield 32, 3) := by decide +kernel
theorem dX3_isReady_23 : decode cX3_isReady 23 = .ok (.iload_n 1, 1) := by decide +kernel
theorem dX3_isReady_24 : decode cX3_isReady 24 = .ok (.iaload, 1) := by decide +kernel
theorem dX3_isReady_25 : decode cX3_isReady 25 = .ok (.iconst (-1), 1) := by decide +kernel
theorem dX3_isReady_26 : decode cX3_isReady 26 = .ok (.if_icmp .ne 16, 3) := by decide +kernel
theorem dX3_isReady_29 : decode cX3_isReady 29 = .ok (.aload_n 0, 1) := by decide +kernel
theorem dX3_isReady_30 : decode cX3_isReady 30 = .ok (.getfield 29, 3) := by decide +kernel
theorem dX3_isReady_33 : decode cX3_isReady 33 = .ok (.iload_n 1, 1) := by decide +kernel
theorem dX3_isReady_34 : decode cX3_isReady 34 = .ok (.baload, 1) := by decide +kernel
theorem dX3_isReady_35 : decode cX3_isReady 35 = .ok (.ifCond .ne 7, 3) := by decide +kernel
theorem dX3_isReady_38 : decode cX3_isReady 38 = .ok (.iconst 1, 1) := by decide +kernel
theorem dX3_isReady_39 : decode cX3_isReady 39 = .ok (.goto 4, 3) := by decide +kernel
theorem dX3_isReady_42 : decode cX3_isReady 42 = .ok (.iconst 0, 1) := by decide +kernel
theorem dX3_isReady_43 : decode cX3_isReady 43 = .ok (.ireturn, 1) := by decide +kernel
theorem dX3_lineUp_0 : decode cX3_lineUp 0 = .ok (.iconst 0, 1) := by decide +kernel
theorem dX3_lineUp_1 : decode cX3_lineUp 1 = .ok (.istore_n 1, 1) := by decide +kernel
theorem dX3_lineUp_2 : decode cX3_lineUp 2 = .ok (.iconst 0, 1) := by decide +kernel
theorem dX3_lineUp_3 : decode cX3_lineUp 3 = .ok (.istore_n 2, 1) := by decide +kernel
theorem dX3_lineUp_4 : decode cX3_lineUp 4 = .ok (.iload_n 2, 1) := by decide +kernel
theorem dX3_lineUp_5 : decode cX3_lineUp 5 = .ok (.bipush 30, 2) := by decide +kernel
theorem dX3_lineUp_7 : decode cX3_lineUp 7 = .ok (.if_icmp .ge 71, 3) := by decide +kernel
theorem dX3_lineUp_10 : decode cX3_lineUp 10 = .ok (.aload_n 0, 1) := by decide +kernel
theorem dX3_lineUp_11 : decode cX3_lineUp 11 = .ok (.getfield 7, 3) := by decide +kernel
theorem dX3_lineUp_14 : decode cX3_lineUp 14 = .ok (.iload_n 2, 1) := by decide +kernel
theorem dX3_lineUp_15 : decode cX3_lineUp 15 = .ok (.iaload, 1) := by decide +kernel
theorem dX3_lineUp_16 : decode cX3_lineUp 16 = .ok (.iconst (-1), 1) := by decide +kernel
theorem dX3_lineUp_17 : decode cX3_lineUp 17 = .ok (.if_icmp .eq 55, 3) := by decide +kernel
theorem dX3_lineUp_20 : decode cX3_lineUp 20 = .ok (.iload_n 1, 1) := by decide +kernel
theorem dX3_lineUp_21 : decode cX3_lineUp 21 = .ok (.istore_n 3, 1) := by decide +kernel
theorem dX3_lineUp_22 : decode cX3_lineUp 22 = .ok (.iload_n 3, 1) := by decide +kernel
theorem dX3_lineUp_23 : decode cX3_lineUp 23 = .ok (.ifCond .le 39, 3) := by decide +kernel
theorem dX3_lineUp_26 : decode cX3_lineUp 26 = .ok (.aload_n 0, 1) := by decide +kernel
theorem dX3_lineUp_27 : decode cX3_lineUp 27 = .ok (.iload_n 2, 1) := by decide +kernel
