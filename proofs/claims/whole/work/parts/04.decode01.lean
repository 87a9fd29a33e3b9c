theorem dX0_init_0 : decode cX0_init 0 = .ok (.aload_n 0, 1) := by decide +kernel
theorem dX0_init_1 : decode cX0_init 1 = .ok (.invokespecial 3, 3) := by decide +kernel
theorem dX0_init_4 : decode cX0_init 4 = .ok (.aload_n 0, 1) := by decide +kernel
theorem dX0_init_5 : decode cX0_init 5 = .ok (.bipush 32, 2) := by decide +kernel
theorem dX0_init_7 : decode cX0_init 7 = .ok (.newarray .int, 2) := by decide +kernel
theorem dX0_init_9 : decode cX0_init 9 = .ok (.putfield 9, 3) := by decide +kernel
theorem dX0_init_12 : decode cX0_init 12 = .ok (.aload_n 0, 1) := by decide +kernel
theorem dX0_init_13 : decode cX0_init 13 = .ok (.bipush 32, 2) := by decide +kernel
theorem dX0_init_15 : decode cX0_init 15 = .ok (.newarray .int, 2) := by decide +kernel
theorem dX0_init_17 : decode cX0_init 17 = .ok (.putfield 15, 3) := by decide +kernel
theorem dX0_init_20 : decode cX0_init 20 = .ok (.return_, 1) := by decide +kernel
theorem dX0_clear_0 : decode cX0_clear 0 = .ok (.iconst 0, 1) := by decide +kernel
theorem dX0_clear_1 : decode cX0_clear 1 = .ok (.istore_n 1, 1) := by decide +kernel
theorem dX0_clear_2 : decode cX0_clear 2 = .ok (.iload_n 1, 1) := by decide +kernel
theorem dX0_clear_3 : decode cX0_clear 3 = .ok (.bipush 32, 2) := by decide +kernel
theorem dX0_clear_5 : decode cX0_clear 5 = .ok (.if_icmp .ge 23, 3) := by decide +kernel
theorem dX0_clear_8 : decode cX0_clear 8 = .ok (.aload_n 0, 1) := by decide +kernel
theorem dX0_clear_9 : decode cX0_clear 9 = .ok (.getfield 9, 3) := by decide +kernel
theorem dX0_clear_12 : decode cX0_clear 12 = .ok (.iload_n 1, 1) := by decide +kernel
theorem dX0_clear_13 : decode cX0_clear 13 = .ok (.iconst 0, 1) := by decide +kernel
theorem dX0_clear_14 : decode cX0_clear 14 = .ok (.iastore, 1) := by decide +kernel
theorem dX0_clear_15 : decode cX0_clear 15 = .ok (.aload_n 0, 1) := by decide +kernel
theorem dX0_clear_16 : decode cX0_clear 16 = .ok (.getfield 15, 3) := by decide +kernel
theorem dX0_clear_19 : decode cX0_clear 19 = .ok (.iload_n 1, 1) := by decide +kernel
theorem dX0_clear_20 : decode cX0_clear 20 = .ok (.iconst 0, 1) := by decide +kernel
theorem dX0_clear_21 : decode cX0_clear 21 = .ok (.iastore, 1) := by decide +kernel
theorem dX0_clear_22 : decode cX0_clear 22 = .ok (.iinc 1 1, 3) := by decide +kernel
theorem dX0_clear_25 : decode cX0_clear 25 = .ok (.goto (-23), 3) := by decide +kernel
theorem dX0_clear_28 : decode cX0_clear 28 = .ok (.return_, 1) := by decide +kernel
theorem dX0_addWorker_0 : decode cX0_addWorker 0 = .ok (.iconst 0, 1) := by decide +kernel
theorem dX0_addWorker_1 : decode cX0_addWorker 1 = .ok (.istore_n 2, 1) := by decide +kernel
theorem dX0_addWorker_2 : decode cX0_addWorker 2 = .ok (.iload_n 2, 1) := by decide +kernel
theorem dX0_addWorker_3 : decode cX0_addWorker 3 = .ok (.bipush 32, 2) := by decide +kernel
theorem dX0_addWorker_5 : decode cX0_addWorker 5 = .ok (.if_icmp .ge 23, 3) := by decide +kernel
theorem dX0_addWorker_8 : decode cX0_addWorker 8 = .ok (.aload_n 0, 1) := by decide +kernel
theorem dX0_addWorker_9 : decode cX0_addWorker 9 = .ok (.getfield 9, 3) := by decide +kernel
theorem dX0_addWorker_12 : decode cX0_addWorker 12 = .ok (.iload_n 2, 1) := by decide +kernel
theorem dX0_addWorker_13 : decode cX0_addWorker 13 = .ok (.dup2, 1) := by decide +kernel
theorem dX0_addWorker_14 : decode cX0_addWorker 14 = .ok (.iaload, 1) := by decide +kernel
theorem dX0_addWorker_15 : decode cX0_addWorker 15 = .ok (.iload_n 1, 1) := by decide +kernel
theorem dX0_addWorker_16 : decode cX0_addWorker 16 = .ok (.iload_n 2, 1) := by decide +kernel
theorem dX0_addWorker_17 : decode cX0_addWorker 17 = .ok (.invokestatic 18, 3) := by decide +kernel
theorem dX0_addWorker_20 : decode cX0_addWorker 20 = .ok (.iadd, 1) := by decide +kernel
theorem dX0_addWorker_21 : decode cX0_addWorker 21 = .ok (.iastore, 1) := by decide +kernel
theorem dX0_addWorker_22 : decode cX0_addWorker 22 = .ok (.iinc 2 1, 3) := by decide +kernel
theorem dX0_addWorker_25 : decode cX0_addWorker 25 = .ok (.goto (-23), 3) := by decide +kernel
theorem dX0_addWorker_28 : decode cX0_addWorker 28 = .ok (.return_, 1) := by decide +kernel
theorem dX0_removeWorker_0 : decode cX0_removeWorker 0 = .ok (.iconst 0, 1) := by decide +kernel
theorem dX0_removeWorker_1 : decode cX0_removeWorker 1 = .ok (.istore_n 2, 1) := by decide +kernel
theorem dX0_removeWorker_2 : decode cX0_removeWorker 2 = .ok (.iload_n 2, 1) := by decide +kernel
theorem dX0_removeWorker_3 : decode cX0_removeWorker 3 = .ok (.bipush 32, 2) := by decide +kernel
theorem dX0_removeWorker_5 : decode cX0_removeWorker 5 = .ok (.if_icmp .ge 23, 3) := by decide +kernel
theorem dX0_removeWorker_8 : decode cX0_removeWorker 8 = .ok (.aload_n 0, 1) := by decide +kernel
theorem dX0_removeWorker_9 : decode cX0_removeWorker 9 = .ok (.getfield 9, 3) := by decide +kernel
theorem dX0_removeWorker_12 : decode cX0_removeWorker 12 = .ok (.iload_n 2, 1) := by decide +kernel
theorem dX0_removeWorker_13 : decode cX0_removeWorker 13 = .ok (.dup2, 1) := by decide +kernel
theorem dX0_removeWorker_14 : decode cX0_removeWorker 14 = .ok (.iaload, 1) := by decide +kernel
theorem dX0_removeWorker_15 : decode cX0_removeWorker 15 = .ok (.iload_n 1, 1) := by decide +kernel
theorem dX0_removeWorker_16 : decode cX0_removeWorker 16 = .ok (.iload_n 2, 1) := by decide +kernel
theorem dX0_removeWorker_17 : decode cX0_removeWorker 17 = .ok (.invokestatic 18, 3) := by decide +kernel
theorem dX0_removeWorker_20 : decode cX0_removeWorker 20 = .ok (.isub, 1) := by decide +kernel
theorem dX0_removeWorker_21 : decode cX0_removeWorker 21 = .ok (.iastore, 1) := by decide +kernel
theorem dX0_removeWorker_22 : decode cX0_removeWorker 22 = .ok (.iinc 2 1, 3) := by decide +kernel
theorem dX0_removeWorker_25 : decode cX0_removeWorker 25 = .ok (.goto (-23), 3) := by decide +kernel
theorem dX0_removeWorker_28 : decode cX0_removeWorker 28 = .ok (.return_, 1) := by decide +kernel
theorem dX0_addPlace_0 : decode cX0_addPlace 0 = .ok (.iconst 0, 1) := by decide +kernel
theorem dX0_addPlace_1 : decode cX0_addPlace 1 = .ok (.istore_n 2, 1) := by decide +kernel
theorem dX0_addPlace_2 : decode cX0_addPlace 2 = .ok (.iload_n 2, 1) := by decide +kernel
theorem dX0_addPlace_3 : decode cX0_addPlace 3 = .ok (.bipush 32, 2) := by decide +kernel
theorem dX0_addPlace_5 : decode cX0_addPlace 5 = .ok (.if_icmp .ge 25, 3) := by decide +kernel
theorem dX0_addPlace_8 : decode cX0_addPlace 8 = .ok (.aload_n 0, 1) := by decide +kernel
theorem dX0_addPlace_9 : decode cX0_addPlace 9 = .ok (.getfield 15, 3) := by decide +kernel
theorem dX0_addPlace_12 : decode cX0_addPlace 12 = .ok (.iload_n 2, 1) := by decide +kernel
theorem dX0_addPlace_13 : decode cX0_addPlace 13 = .ok (.dup2, 1) := by decide +kernel
theorem dX0_addPlace_14 : decode cX0_addPlace 14 = .ok (.iaload, 1) := by decide +kernel
theorem dX0_addPlace_15 : decode cX0_addPlace 15 = .ok (.iconst 1, 1) := by decide +kernel
theorem dX0_addPlace_16 : decode cX0_addPlace 16 = .ok (.iload_n 1, 1) := by decide +kernel
theorem dX0_addPlace_17 : decode cX0_addPlace 17 = .ok (.ishl, 1) := by decide +kernel
theorem dX0_addPlace_18 : decode cX0_addPlace 18 = .ok (.iload_n 2, 1) := by decide +kernel
theorem dX0_addPlace_19 : decode cX0_addPlace 19 = .ok (.invokestatic 18, 3) := by decide +kernel
theorem dX0_addPlace_22 : decode cX0_addPlace 22 = .ok (.iadd, 1) := by decide +kernel
theorem dX0_addPlace_23 : decode cX0_addPlace 23 = .ok (.iastore, 1) := by decide +kernel
theorem dX0_addPlace_24 : decode cX0_addPlace 24 = .ok (.iinc 2 1, 3) := by decide +kernel
theorem dX0_addPlace_27 : decode cX0_addPlace 27 = .ok (.goto (-25), 3) := by decide +kernel
theorem dX0_addPlace_30 : decode cX0_addPlace 30 = .ok (.return_, 1) := by decide +kernel
theorem dX0_removePlace_0 : decode cX0_removePlace 0 = .ok (.iconst 0, 1) := by decide +kernel
theorem dX0_removePlace_1 : decode cX0_removePlace 1 = .ok (.istore_n 2, 1) := by decide +kernel
theorem dX0_removePlace_2 : decode cX0_removePlace 2 = .ok (.iload_n 2, 1) := by decide +kernel
theorem dX0_removePlace_3 : decode cX0_removePlace 3 = .ok (.bipush 32, 2) := by decide +kernel
theorem dX0_removePlace_5 : decode cX0_removePlace 5 = .ok (.if_icmp .ge 25, 3) := by decide +kernel
theorem dX0_removePlace_8 : decode cX0_removePlace 8 = .ok (.aload_n 0, 1) := by decide +kernel
theorem dX0_removePlace_9 : decode cX0_removePlace 9 = .ok (.getfield 15, 3) := by decide +kernel
theorem dX0_removePlace_12 : decode cX0_removePlace 12 = .ok (.iload_n 2, 1) := by decide +kernel
theorem dX0_removePlace_13 : decode cX0_removePlace 13 = .ok (.dup2, 1) := by decide +kernel
theorem dX0_removePlace_14 : decode cX0_removePlace 14 = .ok (.iaload, 1) := by decide +kernel
theorem dX0_removePlace_15 : decode cX0_removePlace 15 = .ok (.iconst 1, 1) := by decide +kernel
theorem dX0_removePlace_16 : decode cX0_removePlace 16 = .ok (.iload_n 1, 1) := by decide +kernel
theorem dX0_removePlace_17 : decode cX0_removePlace 17 = .ok (.ishl, 1) := by decide +kernel
theorem dX0_removePlace_18 : decode cX0_removePlace 18 = .ok (.iload_n 2, 1) := by decide +kernel
theorem dX0_removePlace_19 : decode cX0_removePlace 19 = .ok (.invokestatic 18, 3) := by decide +kernel
theorem dX0_removePlace_22 : decode cX0_removePlace 22 = .ok (.isub, 1) := by decide +kernel
theorem dX0_removePlace_23 : decode cX0_removePlace 23 = .ok (.iastore, 1) := by decide +kernel
theorem dX0_removePlace_24 : decode cX0_removePlace 24 = .ok (.iinc 2 1, 3) := by decide +kernel
theorem dX0_removePlace_27 : decode cX0_removePlace 27 = .ok (.goto (-25), 3) := by decide +kernel
theorem dX0_removePlace_30 : decode cX0_removePlace 30 = .ok (.return_, 1) := by decide +kernel
theorem dX0_canPlaceAlso_0 : decode cX0_canPlaceAlso 0 = .ok (.iconst 0, 1) := by decide +kernel
theorem dX0_canPlaceAlso_1 : decode cX0_canPlaceAlso 1 = .ok (.istore_n 2, 1) := by decide +kernel
theorem dX0_canPlaceAlso_2 : decode cX0_canPlaceAlso 2 = .ok (.iload_n 2, 1) := by decide +kernel
theorem dX0_canPlaceAlso_3 : decode cX0_canPlaceAlso 3 = .ok (.bipush 32, 2) := by decide +kernel
theorem dX0_canPlaceAlso_5 : decode cX0_canPlaceAlso 5 = .ok (.if_icmp .ge 32, 3) := by decide +kernel
theorem dX0_canPlaceAlso_8 : decode cX0_canPlaceAlso 8 = .ok (.aload_n 0, 1) := by decide +kernel
theorem dX0_canPlaceAlso_9 : decode cX0_canPlaceAlso 9 = .ok (.getfield 9, 3) := by decide +kernel
theorem dX0_canPlaceAlso_12 : decode cX0_canPlaceAlso 12 = .ok (.iload_n 2, 1) := by decide +kernel
theorem dX0_canPlaceAlso_13 : decode cX0_canPlaceAlso 13 = .ok (.iaload, 1) := by decide +kernel
theorem dX0_canPlaceAlso_14 : decode cX0_canPlaceAlso 14 = .ok (.iload_n 1, 1) := by decide +kernel
theorem dX0_canPlaceAlso_15 : decode cX0_canPlaceAlso 15 = .ok (.iload_n 2, 1) := by decide +kernel
theorem dX0_canPlaceAlso_16 : decode cX0_canPlaceAlso 16 = .ok (.invokestatic 18, 3) := by decide +kernel
theorem dX0_canPlaceAlso_19 : decode cX0_canPlaceAlso 19 = .ok (.iadd, 1) := by decide +kernel
theorem dX0_canPlaceAlso_20 : decode cX0_canPlaceAlso 20 = .ok (.aload_n 0, 1) := by decide +kernel
theorem dX0_canPlaceAlso_21 : decode cX0_canPlaceAlso 21 = .ok (.getfield 15, 3) := by decide +kernel
theorem dX0_canPlaceAlso_24 : decode cX0_canPlaceAlso 24 = .ok (.iload_n 2, 1) := by decide +kernel
theorem dX0_canPlaceAlso_25 : decode cX0_canPlaceAlso 25 = .ok (.iaload, 1) := by decide +kernel
theorem dX0_canPlaceAlso_26 : decode cX0_canPlaceAlso 26 = .ok (.if_icmp .le 5, 3) := by decide +kernel
theorem dX0_canPlaceAlso_29 : decode cX0_canPlaceAlso 29 = .ok (.iconst 0, 1) := by decide +kernel
theorem dX0_canPlaceAlso_30 : decode cX0_canPlaceAlso 30 = .ok (.ireturn, 1) := by decide +kernel
theorem dX0_canPlaceAlso_31 : decode cX0_canPlaceAlso 31 = .ok (.iinc 2 1, 3) := by decide +kernel
theorem dX0_canPlaceAlso_34 : decode cX0_canPlaceAlso 34 = .ok (.goto (-32), 3) := by decide +kernel
theorem dX0_canPlaceAlso_37 : decode cX0_canPlaceAlso 37 = .ok (.iconst 1, 1) := by decide +kernel
theorem dX0_canPlaceAlso_38 : decode cX0_canPlaceAlso 38 = .ok (.ireturn, 1) := by decide +kernel
theorem dX0_canSpare_0 : decode cX0_canSpare 0 = .ok (.iconst 0, 1) := by decide +kernel
theorem dX0_canSpare_1 : decode cX0_canSpare 1 = .ok (.istore_n 2, 1) := by decide +kernel
theorem dX0_canSpare_2 : decode cX0_canSpare 2 = .ok (.iload_n 2, 1) := by decide +kernel
theorem dX0_canSpare_3 : decode cX0_canSpare 3 = .ok (.bipush 32, 2) := by decide +kernel
theorem dX0_canSpare_5 : decode cX0_canSpare 5 = .ok (.if_icmp .ge 34, 3) := by decide +kernel
theorem dX0_canSpare_8 : decode cX0_canSpare 8 = .ok (.aload_n 0, 1) := by decide +kernel
theorem dX0_canSpare_9 : decode cX0_canSpare 9 = .ok (.getfield 9, 3) := by decide +kernel
theorem dX0_canSpare_12 : decode cX0_canSpare 12 = .ok (.iload_n 2, 1) := by decide +kernel
theorem dX0_canSpare_13 : decode cX0_canSpare 13 = .ok (.iaload, 1) := by decide +kernel
theorem dX0_canSpare_14 : decode cX0_canSpare 14 = .ok (.aload_n 0, 1) := by decide +kernel
theorem dX0_canSpare_15 : decode cX0_canSpare 15 = .ok (.getfield 15, 3) := by decide +kernel
theorem dX0_canSpare_18 : decode cX0_canSpare 18 = .ok (.iload_n 2, 1) := by decide +kernel
theorem dX0_canSpare_19 : decode cX0_canSpare 19 = .ok (.iaload, 1) := by decide +kernel
theorem dX0_canSpare_20 : decode cX0_canSpare 20 = .ok (.iconst 1, 1) := by decide +kernel
theorem dX0_canSpare_21 : decode cX0_canSpare 21 = .ok (.iload_n 1, 1) := by decide +kernel
theorem dX0_canSpare_22 : decode cX0_canSpare 22 = .ok (.ishl, 1) := by decide +kernel
theorem dX0_canSpare_23 : decode cX0_canSpare 23 = .ok (.iload_n 2, 1) := by decide +kernel
theorem dX0_canSpare_24 : decode cX0_canSpare 24 = .ok (.invokestatic 18, 3) := by decide +kernel
theorem dX0_canSpare_27 : decode cX0_canSpare 27 = .ok (.isub, 1) := by decide +kernel
theorem dX0_canSpare_28 : decode cX0_canSpare 28 = .ok (.if_icmp .le 5, 3) := by decide +kernel
theorem dX0_canSpare_31 : decode cX0_canSpare 31 = .ok (.iconst 0, 1) := by decide +kernel
theorem dX0_canSpare_32 : decode cX0_canSpare 32 = .ok (.ireturn, 1) := by decide +kernel
theorem dX0_canSpare_33 : decode cX0_canSpare 33 = .ok (.iinc 2 1, 3) := by decide +kernel
theorem dX0_canSpare_36 : decode cX0_canSpare 36 = .ok (.goto (-34), 3) := by decide +kernel
theorem dX0_canSpare_39 : decode cX0_canSpare 39 = .ok (.iconst 1, 1) := by decide +kernel
theorem dX0_canSpare_40 : decode cX0_canSpare 40 = .ok (.ireturn, 1) := by decide +kernel
theorem dX0_mostPlaced_0 : decode cX0_mostPlaced 0 = .ok (.aload_n 0, 1) := by decide +kernel
theorem dX0_mostPlaced_1 : decode cX0_mostPlaced 1 = .ok (.getfield 9, 3) := by decide +kernel
theorem dX0_mostPlaced_4 : decode cX0_mostPlaced 4 = .ok (.bipush 31, 2) := by decide +kernel
theorem dX0_mostPlaced_6 : decode cX0_mostPlaced 6 = .ok (.iaload, 1) := by decide +kernel
theorem dX0_mostPlaced_7 : decode cX0_mostPlaced 7 = .ok (.istore_n 1, 1) := by decide +kernel
theorem dX0_mostPlaced_8 : decode cX0_mostPlaced 8 = .ok (.iconst 0, 1) := by decide +kernel
theorem dX0_mostPlaced_9 : decode cX0_mostPlaced 9 = .ok (.istore_n 2, 1) := by decide +kernel
theorem dX0_mostPlaced_10 : decode cX0_mostPlaced 10 = .ok (.iconst 0, 1) := by decide +kernel
theorem dX0_mostPlaced_11 : decode cX0_mostPlaced 11 = .ok (.istore_n 3, 1) := by decide +kernel
theorem dX0_mostPlaced_12 : decode cX0_mostPlaced 12 = .ok (.iload_n 3, 1) := by decide +kernel
theorem dX0_mostPlaced_13 : decode cX0_mostPlaced 13 = .ok (.bipush 32, 2) := by decide +kernel
theorem dX0_mostPlaced_15 : decode cX0_mostPlaced 15 = .ok (.if_icmp .ge 27, 3) := by decide +kernel
theorem dX0_mostPlaced_18 : decode cX0_mostPlaced 18 = .ok (.iload_n 2, 1) := by decide +kernel
theorem dX0_mostPlaced_19 : decode cX0_mostPlaced 19 = .ok (.aload_n 0, 1) := by decide +kernel
theorem dX0_mostPlaced_20 : decode cX0_mostPlaced 20 = .ok (.getfield 9, 3) := by decide +kernel
theorem dX0_mostPlaced_23 : decode cX0_mostPlaced 23 = .ok (.iload_n 3, 1) := by decide +kernel
theorem dX0_mostPlaced_24 : decode cX0_mostPlaced 24 = .ok (.iaload, 1) := by decide +kernel
theorem dX0_mostPlaced_25 : decode cX0_mostPlaced 25 = .ok (.aload_n 0, 1) := by decide +kernel
theorem dX0_mostPlaced_26 : decode cX0_mostPlaced 26 = .ok (.getfield 15, 3) := by decide +kernel
theorem dX0_mostPlaced_29 : decode cX0_mostPlaced 29 = .ok (.iload_n 3, 1) := by decide +kernel
theorem dX0_mostPlaced_30 : decode cX0_mostPlaced 30 = .ok (.iaload, 1) := by decide +kernel
theorem dX0_mostPlaced_31 : decode cX0_mostPlaced 31 = .ok (.isub, 1) := by decide +kernel
theorem dX0_mostPlaced_32 : decode cX0_mostPlaced 32 = .ok (.invokestatic 22, 3) := by decide +kernel
theorem dX0_mostPlaced_35 : decode cX0_mostPlaced 35 = .ok (.istore_n 2, 1) := by decide +kernel
theorem dX0_mostPlaced_36 : decode cX0_mostPlaced 36 = .ok (.iinc 3 1, 3) := by decide +kernel
theorem dX0_mostPlaced_39 : decode cX0_mostPlaced 39 = .ok (.goto (-27), 3) := by decide +kernel
theorem dX0_mostPlaced_42 : decode cX0_mostPlaced 42 = .ok (.iload_n 1, 1) := by decide +kernel
theorem dX0_mostPlaced_43 : decode cX0_mostPlaced 43 = .ok (.iload_n 2, 1) := by decide +kernel
theorem dX0_mostPlaced_44 : decode cX0_mostPlaced 44 = .ok (.isub, 1) := by decide +kernel
theorem dX0_mostPlaced_45 : decode cX0_mostPlaced 45 = .ok (.ireturn, 1) := by decide +kernel
theorem dX0_oneIfWithin_0 : decode cX0_oneIfWithin 0 = .ok (.iload_n 0, 1) := by decide +kernel
theorem dX0_oneIfWithin_1 : decode cX0_oneIfWithin 1 = .ok (.iload_n 1, 1) := by decide +kernel
theorem dX0_oneIfWithin_2 : decode cX0_oneIfWithin 2 = .ok (.iconst (-1), 1) := by decide +kernel
theorem dX0_oneIfWithin_3 : decode cX0_oneIfWithin 3 = .ok (.ixor, 1) := by decide +kernel
theorem dX0_oneIfWithin_4 : decode cX0_oneIfWithin 4 = .ok (.iand, 1) := by decide +kernel
theorem dX0_oneIfWithin_5 : decode cX0_oneIfWithin 5 = .ok (.ifCond .ne 7, 3) := by decide +kernel
theorem dX0_oneIfWithin_8 : decode cX0_oneIfWithin 8 = .ok (.iconst 1, 1) := by decide +kernel
theorem dX0_oneIfWithin_9 : decode cX0_oneIfWithin 9 = .ok (.goto 4, 3) := by decide +kernel
theorem dX0_oneIfWithin_12 : decode cX0_oneIfWithin 12 = .ok (.iconst 0, 1) := by decide +kernel
theorem dX0_oneIfWithin_13 : decode cX0_oneIfWithin 13 = .ok (.ireturn, 1) := by decide +kernel
theorem dX1_init_0 : decode cX1_init 0 = .ok (.aload_n 0, 1) := by decide +kernel
theorem dX1_init_1 : decode cX1_init 1 = .ok (.invokespecial 3, 3) := by decide +kernel
theorem dX1_init_4 : decode cX1_init 4 = .ok (.aload_n 0, 1) := by decide +kernel
theorem dX1_init_5 : decode cX1_init 5 = .ok (.iconst 0, 1) := by decide +kernel
theorem dX1_init_6 : decode cX1_init 6 = .ok (.putfield 9, 3) := by decide +kernel
theorem dX1_init_9 : decode cX1_init 9 = .ok (.aload_n 0, 1) := by decide +kernel
theorem dX1_init_10 : decode cX1_init 10 = .ok (.iconst 0, 1) := by decide +kernel
theorem dX1_init_11 : decode cX1_init 11 = .ok (.putfield 15, 3) := by decide +kernel
theorem dX1_init_14 : decode cX1_init 14 = .ok (.aload_n 0, 1) := by decide +kernel
theorem dX1_init_15 : decode cX1_init 15 = .ok (.iconst 0, 1) := by decide +kernel
theorem dX1_init_16 : decode cX1_init 16 = .ok (.putfield 18, 3) := by decide +kernel
theorem dX1_init_19 : decode cX1_init 19 = .ok (.aload_n 0, 1) := by decide +kernel
theorem dX1_init_20 : decode cX1_init 20 = .ok (.iconst 0, 1) := by decide +kernel
theorem dX1_init_21 : decode cX1_init 21 = .ok (.putfield 22, 3) := by decide +kernel
theorem dX1_init_24 : decode cX1_init 24 = .ok (.aload_n 0, 1) := by decide +kernel
theorem dX1_init_25 : decode cX1_init 25 = .ok (.iconst (-1), 1) := by decide +kernel
theorem dX1_init_26 : decode cX1_init 26 = .ok (.putfield 25, 3) := by decide +kernel
theorem dX1_init_29 : decode cX1_init 29 = .ok (.aload_n 0, 1) := by decide +kernel
theorem dX1_init_30 : decode cX1_init 30 = .ok (.iconst 0, 1) := by decide +kernel
theorem dX1_init_31 : decode cX1_init 31 = .ok (.putfield 28, 3) := by decide +kernel
theorem dX1_init_34 : decode cX1_init 34 = .ok (.aload_n 0, 1) := by decide +kernel
theorem dX1_init_35 : decode cX1_init 35 = .ok (.iconst 0, 1) := by decide +kernel
theorem dX1_init_36 : decode cX1_init 36 = .ok (.putfield 31, 3) := by decide +kernel
theorem dX1_init_39 : decode cX1_init 39 = .ok (.aload_n 0, 1) := by decide +kernel
theorem dX1_init_40 : decode cX1_init 40 = .ok (.iload_n 1, 1) := by decide +kernel
theorem dX1_init_41 : decode cX1_init 41 = .ok (.putfield 34, 3) := by decide +kernel
theorem dX1_init_44 : decode cX1_init 44 = .ok (.aload_n 0, 1) := by decide +kernel
theorem dX1_init_45 : decode cX1_init 45 = .ok (.iload_n 2, 1) := by decide +kernel
theorem dX1_init_46 : decode cX1_init 46 = .ok (.putfield 37, 3) := by decide +kernel
theorem dX1_init_49 : decode cX1_init 49 = .ok (.aload_n 0, 1) := by decide +kernel
theorem dX1_init_50 : decode cX1_init 50 = .ok (.iload_n 3, 1) := by decide +kernel
theorem dX1_init_51 : decode cX1_init 51 = .ok (.putfield 40, 3) := by decide +kernel
theorem dX1_init_54 : decode cX1_init 54 = .ok (.return_, 1) := by decide +kernel
theorem dX1_isAtWork_0 : decode cX1_isAtWork 0 = .ok (.aload_n 0, 1) := by decide +kernel
theorem dX1_isAtWork_1 : decode cX1_isAtWork 1 = .ok (.getfield 25, 3) := by decide +kernel
theorem dX1_isAtWork_4 : decode cX1_isAtWork 4 = .ok (.iconst (-1), 1) := by decide +kernel
theorem dX1_isAtWork_5 : decode cX1_isAtWork 5 = .ok (.if_icmp .eq 7, 3) := by decide +kernel
theorem dX1_isAtWork_8 : decode cX1_isAtWork 8 = .ok (.iconst 1, 1) := by decide +kernel
theorem dX1_isAtWork_9 : decode cX1_isAtWork 9 = .ok (.goto 4, 3) := by decide +kernel
theorem dX1_isAtWork_12 : decode cX1_isAtWork 12 = .ok (.iconst 0, 1) := by decide +kernel
theorem dX1_isAtWork_13 : decode cX1_isAtWork 13 = .ok (.ireturn, 1) := by decide +kernel
theorem dX1_isReady_0 : decode cX1_isReady 0 = .ok (.aload_n 0, 1) := by decide +kernel
theorem dX1_isReady_1 : decode cX1_isReady 1 = .ok (.getfield 9, 3) := by decide +kernel
theorem dX1_isReady_4 : decode cX1_isReady 4 = .ok (.ifCond .ne 14, 3) := by decide +kernel
theorem dX1_isReady_7 : decode cX1_isReady 7 = .ok (.aload_n 0, 1) := by decide +kernel
theorem dX1_isReady_8 : decode cX1_isReady 8 = .ok (.getfield 31, 3) := by decide +kernel
theorem dX1_isReady_11 : decode cX1_isReady 11 = .ok (.ifCond .ne 7, 3) := by decide +kernel
theorem dX1_isReady_14 : decode cX1_isReady 14 = .ok (.iconst 1, 1) := by decide +kernel
theorem dX1_isReady_15 : decode cX1_isReady 15 = .ok (.goto 4, 3) := by decide +kernel
theorem dX1_isReady_18 : decode cX1_isReady 18 = .ok (.iconst 0, 1) := by decide +kernel
theorem dX1_isReady_19 : decode cX1_isReady 19 = .ok (.ireturn, 1) := by decide +kernel
theorem dX1_hasSkill_0 : decode cX1_hasSkill 0 = .ok (.aload_n 0, 1) := by decide +kernel
theorem dX1_hasSkill_1 : decode cX1_hasSkill 1 = .ok (.getfield 40, 3) := by decide +kernel
theorem dX1_hasSkill_4 : decode cX1_hasSkill 4 = .ok (.iload_n 1, 1) := by decide +kernel
theorem dX1_hasSkill_5 : decode cX1_hasSkill 5 = .ok (.ishr, 1) := by decide +kernel
theorem dX1_hasSkill_6 : decode cX1_hasSkill 6 = .ok (.iconst 1, 1) := by decide +kernel
theorem dX1_hasSkill_7 : decode cX1_hasSkill 7 = .ok (.iand, 1) := by decide +kernel
theorem dX1_hasSkill_8 : decode cX1_hasSkill 8 = .ok (.iconst 1, 1) := by decide +kernel
theorem dX1_hasSkill_9 : decode cX1_hasSkill 9 = .ok (.if_icmp .ne 7, 3) := by decide +kernel
theorem dX1_hasSkill_12 : decode cX1_hasSkill 12 = .ok (.iconst 1, 1) := by decide +kernel
theorem dX1_hasSkill_13 : decode cX1_hasSkill 13 = .ok (.goto 4, 3) := by decide +kernel
theorem dX1_hasSkill_16 : decode cX1_hasSkill 16 = .ok (.iconst 0, 1) := by decide +kernel
theorem dX1_hasSkill_17 : decode cX1_hasSkill 17 = .ok (.ireturn, 1) := by decide +kernel
theorem dX1_stopWork_0 : decode cX1_stopWork 0 = .ok (.iload_n 1, 1) := by decide +kernel
theorem dX1_stopWork_1 : decode cX1_stopWork 1 = .ok (.aload_n 0, 1) := by decide +kernel
theorem dX1_stopWork_2 : decode cX1_stopWork 2 = .ok (.getfield 28, 3) := by decide +kernel
theorem dX1_stopWork_5 : decode cX1_stopWork 5 = .ok (.isub, 1) := by decide +kernel
theorem dX1_stopWork_6 : decode cX1_stopWork 6 = .ok (.istore_n 2, 1) := by decide +kernel
theorem dX1_stopWork_7 : decode cX1_stopWork 7 = .ok (.aload_n 0, 1) := by decide +kernel
theorem dX1_stopWork_8 : decode cX1_stopWork 8 = .ok (.dup, 1) := by decide +kernel
theorem dX1_stopWork_9 : decode cX1_stopWork 9 = .ok (.getfield 18, 3) := by decide +kernel
theorem dX1_stopWork_12 : decode cX1_stopWork 12 = .ok (.iload_n 2, 1) := by decide +kernel
theorem dX1_stopWork_13 : decode cX1_stopWork 13 = .ok (.iadd, 1) := by decide +kernel
theorem dX1_stopWork_14 : decode cX1_stopWork 14 = .ok (.putfield 18, 3) := by decide +kernel
theorem dX1_stopWork_17 : decode cX1_stopWork 17 = .ok (.aload_n 0, 1) := by decide +kernel
theorem dX1_stopWork_18 : decode cX1_stopWork 18 = .ok (.iconst (-1), 1) := by decide +kernel
theorem dX1_stopWork_19 : decode cX1_stopWork 19 = .ok (.putfield 25, 3) := by decide +kernel
theorem dX1_stopWork_22 : decode cX1_stopWork 22 = .ok (.iload_n 2, 1) := by decide +kernel
theorem dX1_stopWork_23 : decode cX1_stopWork 23 = .ok (.ireturn, 1) := by decide +kernel
theorem dX2_init_0 : decode cX2_init 0 = .ok (.aload_n 0, 1) := by decide +kernel
theorem dX2_init_1 : decode cX2_init 1 = .ok (.invokespecial 1, 3) := by decide +kernel
theorem dX2_init_4 : decode cX2_init 4 = .ok (.aload_n 0, 1) := by decide +kernel
theorem dX2_init_5 : decode cX2_init 5 = .ok (.new 7, 3) := by decide +kernel
theorem dX2_init_8 : decode cX2_init 8 = .ok (.dup, 1) := by decide +kernel
theorem dX2_init_9 : decode cX2_init 9 = .ok (.invokespecial 9, 3) := by decide +kernel
theorem dX2_init_12 : decode cX2_init 12 = .ok (.putfield 10, 3) := by decide +kernel
theorem dX2_init_15 : decode cX2_init 15 = .ok (.aload_n 0, 1) := by decide +kernel
theorem dX2_init_16 : decode cX2_init 16 = .ok (.new 7, 3) := by decide +kernel
theorem dX2_init_19 : decode cX2_init 19 = .ok (.dup, 1) := by decide +kernel
theorem dX2_init_20 : decode cX2_init 20 = .ok (.invokespecial 9, 3) := by decide +kernel
theorem dX2_init_23 : decode cX2_init 23 = .ok (.putfield 16, 3) := by decide +kernel
theorem dX2_init_26 : decode cX2_init 26 = .ok (.aload_n 0, 1) := by decide +kernel
theorem dX2_init_27 : decode cX2_init 27 = .ok (.new 7, 3) := by decide +kernel
theorem dX2_init_30 : decode cX2_init 30 = .ok (.dup, 1) := by decide +kernel
theorem dX2_init_31 : decode cX2_init 31 = .ok (.invokespecial 9, 3) := by decide +kernel
theorem dX2_init_34 : decode cX2_init 34 = .ok (.putfield 19, 3) := by decide +kernel
theorem dX2_init_37 : decode cX2_init 37 = .ok (.aload_n 0, 1) := by decide +kernel
theorem dX2_init_38 : decode cX2_init 38 = .ok (.new 22, 3) := by decide +kernel
theorem dX2_init_41 : decode cX2_init 41 = .ok (.dup, 1) := by decide +kernel
theorem dX2_init_42 : decode cX2_init 42 = .ok (.invokespecial 24, 3) := by decide +kernel
theorem dX2_init_45 : decode cX2_init 45 = .ok (.putfield 25, 3) := by decide +kernel
theorem dX2_init_48 : decode cX2_init 48 = .ok (.aload_n 0, 1) := by decide +kernel
theorem dX2_init_49 : decode cX2_init 49 = .ok (.iconst 4, 1) := by decide +kernel
theorem dX2_init_50 : decode cX2_init 50 = .ok (.newarray .boolean, 2) := by decide +kernel
theorem dX2_init_52 : decode cX2_init 52 = .ok (.putfield 29, 3) := by decide +kernel
theorem dX2_init_55 : decode cX2_init 55 = .ok (.aload_n 0, 1) := by decide +kernel
theorem dX2_init_56 : decode cX2_init 56 = .ok (.iconst 4, 1) := by decide +kernel
theorem dX2_init_57 : decode cX2_init 57 = .ok (.newarray .int, 2) := by decide +kernel
theorem dX2_init_59 : decode cX2_init 59 = .ok (.putfield 33, 3) := by decide +kernel
theorem dX2_init_62 : decode cX2_init 62 = .ok (.aload_n 0, 1) := by decide +kernel
theorem dX2_init_63 : decode cX2_init 63 = .ok (.bipush 16, 2) := by decide +kernel
theorem dX2_init_65 : decode cX2_init 65 = .ok (.newarray .int, 2) := by decide +kernel
theorem dX2_init_67 : decode cX2_init 67 = .ok (.putfield 37, 3) := by decide +kernel
theorem dX2_init_70 : decode cX2_init 70 = .ok (.aload_n 0, 1) := by decide +kernel
theorem dX2_init_71 : decode cX2_init 71 = .ok (.iconst 0, 1) := by decide +kernel
theorem dX2_init_72 : decode cX2_init 72 = .ok (.putfield 40, 3) := by decide +kernel
theorem dX2_init_75 : decode cX2_init 75 = .ok (.aload_n 0, 1) := by decide +kernel
theorem dX2_init_76 : decode cX2_init 76 = .ok (.iconst 0, 1) := by decide +kernel
theorem dX2_init_77 : decode cX2_init 77 = .ok (.putfield 44, 3) := by decide +kernel
theorem dX2_init_80 : decode cX2_init 80 = .ok (.aload_n 0, 1) := by decide +kernel
theorem dX2_init_81 : decode cX2_init 81 = .ok (.bipush 8, 2) := by decide +kernel
theorem dX2_init_83 : decode cX2_init 83 = .ok (.putfield 47, 3) := by decide +kernel
theorem dX2_init_86 : decode cX2_init 86 = .ok (.aload_n 0, 1) := by decide +kernel
theorem dX2_init_87 : decode cX2_init 87 = .ok (.iconst 0, 1) := by decide +kernel
theorem dX2_init_88 : decode cX2_init 88 = .ok (.putfield 50, 3) := by decide +kernel
theorem dX2_init_91 : decode cX2_init 91 = .ok (.aload_n 0, 1) := by decide +kernel
theorem dX2_init_92 : decode cX2_init 92 = .ok (.iconst 0, 1) := by decide +kernel
theorem dX2_init_93 : decode cX2_init 93 = .ok (.putfield 53, 3) := by decide +kernel
theorem dX2_init_96 : decode cX2_init 96 = .ok (.aload_n 0, 1) := by decide +kernel
theorem dX2_init_97 : decode cX2_init 97 = .ok (.iconst 0, 1) := by decide +kernel
theorem dX2_init_98 : decode cX2_init 98 = .ok (.putfield 56, 3) := by decide +kernel
theorem dX2_init_101 : decode cX2_init 101 = .ok (.return_, 1) := by decide +kernel
theorem dX2_signOn_0 : decode cX2_signOn 0 = .ok (.iload_n 1, 1) := by decide +kernel
theorem dX2_signOn_1 : decode cX2_signOn 1 = .ok (.invokestatic 60, 3) := by decide +kernel
theorem dX2_signOn_4 : decode cX2_signOn 4 = .ok (.iload_n 2, 1) := by decide +kernel
theorem dX2_signOn_5 : decode cX2_signOn 5 = .ok (.invokestatic 64, 3) := by decide +kernel
theorem dX2_signOn_8 : decode cX2_signOn 8 = .ok (.aload_n 0, 1) := by decide +kernel
theorem dX2_signOn_9 : decode cX2_signOn 9 = .ok (.getfield 10, 3) := by decide +kernel
theorem dX2_signOn_12 : decode cX2_signOn 12 = .ok (.invokevirtual 67, 3) := by decide +kernel
theorem dX2_signOn_15 : decode cX2_signOn 15 = .ok (.bipush 30, 2) := by decide +kernel
theorem dX2_signOn_17 : decode cX2_signOn 17 = .ok (.if_icmp .lt 13, 3) := by decide +kernel
theorem dX2_signOn_20 : decode cX2_signOn 20 = .ok (.new 71, 3) := by decide +kernel
theorem dX2_signOn_23 : decode cX2_signOn 23 = .ok (.dup, 1) := by decide +kernel
theorem dX2_signOn_24 : decode cX2_signOn 24 = .ok (.ldc 73, 2) := by decide +kernel
theorem dX2_signOn_26 : decode cX2_signOn 26 = .ok (.invokespecial 75, 3) := by decide +kernel
theorem dX2_signOn_29 : decode cX2_signOn 29 = .ok (.athrow, 1) := by decide +kernel
theorem dX2_signOn_30 : decode cX2_signOn 30 = .ok (.new 78, 3) := by decide +kernel
theorem dX2_signOn_33 : decode cX2_signOn 33 = .ok (.dup, 1) := by decide +kernel
theorem dX2_signOn_34 : decode cX2_signOn 34 = .ok (.aload_n 0, 1) := by decide +kernel
theorem dX2_signOn_35 : decode cX2_signOn 35 = .ok (.getfield 40, 3) := by decide +kernel
theorem dX2_signOn_38 : decode cX2_signOn 38 = .ok (.iload_n 1, 1) := by decide +kernel
theorem dX2_signOn_39 : decode cX2_signOn 39 = .ok (.iload_n 2, 1) := by decide +kernel
theorem dX2_signOn_40 : decode cX2_signOn 40 = .ok (.invokespecial 80, 3) := by decide +kernel
theorem dX2_signOn_43 : decode cX2_signOn 43 = .ok (.astore_n 3, 1) := by decide +kernel
theorem dX2_signOn_44 : decode cX2_signOn 44 = .ok (.aload_n 0, 1) := by decide +kernel
theorem dX2_signOn_45 : decode cX2_signOn 45 = .ok (.dup, 1) := by decide +kernel
theorem dX2_signOn_46 : decode cX2_signOn 46 = .ok (.getfield 40, 3) := by decide +kernel
theorem dX2_signOn_49 : decode cX2_signOn 49 = .ok (.iconst 1, 1) := by decide +kernel
theorem dX2_signOn_50 : decode cX2_signOn 50 = .ok (.iadd, 1) := by decide +kernel
theorem dX2_signOn_51 : decode cX2_signOn 51 = .ok (.putfield 40, 3) := by decide +kernel
theorem dX2_signOn_54 : decode cX2_signOn 54 = .ok (.aload_n 0, 1) := by decide +kernel
theorem dX2_signOn_55 : decode cX2_signOn 55 = .ok (.aload_n 3, 1) := by decide +kernel
theorem dX2_signOn_56 : decode cX2_signOn 56 = .ok (.invokevirtual 83, 3) := by decide +kernel
theorem dX2_signOn_59 : decode cX2_signOn 59 = .ok (.aload_n 3, 1) := by decide +kernel
theorem dX2_signOn_60 : decode cX2_signOn 60 = .ok (.getfield 87, 3) := by decide +kernel
theorem dX2_signOn_63 : decode cX2_signOn 63 = .ok (.ireturn, 1) := by decide +kernel
theorem dX2_signOff_0 : decode cX2_signOff 0 = .ok (.aload_n 0, 1) := by decide +kernel
theorem dX2_signOff_1 : decode cX2_signOff 1 = .ok (.iload_n 1, 1) := by decide +kernel
theorem dX2_signOff_2 : decode cX2_signOff 2 = .ok (.invokevirtual 90, 3) := by decide +kernel
theorem dX2_signOff_5 : decode cX2_signOff 5 = .ok (.astore_n 2, 1) := by decide +kernel
theorem dX2_signOff_6 : decode cX2_signOff 6 = .ok (.aload_n 2, 1) := by decide +kernel
theorem dX2_signOff_7 : decode cX2_signOff 7 = .ok (.invokestatic 94, 3) := by decide +kernel
theorem dX2_signOff_10 : decode cX2_signOff 10 = .ok (.aload_n 0, 1) := by decide +kernel
theorem dX2_signOff_11 : decode cX2_signOff 11 = .ok (.aload_n 2, 1) := by decide +kernel
theorem dX2_signOff_12 : decode cX2_signOff 12 = .ok (.invokevirtual 97, 3) := by decide +kernel
theorem dX2_signOff_15 : decode cX2_signOff 15 = .ok (.aload_n 2, 1) := by decide +kernel
theorem dX2_signOff_16 : decode cX2_signOff 16 = .ok (.getfield 100, 3) := by decide +kernel
theorem dX2_signOff_19 : decode cX2_signOff 19 = .ok (.ireturn, 1) := by decide +kernel
theorem dX2_setSkills_0 : decode cX2_setSkills 0 = .ok (.aload_n 0, 1) := by decide +kernel
theorem dX2_setSkills_1 : decode cX2_setSkills 1 = .ok (.iload_n 1, 1) := by decide +kernel
theorem dX2_setSkills_2 : decode cX2_setSkills 2 = .ok (.invokevirtual 90, 3) := by decide +kernel
theorem dX2_setSkills_5 : decode cX2_setSkills 5 = .ok (.astore_n 3, 1) := by decide +kernel
theorem dX2_setSkills_6 : decode cX2_setSkills 6 = .ok (.iload_n 2, 1) := by decide +kernel
theorem dX2_setSkills_7 : decode cX2_setSkills 7 = .ok (.invokestatic 64, 3) := by decide +kernel
theorem dX2_setSkills_10 : decode cX2_setSkills 10 = .ok (.aload_n 3, 1) := by decide +kernel
theorem dX2_setSkills_11 : decode cX2_setSkills 11 = .ok (.invokestatic 94, 3) := by decide +kernel
theorem dX2_setSkills_14 : decode cX2_setSkills 14 = .ok (.aload_n 3, 1) := by decide +kernel
theorem dX2_setSkills_15 : decode cX2_setSkills 15 = .ok (.getfield 103, 3) := by decide +kernel
theorem dX2_setSkills_18 : decode cX2_setSkills 18 = .ok (.istore 4, 2) := by decide +kernel
theorem dX2_setSkills_20 : decode cX2_setSkills 20 = .ok (.aload_n 3, 1) := by decide +kernel
theorem dX2_setSkills_21 : decode cX2_setSkills 21 = .ok (.iload_n 2, 1) := by decide +kernel
theorem dX2_setSkills_22 : decode cX2_setSkills 22 = .ok (.putfield 103, 3) := by decide +kernel
theorem dX2_setSkills_25 : decode cX2_setSkills 25 = .ok (.iload 4, 2) := by decide +kernel
theorem dX2_setSkills_27 : decode cX2_setSkills 27 = .ok (.ireturn, 1) := by decide +kernel
theorem dX2_move_0 : decode cX2_move 0 = .ok (.aload_n 0, 1) := by decide +kernel
theorem dX2_move_1 : decode cX2_move 1 = .ok (.iload_n 1, 1) := by decide +kernel
theorem dX2_move_2 : decode cX2_move 2 = .ok (.invokevirtual 90, 3) := by decide +kernel
theorem dX2_move_5 : decode cX2_move 5 = .ok (.astore_n 3, 1) := by decide +kernel
theorem dX2_move_6 : decode cX2_move 6 = .ok (.iload_n 2, 1) := by decide +kernel
theorem dX2_move_7 : decode cX2_move 7 = .ok (.invokestatic 60, 3) := by decide +kernel
theorem dX2_move_10 : decode cX2_move 10 = .ok (.aload_n 3, 1) := by decide +kernel
theorem dX2_move_11 : decode cX2_move 11 = .ok (.getfield 106, 3) := by decide +kernel
theorem dX2_move_14 : decode cX2_move 14 = .ok (.istore 4, 2) := by decide +kernel
theorem dX2_move_16 : decode cX2_move 16 = .ok (.aload_n 0, 1) := by decide +kernel
theorem dX2_move_17 : decode cX2_move 17 = .ok (.aload_n 3, 1) := by decide +kernel
theorem dX2_move_18 : decode cX2_move 18 = .ok (.invokevirtual 97, 3) := by decide +kernel
theorem dX2_move_21 : decode cX2_move 21 = .ok (.aload_n 3, 1) := by decide +kernel
theorem dX2_move_22 : decode cX2_move 22 = .ok (.iload_n 2, 1) := by decide +kernel
theorem dX2_move_23 : decode cX2_move 23 = .ok (.putfield 106, 3) := by decide +kernel
theorem dX2_move_26 : decode cX2_move 26 = .ok (.aload_n 0, 1) := by decide +kernel
theorem dX2_move_27 : decode cX2_move 27 = .ok (.aload_n 3, 1) := by decide +kernel
theorem dX2_move_28 : decode cX2_move 28 = .ok (.invokevirtual 83, 3) := by decide +kernel
theorem dX2_move_31 : decode cX2_move 31 = .ok (.iload 4, 2) := by decide +kernel
theorem dX2_move_33 : decode cX2_move 33 = .ok (.ireturn, 1) := by decide +kernel
theorem dX2_setAway_0 : decode cX2_setAway 0 = .ok (.aload_n 0, 1) := by decide +kernel
theorem dX2_setAway_1 : decode cX2_setAway 1 = .ok (.iload_n 1, 1) := by decide +kernel
theorem dX2_setAway_2 : decode cX2_setAway 2 = .ok (.invokevirtual 90, 3) := by decide +kernel
theorem dX2_setAway_5 : decode cX2_setAway 5 = .ok (.astore_n 3, 1) := by decide +kernel
theorem dX2_setAway_6 : decode cX2_setAway 6 = .ok (.aload_n 3, 1) := by decide +kernel
theorem dX2_setAway_7 : decode cX2_setAway 7 = .ok (.getfield 109, 3) := by decide +kernel
theorem dX2_setAway_10 : decode cX2_setAway 10 = .ok (.istore 4, 2) := by decide +kernel
theorem dX2_setAway_12 : decode cX2_setAway 12 = .ok (.aload_n 3, 1) := by decide +kernel
theorem dX2_setAway_13 : decode cX2_setAway 13 = .ok (.iload_n 2, 1) := by decide +kernel
theorem dX2_setAway_14 : decode cX2_setAway 14 = .ok (.putfield 109, 3) := by decide +kernel
theorem dX2_setAway_17 : decode cX2_setAway 17 = .ok (.iload 4, 2) := by decide +kernel
theorem dX2_setAway_19 : decode cX2_setAway 19 = .ok (.ireturn, 1) := by decide +kernel
theorem dX2_setRefusing_0 : decode cX2_setRefusing 0 = .ok (.aload_n 0, 1) := by decide +kernel
theorem dX2_setRefusing_1 : decode cX2_setRefusing 1 = .ok (.iload_n 1, 1) := by decide +kernel
theorem dX2_setRefusing_2 : decode cX2_setRefusing 2 = .ok (.invokevirtual 90, 3) := by decide +kernel
theorem dX2_setRefusing_5 : decode cX2_setRefusing 5 = .ok (.astore_n 3, 1) := by decide +kernel
theorem dX2_setRefusing_6 : decode cX2_setRefusing 6 = .ok (.aload_n 3, 1) := by decide +kernel
theorem dX2_setRefusing_7 : decode cX2_setRefusing 7 = .ok (.getfield 112, 3) := by decide +kernel
theorem dX2_setRefusing_10 : decode cX2_setRefusing 10 = .ok (.istore 4, 2) := by decide +kernel
theorem dX2_setRefusing_12 : decode cX2_setRefusing 12 = .ok (.aload_n 3, 1) := by decide +kernel
theorem dX2_setRefusing_13 : decode cX2_setRefusing 13 = .ok (.iload_n 2, 1) := by decide +kernel
theorem dX2_setRefusing_14 : decode cX2_setRefusing 14 = .ok (.putfield 112, 3) := by decide +kernel
theorem dX2_setRefusing_17 : decode cX2_setRefusing 17 = .ok (.iload 4, 2) := by decide +kernel
theorem dX2_setRefusing_19 : decode cX2_setRefusing 19 = .ok (.ireturn, 1) := by decide +kernel
theorem dX2_setRule_0 : decode cX2_setRule 0 = .ok (.iload_n 1, 1) := by decide +kernel
theorem dX2_setRule_1 : decode cX2_setRule 1 = .ok (.invokestatic 60, 3) := by decide +kernel
theorem dX2_setRule_4 : decode cX2_setRule 4 = .ok (.iload_n 3, 1) := by decide +kernel
theorem dX2_setRule_5 : decode cX2_setRule 5 = .ok (.ifCond .lt 10, 3) := by decide +kernel
theorem dX2_setRule_8 : decode cX2_setRule 8 = .ok (.iload_n 3, 1) := by decide +kernel
theorem dX2_setRule_9 : decode cX2_setRule 9 = .ok (.sipush 400, 3) := by decide +kernel
theorem dX2_setRule_12 : decode cX2_setRule 12 = .ok (.if_icmp .le 13, 3) := by decide +kernel
theorem dX2_setRule_15 : decode cX2_setRule 15 = .ok (.new 115, 3) := by decide +kernel
theorem dX2_setRule_18 : decode cX2_setRule 18 = .ok (.dup, 1) := by decide +kernel
theorem dX2_setRule_19 : decode cX2_setRule 19 = .ok (.ldc 117, 2) := by decide +kernel
theorem dX2_setRule_21 : decode cX2_setRule 21 = .ok (.invokespecial 119, 3) := by decide +kernel
theorem dX2_setRule_24 : decode cX2_setRule 24 = .ok (.athrow, 1) := by decide +kernel
theorem dX2_setRule_25 : decode cX2_setRule 25 = .ok (.aload_n 0, 1) := by decide +kernel
theorem dX2_setRule_26 : decode cX2_setRule 26 = .ok (.getfield 33, 3) := by decide +kernel
theorem dX2_setRule_29 : decode cX2_setRule 29 = .ok (.iload_n 1, 1) := by decide +kernel
theorem dX2_setRule_30 : decode cX2_setRule 30 = .ok (.iaload, 1) := by decide +kernel
theorem dX2_setRule_31 : decode cX2_setRule 31 = .ok (.istore 4, 2) := by decide +kernel
theorem dX2_setRule_33 : decode cX2_setRule 33 = .ok (.aload_n 0, 1) := by decide +kernel
theorem dX2_setRule_34 : decode cX2_setRule 34 = .ok (.getfield 29, 3) := by decide +kernel
theorem dX2_setRule_37 : decode cX2_setRule 37 = .ok (.iload_n 1, 1) := by decide +kernel
theorem dX2_setRule_38 : decode cX2_setRule 38 = .ok (.iload_n 2, 1) := by decide +kernel
theorem dX2_setRule_39 : decode cX2_setRule 39 = .ok (.bastore, 1) := by decide +kernel
theorem dX2_setRule_40 : decode cX2_setRule 40 = .ok (.aload_n 0, 1) := by decide +kernel
theorem dX2_setRule_41 : decode cX2_setRule 41 = .ok (.getfield 33, 3) := by decide +kernel
theorem dX2_setRule_44 : decode cX2_setRule 44 = .ok (.iload_n 1, 1) := by decide +kernel
theorem dX2_setRule_45 : decode cX2_setRule 45 = .ok (.iload_n 3, 1) := by decide +kernel
theorem dX2_setRule_46 : decode cX2_setRule 46 = .ok (.iastore, 1) := by decide +kernel
theorem dX2_setRule_47 : decode cX2_setRule 47 = .ok (.iload 4, 2) := by decide +kernel
theorem dX2_setRule_49 : decode cX2_setRule 49 = .ok (.ireturn, 1) := by decide +kernel
theorem dX2_equalise_0 : decode cX2_equalise 0 = .ok (.iload_n 1, 1) := by decide +kernel
theorem dX2_equalise_1 : decode cX2_equalise 1 = .ok (.invokestatic 60, 3) := by decide +kernel
theorem dX2_equalise_4 : decode cX2_equalise 4 = .ok (.aload_n 0, 1) := by decide +kernel
theorem dX2_equalise_5 : decode cX2_equalise 5 = .ok (.invokevirtual 120, 3) := by decide +kernel
theorem dX2_equalise_8 : decode cX2_equalise 8 = .ok (.iconst 0, 1) := by decide +kernel
theorem dX2_equalise_9 : decode cX2_equalise 9 = .ok (.istore_n 2, 1) := by decide +kernel
theorem dX2_equalise_10 : decode cX2_equalise 10 = .ok (.iload_n 2, 1) := by decide +kernel
theorem dX2_equalise_11 : decode cX2_equalise 11 = .ok (.aload_n 0, 1) := by decide +kernel
theorem dX2_equalise_12 : decode cX2_equalise 12 = .ok (.getfield 10, 3) := by decide +kernel
theorem dX2_equalise_15 : decode cX2_equalise 15 = .ok (.invokevirtual 67, 3) := by decide +kernel
theorem dX2_equalise_18 : decode cX2_equalise 18 = .ok (.if_icmp .ge 32, 3) := by decide +kernel
theorem dX2_equalise_21 : decode cX2_equalise 21 = .ok (.aload_n 0, 1) := by decide +kernel
theorem dX2_equalise_22 : decode cX2_equalise 22 = .ok (.getfield 10, 3) := by decide +kernel
theorem dX2_equalise_25 : decode cX2_equalise 25 = .ok (.iload_n 2, 1) := by decide +kernel
theorem dX2_equalise_26 : decode cX2_equalise 26 = .ok (.invokevirtual 123, 3) := by decide +kernel
theorem dX2_equalise_29 : decode cX2_equalise 29 = .ok (.checkcast 78, 3) := by decide +kernel
theorem dX2_equalise_32 : decode cX2_equalise 32 = .ok (.getfield 106, 3) := by decide +kernel
theorem dX2_equalise_35 : decode cX2_equalise 35 = .ok (.iload_n 1, 1) := by decide +kernel
theorem dX2_equalise_36 : decode cX2_equalise 36 = .ok (.if_icmp .ne 8, 3) := by decide +kernel
theorem dX2_equalise_39 : decode cX2_equalise 39 = .ok (.aload_n 0, 1) := by decide +kernel
theorem dX2_equalise_40 : decode cX2_equalise 40 = .ok (.iload_n 2, 1) := by decide +kernel
theorem dX2_equalise_41 : decode cX2_equalise 41 = .ok (.invokevirtual 127, 3) := by decide +kernel
theorem dX2_equalise_44 : decode cX2_equalise 44 = .ok (.iinc 2 1, 3) := by decide +kernel
theorem dX2_equalise_47 : decode cX2_equalise 47 = .ok (.goto (-37), 3) := by decide +kernel
theorem dX2_equalise_50 : decode cX2_equalise 50 = .ok (.aload_n 0, 1) := by decide +kernel
theorem dX2_equalise_51 : decode cX2_equalise 51 = .ok (.invokevirtual 130, 3) := by decide +kernel
theorem dX2_equalise_54 : decode cX2_equalise 54 = .ok (.ireturn, 1) := by decide +kernel
theorem dX2_order_0 : decode cX2_order 0 = .ok (.iload_n 1, 1) := by decide +kernel
theorem dX2_order_1 : decode cX2_order 1 = .ok (.ifCond .lt 8, 3) := by decide +kernel
theorem dX2_order_4 : decode cX2_order 4 = .ok (.iload_n 1, 1) := by decide +kernel
theorem dX2_order_5 : decode cX2_order 5 = .ok (.iconst 5, 1) := by decide +kernel
theorem dX2_order_6 : decode cX2_order 6 = .ok (.if_icmp .lt 13, 3) := by decide +kernel
theorem dX2_order_9 : decode cX2_order 9 = .ok (.new 115, 3) := by decide +kernel
theorem dX2_order_12 : decode cX2_order 12 = .ok (.dup, 1) := by decide +kernel
theorem dX2_order_13 : decode cX2_order 13 = .ok (.ldc 133, 2) := by decide +kernel
theorem dX2_order_15 : decode cX2_order 15 = .ok (.invokespecial 119, 3) := by decide +kernel
theorem dX2_order_18 : decode cX2_order 18 = .ok (.athrow, 1) := by decide +kernel
theorem dX2_order_19 : decode cX2_order 19 = .ok (.aload_n 0, 1) := by decide +kernel
theorem dX2_order_20 : decode cX2_order 20 = .ok (.getfield 44, 3) := by decide +kernel
theorem dX2_order_23 : decode cX2_order 23 = .ok (.bipush 16, 2) := by decide +kernel
theorem dX2_order_25 : decode cX2_order 25 = .ok (.if_icmp .lt 13, 3) := by decide +kernel
theorem dX2_order_28 : decode cX2_order 28 = .ok (.new 71, 3) := by decide +kernel
theorem dX2_order_31 : decode cX2_order 31 = .ok (.dup, 1) := by decide +kernel
theorem dX2_order_32 : decode cX2_order 32 = .ok (.ldc 135, 2) := by decide +kernel
theorem dX2_order_34 : decode cX2_order 34 = .ok (.invokespecial 75, 3) := by decide +kernel
theorem dX2_order_37 : decode cX2_order 37 = .ok (.athrow, 1) := by decide +kernel
theorem dX2_order_38 : decode cX2_order 38 = .ok (.aload_n 0, 1) := by decide +kernel
theorem dX2_order_39 : decode cX2_order 39 = .ok (.getfield 44, 3) := by decide +kernel
theorem dX2_order_42 : decode cX2_order 42 = .ok (.istore_n 2, 1) := by decide +kernel
theorem dX2_order_43 : decode cX2_order 43 = .ok (.aload_n 0, 1) := by decide +kernel
theorem dX2_order_44 : decode cX2_order 44 = .ok (.getfield 37, 3) := by decide +kernel
theorem dX2_order_47 : decode cX2_order 47 = .ok (.iload_n 2, 1) := by decide +kernel
theorem dX2_order_48 : decode cX2_order 48 = .ok (.iload_n 1, 1) := by decide +kernel
theorem dX2_order_49 : decode cX2_order 49 = .ok (.iastore, 1) := by decide +kernel
theorem dX2_order_50 : decode cX2_order 50 = .ok (.aload_n 0, 1) := by decide +kernel
theorem dX2_order_51 : decode cX2_order 51 = .ok (.dup, 1) := by decide +kernel
theorem dX2_order_52 : decode cX2_order 52 = .ok (.getfield 44, 3) := by decide +kernel
theorem dX2_order_55 : decode cX2_order 55 = .ok (.iconst 1, 1) := by decide +kernel
theorem dX2_order_56 : decode cX2_order 56 = .ok (.iadd, 1) := by decide +kernel
theorem dX2_order_57 : decode cX2_order 57 = .ok (.putfield 44, 3) := by decide +kernel
theorem dX2_order_60 : decode cX2_order 60 = .ok (.iload_n 2, 1) := by decide +kernel
theorem dX2_order_61 : decode cX2_order 61 = .ok (.ireturn, 1) := by decide +kernel
theorem dX2_dispatch_0 : decode cX2_dispatch 0 = .ok (.aload_n 0, 1) := by decide +kernel
theorem dX2_dispatch_1 : decode cX2_dispatch 1 = .ok (.getfield 25, 3) := by decide +kernel
theorem dX2_dispatch_4 : decode cX2_dispatch 4 = .ok (.invokevirtual 137, 3) := by decide +kernel
theorem dX2_dispatch_7 : decode cX2_dispatch 7 = .ok (.aload_n 0, 1) := by decide +kernel
theorem dX2_dispatch_8 : decode cX2_dispatch 8 = .ok (.invokevirtual 140, 3) := by decide +kernel
theorem dX2_dispatch_11 : decode cX2_dispatch 11 = .ok (.aload_n 0, 1) := by decide +kernel
theorem dX2_dispatch_12 : decode cX2_dispatch 12 = .ok (.invokevirtual 143, 3) := by decide +kernel
theorem dX2_dispatch_15 : decode cX2_dispatch 15 = .ok (.aload_n 0, 1) := by decide +kernel
theorem dX2_dispatch_16 : decode cX2_dispatch 16 = .ok (.invokevirtual 146, 3) := by decide +kernel
theorem dX2_dispatch_19 : decode cX2_dispatch 19 = .ok (.aload_n 0, 1) := by decide +kernel
theorem dX2_dispatch_20 : decode cX2_dispatch 20 = .ok (.getfield 19, 3) := by decide +kernel
theorem dX2_dispatch_23 : decode cX2_dispatch 23 = .ok (.invokevirtual 67, 3) := by decide +kernel
theorem dX2_dispatch_26 : decode cX2_dispatch 26 = .ok (.ireturn, 1) := by decide +kernel
theorem dX2_setHours_0 : decode cX2_setHours 0 = .ok (.iload_n 1, 1) := by decide +kernel
theorem dX2_setHours_1 : decode cX2_setHours 1 = .ok (.iconst 1, 1) := by decide +kernel
theorem dX2_setHours_2 : decode cX2_setHours 2 = .ok (.if_icmp .lt 9, 3) := by decide +kernel
theorem dX2_setHours_5 : decode cX2_setHours 5 = .ok (.iload_n 1, 1) := by decide +kernel
theorem dX2_setHours_6 : decode cX2_setHours 6 = .ok (.bipush 12, 2) := by decide +kernel
theorem dX2_setHours_8 : decode cX2_setHours 8 = .ok (.if_icmp .le 13, 3) := by decide +kernel
theorem dX2_setHours_11 : decode cX2_setHours 11 = .ok (.new 115, 3) := by decide +kernel
theorem dX2_setHours_14 : decode cX2_setHours 14 = .ok (.dup, 1) := by decide +kernel
theorem dX2_setHours_15 : decode cX2_setHours 15 = .ok (.ldc 149, 2) := by decide +kernel
theorem dX2_setHours_17 : decode cX2_setHours 17 = .ok (.invokespecial 119, 3) := by decide +kernel
theorem dX2_setHours_20 : decode cX2_setHours 20 = .ok (.athrow, 1) := by decide +kernel
theorem dX2_setHours_21 : decode cX2_setHours 21 = .ok (.aload_n 0, 1) := by decide +kernel
theorem dX2_setHours_22 : decode cX2_setHours 22 = .ok (.invokevirtual 151, 3) := by decide +kernel
theorem dX2_setHours_25 : decode cX2_setHours 25 = .ok (.aload_n 0, 1) := by decide +kernel
theorem dX2_setHours_26 : decode cX2_setHours 26 = .ok (.getfield 47, 3) := by decide +kernel
theorem dX2_setHours_29 : decode cX2_setHours 29 = .ok (.istore_n 2, 1) := by decide +kernel
theorem dX2_setHours_30 : decode cX2_setHours 30 = .ok (.aload_n 0, 1) := by decide +kernel
theorem dX2_setHours_31 : decode cX2_setHours 31 = .ok (.iload_n 1, 1) := by decide +kernel
theorem dX2_setHours_32 : decode cX2_setHours 32 = .ok (.putfield 47, 3) := by decide +kernel
theorem dX2_setHours_35 : decode cX2_setHours 35 = .ok (.iload_n 2, 1) := by decide +kernel
theorem dX2_setHours_36 : decode cX2_setHours 36 = .ok (.ireturn, 1) := by decide +kernel
theorem dX2_leave_0 : decode cX2_leave 0 = .ok (.aload_n 0, 1) := by decide +kernel
theorem dX2_leave_1 : decode cX2_leave 1 = .ok (.iload_n 1, 1) := by decide +kernel
theorem dX2_leave_2 : decode cX2_leave 2 = .ok (.invokevirtual 90, 3) := by decide +kernel
theorem dX2_leave_5 : decode cX2_leave 5 = .ok (.astore_n 3, 1) := by decide +kernel
theorem dX2_leave_6 : decode cX2_leave 6 = .ok (.iload_n 2, 1) := by decide +kernel
theorem dX2_leave_7 : decode cX2_leave 7 = .ok (.ifCond .lt 11, 3) := by decide +kernel
theorem dX2_leave_10 : decode cX2_leave 10 = .ok (.iload_n 2, 1) := by decide +kernel
theorem dX2_leave_11 : decode cX2_leave 11 = .ok (.aload_n 0, 1) := by decide +kernel
theorem dX2_leave_12 : decode cX2_leave 12 = .ok (.getfield 47, 3) := by decide +kernel
theorem dX2_leave_15 : decode cX2_leave 15 = .ok (.if_icmp .le 13, 3) := by decide +kernel
theorem dX2_leave_18 : decode cX2_leave 18 = .ok (.new 115, 3) := by decide +kernel
theorem dX2_leave_21 : decode cX2_leave 21 = .ok (.dup, 1) := by decide +kernel
theorem dX2_leave_22 : decode cX2_leave 22 = .ok (.ldc 154, 2) := by decide +kernel
theorem dX2_leave_24 : decode cX2_leave 24 = .ok (.invokespecial 119, 3) := by decide +kernel
theorem dX2_leave_27 : decode cX2_leave 27 = .ok (.athrow, 1) := by decide +kernel
theorem dX2_leave_28 : decode cX2_leave 28 = .ok (.aload_n 3, 1) := by decide +kernel
theorem dX2_leave_29 : decode cX2_leave 29 = .ok (.invokevirtual 156, 3) := by decide +kernel
theorem dX2_leave_32 : decode cX2_leave 32 = .ok (.ifCond .eq 11, 3) := by decide +kernel
theorem dX2_leave_35 : decode cX2_leave 35 = .ok (.iload_n 2, 1) := by decide +kernel
theorem dX2_leave_36 : decode cX2_leave 36 = .ok (.aload_n 0, 1) := by decide +kernel
theorem dX2_leave_37 : decode cX2_leave 37 = .ok (.getfield 50, 3) := by decide +kernel
theorem dX2_leave_40 : decode cX2_leave 40 = .ok (.if_icmp .ge 13, 3) := by decide +kernel
theorem dX2_leave_43 : decode cX2_leave 43 = .ok (.new 71, 3) := by decide +kernel
theorem dX2_leave_46 : decode cX2_leave 46 = .ok (.dup, 1) := by decide +kernel
theorem dX2_leave_47 : decode cX2_leave 47 = .ok (.ldc 160, 2) := by decide +kernel
theorem dX2_leave_49 : decode cX2_leave 49 = .ok (.invokespecial 75, 3) := by decide +kernel
theorem dX2_leave_52 : decode cX2_leave 52 = .ok (.athrow, 1) := by decide +kernel
theorem dX2_leave_53 : decode cX2_leave 53 = .ok (.aload_n 3, 1) := by decide +kernel
theorem dX2_leave_54 : decode cX2_leave 54 = .ok (.getfield 162, 3) := by decide +kernel
theorem dX2_leave_57 : decode cX2_leave 57 = .ok (.istore 4, 2) := by decide +kernel
theorem dX2_leave_59 : decode cX2_leave 59 = .ok (.aload_n 0, 1) := by decide +kernel
theorem dX2_leave_60 : decode cX2_leave 60 = .ok (.iload_n 2, 1) := by decide +kernel
theorem dX2_leave_61 : decode cX2_leave 61 = .ok (.putfield 50, 3) := by decide +kernel
theorem dX2_leave_64 : decode cX2_leave 64 = .ok (.aload_n 0, 1) := by decide +kernel
theorem dX2_leave_65 : decode cX2_leave 65 = .ok (.dup, 1) := by decide +kernel
theorem dX2_leave_66 : decode cX2_leave 66 = .ok (.getfield 53, 3) := by decide +kernel
theorem dX2_leave_69 : decode cX2_leave 69 = .ok (.aload_n 3, 1) := by decide +kernel
theorem dX2_leave_70 : decode cX2_leave 70 = .ok (.iload_n 2, 1) := by decide +kernel
theorem dX2_leave_71 : decode cX2_leave 71 = .ok (.invokevirtual 165, 3) := by decide +kernel
theorem dX2_leave_74 : decode cX2_leave 74 = .ok (.iadd, 1) := by decide +kernel
theorem dX2_leave_75 : decode cX2_leave 75 = .ok (.putfield 53, 3) := by decide +kernel
theorem dX2_leave_78 : decode cX2_leave 78 = .ok (.iload 4, 2) := by decide +kernel
theorem dX2_leave_80 : decode cX2_leave 80 = .ok (.ireturn, 1) := by decide +kernel
theorem dX2_replace_0 : decode cX2_replace 0 = .ok (.aload_n 0, 1) := by decide +kernel
theorem dX2_replace_1 : decode cX2_replace 1 = .ok (.iload_n 1, 1) := by decide +kernel
theorem dX2_replace_2 : decode cX2_replace 2 = .ok (.invokevirtual 169, 3) := by decide +kernel
theorem dX2_replace_5 : decode cX2_replace 5 = .ok (.aload_n 0, 1) := by decide +kernel
theorem dX2_replace_6 : decode cX2_replace 6 = .ok (.iload_n 1, 1) := by decide +kernel
theorem dX2_replace_7 : decode cX2_replace 7 = .ok (.invokevirtual 172, 3) := by decide +kernel
theorem dX2_replace_10 : decode cX2_replace 10 = .ok (.ifCond .ne 13, 3) := by decide +kernel
theorem dX2_replace_13 : decode cX2_replace 13 = .ok (.new 71, 3) := by decide +kernel
theorem dX2_replace_16 : decode cX2_replace 16 = .ok (.dup, 1) := by decide +kernel
theorem dX2_replace_17 : decode cX2_replace 17 = .ok (.ldc 176, 2) := by decide +kernel
theorem dX2_replace_19 : decode cX2_replace 19 = .ok (.invokespecial 75, 3) := by decide +kernel
theorem dX2_replace_22 : decode cX2_replace 22 = .ok (.athrow, 1) := by decide +kernel
theorem dX2_replace_23 : decode cX2_replace 23 = .ok (.aload_n 0, 1) := by decide +kernel
theorem dX2_replace_24 : decode cX2_replace 24 = .ok (.getfield 37, 3) := by decide +kernel
theorem dX2_replace_27 : decode cX2_replace 27 = .ok (.iload_n 1, 1) := by decide +kernel
theorem dX2_replace_28 : decode cX2_replace 28 = .ok (.iaload, 1) := by decide +kernel
theorem dX2_replace_29 : decode cX2_replace 29 = .ok (.istore_n 2, 1) := by decide +kernel
theorem dX2_replace_30 : decode cX2_replace 30 = .ok (.aload_n 0, 1) := by decide +kernel
theorem dX2_replace_31 : decode cX2_replace 31 = .ok (.invokevirtual 120, 3) := by decide +kernel
theorem dX2_replace_34 : decode cX2_replace 34 = .ok (.iconst 0, 1) := by decide +kernel
theorem dX2_replace_35 : decode cX2_replace 35 = .ok (.istore_n 3, 1) := by decide +kernel
theorem dX2_replace_36 : decode cX2_replace 36 = .ok (.iload_n 3, 1) := by decide +kernel
theorem dX2_replace_37 : decode cX2_replace 37 = .ok (.aload_n 0, 1) := by decide +kernel
theorem dX2_replace_38 : decode cX2_replace 38 = .ok (.getfield 16, 3) := by decide +kernel
theorem dX2_replace_41 : decode cX2_replace 41 = .ok (.invokevirtual 67, 3) := by decide +kernel
theorem dX2_replace_44 : decode cX2_replace 44 = .ok (.if_icmp .ge 66, 3) := by decide +kernel
theorem dX2_replace_47 : decode cX2_replace 47 = .ok (.aload_n 0, 1) := by decide +kernel
theorem dX2_replace_48 : decode cX2_replace 48 = .ok (.getfield 16, 3) := by decide +kernel
theorem dX2_replace_51 : decode cX2_replace 51 = .ok (.iload_n 3, 1) := by decide +kernel
theorem dX2_replace_52 : decode cX2_replace 52 = .ok (.invokevirtual 123, 3) := by decide +kernel
theorem dX2_replace_55 : decode cX2_replace 55 = .ok (.checkcast 78, 3) := by decide +kernel
theorem dX2_replace_58 : decode cX2_replace 58 = .ok (.astore 4, 2) := by decide +kernel
theorem dX2_replace_60 : decode cX2_replace 60 = .ok (.aload 4, 2) := by decide +kernel
theorem dX2_replace_62 : decode cX2_replace 62 = .ok (.invokevirtual 178, 3) := by decide +kernel
theorem dX2_replace_65 : decode cX2_replace 65 = .ok (.ifCond .eq 39, 3) := by decide +kernel
theorem dX2_replace_68 : decode cX2_replace 68 = .ok (.aload 4, 2) := by decide +kernel
theorem dX2_replace_70 : decode cX2_replace 70 = .ok (.iload_n 2, 1) := by decide +kernel
theorem dX2_replace_71 : decode cX2_replace 71 = .ok (.invokevirtual 181, 3) := by decide +kernel
theorem dX2_replace_74 : decode cX2_replace 74 = .ok (.ifCond .eq 30, 3) := by decide +kernel
theorem dX2_replace_77 : decode cX2_replace 77 = .ok (.aload 4, 2) := by decide +kernel
theorem dX2_replace_79 : decode cX2_replace 79 = .ok (.getfield 112, 3) := by decide +kernel
theorem dX2_replace_82 : decode cX2_replace 82 = .ok (.ifCond .ne 16, 3) := by decide +kernel
theorem dX2_replace_85 : decode cX2_replace 85 = .ok (.aload_n 0, 1) := by decide +kernel
theorem dX2_replace_86 : decode cX2_replace 86 = .ok (.aload 4, 2) := by decide +kernel
theorem dX2_replace_88 : decode cX2_replace 88 = .ok (.iload_n 1, 1) := by decide +kernel
theorem dX2_replace_89 : decode cX2_replace 89 = .ok (.invokevirtual 184, 3) := by decide +kernel
theorem dX2_replace_92 : decode cX2_replace 92 = .ok (.aload 4, 2) := by decide +kernel
theorem dX2_replace_94 : decode cX2_replace 94 = .ok (.getfield 87, 3) := by decide +kernel
theorem dX2_replace_97 : decode cX2_replace 97 = .ok (.ireturn, 1) := by decide +kernel
theorem dX2_replace_98 : decode cX2_replace 98 = .ok (.aload_n 0, 1) := by decide +kernel
theorem dX2_replace_99 : decode cX2_replace 99 = .ok (.aload 4, 2) := by decide +kernel
theorem dX2_replace_101 : decode cX2_replace 101 = .ok (.invokevirtual 188, 3) := by decide +kernel
theorem dX2_replace_104 : decode cX2_replace 104 = .ok (.iinc 3 1, 3) := by decide +kernel
theorem dX2_replace_107 : decode cX2_replace 107 = .ok (.goto (-71), 3) := by decide +kernel
theorem dX2_replace_110 : decode cX2_replace 110 = .ok (.iconst (-1), 1) := by decide +kernel
theorem dX2_replace_111 : decode cX2_replace 111 = .ok (.ireturn, 1) := by decide +kernel
theorem dX2_endShift_0 : decode cX2_endShift 0 = .ok (.aload_n 0, 1) := by decide +kernel
theorem dX2_endShift_1 : decode cX2_endShift 1 = .ok (.getfield 53, 3) := by decide +kernel
theorem dX2_endShift_4 : decode cX2_endShift 4 = .ok (.istore_n 1, 1) := by decide +kernel
theorem dX2_endShift_5 : decode cX2_endShift 5 = .ok (.iconst 0, 1) := by decide +kernel
theorem dX2_endShift_6 : decode cX2_endShift 6 = .ok (.istore_n 2, 1) := by decide +kernel
theorem dX2_endShift_7 : decode cX2_endShift 7 = .ok (.iload_n 2, 1) := by decide +kernel
theorem dX2_endShift_8 : decode cX2_endShift 8 = .ok (.aload_n 0, 1) := by decide +kernel
theorem dX2_endShift_9 : decode cX2_endShift 9 = .ok (.getfield 10, 3) := by decide +kernel
theorem dX2_endShift_12 : decode cX2_endShift 12 = .ok (.invokevirtual 67, 3) := by decide +kernel
theorem dX2_endShift_15 : decode cX2_endShift 15 = .ok (.if_icmp .ge 49, 3) := by decide +kernel
theorem dX2_endShift_18 : decode cX2_endShift 18 = .ok (.aload_n 0, 1) := by decide +kernel
theorem dX2_endShift_19 : decode cX2_endShift 19 = .ok (.getfield 10, 3) := by decide +kernel
theorem dX2_endShift_22 : decode cX2_endShift 22 = .ok (.iload_n 2, 1) := by decide +kernel
theorem dX2_endShift_23 : decode cX2_endShift 23 = .ok (.invokevirtual 123, 3) := by decide +kernel
theorem dX2_endShift_26 : decode cX2_endShift 26 = .ok (.checkcast 78, 3) := by decide +kernel
theorem dX2_endShift_29 : decode cX2_endShift 29 = .ok (.astore_n 3, 1) := by decide +kernel
theorem dX2_endShift_30 : decode cX2_endShift 30 = .ok (.aload_n 3, 1) := by decide +kernel
theorem dX2_endShift_31 : decode cX2_endShift 31 = .ok (.invokevirtual 156, 3) := by decide +kernel
theorem dX2_endShift_34 : decode cX2_endShift 34 = .ok (.ifCond .eq 14, 3) := by decide +kernel
theorem dX2_endShift_37 : decode cX2_endShift 37 = .ok (.iload_n 1, 1) := by decide +kernel
theorem dX2_endShift_38 : decode cX2_endShift 38 = .ok (.aload_n 3, 1) := by decide +kernel
theorem dX2_endShift_39 : decode cX2_endShift 39 = .ok (.aload_n 0, 1) := by decide +kernel
theorem dX2_endShift_40 : decode cX2_endShift 40 = .ok (.getfield 47, 3) := by decide +kernel
theorem dX2_endShift_43 : decode cX2_endShift 43 = .ok (.invokevirtual 165, 3) := by decide +kernel
theorem dX2_endShift_46 : decode cX2_endShift 46 = .ok (.iadd, 1) := by decide +kernel
theorem dX2_endShift_47 : decode cX2_endShift 47 = .ok (.istore_n 1, 1) := by decide +kernel
theorem dX2_endShift_48 : decode cX2_endShift 48 = .ok (.aload_n 3, 1) := by decide +kernel
theorem dX2_endShift_49 : decode cX2_endShift 49 = .ok (.iconst 0, 1) := by decide +kernel
theorem dX2_endShift_50 : decode cX2_endShift 50 = .ok (.putfield 191, 3) := by decide +kernel
theorem dX2_endShift_53 : decode cX2_endShift 53 = .ok (.aload_n 3, 1) := by decide +kernel
theorem dX2_endShift_54 : decode cX2_endShift 54 = .ok (.iconst 0, 1) := by decide +kernel
theorem dX2_endShift_55 : decode cX2_endShift 55 = .ok (.putfield 112, 3) := by decide +kernel
theorem dX2_endShift_58 : decode cX2_endShift 58 = .ok (.iinc 2 1, 3) := by decide +kernel
theorem dX2_endShift_61 : decode cX2_endShift 61 = .ok (.goto (-54), 3) := by decide +kernel
theorem dX2_endShift_64 : decode cX2_endShift 64 = .ok (.aload_n 0, 1) := by decide +kernel
theorem dX2_endShift_65 : decode cX2_endShift 65 = .ok (.iconst 0, 1) := by decide +kernel
theorem dX2_endShift_66 : decode cX2_endShift 66 = .ok (.putfield 44, 3) := by decide +kernel
theorem dX2_endShift_69 : decode cX2_endShift 69 = .ok (.aload_n 0, 1) := by decide +kernel
theorem dX2_endShift_70 : decode cX2_endShift 70 = .ok (.iconst 0, 1) := by decide +kernel
theorem dX2_endShift_71 : decode cX2_endShift 71 = .ok (.putfield 50, 3) := by decide +kernel
theorem dX2_endShift_74 : decode cX2_endShift 74 = .ok (.aload_n 0, 1) := by decide +kernel
theorem dX2_endShift_75 : decode cX2_endShift 75 = .ok (.iconst 0, 1) := by decide +kernel
theorem dX2_endShift_76 : decode cX2_endShift 76 = .ok (.putfield 53, 3) := by decide +kernel
theorem dX2_endShift_79 : decode cX2_endShift 79 = .ok (.aload_n 0, 1) := by decide +kernel
theorem dX2_endShift_80 : decode cX2_endShift 80 = .ok (.iconst 0, 1) := by decide +kernel
theorem dX2_endShift_81 : decode cX2_endShift 81 = .ok (.putfield 56, 3) := by decide +kernel
theorem dX2_endShift_84 : decode cX2_endShift 84 = .ok (.iload_n 1, 1) := by decide +kernel
theorem dX2_endShift_85 : decode cX2_endShift 85 = .ok (.ireturn, 1) := by decide +kernel
theorem dX2_endPeriod_0 : decode cX2_endPeriod 0 = .ok (.aload_n 0, 1) := by decide +kernel
theorem dX2_endPeriod_1 : decode cX2_endPeriod 1 = .ok (.invokevirtual 151, 3) := by decide +kernel
theorem dX2_endPeriod_4 : decode cX2_endPeriod 4 = .ok (.iconst 0, 1) := by decide +kernel
theorem dX2_endPeriod_5 : decode cX2_endPeriod 5 = .ok (.istore_n 1, 1) := by decide +kernel
theorem dX2_endPeriod_6 : decode cX2_endPeriod 6 = .ok (.iconst 0, 1) := by decide +kernel
theorem dX2_endPeriod_7 : decode cX2_endPeriod 7 = .ok (.istore_n 2, 1) := by decide +kernel
theorem dX2_endPeriod_8 : decode cX2_endPeriod 8 = .ok (.iload_n 2, 1) := by decide +kernel
theorem dX2_endPeriod_9 : decode cX2_endPeriod 9 = .ok (.aload_n 0, 1) := by decide +kernel
theorem dX2_endPeriod_10 : decode cX2_endPeriod 10 = .ok (.getfield 10, 3) := by decide +kernel
theorem dX2_endPeriod_13 : decode cX2_endPeriod 13 = .ok (.invokevirtual 67, 3) := by decide +kernel
theorem dX2_endPeriod_16 : decode cX2_endPeriod 16 = .ok (.if_icmp .ge 39, 3) := by decide +kernel
theorem dX2_endPeriod_19 : decode cX2_endPeriod 19 = .ok (.aload_n 0, 1) := by decide +kernel
theorem dX2_endPeriod_20 : decode cX2_endPeriod 20 = .ok (.getfield 10, 3) := by decide +kernel
theorem dX2_endPeriod_23 : decode cX2_endPeriod 23 = .ok (.iload_n 2, 1) := by decide +kernel
theorem dX2_endPeriod_24 : decode cX2_endPeriod 24 = .ok (.invokevirtual 123, 3) := by decide +kernel
theorem dX2_endPeriod_27 : decode cX2_endPeriod 27 = .ok (.checkcast 78, 3) := by decide +kernel
theorem dX2_endPeriod_30 : decode cX2_endPeriod 30 = .ok (.astore_n 3, 1) := by decide +kernel
theorem dX2_endPeriod_31 : decode cX2_endPeriod 31 = .ok (.iload_n 1, 1) := by decide +kernel
theorem dX2_endPeriod_32 : decode cX2_endPeriod 32 = .ok (.aload_n 0, 1) := by decide +kernel
theorem dX2_endPeriod_33 : decode cX2_endPeriod 33 = .ok (.aload_n 3, 1) := by decide +kernel
theorem dX2_endPeriod_34 : decode cX2_endPeriod 34 = .ok (.invokevirtual 194, 3) := by decide +kernel
theorem dX2_endPeriod_37 : decode cX2_endPeriod 37 = .ok (.iadd, 1) := by decide +kernel
theorem dX2_endPeriod_38 : decode cX2_endPeriod 38 = .ok (.istore_n 1, 1) := by decide +kernel
theorem dX2_endPeriod_39 : decode cX2_endPeriod 39 = .ok (.aload_n 3, 1) := by decide +kernel
theorem dX2_endPeriod_40 : decode cX2_endPeriod 40 = .ok (.iconst 0, 1) := by decide +kernel
theorem dX2_endPeriod_41 : decode cX2_endPeriod 41 = .ok (.putfield 100, 3) := by decide +kernel
theorem dX2_endPeriod_44 : decode cX2_endPeriod 44 = .ok (.aload_n 3, 1) := by decide +kernel
theorem dX2_endPeriod_45 : decode cX2_endPeriod 45 = .ok (.iconst 0, 1) := by decide +kernel
theorem dX2_endPeriod_46 : decode cX2_endPeriod 46 = .ok (.putfield 198, 3) := by decide +kernel
theorem dX2_endPeriod_49 : decode cX2_endPeriod 49 = .ok (.iinc 2 1, 3) := by decide +kernel
theorem dX2_endPeriod_52 : decode cX2_endPeriod 52 = .ok (.goto (-44), 3) := by decide +kernel
theorem dX2_endPeriod_55 : decode cX2_endPeriod 55 = .ok (.iload_n 1, 1) := by decide +kernel
theorem dX2_endPeriod_56 : decode cX2_endPeriod 56 = .ok (.ireturn, 1) := by decide +kernel
theorem dX2_workers_0 : decode cX2_workers 0 = .ok (.aload_n 0, 1) := by decide +kernel
theorem dX2_workers_1 : decode cX2_workers 1 = .ok (.getfield 10, 3) := by decide +kernel
theorem dX2_workers_4 : decode cX2_workers 4 = .ok (.invokevirtual 67, 3) := by decide +kernel
theorem dX2_workers_7 : decode cX2_workers 7 = .ok (.ireturn, 1) := by decide +kernel
theorem dX2_boardOf_0 : decode cX2_boardOf 0 = .ok (.aload_n 0, 1) := by decide +kernel
theorem dX2_boardOf_1 : decode cX2_boardOf 1 = .ok (.iload_n 1, 1) := by decide +kernel
theorem dX2_boardOf_2 : decode cX2_boardOf 2 = .ok (.invokevirtual 90, 3) := by decide +kernel
theorem dX2_boardOf_5 : decode cX2_boardOf 5 = .ok (.getfield 106, 3) := by decide +kernel
theorem dX2_boardOf_8 : decode cX2_boardOf 8 = .ok (.ireturn, 1) := by decide +kernel
theorem dX2_rankOf_0 : decode cX2_rankOf 0 = .ok (.aload_n 0, 1) := by decide +kernel
theorem dX2_rankOf_1 : decode cX2_rankOf 1 = .ok (.iload_n 1, 1) := by decide +kernel
theorem dX2_rankOf_2 : decode cX2_rankOf 2 = .ok (.invokevirtual 90, 3) := by decide +kernel
theorem dX2_rankOf_5 : decode cX2_rankOf 5 = .ok (.astore_n 2, 1) := by decide +kernel
theorem dX2_rankOf_6 : decode cX2_rankOf 6 = .ok (.iconst 0, 1) := by decide +kernel
theorem dX2_rankOf_7 : decode cX2_rankOf 7 = .ok (.istore_n 3, 1) := by decide +kernel
theorem dX2_rankOf_8 : decode cX2_rankOf 8 = .ok (.iconst 0, 1) := by decide +kernel
theorem dX2_rankOf_9 : decode cX2_rankOf 9 = .ok (.istore 4, 2) := by decide +kernel
theorem dX2_rankOf_11 : decode cX2_rankOf 11 = .ok (.iload 4, 2) := by decide +kernel
theorem dX2_rankOf_13 : decode cX2_rankOf 13 = .ok (.aload_n 0, 1) := by decide +kernel
theorem dX2_rankOf_14 : decode cX2_rankOf 14 = .ok (.getfield 10, 3) := by decide +kernel
theorem dX2_rankOf_17 : decode cX2_rankOf 17 = .ok (.invokevirtual 67, 3) := by decide +kernel
theorem dX2_rankOf_20 : decode cX2_rankOf 20 = .ok (.if_icmp .ge 47, 3) := by decide +kernel
theorem dX2_rankOf_23 : decode cX2_rankOf 23 = .ok (.aload_n 0, 1) := by decide +kernel
theorem dX2_rankOf_24 : decode cX2_rankOf 24 = .ok (.getfield 10, 3) := by decide +kernel
theorem dX2_rankOf_27 : decode cX2_rankOf 27 = .ok (.iload 4, 2) := by decide +kernel
theorem dX2_rankOf_29 : decode cX2_rankOf 29 = .ok (.invokevirtual 123, 3) := by decide +kernel
theorem dX2_rankOf_32 : decode cX2_rankOf 32 = .ok (.aload_n 2, 1) := by decide +kernel
theorem dX2_rankOf_33 : decode cX2_rankOf 33 = .ok (.if_acmp .eq 34, 3) := by decide +kernel
theorem dX2_rankOf_36 : decode cX2_rankOf 36 = .ok (.aload_n 0, 1) := by decide +kernel
theorem dX2_rankOf_37 : decode cX2_rankOf 37 = .ok (.getfield 10, 3) := by decide +kernel
theorem dX2_rankOf_40 : decode cX2_rankOf 40 = .ok (.iload 4, 2) := by decide +kernel
theorem dX2_rankOf_42 : decode cX2_rankOf 42 = .ok (.invokevirtual 123, 3) := by decide +kernel
theorem dX2_rankOf_45 : decode cX2_rankOf 45 = .ok (.checkcast 78, 3) := by decide +kernel
theorem dX2_rankOf_48 : decode cX2_rankOf 48 = .ok (.getfield 106, 3) := by decide +kernel
theorem dX2_rankOf_51 : decode cX2_rankOf 51 = .ok (.aload_n 2, 1) := by decide +kernel
theorem dX2_rankOf_52 : decode cX2_rankOf 52 = .ok (.getfield 106, 3) := by decide +kernel
theorem dX2_rankOf_55 : decode cX2_rankOf 55 = .ok (.if_icmp .ne 6, 3) := by decide +kernel
theorem dX2_rankOf_58 : decode cX2_rankOf 58 = .ok (.iinc 3 1, 3) := by decide +kernel
theorem dX2_rankOf_61 : decode cX2_rankOf 61 = .ok (.iinc 4 1, 3) := by decide +kernel
theorem dX2_rankOf_64 : decode cX2_rankOf 64 = .ok (.goto (-53), 3) := by decide +kernel
theorem dX2_rankOf_67 : decode cX2_rankOf 67 = .ok (.iload_n 3, 1) := by decide +kernel
theorem dX2_rankOf_68 : decode cX2_rankOf 68 = .ok (.ireturn, 1) := by decide +kernel
theorem dX2_hoursOf_0 : decode cX2_hoursOf 0 = .ok (.aload_n 0, 1) := by decide +kernel
theorem dX2_hoursOf_1 : decode cX2_hoursOf 1 = .ok (.iload_n 1, 1) := by decide +kernel
theorem dX2_hoursOf_2 : decode cX2_hoursOf 2 = .ok (.invokevirtual 90, 3) := by decide +kernel
theorem dX2_hoursOf_5 : decode cX2_hoursOf 5 = .ok (.getfield 100, 3) := by decide +kernel
theorem dX2_hoursOf_8 : decode cX2_hoursOf 8 = .ok (.ireturn, 1) := by decide +kernel
theorem dX2_refusalsOf_0 : decode cX2_refusalsOf 0 = .ok (.aload_n 0, 1) := by decide +kernel
theorem dX2_refusalsOf_1 : decode cX2_refusalsOf 1 = .ok (.iload_n 1, 1) := by decide +kernel
theorem dX2_refusalsOf_2 : decode cX2_refusalsOf 2 = .ok (.invokevirtual 90, 3) := by decide +kernel
theorem dX2_refusalsOf_5 : decode cX2_refusalsOf 5 = .ok (.getfield 198, 3) := by decide +kernel
theorem dX2_refusalsOf_8 : decode cX2_refusalsOf 8 = .ok (.ireturn, 1) := by decide +kernel
theorem dX2_placeOf_0 : decode cX2_placeOf 0 = .ok (.aload_n 0, 1) := by decide +kernel
theorem dX2_placeOf_1 : decode cX2_placeOf 1 = .ok (.iload_n 1, 1) := by decide +kernel
theorem dX2_placeOf_2 : decode cX2_placeOf 2 = .ok (.invokevirtual 90, 3) := by decide +kernel
theorem dX2_placeOf_5 : decode cX2_placeOf 5 = .ok (.getfield 162, 3) := by decide +kernel
theorem dX2_placeOf_8 : decode cX2_placeOf 8 = .ok (.ireturn, 1) := by decide +kernel
theorem dX2_owedTo_0 : decode cX2_owedTo 0 = .ok (.aload_n 0, 1) := by decide +kernel
theorem dX2_owedTo_1 : decode cX2_owedTo 1 = .ok (.aload_n 0, 1) := by decide +kernel
theorem dX2_owedTo_2 : decode cX2_owedTo 2 = .ok (.iload_n 1, 1) := by decide +kernel
theorem dX2_owedTo_3 : decode cX2_owedTo 3 = .ok (.invokevirtual 90, 3) := by decide +kernel
theorem dX2_owedTo_6 : decode cX2_owedTo 6 = .ok (.invokevirtual 194, 3) := by decide +kernel
