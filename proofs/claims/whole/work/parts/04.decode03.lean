theorem dX3_lineUp_28 : decode cX3_lineUp 28 = .ok (.aload_n 0, 1) := by decide +kernel
theorem dX3_lineUp_29 : decode cX3_lineUp 29 = .ok (.getfield 60, 3) := by decide +kernel
theorem dX3_lineUp_32 : decode cX3_lineUp 32 = .ok (.iload_n 3, 1) := by decide +kernel
theorem dX3_lineUp_33 : decode cX3_lineUp 33 = .ok (.iconst 1, 1) := by decide +kernel
theorem dX3_lineUp_34 : decode cX3_lineUp 34 = .ok (.isub, 1) := by decide +kernel
theorem dX3_lineUp_35 : decode cX3_lineUp 35 = .ok (.iaload, 1) := by decide +kernel
theorem dX3_lineUp_36 : decode cX3_lineUp 36 = .ok (.invokevirtual 79, 3) := by decide +kernel
theorem dX3_lineUp_39 : decode cX3_lineUp 39 = .ok (.ifCond .eq 23, 3) := by decide +kernel
theorem dX3_lineUp_42 : decode cX3_lineUp 42 = .ok (.aload_n 0, 1) := by decide +kernel
theorem dX3_lineUp_43 : decode cX3_lineUp 43 = .ok (.getfield 60, 3) := by decide +kernel
theorem dX3_lineUp_46 : decode cX3_lineUp 46 = .ok (.iload_n 3, 1) := by decide +kernel
theorem dX3_lineUp_47 : decode cX3_lineUp 47 = .ok (.aload_n 0, 1) := by decide +kernel
theorem dX3_lineUp_48 : decode cX3_lineUp 48 = .ok (.getfield 60, 3) := by decide +kernel
theorem dX3_lineUp_51 : decode cX3_lineUp 51 = .ok (.iload_n 3, 1) := by decide +kernel
theorem dX3_lineUp_52 : decode cX3_lineUp 52 = .ok (.iconst 1, 1) := by decide +kernel
theorem dX3_lineUp_53 : decode cX3_lineUp 53 = .ok (.isub, 1) := by decide +kernel
theorem dX3_lineUp_54 : decode cX3_lineUp 54 = .ok (.iaload, 1) := by decide +kernel
theorem dX3_lineUp_55 : decode cX3_lineUp 55 = .ok (.iastore, 1) := by decide +kernel
theorem dX3_lineUp_56 : decode cX3_lineUp 56 = .ok (.iinc 3 (-1), 3) := by decide +kernel
theorem dX3_lineUp_59 : decode cX3_lineUp 59 = .ok (.goto (-37), 3) := by decide +kernel
theorem dX3_lineUp_62 : decode cX3_lineUp 62 = .ok (.aload_n 0, 1) := by decide +kernel
theorem dX3_lineUp_63 : decode cX3_lineUp 63 = .ok (.getfield 60, 3) := by decide +kernel
theorem dX3_lineUp_66 : decode cX3_lineUp 66 = .ok (.iload_n 3, 1) := by decide +kernel
theorem dX3_lineUp_67 : decode cX3_lineUp 67 = .ok (.iload_n 2, 1) := by decide +kernel
theorem dX3_lineUp_68 : decode cX3_lineUp 68 = .ok (.iastore, 1) := by decide +kernel
theorem dX3_lineUp_69 : decode cX3_lineUp 69 = .ok (.iinc 1 1, 3) := by decide +kernel
theorem dX3_lineUp_72 : decode cX3_lineUp 72 = .ok (.iinc 2 1, 3) := by decide +kernel
theorem dX3_lineUp_75 : decode cX3_lineUp 75 = .ok (.goto (-71), 3) := by decide +kernel
theorem dX3_lineUp_78 : decode cX3_lineUp 78 = .ok (.iload_n 1, 1) := by decide +kernel
theorem dX3_lineUp_79 : decode cX3_lineUp 79 = .ok (.ireturn, 1) := by decide +kernel
theorem dX3_signOn_0 : decode cX3_signOn 0 = .ok (.aload_n 0, 1) := by decide +kernel
theorem dX3_signOn_1 : decode cX3_signOn 1 = .ok (.iload_n 1, 1) := by decide +kernel
theorem dX3_signOn_2 : decode cX3_signOn 2 = .ok (.invokestatic 83, 3) := by decide +kernel
theorem dX3_signOn_5 : decode cX3_signOn 5 = .ok (.ifCond .eq 17, 3) := by decide +kernel
theorem dX3_signOn_8 : decode cX3_signOn 8 = .ok (.iload_n 2, 1) := by decide +kernel
theorem dX3_signOn_9 : decode cX3_signOn 9 = .ok (.iconst 0, 1) := by decide +kernel
theorem dX3_signOn_10 : decode cX3_signOn 10 = .ok (.bipush 31, 2) := by decide +kernel
theorem dX3_signOn_12 : decode cX3_signOn 12 = .ok (.invokestatic 72, 3) := by decide +kernel
theorem dX3_signOn_15 : decode cX3_signOn 15 = .ok (.ifCond .eq 7, 3) := by decide +kernel
theorem dX3_signOn_18 : decode cX3_signOn 18 = .ok (.iconst 1, 1) := by decide +kernel
theorem dX3_signOn_19 : decode cX3_signOn 19 = .ok (.goto 4, 3) := by decide +kernel
theorem dX3_signOn_22 : decode cX3_signOn 22 = .ok (.iconst 0, 1) := by decide +kernel
theorem dX3_signOn_23 : decode cX3_signOn 23 = .ok (.aload_n 0, 1) := by decide +kernel
theorem dX3_signOn_24 : decode cX3_signOn 24 = .ok (.invokevirtual 87, 3) := by decide +kernel
theorem dX3_signOn_27 : decode cX3_signOn 27 = .ok (.bipush 30, 2) := by decide +kernel
theorem dX3_signOn_29 : decode cX3_signOn 29 = .ok (.if_icmp .ge 7, 3) := by decide +kernel
theorem dX3_signOn_32 : decode cX3_signOn 32 = .ok (.iconst 1, 1) := by decide +kernel
theorem dX3_signOn_33 : decode cX3_signOn 33 = .ok (.goto 4, 3) := by decide +kernel
theorem dX3_signOn_36 : decode cX3_signOn 36 = .ok (.iconst 0, 1) := by decide +kernel
theorem dX3_signOn_37 : decode cX3_signOn 37 = .ok (.iconst 1, 1) := by decide +kernel
theorem dX3_signOn_38 : decode cX3_signOn 38 = .ok (.invokevirtual 91, 3) := by decide +kernel
theorem dX3_signOn_41 : decode cX3_signOn 41 = .ok (.ifCond .ne 5, 3) := by decide +kernel
theorem dX3_signOn_44 : decode cX3_signOn 44 = .ok (.iconst 0, 1) := by decide +kernel
theorem dX3_signOn_45 : decode cX3_signOn 45 = .ok (.ireturn, 1) := by decide +kernel
theorem dX3_signOn_46 : decode cX3_signOn 46 = .ok (.iconst 0, 1) := by decide +kernel
theorem dX3_signOn_47 : decode cX3_signOn 47 = .ok (.istore_n 3, 1) := by decide +kernel
theorem dX3_signOn_48 : decode cX3_signOn 48 = .ok (.aload_n 0, 1) := by decide +kernel
theorem dX3_signOn_49 : decode cX3_signOn 49 = .ok (.getfield 7, 3) := by decide +kernel
theorem dX3_signOn_52 : decode cX3_signOn 52 = .ok (.iload_n 3, 1) := by decide +kernel
theorem dX3_signOn_53 : decode cX3_signOn 53 = .ok (.iaload, 1) := by decide +kernel
theorem dX3_signOn_54 : decode cX3_signOn 54 = .ok (.iconst (-1), 1) := by decide +kernel
theorem dX3_signOn_55 : decode cX3_signOn 55 = .ok (.if_icmp .eq 9, 3) := by decide +kernel
theorem dX3_signOn_58 : decode cX3_signOn 58 = .ok (.iinc 3 1, 3) := by decide +kernel
theorem dX3_signOn_61 : decode cX3_signOn 61 = .ok (.goto (-13), 3) := by decide +kernel
theorem dX3_signOn_64 : decode cX3_signOn 64 = .ok (.aload_n 0, 1) := by decide +kernel
theorem dX3_signOn_65 : decode cX3_signOn 65 = .ok (.getfield 7, 3) := by decide +kernel
theorem dX3_signOn_68 : decode cX3_signOn 68 = .ok (.iload_n 3, 1) := by decide +kernel
theorem dX3_signOn_69 : decode cX3_signOn 69 = .ok (.aload_n 0, 1) := by decide +kernel
theorem dX3_signOn_70 : decode cX3_signOn 70 = .ok (.getfield 95, 3) := by decide +kernel
theorem dX3_signOn_73 : decode cX3_signOn 73 = .ok (.iastore, 1) := by decide +kernel
theorem dX3_signOn_74 : decode cX3_signOn 74 = .ok (.aload_n 0, 1) := by decide +kernel
theorem dX3_signOn_75 : decode cX3_signOn 75 = .ok (.getfield 13, 3) := by decide +kernel
theorem dX3_signOn_78 : decode cX3_signOn 78 = .ok (.iload_n 3, 1) := by decide +kernel
theorem dX3_signOn_79 : decode cX3_signOn 79 = .ok (.iload_n 1, 1) := by decide +kernel
theorem dX3_signOn_80 : decode cX3_signOn 80 = .ok (.iastore, 1) := by decide +kernel
theorem dX3_signOn_81 : decode cX3_signOn 81 = .ok (.aload_n 0, 1) := by decide +kernel
theorem dX3_signOn_82 : decode cX3_signOn 82 = .ok (.getfield 19, 3) := by decide +kernel
theorem dX3_signOn_85 : decode cX3_signOn 85 = .ok (.iload_n 3, 1) := by decide +kernel
theorem dX3_signOn_86 : decode cX3_signOn 86 = .ok (.iload_n 2, 1) := by decide +kernel
theorem dX3_signOn_87 : decode cX3_signOn 87 = .ok (.iastore, 1) := by decide +kernel
theorem dX3_signOn_88 : decode cX3_signOn 88 = .ok (.aload_n 0, 1) := by decide +kernel
theorem dX3_signOn_89 : decode cX3_signOn 89 = .ok (.getfield 22, 3) := by decide +kernel
theorem dX3_signOn_92 : decode cX3_signOn 92 = .ok (.iload_n 3, 1) := by decide +kernel
theorem dX3_signOn_93 : decode cX3_signOn 93 = .ok (.iconst 0, 1) := by decide +kernel
theorem dX3_signOn_94 : decode cX3_signOn 94 = .ok (.bastore, 1) := by decide +kernel
theorem dX3_signOn_95 : decode cX3_signOn 95 = .ok (.aload_n 0, 1) := by decide +kernel
theorem dX3_signOn_96 : decode cX3_signOn 96 = .ok (.getfield 26, 3) := by decide +kernel
theorem dX3_signOn_99 : decode cX3_signOn 99 = .ok (.iload_n 3, 1) := by decide +kernel
theorem dX3_signOn_100 : decode cX3_signOn 100 = .ok (.iconst 0, 1) := by decide +kernel
theorem dX3_signOn_101 : decode cX3_signOn 101 = .ok (.bastore, 1) := by decide +kernel
theorem dX3_signOn_102 : decode cX3_signOn 102 = .ok (.aload_n 0, 1) := by decide +kernel
theorem dX3_signOn_103 : decode cX3_signOn 103 = .ok (.getfield 29, 3) := by decide +kernel
theorem dX3_signOn_106 : decode cX3_signOn 106 = .ok (.iload_n 3, 1) := by decide +kernel
theorem dX3_signOn_107 : decode cX3_signOn 107 = .ok (.iconst 0, 1) := by decide +kernel
theorem dX3_signOn_108 : decode cX3_signOn 108 = .ok (.bastore, 1) := by decide +kernel
theorem dX3_signOn_109 : decode cX3_signOn 109 = .ok (.aload_n 0, 1) := by decide +kernel
theorem dX3_signOn_110 : decode cX3_signOn 110 = .ok (.getfield 32, 3) := by decide +kernel
theorem dX3_signOn_113 : decode cX3_signOn 113 = .ok (.iload_n 3, 1) := by decide +kernel
theorem dX3_signOn_114 : decode cX3_signOn 114 = .ok (.iconst (-1), 1) := by decide +kernel
theorem dX3_signOn_115 : decode cX3_signOn 115 = .ok (.iastore, 1) := by decide +kernel
theorem dX3_signOn_116 : decode cX3_signOn 116 = .ok (.aload_n 0, 1) := by decide +kernel
theorem dX3_signOn_117 : decode cX3_signOn 117 = .ok (.getfield 38, 3) := by decide +kernel
theorem dX3_signOn_120 : decode cX3_signOn 120 = .ok (.iload_n 3, 1) := by decide +kernel
theorem dX3_signOn_121 : decode cX3_signOn 121 = .ok (.iconst 0, 1) := by decide +kernel
theorem dX3_signOn_122 : decode cX3_signOn 122 = .ok (.iastore, 1) := by decide +kernel
theorem dX3_signOn_123 : decode cX3_signOn 123 = .ok (.aload_n 0, 1) := by decide +kernel
theorem dX3_signOn_124 : decode cX3_signOn 124 = .ok (.getfield 41, 3) := by decide +kernel
theorem dX3_signOn_127 : decode cX3_signOn 127 = .ok (.iload_n 3, 1) := by decide +kernel
theorem dX3_signOn_128 : decode cX3_signOn 128 = .ok (.iconst 0, 1) := by decide +kernel
theorem dX3_signOn_129 : decode cX3_signOn 129 = .ok (.iastore, 1) := by decide +kernel
theorem dX3_signOn_130 : decode cX3_signOn 130 = .ok (.aload_n 0, 1) := by decide +kernel
theorem dX3_signOn_131 : decode cX3_signOn 131 = .ok (.iload_n 3, 1) := by decide +kernel
theorem dX3_signOn_132 : decode cX3_signOn 132 = .ok (.invokevirtual 98, 3) := by decide +kernel
theorem dX3_signOn_135 : decode cX3_signOn 135 = .ok (.aload_n 0, 1) := by decide +kernel
theorem dX3_signOn_136 : decode cX3_signOn 136 = .ok (.dup, 1) := by decide +kernel
theorem dX3_signOn_137 : decode cX3_signOn 137 = .ok (.getfield 95, 3) := by decide +kernel
theorem dX3_signOn_140 : decode cX3_signOn 140 = .ok (.iconst 1, 1) := by decide +kernel
theorem dX3_signOn_141 : decode cX3_signOn 141 = .ok (.iadd, 1) := by decide +kernel
theorem dX3_signOn_142 : decode cX3_signOn 142 = .ok (.putfield 95, 3) := by decide +kernel
theorem dX3_signOn_145 : decode cX3_signOn 145 = .ok (.aload_n 0, 1) := by decide +kernel
theorem dX3_signOn_146 : decode cX3_signOn 146 = .ok (.getfield 95, 3) := by decide +kernel
theorem dX3_signOn_149 : decode cX3_signOn 149 = .ok (.iconst 1, 1) := by decide +kernel
theorem dX3_signOn_150 : decode cX3_signOn 150 = .ok (.isub, 1) := by decide +kernel
theorem dX3_signOn_151 : decode cX3_signOn 151 = .ok (.ireturn, 1) := by decide +kernel
theorem dX3_signOff_0 : decode cX3_signOff 0 = .ok (.aload_n 0, 1) := by decide +kernel
theorem dX3_signOff_1 : decode cX3_signOff 1 = .ok (.iload_n 1, 1) := by decide +kernel
theorem dX3_signOff_2 : decode cX3_signOff 2 = .ok (.invokevirtual 102, 3) := by decide +kernel
theorem dX3_signOff_5 : decode cX3_signOff 5 = .ok (.istore_n 2, 1) := by decide +kernel
theorem dX3_signOff_6 : decode cX3_signOff 6 = .ok (.aload_n 0, 1) := by decide +kernel
theorem dX3_signOff_7 : decode cX3_signOff 7 = .ok (.iload_n 2, 1) := by decide +kernel
theorem dX3_signOff_8 : decode cX3_signOff 8 = .ok (.ifCond .lt 7, 3) := by decide +kernel
theorem dX3_signOff_11 : decode cX3_signOff 11 = .ok (.iconst 1, 1) := by decide +kernel
theorem dX3_signOff_12 : decode cX3_signOff 12 = .ok (.goto 4, 3) := by decide +kernel
theorem dX3_signOff_15 : decode cX3_signOff 15 = .ok (.iconst 0, 1) := by decide +kernel
theorem dX3_signOff_16 : decode cX3_signOff 16 = .ok (.iload_n 2, 1) := by decide +kernel
theorem dX3_signOff_17 : decode cX3_signOff 17 = .ok (.ifCond .lt 17, 3) := by decide +kernel
theorem dX3_signOff_20 : decode cX3_signOff 20 = .ok (.aload_n 0, 1) := by decide +kernel
theorem dX3_signOff_21 : decode cX3_signOff 21 = .ok (.getfield 32, 3) := by decide +kernel
theorem dX3_signOff_24 : decode cX3_signOff 24 = .ok (.iload_n 2, 1) := by decide +kernel
theorem dX3_signOff_25 : decode cX3_signOff 25 = .ok (.iaload, 1) := by decide +kernel
theorem dX3_signOff_26 : decode cX3_signOff 26 = .ok (.iconst (-1), 1) := by decide +kernel
theorem dX3_signOff_27 : decode cX3_signOff 27 = .ok (.if_icmp .ne 7, 3) := by decide +kernel
theorem dX3_signOff_30 : decode cX3_signOff 30 = .ok (.iconst 1, 1) := by decide +kernel
theorem dX3_signOff_31 : decode cX3_signOff 31 = .ok (.goto 4, 3) := by decide +kernel
theorem dX3_signOff_34 : decode cX3_signOff 34 = .ok (.iconst 0, 1) := by decide +kernel
theorem dX3_signOff_35 : decode cX3_signOff 35 = .ok (.iconst 1, 1) := by decide +kernel
theorem dX3_signOff_36 : decode cX3_signOff 36 = .ok (.invokevirtual 91, 3) := by decide +kernel
theorem dX3_signOff_39 : decode cX3_signOff 39 = .ok (.ifCond .ne 5, 3) := by decide +kernel
theorem dX3_signOff_42 : decode cX3_signOff 42 = .ok (.iconst 0, 1) := by decide +kernel
theorem dX3_signOff_43 : decode cX3_signOff 43 = .ok (.ireturn, 1) := by decide +kernel
theorem dX3_signOff_44 : decode cX3_signOff 44 = .ok (.aload_n 0, 1) := by decide +kernel
theorem dX3_signOff_45 : decode cX3_signOff 45 = .ok (.getfield 7, 3) := by decide +kernel
theorem dX3_signOff_48 : decode cX3_signOff 48 = .ok (.iload_n 2, 1) := by decide +kernel
theorem dX3_signOff_49 : decode cX3_signOff 49 = .ok (.iconst (-1), 1) := by decide +kernel
theorem dX3_signOff_50 : decode cX3_signOff 50 = .ok (.iastore, 1) := by decide +kernel
theorem dX3_signOff_51 : decode cX3_signOff 51 = .ok (.aload_n 0, 1) := by decide +kernel
theorem dX3_signOff_52 : decode cX3_signOff 52 = .ok (.getfield 38, 3) := by decide +kernel
theorem dX3_signOff_55 : decode cX3_signOff 55 = .ok (.iload_n 2, 1) := by decide +kernel
theorem dX3_signOff_56 : decode cX3_signOff 56 = .ok (.iaload, 1) := by decide +kernel
theorem dX3_signOff_57 : decode cX3_signOff 57 = .ok (.ireturn, 1) := by decide +kernel
theorem dX3_setSkills_0 : decode cX3_setSkills 0 = .ok (.aload_n 0, 1) := by decide +kernel
theorem dX3_setSkills_1 : decode cX3_setSkills 1 = .ok (.iload_n 1, 1) := by decide +kernel
theorem dX3_setSkills_2 : decode cX3_setSkills 2 = .ok (.invokevirtual 102, 3) := by decide +kernel
theorem dX3_setSkills_5 : decode cX3_setSkills 5 = .ok (.istore_n 3, 1) := by decide +kernel
theorem dX3_setSkills_6 : decode cX3_setSkills 6 = .ok (.aload_n 0, 1) := by decide +kernel
theorem dX3_setSkills_7 : decode cX3_setSkills 7 = .ok (.iload_n 3, 1) := by decide +kernel
theorem dX3_setSkills_8 : decode cX3_setSkills 8 = .ok (.ifCond .lt 7, 3) := by decide +kernel
theorem dX3_setSkills_11 : decode cX3_setSkills 11 = .ok (.iconst 1, 1) := by decide +kernel
theorem dX3_setSkills_12 : decode cX3_setSkills 12 = .ok (.goto 4, 3) := by decide +kernel
theorem dX3_setSkills_15 : decode cX3_setSkills 15 = .ok (.iconst 0, 1) := by decide +kernel
theorem dX3_setSkills_16 : decode cX3_setSkills 16 = .ok (.iload_n 2, 1) := by decide +kernel
theorem dX3_setSkills_17 : decode cX3_setSkills 17 = .ok (.iconst 0, 1) := by decide +kernel
theorem dX3_setSkills_18 : decode cX3_setSkills 18 = .ok (.bipush 31, 2) := by decide +kernel
theorem dX3_setSkills_20 : decode cX3_setSkills 20 = .ok (.invokestatic 72, 3) := by decide +kernel
theorem dX3_setSkills_23 : decode cX3_setSkills 23 = .ok (.iload_n 3, 1) := by decide +kernel
theorem dX3_setSkills_24 : decode cX3_setSkills 24 = .ok (.ifCond .lt 17, 3) := by decide +kernel
theorem dX3_setSkills_27 : decode cX3_setSkills 27 = .ok (.aload_n 0, 1) := by decide +kernel
theorem dX3_setSkills_28 : decode cX3_setSkills 28 = .ok (.getfield 32, 3) := by decide +kernel
theorem dX3_setSkills_31 : decode cX3_setSkills 31 = .ok (.iload_n 3, 1) := by decide +kernel
theorem dX3_setSkills_32 : decode cX3_setSkills 32 = .ok (.iaload, 1) := by decide +kernel
theorem dX3_setSkills_33 : decode cX3_setSkills 33 = .ok (.iconst (-1), 1) := by decide +kernel
theorem dX3_setSkills_34 : decode cX3_setSkills 34 = .ok (.if_icmp .ne 7, 3) := by decide +kernel
theorem dX3_setSkills_37 : decode cX3_setSkills 37 = .ok (.iconst 1, 1) := by decide +kernel
theorem dX3_setSkills_38 : decode cX3_setSkills 38 = .ok (.goto 4, 3) := by decide +kernel
theorem dX3_setSkills_41 : decode cX3_setSkills 41 = .ok (.iconst 0, 1) := by decide +kernel
theorem dX3_setSkills_42 : decode cX3_setSkills 42 = .ok (.invokevirtual 91, 3) := by decide +kernel
theorem dX3_setSkills_45 : decode cX3_setSkills 45 = .ok (.ifCond .ne 5, 3) := by decide +kernel
theorem dX3_setSkills_48 : decode cX3_setSkills 48 = .ok (.iconst 0, 1) := by decide +kernel
theorem dX3_setSkills_49 : decode cX3_setSkills 49 = .ok (.ireturn, 1) := by decide +kernel
theorem dX3_setSkills_50 : decode cX3_setSkills 50 = .ok (.aload_n 0, 1) := by decide +kernel
theorem dX3_setSkills_51 : decode cX3_setSkills 51 = .ok (.getfield 19, 3) := by decide +kernel
theorem dX3_setSkills_54 : decode cX3_setSkills 54 = .ok (.iload_n 3, 1) := by decide +kernel
theorem dX3_setSkills_55 : decode cX3_setSkills 55 = .ok (.iaload, 1) := by decide +kernel
theorem dX3_setSkills_56 : decode cX3_setSkills 56 = .ok (.istore 4, 2) := by decide +kernel
theorem dX3_setSkills_58 : decode cX3_setSkills 58 = .ok (.aload_n 0, 1) := by decide +kernel
theorem dX3_setSkills_59 : decode cX3_setSkills 59 = .ok (.getfield 19, 3) := by decide +kernel
theorem dX3_setSkills_62 : decode cX3_setSkills 62 = .ok (.iload_n 3, 1) := by decide +kernel
theorem dX3_setSkills_63 : decode cX3_setSkills 63 = .ok (.iload_n 2, 1) := by decide +kernel
theorem dX3_setSkills_64 : decode cX3_setSkills 64 = .ok (.iastore, 1) := by decide +kernel
theorem dX3_setSkills_65 : decode cX3_setSkills 65 = .ok (.iload 4, 2) := by decide +kernel
theorem dX3_setSkills_67 : decode cX3_setSkills 67 = .ok (.ireturn, 1) := by decide +kernel
theorem dX3_move_0 : decode cX3_move 0 = .ok (.aload_n 0, 1) := by decide +kernel
theorem dX3_move_1 : decode cX3_move 1 = .ok (.iload_n 1, 1) := by decide +kernel
theorem dX3_move_2 : decode cX3_move 2 = .ok (.invokevirtual 102, 3) := by decide +kernel
theorem dX3_move_5 : decode cX3_move 5 = .ok (.istore_n 3, 1) := by decide +kernel
theorem dX3_move_6 : decode cX3_move 6 = .ok (.aload_n 0, 1) := by decide +kernel
theorem dX3_move_7 : decode cX3_move 7 = .ok (.iload_n 3, 1) := by decide +kernel
theorem dX3_move_8 : decode cX3_move 8 = .ok (.ifCond .lt 7, 3) := by decide +kernel
theorem dX3_move_11 : decode cX3_move 11 = .ok (.iconst 1, 1) := by decide +kernel
theorem dX3_move_12 : decode cX3_move 12 = .ok (.goto 4, 3) := by decide +kernel
theorem dX3_move_15 : decode cX3_move 15 = .ok (.iconst 0, 1) := by decide +kernel
theorem dX3_move_16 : decode cX3_move 16 = .ok (.iload_n 2, 1) := by decide +kernel
theorem dX3_move_17 : decode cX3_move 17 = .ok (.invokestatic 83, 3) := by decide +kernel
theorem dX3_move_20 : decode cX3_move 20 = .ok (.iconst 1, 1) := by decide +kernel
theorem dX3_move_21 : decode cX3_move 21 = .ok (.invokevirtual 91, 3) := by decide +kernel
theorem dX3_move_24 : decode cX3_move 24 = .ok (.ifCond .ne 5, 3) := by decide +kernel
theorem dX3_move_27 : decode cX3_move 27 = .ok (.iconst 0, 1) := by decide +kernel
theorem dX3_move_28 : decode cX3_move 28 = .ok (.ireturn, 1) := by decide +kernel
theorem dX3_move_29 : decode cX3_move 29 = .ok (.aload_n 0, 1) := by decide +kernel
theorem dX3_move_30 : decode cX3_move 30 = .ok (.getfield 13, 3) := by decide +kernel
theorem dX3_move_33 : decode cX3_move 33 = .ok (.iload_n 3, 1) := by decide +kernel
theorem dX3_move_34 : decode cX3_move 34 = .ok (.iaload, 1) := by decide +kernel
theorem dX3_move_35 : decode cX3_move 35 = .ok (.istore 4, 2) := by decide +kernel
theorem dX3_move_37 : decode cX3_move 37 = .ok (.aload_n 0, 1) := by decide +kernel
theorem dX3_move_38 : decode cX3_move 38 = .ok (.getfield 13, 3) := by decide +kernel
theorem dX3_move_41 : decode cX3_move 41 = .ok (.iload_n 3, 1) := by decide +kernel
theorem dX3_move_42 : decode cX3_move 42 = .ok (.iload_n 2, 1) := by decide +kernel
theorem dX3_move_43 : decode cX3_move 43 = .ok (.iastore, 1) := by decide +kernel
theorem dX3_move_44 : decode cX3_move 44 = .ok (.aload_n 0, 1) := by decide +kernel
theorem dX3_move_45 : decode cX3_move 45 = .ok (.iload_n 3, 1) := by decide +kernel
theorem dX3_move_46 : decode cX3_move 46 = .ok (.invokevirtual 98, 3) := by decide +kernel
theorem dX3_move_49 : decode cX3_move 49 = .ok (.iload 4, 2) := by decide +kernel
theorem dX3_move_51 : decode cX3_move 51 = .ok (.ireturn, 1) := by decide +kernel
theorem dX3_setAway_0 : decode cX3_setAway 0 = .ok (.aload_n 0, 1) := by decide +kernel
theorem dX3_setAway_1 : decode cX3_setAway 1 = .ok (.iload_n 1, 1) := by decide +kernel
theorem dX3_setAway_2 : decode cX3_setAway 2 = .ok (.invokevirtual 102, 3) := by decide +kernel
theorem dX3_setAway_5 : decode cX3_setAway 5 = .ok (.istore_n 3, 1) := by decide +kernel
theorem dX3_setAway_6 : decode cX3_setAway 6 = .ok (.aload_n 0, 1) := by decide +kernel
theorem dX3_setAway_7 : decode cX3_setAway 7 = .ok (.iload_n 3, 1) := by decide +kernel
theorem dX3_setAway_8 : decode cX3_setAway 8 = .ok (.ifCond .lt 7, 3) := by decide +kernel
theorem dX3_setAway_11 : decode cX3_setAway 11 = .ok (.iconst 1, 1) := by decide +kernel
theorem dX3_setAway_12 : decode cX3_setAway 12 = .ok (.goto 4, 3) := by decide +kernel
theorem dX3_setAway_15 : decode cX3_setAway 15 = .ok (.iconst 0, 1) := by decide +kernel
theorem dX3_setAway_16 : decode cX3_setAway 16 = .ok (.iconst 1, 1) := by decide +kernel
theorem dX3_setAway_17 : decode cX3_setAway 17 = .ok (.iconst 1, 1) := by decide +kernel
theorem dX3_setAway_18 : decode cX3_setAway 18 = .ok (.invokevirtual 91, 3) := by decide +kernel
theorem dX3_setAway_21 : decode cX3_setAway 21 = .ok (.ifCond .ne 5, 3) := by decide +kernel
theorem dX3_setAway_24 : decode cX3_setAway 24 = .ok (.iconst 0, 1) := by decide +kernel
theorem dX3_setAway_25 : decode cX3_setAway 25 = .ok (.ireturn, 1) := by decide +kernel
theorem dX3_setAway_26 : decode cX3_setAway 26 = .ok (.aload_n 0, 1) := by decide +kernel
theorem dX3_setAway_27 : decode cX3_setAway 27 = .ok (.getfield 22, 3) := by decide +kernel
theorem dX3_setAway_30 : decode cX3_setAway 30 = .ok (.iload_n 3, 1) := by decide +kernel
theorem dX3_setAway_31 : decode cX3_setAway 31 = .ok (.baload, 1) := by decide +kernel
theorem dX3_setAway_32 : decode cX3_setAway 32 = .ok (.istore 4, 2) := by decide +kernel
theorem dX3_setAway_34 : decode cX3_setAway 34 = .ok (.aload_n 0, 1) := by decide +kernel
theorem dX3_setAway_35 : decode cX3_setAway 35 = .ok (.getfield 22, 3) := by decide +kernel
theorem dX3_setAway_38 : decode cX3_setAway 38 = .ok (.iload_n 3, 1) := by decide +kernel
theorem dX3_setAway_39 : decode cX3_setAway 39 = .ok (.iload_n 2, 1) := by decide +kernel
theorem dX3_setAway_40 : decode cX3_setAway 40 = .ok (.bastore, 1) := by decide +kernel
theorem dX3_setAway_41 : decode cX3_setAway 41 = .ok (.iload 4, 2) := by decide +kernel
theorem dX3_setAway_43 : decode cX3_setAway 43 = .ok (.ireturn, 1) := by decide +kernel
theorem dX3_setRefusing_0 : decode cX3_setRefusing 0 = .ok (.aload_n 0, 1) := by decide +kernel
theorem dX3_setRefusing_1 : decode cX3_setRefusing 1 = .ok (.iload_n 1, 1) := by decide +kernel
theorem dX3_setRefusing_2 : decode cX3_setRefusing 2 = .ok (.invokevirtual 102, 3) := by decide +kernel
theorem dX3_setRefusing_5 : decode cX3_setRefusing 5 = .ok (.istore_n 3, 1) := by decide +kernel
theorem dX3_setRefusing_6 : decode cX3_setRefusing 6 = .ok (.aload_n 0, 1) := by decide +kernel
theorem dX3_setRefusing_7 : decode cX3_setRefusing 7 = .ok (.iload_n 3, 1) := by decide +kernel
theorem dX3_setRefusing_8 : decode cX3_setRefusing 8 = .ok (.ifCond .lt 7, 3) := by decide +kernel
theorem dX3_setRefusing_11 : decode cX3_setRefusing 11 = .ok (.iconst 1, 1) := by decide +kernel
theorem dX3_setRefusing_12 : decode cX3_setRefusing 12 = .ok (.goto 4, 3) := by decide +kernel
theorem dX3_setRefusing_15 : decode cX3_setRefusing 15 = .ok (.iconst 0, 1) := by decide +kernel
theorem dX3_setRefusing_16 : decode cX3_setRefusing 16 = .ok (.iconst 1, 1) := by decide +kernel
theorem dX3_setRefusing_17 : decode cX3_setRefusing 17 = .ok (.iconst 1, 1) := by decide +kernel
theorem dX3_setRefusing_18 : decode cX3_setRefusing 18 = .ok (.invokevirtual 91, 3) := by decide +kernel
theorem dX3_setRefusing_21 : decode cX3_setRefusing 21 = .ok (.ifCond .ne 5, 3) := by decide +kernel
theorem dX3_setRefusing_24 : decode cX3_setRefusing 24 = .ok (.iconst 0, 1) := by decide +kernel
theorem dX3_setRefusing_25 : decode cX3_setRefusing 25 = .ok (.ireturn, 1) := by decide +kernel
theorem dX3_setRefusing_26 : decode cX3_setRefusing 26 = .ok (.aload_n 0, 1) := by decide +kernel
theorem dX3_setRefusing_27 : decode cX3_setRefusing 27 = .ok (.getfield 26, 3) := by decide +kernel
theorem dX3_setRefusing_30 : decode cX3_setRefusing 30 = .ok (.iload_n 3, 1) := by decide +kernel
theorem dX3_setRefusing_31 : decode cX3_setRefusing 31 = .ok (.baload, 1) := by decide +kernel
theorem dX3_setRefusing_32 : decode cX3_setRefusing 32 = .ok (.istore 4, 2) := by decide +kernel
theorem dX3_setRefusing_34 : decode cX3_setRefusing 34 = .ok (.aload_n 0, 1) := by decide +kernel
theorem dX3_setRefusing_35 : decode cX3_setRefusing 35 = .ok (.getfield 26, 3) := by decide +kernel
theorem dX3_setRefusing_38 : decode cX3_setRefusing 38 = .ok (.iload_n 3, 1) := by decide +kernel
theorem dX3_setRefusing_39 : decode cX3_setRefusing 39 = .ok (.iload_n 2, 1) := by decide +kernel
theorem dX3_setRefusing_40 : decode cX3_setRefusing 40 = .ok (.bastore, 1) := by decide +kernel
theorem dX3_setRefusing_41 : decode cX3_setRefusing 41 = .ok (.iload 4, 2) := by decide +kernel
theorem dX3_setRefusing_43 : decode cX3_setRefusing 43 = .ok (.ireturn, 1) := by decide +kernel
theorem dX3_setRule_0 : decode cX3_setRule 0 = .ok (.aload_n 0, 1) := by decide +kernel
theorem dX3_setRule_1 : decode cX3_setRule 1 = .ok (.iload_n 1, 1) := by decide +kernel
theorem dX3_setRule_2 : decode cX3_setRule 2 = .ok (.invokestatic 83, 3) := by decide +kernel
theorem dX3_setRule_5 : decode cX3_setRule 5 = .ok (.ifCond .eq 18, 3) := by decide +kernel
theorem dX3_setRule_8 : decode cX3_setRule 8 = .ok (.iload_n 3, 1) := by decide +kernel
theorem dX3_setRule_9 : decode cX3_setRule 9 = .ok (.iconst 0, 1) := by decide +kernel
theorem dX3_setRule_10 : decode cX3_setRule 10 = .ok (.sipush 400, 3) := by decide +kernel
theorem dX3_setRule_13 : decode cX3_setRule 13 = .ok (.invokestatic 72, 3) := by decide +kernel
theorem dX3_setRule_16 : decode cX3_setRule 16 = .ok (.ifCond .eq 7, 3) := by decide +kernel
theorem dX3_setRule_19 : decode cX3_setRule 19 = .ok (.iconst 1, 1) := by decide +kernel
theorem dX3_setRule_20 : decode cX3_setRule 20 = .ok (.goto 4, 3) := by decide +kernel
theorem dX3_setRule_23 : decode cX3_setRule 23 = .ok (.iconst 0, 1) := by decide +kernel
theorem dX3_setRule_24 : decode cX3_setRule 24 = .ok (.iconst 1, 1) := by decide +kernel
theorem dX3_setRule_25 : decode cX3_setRule 25 = .ok (.iconst 1, 1) := by decide +kernel
theorem dX3_setRule_26 : decode cX3_setRule 26 = .ok (.invokevirtual 91, 3) := by decide +kernel
theorem dX3_setRule_29 : decode cX3_setRule 29 = .ok (.ifCond .ne 5, 3) := by decide +kernel
theorem dX3_setRule_32 : decode cX3_setRule 32 = .ok (.iconst 0, 1) := by decide +kernel
theorem dX3_setRule_33 : decode cX3_setRule 33 = .ok (.ireturn, 1) := by decide +kernel
theorem dX3_setRule_34 : decode cX3_setRule 34 = .ok (.aload_n 0, 1) := by decide +kernel
theorem dX3_setRule_35 : decode cX3_setRule 35 = .ok (.getfield 47, 3) := by decide +kernel
theorem dX3_setRule_38 : decode cX3_setRule 38 = .ok (.iload_n 1, 1) := by decide +kernel
theorem dX3_setRule_39 : decode cX3_setRule 39 = .ok (.iaload, 1) := by decide +kernel
theorem dX3_setRule_40 : decode cX3_setRule 40 = .ok (.istore 4, 2) := by decide +kernel
theorem dX3_setRule_42 : decode cX3_setRule 42 = .ok (.aload_n 0, 1) := by decide +kernel
theorem dX3_setRule_43 : decode cX3_setRule 43 = .ok (.getfield 44, 3) := by decide +kernel
theorem dX3_setRule_46 : decode cX3_setRule 46 = .ok (.iload_n 1, 1) := by decide +kernel
theorem dX3_setRule_47 : decode cX3_setRule 47 = .ok (.iload_n 2, 1) := by decide +kernel
theorem dX3_setRule_48 : decode cX3_setRule 48 = .ok (.bastore, 1) := by decide +kernel
theorem dX3_setRule_49 : decode cX3_setRule 49 = .ok (.aload_n 0, 1) := by decide +kernel
theorem dX3_setRule_50 : decode cX3_setRule 50 = .ok (.getfield 47, 3) := by decide +kernel
theorem dX3_setRule_53 : decode cX3_setRule 53 = .ok (.iload_n 1, 1) := by decide +kernel
theorem dX3_setRule_54 : decode cX3_setRule 54 = .ok (.iload_n 3, 1) := by decide +kernel
theorem dX3_setRule_55 : decode cX3_setRule 55 = .ok (.iastore, 1) := by decide +kernel
theorem dX3_setRule_56 : decode cX3_setRule 56 = .ok (.iload 4, 2) := by decide +kernel
theorem dX3_setRule_58 : decode cX3_setRule 58 = .ok (.ireturn, 1) := by decide +kernel
theorem dX3_rank_0 : decode cX3_rank 0 = .ok (.iconst 0, 1) := by decide +kernel
theorem dX3_rank_1 : decode cX3_rank 1 = .ok (.istore_n 2, 1) := by decide +kernel
theorem dX3_rank_2 : decode cX3_rank 2 = .ok (.iconst 0, 1) := by decide +kernel
theorem dX3_rank_3 : decode cX3_rank 3 = .ok (.istore_n 3, 1) := by decide +kernel
theorem dX3_rank_4 : decode cX3_rank 4 = .ok (.iload_n 3, 1) := by decide +kernel
theorem dX3_rank_5 : decode cX3_rank 5 = .ok (.bipush 30, 2) := by decide +kernel
theorem dX3_rank_7 : decode cX3_rank 7 = .ok (.if_icmp .ge 57, 3) := by decide +kernel
theorem dX3_rank_10 : decode cX3_rank 10 = .ok (.iload_n 2, 1) := by decide +kernel
theorem dX3_rank_11 : decode cX3_rank 11 = .ok (.aload_n 0, 1) := by decide +kernel
theorem dX3_rank_12 : decode cX3_rank 12 = .ok (.getfield 7, 3) := by decide +kernel
theorem dX3_rank_15 : decode cX3_rank 15 = .ok (.iload_n 3, 1) := by decide +kernel
theorem dX3_rank_16 : decode cX3_rank 16 = .ok (.iaload, 1) := by decide +kernel
theorem dX3_rank_17 : decode cX3_rank 17 = .ok (.iconst (-1), 1) := by decide +kernel
theorem dX3_rank_18 : decode cX3_rank 18 = .ok (.if_icmp .eq 37, 3) := by decide +kernel
theorem dX3_rank_21 : decode cX3_rank 21 = .ok (.aload_n 0, 1) := by decide +kernel
theorem dX3_rank_22 : decode cX3_rank 22 = .ok (.getfield 13, 3) := by decide +kernel
theorem dX3_rank_25 : decode cX3_rank 25 = .ok (.iload_n 3, 1) := by decide +kernel
theorem dX3_rank_26 : decode cX3_rank 26 = .ok (.iaload, 1) := by decide +kernel
theorem dX3_rank_27 : decode cX3_rank 27 = .ok (.aload_n 0, 1) := by decide +kernel
theorem dX3_rank_28 : decode cX3_rank 28 = .ok (.getfield 13, 3) := by decide +kernel
theorem dX3_rank_31 : decode cX3_rank 31 = .ok (.iload_n 1, 1) := by decide +kernel
theorem dX3_rank_32 : decode cX3_rank 32 = .ok (.iaload, 1) := by decide +kernel
theorem dX3_rank_33 : decode cX3_rank 33 = .ok (.if_icmp .ne 22, 3) := by decide +kernel
theorem dX3_rank_36 : decode cX3_rank 36 = .ok (.aload_n 0, 1) := by decide +kernel
theorem dX3_rank_37 : decode cX3_rank 37 = .ok (.getfield 16, 3) := by decide +kernel
theorem dX3_rank_40 : decode cX3_rank 40 = .ok (.iload_n 3, 1) := by decide +kernel
theorem dX3_rank_41 : decode cX3_rank 41 = .ok (.iaload, 1) := by decide +kernel
theorem dX3_rank_42 : decode cX3_rank 42 = .ok (.aload_n 0, 1) := by decide +kernel
theorem dX3_rank_43 : decode cX3_rank 43 = .ok (.getfield 16, 3) := by decide +kernel
theorem dX3_rank_46 : decode cX3_rank 46 = .ok (.iload_n 1, 1) := by decide +kernel
theorem dX3_rank_47 : decode cX3_rank 47 = .ok (.iaload, 1) := by decide +kernel
theorem dX3_rank_48 : decode cX3_rank 48 = .ok (.if_icmp .ge 7, 3) := by decide +kernel
theorem dX3_rank_51 : decode cX3_rank 51 = .ok (.iconst 1, 1) := by decide +kernel
theorem dX3_rank_52 : decode cX3_rank 52 = .ok (.goto 4, 3) := by decide +kernel
theorem dX3_rank_55 : decode cX3_rank 55 = .ok (.iconst 0, 1) := by decide +kernel
theorem dX3_rank_56 : decode cX3_rank 56 = .ok (.iadd, 1) := by decide +kernel
theorem dX3_rank_57 : decode cX3_rank 57 = .ok (.istore_n 2, 1) := by decide +kernel
theorem dX3_rank_58 : decode cX3_rank 58 = .ok (.iinc 3 1, 3) := by decide +kernel
theorem dX3_rank_61 : decode cX3_rank 61 = .ok (.goto (-57), 3) := by decide +kernel
theorem dX3_rank_64 : decode cX3_rank 64 = .ok (.iload_n 2, 1) := by decide +kernel
theorem dX3_rank_65 : decode cX3_rank 65 = .ok (.ireturn, 1) := by decide +kernel
theorem dX3_equalise_0 : decode cX3_equalise 0 = .ok (.aload_n 0, 1) := by decide +kernel
theorem dX3_equalise_1 : decode cX3_equalise 1 = .ok (.iload_n 1, 1) := by decide +kernel
theorem dX3_equalise_2 : decode cX3_equalise 2 = .ok (.invokestatic 83, 3) := by decide +kernel
theorem dX3_equalise_5 : decode cX3_equalise 5 = .ok (.iconst 1, 1) := by decide +kernel
theorem dX3_equalise_6 : decode cX3_equalise 6 = .ok (.iconst 1, 1) := by decide +kernel
theorem dX3_equalise_7 : decode cX3_equalise 7 = .ok (.invokevirtual 91, 3) := by decide +kernel
theorem dX3_equalise_10 : decode cX3_equalise 10 = .ok (.ifCond .ne 5, 3) := by decide +kernel
theorem dX3_equalise_13 : decode cX3_equalise 13 = .ok (.iconst 0, 1) := by decide +kernel
theorem dX3_equalise_14 : decode cX3_equalise 14 = .ok (.ireturn, 1) := by decide +kernel
theorem dX3_equalise_15 : decode cX3_equalise 15 = .ok (.aload_n 0, 1) := by decide +kernel
theorem dX3_equalise_16 : decode cX3_equalise 16 = .ok (.invokevirtual 106, 3) := by decide +kernel
theorem dX3_equalise_19 : decode cX3_equalise 19 = .ok (.istore_n 2, 1) := by decide +kernel
theorem dX3_equalise_20 : decode cX3_equalise 20 = .ok (.iconst 0, 1) := by decide +kernel
theorem dX3_equalise_21 : decode cX3_equalise 21 = .ok (.istore_n 3, 1) := by decide +kernel
theorem dX3_equalise_22 : decode cX3_equalise 22 = .ok (.iconst 0, 1) := by decide +kernel
theorem dX3_equalise_23 : decode cX3_equalise 23 = .ok (.istore 4, 2) := by decide +kernel
theorem dX3_equalise_25 : decode cX3_equalise 25 = .ok (.iconst 0, 1) := by decide +kernel
theorem dX3_equalise_26 : decode cX3_equalise 26 = .ok (.istore 5, 2) := by decide +kernel
theorem dX3_equalise_28 : decode cX3_equalise 28 = .ok (.iload 5, 2) := by decide +kernel
theorem dX3_equalise_30 : decode cX3_equalise 30 = .ok (.iload_n 2, 1) := by decide +kernel
theorem dX3_equalise_31 : decode cX3_equalise 31 = .ok (.if_icmp .ge 101, 3) := by decide +kernel
theorem dX3_equalise_34 : decode cX3_equalise 34 = .ok (.aload_n 0, 1) := by decide +kernel
theorem dX3_equalise_35 : decode cX3_equalise 35 = .ok (.getfield 13, 3) := by decide +kernel
theorem dX3_equalise_38 : decode cX3_equalise 38 = .ok (.aload_n 0, 1) := by decide +kernel
theorem dX3_equalise_39 : decode cX3_equalise 39 = .ok (.getfield 60, 3) := by decide +kernel
theorem dX3_equalise_42 : decode cX3_equalise 42 = .ok (.iload 5, 2) := by decide +kernel
theorem dX3_equalise_44 : decode cX3_equalise 44 = .ok (.iaload, 1) := by decide +kernel
theorem dX3_equalise_45 : decode cX3_equalise 45 = .ok (.iaload, 1) := by decide +kernel
theorem dX3_equalise_46 : decode cX3_equalise 46 = .ok (.iload_n 1, 1) := by decide +kernel
theorem dX3_equalise_47 : decode cX3_equalise 47 = .ok (.if_icmp .ne 79, 3) := by decide +kernel
theorem dX3_equalise_50 : decode cX3_equalise 50 = .ok (.iload_n 3, 1) := by decide +kernel
theorem dX3_equalise_51 : decode cX3_equalise 51 = .ok (.istore 6, 2) := by decide +kernel
theorem dX3_equalise_53 : decode cX3_equalise 53 = .ok (.iload 6, 2) := by decide +kernel
theorem dX3_equalise_55 : decode cX3_equalise 55 = .ok (.ifCond .le 54, 3) := by decide +kernel
theorem dX3_equalise_58 : decode cX3_equalise 58 = .ok (.aload_n 0, 1) := by decide +kernel
theorem dX3_equalise_59 : decode cX3_equalise 59 = .ok (.getfield 38, 3) := by decide +kernel
theorem dX3_equalise_62 : decode cX3_equalise 62 = .ok (.aload_n 0, 1) := by decide +kernel
theorem dX3_equalise_63 : decode cX3_equalise 63 = .ok (.getfield 60, 3) := by decide +kernel
theorem dX3_equalise_66 : decode cX3_equalise 66 = .ok (.iload 5, 2) := by decide +kernel
theorem dX3_equalise_68 : decode cX3_equalise 68 = .ok (.iaload, 1) := by decide +kernel
theorem dX3_equalise_69 : decode cX3_equalise 69 = .ok (.iaload, 1) := by decide +kernel
theorem dX3_equalise_70 : decode cX3_equalise 70 = .ok (.aload_n 0, 1) := by decide +kernel
theorem dX3_equalise_71 : decode cX3_equalise 71 = .ok (.getfield 38, 3) := by decide +kernel
theorem dX3_equalise_74 : decode cX3_equalise 74 = .ok (.aload_n 0, 1) := by decide +kernel
theorem dX3_equalise_75 : decode cX3_equalise 75 = .ok (.getfield 63, 3) := by decide +kernel
theorem dX3_equalise_78 : decode cX3_equalise 78 = .ok (.iload 6, 2) := by decide +kernel
theorem dX3_equalise_80 : decode cX3_equalise 80 = .ok (.iconst 1, 1) := by decide +kernel
theorem dX3_equalise_81 : decode cX3_equalise 81 = .ok (.isub, 1) := by decide +kernel
theorem dX3_equalise_82 : decode cX3_equalise 82 = .ok (.iaload, 1) := by decide +kernel
theorem dX3_equalise_83 : decode cX3_equalise 83 = .ok (.iaload, 1) := by decide +kernel
theorem dX3_equalise_84 : decode cX3_equalise 84 = .ok (.if_icmp .ge 25, 3) := by decide +kernel
theorem dX3_equalise_87 : decode cX3_equalise 87 = .ok (.aload_n 0, 1) := by decide +kernel
theorem dX3_equalise_88 : decode cX3_equalise 88 = .ok (.getfield 63, 3) := by decide +kernel
theorem dX3_equalise_91 : decode cX3_equalise 91 = .ok (.iload 6, 2) := by decide +kernel
theorem dX3_equalise_93 : decode cX3_equalise 93 = .ok (.aload_n 0, 1) := by decide +kernel
theorem dX3_equalise_94 : decode cX3_equalise 94 = .ok (.getfield 63, 3) := by decide +kernel
theorem dX3_equalise_97 : decode cX3_equalise 97 = .ok (.iload 6, 2) := by decide +kernel
theorem dX3_equalise_99 : decode cX3_equalise 99 = .ok (.iconst 1, 1) := by decide +kernel
theorem dX3_equalise_100 : decode cX3_equalise 100 = .ok (.isub, 1) := by decide +kernel
theorem dX3_equalise_101 : decode cX3_equalise 101 = .ok (.iaload, 1) := by decide +kernel
theorem dX3_equalise_102 : decode cX3_equalise 102 = .ok (.iastore, 1) := by decide +kernel
theorem dX3_equalise_103 : decode cX3_equalise 103 = .ok (.iinc 6 (-1), 3) := by decide +kernel
theorem dX3_equalise_106 : decode cX3_equalise 106 = .ok (.goto (-53), 3) := by decide +kernel
theorem dX3_equalise_109 : decode cX3_equalise 109 = .ok (.aload_n 0, 1) := by decide +kernel
theorem dX3_equalise_110 : decode cX3_equalise 110 = .ok (.getfield 63, 3) := by decide +kernel
theorem dX3_equalise_113 : decode cX3_equalise 113 = .ok (.iload 6, 2) := by decide +kernel
theorem dX3_equalise_115 : decode cX3_equalise 115 = .ok (.aload_n 0, 1) := by decide +kernel
theorem dX3_equalise_116 : decode cX3_equalise 116 = .ok (.getfield 60, 3) := by decide +kernel
theorem dX3_equalise_119 : decode cX3_equalise 119 = .ok (.iload 5, 2) := by decide +kernel
theorem dX3_equalise_121 : decode cX3_equalise 121 = .ok (.iaload, 1) := by decide +kernel
theorem dX3_equalise_122 : decode cX3_equalise 122 = .ok (.iastore, 1) := by decide +kernel
theorem dX3_equalise_123 : decode cX3_equalise 123 = .ok (.iinc 3 1, 3) := by decide +kernel
theorem dX3_equalise_126 : decode cX3_equalise 126 = .ok (.iinc 5 1, 3) := by decide +kernel
theorem dX3_equalise_129 : decode cX3_equalise 129 = .ok (.goto (-101), 3) := by decide +kernel
theorem dX3_equalise_132 : decode cX3_equalise 132 = .ok (.iconst 0, 1) := by decide +kernel
theorem dX3_equalise_133 : decode cX3_equalise 133 = .ok (.istore 5, 2) := by decide +kernel
theorem dX3_equalise_135 : decode cX3_equalise 135 = .ok (.iload 5, 2) := by decide +kernel
theorem dX3_equalise_137 : decode cX3_equalise 137 = .ok (.iload_n 3, 1) := by decide +kernel
theorem dX3_equalise_138 : decode cX3_equalise 138 = .ok (.if_icmp .ge 35, 3) := by decide +kernel
theorem dX3_equalise_141 : decode cX3_equalise 141 = .ok (.iload 4, 2) := by decide +kernel
theorem dX3_equalise_143 : decode cX3_equalise 143 = .ok (.aload_n 0, 1) := by decide +kernel
theorem dX3_equalise_144 : decode cX3_equalise 144 = .ok (.aload_n 0, 1) := by decide +kernel
theorem dX3_equalise_145 : decode cX3_equalise 145 = .ok (.getfield 63, 3) := by decide +kernel
theorem dX3_equalise_148 : decode cX3_equalise 148 = .ok (.iload 5, 2) := by decide +kernel
theorem dX3_equalise_150 : decode cX3_equalise 150 = .ok (.iaload, 1) := by decide +kernel
theorem dX3_equalise_151 : decode cX3_equalise 151 = .ok (.invokevirtual 109, 3) := by decide +kernel
theorem dX3_equalise_154 : decode cX3_equalise 154 = .ok (.iload 5, 2) := by decide +kernel
theorem dX3_equalise_156 : decode cX3_equalise 156 = .ok (.if_icmp .ne 7, 3) := by decide +kernel
theorem dX3_equalise_159 : decode cX3_equalise 159 = .ok (.iconst 0, 1) := by decide +kernel
theorem dX3_equalise_160 : decode cX3_equalise 160 = .ok (.goto 4, 3) := by decide +kernel
theorem dX3_equalise_163 : decode cX3_equalise 163 = .ok (.iconst 1, 1) := by decide +kernel
theorem dX3_equalise_164 : decode cX3_equalise 164 = .ok (.iadd, 1) := by decide +kernel
theorem dX3_equalise_165 : decode cX3_equalise 165 = .ok (.istore 4, 2) := by decide +kernel
theorem dX3_equalise_167 : decode cX3_equalise 167 = .ok (.iinc 5 1, 3) := by decide +kernel
theorem dX3_equalise_170 : decode cX3_equalise 170 = .ok (.goto (-35), 3) := by decide +kernel
theorem dX3_equalise_173 : decode cX3_equalise 173 = .ok (.iconst 0, 1) := by decide +kernel
theorem dX3_equalise_174 : decode cX3_equalise 174 = .ok (.istore 5, 2) := by decide +kernel
theorem dX3_equalise_176 : decode cX3_equalise 176 = .ok (.iload 5, 2) := by decide +kernel
theorem dX3_equalise_178 : decode cX3_equalise 178 = .ok (.iload_n 3, 1) := by decide +kernel
theorem dX3_equalise_179 : decode cX3_equalise 179 = .ok (.if_icmp .ge 20, 3) := by decide +kernel
theorem dX3_equalise_182 : decode cX3_equalise 182 = .ok (.aload_n 0, 1) := by decide +kernel
theorem dX3_equalise_183 : decode cX3_equalise 183 = .ok (.aload_n 0, 1) := by decide +kernel
theorem dX3_equalise_184 : decode cX3_equalise 184 = .ok (.getfield 63, 3) := by decide +kernel
theorem dX3_equalise_187 : decode cX3_equalise 187 = .ok (.iload 5, 2) := by decide +kernel
theorem dX3_equalise_189 : decode cX3_equalise 189 = .ok (.iaload, 1) := by decide +kernel
theorem dX3_equalise_190 : decode cX3_equalise 190 = .ok (.invokevirtual 98, 3) := by decide +kernel
theorem dX3_equalise_193 : decode cX3_equalise 193 = .ok (.iinc 5 1, 3) := by decide +kernel
theorem dX3_equalise_196 : decode cX3_equalise 196 = .ok (.goto (-20), 3) := by decide +kernel
theorem dX3_equalise_199 : decode cX3_equalise 199 = .ok (.iload 4, 2) := by decide +kernel
theorem dX3_equalise_201 : decode cX3_equalise 201 = .ok (.ireturn, 1) := by decide +kernel
theorem dX3_order_0 : decode cX3_order 0 = .ok (.aload_n 0, 1) := by decide +kernel
theorem dX3_order_1 : decode cX3_order 1 = .ok (.iload_n 1, 1) := by decide +kernel
theorem dX3_order_2 : decode cX3_order 2 = .ok (.iconst 0, 1) := by decide +kernel
theorem dX3_order_3 : decode cX3_order 3 = .ok (.iconst 4, 1) := by decide +kernel
theorem dX3_order_4 : decode cX3_order 4 = .ok (.invokestatic 72, 3) := by decide +kernel
theorem dX3_order_7 : decode cX3_order 7 = .ok (.aload_n 0, 1) := by decide +kernel
theorem dX3_order_8 : decode cX3_order 8 = .ok (.getfield 112, 3) := by decide +kernel
theorem dX3_order_11 : decode cX3_order 11 = .ok (.bipush 16, 2) := by decide +kernel
theorem dX3_order_13 : decode cX3_order 13 = .ok (.if_icmp .ge 7, 3) := by decide +kernel
theorem dX3_order_16 : decode cX3_order 16 = .ok (.iconst 1, 1) := by decide +kernel
theorem dX3_order_17 : decode cX3_order 17 = .ok (.goto 4, 3) := by decide +kernel
theorem dX3_order_20 : decode cX3_order 20 = .ok (.iconst 0, 1) := by decide +kernel
theorem dX3_order_21 : decode cX3_order 21 = .ok (.iconst 1, 1) := by decide +kernel
theorem dX3_order_22 : decode cX3_order 22 = .ok (.invokevirtual 91, 3) := by decide +kernel
theorem dX3_order_25 : decode cX3_order 25 = .ok (.ifCond .ne 5, 3) := by decide +kernel
theorem dX3_order_28 : decode cX3_order 28 = .ok (.iconst 0, 1) := by decide +kernel
theorem dX3_order_29 : decode cX3_order 29 = .ok (.ireturn, 1) := by decide +kernel
theorem dX3_order_30 : decode cX3_order 30 = .ok (.aload_n 0, 1) := by decide +kernel
theorem dX3_order_31 : decode cX3_order 31 = .ok (.getfield 50, 3) := by decide +kernel
theorem dX3_order_34 : decode cX3_order 34 = .ok (.aload_n 0, 1) := by decide +kernel
theorem dX3_order_35 : decode cX3_order 35 = .ok (.getfield 112, 3) := by decide +kernel
theorem dX3_order_38 : decode cX3_order 38 = .ok (.iload_n 1, 1) := by decide +kernel
theorem dX3_order_39 : decode cX3_order 39 = .ok (.iastore, 1) := by decide +kernel
theorem dX3_order_40 : decode cX3_order 40 = .ok (.aload_n 0, 1) := by decide +kernel
theorem dX3_order_41 : decode cX3_order 41 = .ok (.getfield 53, 3) := by decide +kernel
theorem dX3_order_44 : decode cX3_order 44 = .ok (.aload_n 0, 1) := by decide +kernel
theorem dX3_order_45 : decode cX3_order 45 = .ok (.getfield 112, 3) := by decide +kernel
theorem dX3_order_48 : decode cX3_order 48 = .ok (.iconst (-1), 1) := by decide +kernel
theorem dX3_order_49 : decode cX3_order 49 = .ok (.iastore, 1) := by decide +kernel
theorem dX3_order_50 : decode cX3_order 50 = .ok (.aload_n 0, 1) := by decide +kernel
theorem dX3_order_51 : decode cX3_order 51 = .ok (.dup, 1) := by decide +kernel
theorem dX3_order_52 : decode cX3_order 52 = .ok (.getfield 112, 3) := by decide +kernel
theorem dX3_order_55 : decode cX3_order 55 = .ok (.iconst 1, 1) := by decide +kernel
theorem dX3_order_56 : decode cX3_order 56 = .ok (.iadd, 1) := by decide +kernel
theorem dX3_order_57 : decode cX3_order 57 = .ok (.putfield 112, 3) := by decide +kernel
theorem dX3_order_60 : decode cX3_order 60 = .ok (.aload_n 0, 1) := by decide +kernel
theorem dX3_order_61 : decode cX3_order 61 = .ok (.getfield 112, 3) := by decide +kernel
theorem dX3_order_64 : decode cX3_order 64 = .ok (.iconst 1, 1) := by decide +kernel
theorem dX3_order_65 : decode cX3_order 65 = .ok (.isub, 1) := by decide +kernel
theorem dX3_order_66 : decode cX3_order 66 = .ok (.ireturn, 1) := by decide +kernel
theorem dX3_countOpen_0 : decode cX3_countOpen 0 = .ok (.iconst 0, 1) := by decide +kernel
theorem dX3_countOpen_1 : decode cX3_countOpen 1 = .ok (.istore_n 1, 1) := by decide +kernel
theorem dX3_countOpen_2 : decode cX3_countOpen 2 = .ok (.iload_n 1, 1) := by decide +kernel
theorem dX3_countOpen_3 : decode cX3_countOpen 3 = .ok (.iconst 5, 1) := by decide +kernel
theorem dX3_countOpen_4 : decode cX3_countOpen 4 = .ok (.if_icmp .ge 16, 3) := by decide +kernel
theorem dX3_countOpen_7 : decode cX3_countOpen 7 = .ok (.aload_n 0, 1) := by decide +kernel
theorem dX3_countOpen_8 : decode cX3_countOpen 8 = .ok (.getfield 66, 3) := by decide +kernel
theorem dX3_countOpen_11 : decode cX3_countOpen 11 = .ok (.iload_n 1, 1) := by decide +kernel
theorem dX3_countOpen_12 : decode cX3_countOpen 12 = .ok (.iconst 0, 1) := by decide +kernel
theorem dX3_countOpen_13 : decode cX3_countOpen 13 = .ok (.iastore, 1) := by decide +kernel
theorem dX3_countOpen_14 : decode cX3_countOpen 14 = .ok (.iinc 1 1, 3) := by decide +kernel
theorem dX3_countOpen_17 : decode cX3_countOpen 17 = .ok (.goto (-15), 3) := by decide +kernel
theorem dX3_countOpen_20 : decode cX3_countOpen 20 = .ok (.iconst 0, 1) := by decide +kernel
theorem dX3_countOpen_21 : decode cX3_countOpen 21 = .ok (.istore_n 1, 1) := by decide +kernel
theorem dX3_countOpen_22 : decode cX3_countOpen 22 = .ok (.iload_n 1, 1) := by decide +kernel
theorem dX3_countOpen_23 : decode cX3_countOpen 23 = .ok (.aload_n 0, 1) := by decide +kernel
theorem dX3_countOpen_24 : decode cX3_countOpen 24 = .ok (.getfield 112, 3) := by decide +kernel
theorem dX3_countOpen_27 : decode cX3_countOpen 27 = .ok (.if_icmp .ge 38, 3) := by decide +kernel
theorem dX3_countOpen_30 : decode cX3_countOpen 30 = .ok (.aload_n 0, 1) := by decide +kernel
theorem dX3_countOpen_31 : decode cX3_countOpen 31 = .ok (.getfield 66, 3) := by decide +kernel
theorem dX3_countOpen_34 : decode cX3_countOpen 34 = .ok (.aload_n 0, 1) := by decide +kernel
theorem dX3_countOpen_35 : decode cX3_countOpen 35 = .ok (.getfield 50, 3) := by decide +kernel
theorem dX3_countOpen_38 : decode cX3_countOpen 38 = .ok (.iload_n 1, 1) := by decide +kernel
theorem dX3_countOpen_39 : decode cX3_countOpen 39 = .ok (.iaload, 1) := by decide +kernel
theorem dX3_countOpen_40 : decode cX3_countOpen 40 = .ok (.dup2, 1) := by decide +kernel
theorem dX3_countOpen_41 : decode cX3_countOpen 41 = .ok (.iaload, 1) := by decide +kernel
theorem dX3_countOpen_42 : decode cX3_countOpen 42 = .ok (.aload_n 0, 1) := by decide +kernel
theorem dX3_countOpen_43 : decode cX3_countOpen 43 = .ok (.getfield 53, 3) := by decide +kernel
theorem dX3_countOpen_46 : decode cX3_countOpen 46 = .ok (.iload_n 1, 1) := by decide +kernel
theorem dX3_countOpen_47 : decode cX3_countOpen 47 = .ok (.iaload, 1) := by decide +kernel
theorem dX3_countOpen_48 : decode cX3_countOpen 48 = .ok (.iconst (-1), 1) := by decide +kernel
theorem dX3_countOpen_49 : decode cX3_countOpen 49 = .ok (.if_icmp .ne 7, 3) := by decide +kernel
theorem dX3_countOpen_52 : decode cX3_countOpen 52 = .ok (.iconst 1, 1) := by decide +kernel
theorem dX3_countOpen_53 : decode cX3_countOpen 53 = .ok (.goto 4, 3) := by decide +kernel
theorem dX3_countOpen_56 : decode cX3_countOpen 56 = .ok (.iconst 0, 1) := by decide +kernel
theorem dX3_countOpen_57 : decode cX3_countOpen 57 = .ok (.iadd, 1) := by decide +kernel
theorem dX3_countOpen_58 : decode cX3_countOpen 58 = .ok (.iastore, 1) := by decide +kernel
theorem dX3_countOpen_59 : decode cX3_countOpen 59 = .ok (.iinc 1 1, 3) := by decide +kernel
theorem dX3_countOpen_62 : decode cX3_countOpen 62 = .ok (.goto (-40), 3) := by decide +kernel
theorem dX3_countOpen_65 : decode cX3_countOpen 65 = .ok (.return_, 1) := by decide +kernel
theorem dX3_canAll_0 : decode cX3_canAll 0 = .ok (.iconst 0, 1) := by decide +kernel
theorem dX3_canAll_1 : decode cX3_canAll 1 = .ok (.istore_n 3, 1) := by decide +kernel
theorem dX3_canAll_2 : decode cX3_canAll 2 = .ok (.iload_n 3, 1) := by decide +kernel
theorem dX3_canAll_3 : decode cX3_canAll 3 = .ok (.bipush 32, 2) := by decide +kernel
theorem dX3_canAll_5 : decode cX3_canAll 5 = .ok (.if_icmp .ge 109, 3) := by decide +kernel
theorem dX3_canAll_8 : decode cX3_canAll 8 = .ok (.iconst 0, 1) := by decide +kernel
theorem dX3_canAll_9 : decode cX3_canAll 9 = .ok (.istore 4, 2) := by decide +kernel
theorem dX3_canAll_11 : decode cX3_canAll 11 = .ok (.iconst 0, 1) := by decide +kernel
theorem dX3_canAll_12 : decode cX3_canAll 12 = .ok (.istore 5, 2) := by decide +kernel
theorem dX3_canAll_14 : decode cX3_canAll 14 = .ok (.iconst 0, 1) := by decide +kernel
theorem dX3_canAll_15 : decode cX3_canAll 15 = .ok (.istore 6, 2) := by decide +kernel
theorem dX3_canAll_17 : decode cX3_canAll 17 = .ok (.iload 6, 2) := by decide +kernel
theorem dX3_canAll_19 : decode cX3_canAll 19 = .ok (.iconst 5, 1) := by decide +kernel
theorem dX3_canAll_20 : decode cX3_canAll 20 = .ok (.if_icmp .ge 35, 3) := by decide +kernel
theorem dX3_canAll_23 : decode cX3_canAll 23 = .ok (.iload 4, 2) := by decide +kernel
theorem dX3_canAll_25 : decode cX3_canAll 25 = .ok (.iload_n 3, 1) := by decide +kernel
theorem dX3_canAll_26 : decode cX3_canAll 26 = .ok (.iload 6, 2) := by decide +kernel
theorem dX3_canAll_28 : decode cX3_canAll 28 = .ok (.ishr, 1) := by decide +kernel
theorem dX3_canAll_29 : decode cX3_canAll 29 = .ok (.iconst 1, 1) := by decide +kernel
theorem dX3_canAll_30 : decode cX3_canAll 30 = .ok (.iand, 1) := by decide +kernel
theorem dX3_canAll_31 : decode cX3_canAll 31 = .ok (.iconst 1, 1) := by decide +kernel
theorem dX3_canAll_32 : decode cX3_canAll 32 = .ok (.if_icmp .ne 13, 3) := by decide +kernel
theorem dX3_canAll_35 : decode cX3_canAll 35 = .ok (.aload_n 0, 1) := by decide +kernel
theorem dX3_canAll_36 : decode cX3_canAll 36 = .ok (.getfield 66, 3) := by decide +kernel
theorem dX3_canAll_39 : decode cX3_canAll 39 = .ok (.iload 6, 2) := by decide +kernel
theorem dX3_canAll_41 : decode cX3_canAll 41 = .ok (.iaload, 1) := by decide +kernel
theorem dX3_canAll_42 : decode cX3_canAll 42 = .ok (.goto 4, 3) := by decide +kernel
theorem dX3_canAll_45 : decode cX3_canAll 45 = .ok (.iconst 0, 1) := by decide +kernel
theorem dX3_canAll_46 : decode cX3_canAll 46 = .ok (.iadd, 1) := by decide +kernel
theorem dX3_canAll_47 : decode cX3_canAll 47 = .ok (.istore 4, 2) := by decide +kernel
theorem dX3_canAll_49 : decode cX3_canAll 49 = .ok (.iinc 6 1, 3) := by decide +kernel
theorem dX3_canAll_52 : decode cX3_canAll 52 = .ok (.goto (-35), 3) := by decide +kernel
theorem dX3_canAll_55 : decode cX3_canAll 55 = .ok (.iload_n 1, 1) := by decide +kernel
theorem dX3_canAll_56 : decode cX3_canAll 56 = .ok (.istore 6, 2) := by decide +kernel
theorem dX3_canAll_58 : decode cX3_canAll 58 = .ok (.iload 6, 2) := by decide +kernel
theorem dX3_canAll_60 : decode cX3_canAll 60 = .ok (.iload_n 2, 1) := by decide +kernel
theorem dX3_canAll_61 : decode cX3_canAll 61 = .ok (.if_icmp .ge 38, 3) := by decide +kernel
theorem dX3_canAll_64 : decode cX3_canAll 64 = .ok (.iload 5, 2) := by decide +kernel
theorem dX3_canAll_66 : decode cX3_canAll 66 = .ok (.aload_n 0, 1) := by decide +kernel
theorem dX3_canAll_67 : decode cX3_canAll 67 = .ok (.getfield 19, 3) := by decide +kernel
theorem dX3_canAll_70 : decode cX3_canAll 70 = .ok (.aload_n 0, 1) := by decide +kernel
theorem dX3_canAll_71 : decode cX3_canAll 71 = .ok (.getfield 63, 3) := by decide +kernel
theorem dX3_canAll_74 : decode cX3_canAll 74 = .ok (.iload 6, 2) := by decide +kernel
theorem dX3_canAll_76 : decode cX3_canAll 76 = .ok (.iaload, 1) := by decide +kernel
theorem dX3_canAll_77 : decode cX3_canAll 77 = .ok (.iaload, 1) := by decide +kernel
theorem dX3_canAll_78 : decode cX3_canAll 78 = .ok (.iload_n 3, 1) := by decide +kernel
theorem dX3_canAll_79 : decode cX3_canAll 79 = .ok (.iconst (-1), 1) := by decide +kernel
theorem dX3_canAll_80 : decode cX3_canAll 80 = .ok (.ixor, 1) := by decide +kernel
theorem dX3_canAll_81 : decode cX3_canAll 81 = .ok (.iand, 1) := by decide +kernel
theorem dX3_canAll_82 : decode cX3_canAll 82 = .ok (.ifCond .ne 7, 3) := by decide +kernel
theorem dX3_canAll_85 : decode cX3_canAll 85 = .ok (.iconst 1, 1) := by decide +kernel
theorem dX3_canAll_86 : decode cX3_canAll 86 = .ok (.goto 4, 3) := by decide +kernel
theorem dX3_canAll_89 : decode cX3_canAll 89 = .ok (.iconst 0, 1) := by decide +kernel
theorem dX3_canAll_90 : decode cX3_canAll 90 = .ok (.iadd, 1) := by decide +kernel
theorem dX3_canAll_91 : decode cX3_canAll 91 = .ok (.istore 5, 2) := by decide +kernel
theorem dX3_canAll_93 : decode cX3_canAll 93 = .ok (.iinc 6 1, 3) := by decide +kernel
theorem dX3_canAll_96 : decode cX3_canAll 96 = .ok (.goto (-38), 3) := by decide +kernel
theorem dX3_canAll_99 : decode cX3_canAll 99 = .ok (.iload 5, 2) := by decide +kernel
theorem dX3_canAll_101 : decode cX3_canAll 101 = .ok (.iload 4, 2) := by decide +kernel
theorem dX3_canAll_103 : decode cX3_canAll 103 = .ok (.if_icmp .le 5, 3) := by decide +kernel
theorem dX3_canAll_106 : decode cX3_canAll 106 = .ok (.iconst 0, 1) := by decide +kernel
theorem dX3_canAll_107 : decode cX3_canAll 107 = .ok (.ireturn, 1) := by decide +kernel
theorem dX3_canAll_108 : decode cX3_canAll 108 = .ok (.iinc 3 1, 3) := by decide +kernel
theorem dX3_canAll_111 : decode cX3_canAll 111 = .ok (.goto (-109), 3) := by decide +kernel
theorem dX3_canAll_114 : decode cX3_canAll 114 = .ok (.iconst 1, 1) := by decide +kernel
theorem dX3_canAll_115 : decode cX3_canAll 115 = .ok (.ireturn, 1) := by decide +kernel
theorem dX3_refuses_0 : decode cX3_refuses 0 = .ok (.aload_n 0, 1) := by decide +kernel
theorem dX3_refuses_1 : decode cX3_refuses 1 = .ok (.getfield 41, 3) := by decide +kernel
theorem dX3_refuses_4 : decode cX3_refuses 4 = .ok (.iload_n 1, 1) := by decide +kernel
theorem dX3_refuses_5 : decode cX3_refuses 5 = .ok (.dup2, 1) := by decide +kernel
theorem dX3_refuses_6 : decode cX3_refuses 6 = .ok (.iaload, 1) := by decide +kernel
theorem dX3_refuses_7 : decode cX3_refuses 7 = .ok (.iconst 1, 1) := by decide +kernel
theorem dX3_refuses_8 : decode cX3_refuses 8 = .ok (.iadd, 1) := by decide +kernel
theorem dX3_refuses_9 : decode cX3_refuses 9 = .ok (.iastore, 1) := by decide +kernel
theorem dX3_refuses_10 : decode cX3_refuses 10 = .ok (.aload_n 0, 1) := by decide +kernel
theorem dX3_refuses_11 : decode cX3_refuses 11 = .ok (.getfield 44, 3) := by decide +kernel
theorem dX3_refuses_14 : decode cX3_refuses 14 = .ok (.aload_n 0, 1) := by decide +kernel
theorem dX3_refuses_15 : decode cX3_refuses 15 = .ok (.getfield 13, 3) := by decide +kernel
theorem dX3_refuses_18 : decode cX3_refuses 18 = .ok (.iload_n 1, 1) := by decide +kernel
theorem dX3_refuses_19 : decode cX3_refuses 19 = .ok (.iaload, 1) := by decide +kernel
theorem dX3_refuses_20 : decode cX3_refuses 20 = .ok (.baload, 1) := by decide +kernel
theorem dX3_refuses_21 : decode cX3_refuses 21 = .ok (.ifCond .eq 8, 3) := by decide +kernel
theorem dX3_refuses_24 : decode cX3_refuses 24 = .ok (.aload_n 0, 1) := by decide +kernel
theorem dX3_refuses_25 : decode cX3_refuses 25 = .ok (.iload_n 1, 1) := by decide +kernel
theorem dX3_refuses_26 : decode cX3_refuses 26 = .ok (.invokevirtual 98, 3) := by decide +kernel
theorem dX3_refuses_29 : decode cX3_refuses 29 = .ok (.return_, 1) := by decide +kernel
theorem dX3_fills_0 : decode cX3_fills 0 = .ok (.aload_n 0, 1) := by decide +kernel
theorem dX3_fills_1 : decode cX3_fills 1 = .ok (.getfield 53, 3) := by decide +kernel
theorem dX3_fills_4 : decode cX3_fills 4 = .ok (.iload_n 2, 1) := by decide +kernel
theorem dX3_fills_5 : decode cX3_fills 5 = .ok (.iload_n 1, 1) := by decide +kernel
theorem dX3_fills_6 : decode cX3_fills 6 = .ok (.iastore, 1) := by decide +kernel
theorem dX3_fills_7 : decode cX3_fills 7 = .ok (.aload_n 0, 1) := by decide +kernel
theorem dX3_fills_8 : decode cX3_fills 8 = .ok (.getfield 32, 3) := by decide +kernel
theorem dX3_fills_11 : decode cX3_fills 11 = .ok (.iload_n 1, 1) := by decide +kernel
theorem dX3_fills_12 : decode cX3_fills 12 = .ok (.iload_n 2, 1) := by decide +kernel
theorem dX3_fills_13 : decode cX3_fills 13 = .ok (.iastore, 1) := by decide +kernel
theorem dX3_fills_14 : decode cX3_fills 14 = .ok (.aload_n 0, 1) := by decide +kernel
theorem dX3_fills_15 : decode cX3_fills 15 = .ok (.getfield 35, 3) := by decide +kernel
theorem dX3_fills_18 : decode cX3_fills 18 = .ok (.iload_n 1, 1) := by decide +kernel
theorem dX3_fills_19 : decode cX3_fills 19 = .ok (.aload_n 0, 1) := by decide +kernel
theorem dX3_fills_20 : decode cX3_fills 20 = .ok (.getfield 115, 3) := by decide +kernel
theorem dX3_fills_23 : decode cX3_fills 23 = .ok (.iastore, 1) := by decide +kernel
theorem dX3_fills_24 : decode cX3_fills 24 = .ok (.aload_n 0, 1) := by decide +kernel
theorem dX3_fills_25 : decode cX3_fills 25 = .ok (.getfield 29, 3) := by decide +kernel
theorem dX3_fills_28 : decode cX3_fills 28 = .ok (.iload_n 1, 1) := by decide +kernel
theorem dX3_fills_29 : decode cX3_fills 29 = .ok (.iconst 1, 1) := by decide +kernel
theorem dX3_fills_30 : decode cX3_fills 30 = .ok (.bastore, 1) := by decide +kernel
theorem dX3_fills_31 : decode cX3_fills 31 = .ok (.aload_n 0, 1) := by decide +kernel
theorem dX3_fills_32 : decode cX3_fills 32 = .ok (.iconst 1, 1) := by decide +kernel
theorem dX3_fills_33 : decode cX3_fills 33 = .ok (.putfield 118, 3) := by decide +kernel
theorem dX3_fills_36 : decode cX3_fills 36 = .ok (.return_, 1) := by decide +kernel
theorem dX3_gives_0 : decode cX3_gives 0 = .ok (.iconst 0, 1) := by decide +kernel
theorem dX3_gives_1 : decode cX3_gives 1 = .ok (.istore_n 2, 1) := by decide +kernel
theorem dX3_gives_2 : decode cX3_gives 2 = .ok (.iload_n 2, 1) := by decide +kernel
theorem dX3_gives_3 : decode cX3_gives 3 = .ok (.iload_n 1, 1) := by decide +kernel
theorem dX3_gives_4 : decode cX3_gives 4 = .ok (.if_icmp .ge 134, 3) := by decide +kernel
theorem dX3_gives_7 : decode cX3_gives 7 = .ok (.iconst 0, 1) := by decide +kernel
theorem dX3_gives_8 : decode cX3_gives 8 = .ok (.istore_n 3, 1) := by decide +kernel
theorem dX3_gives_9 : decode cX3_gives 9 = .ok (.iconst 0, 1) := by decide +kernel
theorem dX3_gives_10 : decode cX3_gives 10 = .ok (.istore 4, 2) := by decide +kernel
theorem dX3_gives_12 : decode cX3_gives 12 = .ok (.iload 4, 2) := by decide +kernel
theorem dX3_gives_14 : decode cX3_gives 14 = .ok (.aload_n 0, 1) := by decide +kernel
theorem dX3_gives_15 : decode cX3_gives 15 = .ok (.getfield 112, 3) := by decide +kernel
theorem dX3_gives_18 : decode cX3_gives 18 = .ok (.if_icmp .ge 114, 3) := by decide +kernel
theorem dX3_gives_21 : decode cX3_gives 21 = .ok (.iload_n 3, 1) := by decide +kernel
theorem dX3_gives_22 : decode cX3_gives 22 = .ok (.ifCond .ne 110, 3) := by decide +kernel
theorem dX3_gives_25 : decode cX3_gives 25 = .ok (.aload_n 0, 1) := by decide +kernel
theorem dX3_gives_26 : decode cX3_gives 26 = .ok (.getfield 53, 3) := by decide +kernel
theorem dX3_gives_29 : decode cX3_gives 29 = .ok (.iload 4, 2) := by decide +kernel
theorem dX3_gives_31 : decode cX3_gives 31 = .ok (.iaload, 1) := by decide +kernel
theorem dX3_gives_32 : decode cX3_gives 32 = .ok (.iconst (-1), 1) := by decide +kernel
theorem dX3_gives_33 : decode cX3_gives 33 = .ok (.if_icmp .ne 93, 3) := by decide +kernel
theorem dX3_gives_36 : decode cX3_gives 36 = .ok (.aload_n 0, 1) := by decide +kernel
theorem dX3_gives_37 : decode cX3_gives 37 = .ok (.getfield 19, 3) := by decide +kernel
theorem dX3_gives_40 : decode cX3_gives 40 = .ok (.aload_n 0, 1) := by decide +kernel
theorem dX3_gives_41 : decode cX3_gives 41 = .ok (.getfield 63, 3) := by decide +kernel
theorem dX3_gives_44 : decode cX3_gives 44 = .ok (.iload_n 2, 1) := by decide +kernel
theorem dX3_gives_45 : decode cX3_gives 45 = .ok (.iaload, 1) := by decide +kernel
theorem dX3_gives_46 : decode cX3_gives 46 = .ok (.iaload, 1) := by decide +kernel
theorem dX3_gives_47 : decode cX3_gives 47 = .ok (.aload_n 0, 1) := by decide +kernel
theorem dX3_gives_48 : decode cX3_gives 48 = .ok (.getfield 50, 3) := by decide +kernel
theorem dX3_gives_51 : decode cX3_gives 51 = .ok (.iload 4, 2) := by decide +kernel
theorem dX3_gives_53 : decode cX3_gives 53 = .ok (.iaload, 1) := by decide +kernel
theorem dX3_gives_54 : decode cX3_gives 54 = .ok (.ishr, 1) := by decide +kernel
theorem dX3_gives_55 : decode cX3_gives 55 = .ok (.iconst 1, 1) := by decide +kernel
theorem dX3_gives_56 : decode cX3_gives 56 = .ok (.iand, 1) := by decide +kernel
theorem dX3_gives_57 : decode cX3_gives 57 = .ok (.iconst 1, 1) := by decide +kernel
theorem dX3_gives_58 : decode cX3_gives 58 = .ok (.if_icmp .ne 68, 3) := by decide +kernel
theorem dX3_gives_61 : decode cX3_gives 61 = .ok (.aload_n 0, 1) := by decide +kernel
theorem dX3_gives_62 : decode cX3_gives 62 = .ok (.getfield 66, 3) := by decide +kernel
theorem dX3_gives_65 : decode cX3_gives 65 = .ok (.aload_n 0, 1) := by decide +kernel
theorem dX3_gives_66 : decode cX3_gives 66 = .ok (.getfield 50, 3) := by decide +kernel
theorem dX3_gives_69 : decode cX3_gives 69 = .ok (.iload 4, 2) := by decide +kernel
theorem dX3_gives_71 : decode cX3_gives 71 = .ok (.iaload, 1) := by decide +kernel
theorem dX3_gives_72 : decode cX3_gives 72 = .ok (.dup2, 1) := by decide +kernel
theorem dX3_gives_73 : decode cX3_gives 73 = .ok (.iaload, 1) := by decide +kernel
theorem dX3_gives_74 : decode cX3_gives 74 = .ok (.iconst 1, 1) := by decide +kernel
theorem dX3_gives_75 : decode cX3_gives 75 = .ok (.isub, 1) := by decide +kernel
theorem dX3_gives_76 : decode cX3_gives 76 = .ok (.iastore, 1) := by decide +kernel
theorem dX3_gives_77 : decode cX3_gives 77 = .ok (.aload_n 0, 1) := by decide +kernel
theorem dX3_gives_78 : decode cX3_gives 78 = .ok (.iload_n 2, 1) := by decide +kernel
theorem dX3_gives_79 : decode cX3_gives 79 = .ok (.iconst 1, 1) := by decide +kernel
theorem dX3_gives_80 : decode cX3_gives 80 = .ok (.iadd, 1) := by decide +kernel
theorem dX3_gives_81 : decode cX3_gives 81 = .ok (.iload_n 1, 1) := by decide +kernel
theorem dX3_gives_82 : decode cX3_gives 82 = .ok (.invokevirtual 122, 3) := by decide +kernel
theorem dX3_gives_85 : decode cX3_gives 85 = .ok (.istore_n 3, 1) := by decide +kernel
theorem dX3_gives_86 : decode cX3_gives 86 = .ok (.aload_n 0, 1) := by decide +kernel
theorem dX3_gives_87 : decode cX3_gives 87 = .ok (.getfield 66, 3) := by decide +kernel
theorem dX3_gives_90 : decode cX3_gives 90 = .ok (.aload_n 0, 1) := by decide +kernel
theorem dX3_gives_91 : decode cX3_gives 91 = .ok (.getfield 50, 3) := by decide +kernel
theorem dX3_gives_94 : decode cX3_gives 94 = .ok (.iload 4, 2) := by decide +kernel
theorem dX3_gives_96 : decode cX3_gives 96 = .ok (.iaload, 1) := by decide +kernel
theorem dX3_gives_97 : decode cX3_gives 97 = .ok (.dup2, 1) := by decide +kernel
theorem dX3_gives_98 : decode cX3_gives 98 = .ok (.iaload, 1) := by decide +kernel
theorem dX3_gives_99 : decode cX3_gives 99 = .ok (.iload_n 3, 1) := by decide +kernel
theorem dX3_gives_100 : decode cX3_gives 100 = .ok (.ifCond .eq 7, 3) := by decide +kernel
theorem dX3_gives_103 : decode cX3_gives 103 = .ok (.iconst 0, 1) := by decide +kernel
theorem dX3_gives_104 : decode cX3_gives 104 = .ok (.goto 4, 3) := by decide +kernel
theorem dX3_gives_107 : decode cX3_gives 107 = .ok (.iconst 1, 1) := by decide +kernel
theorem dX3_gives_108 : decode cX3_gives 108 = .ok (.iadd, 1) := by decide +kernel
theorem dX3_gives_109 : decode cX3_gives 109 = .ok (.iastore, 1) := by decide +kernel
theorem dX3_gives_110 : decode cX3_gives 110 = .ok (.iload_n 3, 1) := by decide +kernel
theorem dX3_gives_111 : decode cX3_gives 111 = .ok (.ifCond .eq 15, 3) := by decide +kernel
theorem dX3_gives_114 : decode cX3_gives 114 = .ok (.aload_n 0, 1) := by decide +kernel
theorem dX3_gives_115 : decode cX3_gives 115 = .ok (.aload_n 0, 1) := by decide +kernel
theorem dX3_gives_116 : decode cX3_gives 116 = .ok (.getfield 63, 3) := by decide +kernel
theorem dX3_gives_119 : decode cX3_gives 119 = .ok (.iload_n 2, 1) := by decide +kernel
theorem dX3_gives_120 : decode cX3_gives 120 = .ok (.iaload, 1) := by decide +kernel
theorem dX3_gives_121 : decode cX3_gives 121 = .ok (.iload 4, 2) := by decide +kernel
theorem dX3_gives_123 : decode cX3_gives 123 = .ok (.invokevirtual 125, 3) := by decide +kernel
theorem dX3_gives_126 : decode cX3_gives 126 = .ok (.iinc 4 1, 3) := by decide +kernel
theorem dX3_gives_129 : decode cX3_gives 129 = .ok (.goto (-117), 3) := by decide +kernel
theorem dX3_gives_132 : decode cX3_gives 132 = .ok (.iinc 2 1, 3) := by decide +kernel
theorem dX3_gives_135 : decode cX3_gives 135 = .ok (.goto (-133), 3) := by decide +kernel
theorem dX3_gives_138 : decode cX3_gives 138 = .ok (.iconst 0, 1) := by decide +kernel
theorem dX3_gives_139 : decode cX3_gives 139 = .ok (.istore_n 2, 1) := by decide +kernel
theorem dX3_gives_140 : decode cX3_gives 140 = .ok (.iload_n 2, 1) := by decide +kernel
theorem dX3_gives_141 : decode cX3_gives 141 = .ok (.iload_n 1, 1) := by decide +kernel
theorem dX3_gives_142 : decode cX3_gives 142 = .ok (.if_icmp .ge 19, 3) := by decide +kernel
theorem dX3_gives_145 : decode cX3_gives 145 = .ok (.aload_n 0, 1) := by decide +kernel
theorem dX3_gives_146 : decode cX3_gives 146 = .ok (.aload_n 0, 1) := by decide +kernel
theorem dX3_gives_147 : decode cX3_gives 147 = .ok (.getfield 63, 3) := by decide +kernel
theorem dX3_gives_150 : decode cX3_gives 150 = .ok (.iload_n 2, 1) := by decide +kernel
theorem dX3_gives_151 : decode cX3_gives 151 = .ok (.iaload, 1) := by decide +kernel
theorem dX3_gives_152 : decode cX3_gives 152 = .ok (.invokevirtual 98, 3) := by decide +kernel
theorem dX3_gives_155 : decode cX3_gives 155 = .ok (.iinc 2 1, 3) := by decide +kernel
theorem dX3_gives_158 : decode cX3_gives 158 = .ok (.goto (-18), 3) := by decide +kernel
theorem dX3_gives_161 : decode cX3_gives 161 = .ok (.return_, 1) := by decide +kernel
theorem dX3_dispatch_0 : decode cX3_dispatch 0 = .ok (.aload_n 0, 1) := by decide +kernel
theorem dX3_dispatch_1 : decode cX3_dispatch 1 = .ok (.iconst 0, 1) := by decide +kernel
theorem dX3_dispatch_2 : decode cX3_dispatch 2 = .ok (.putfield 69, 3) := by decide +kernel
theorem dX3_dispatch_5 : decode cX3_dispatch 5 = .ok (.aload_n 0, 1) := by decide +kernel
theorem dX3_dispatch_6 : decode cX3_dispatch 6 = .ok (.invokevirtual 106, 3) := by decide +kernel
theorem dX3_dispatch_9 : decode cX3_dispatch 9 = .ok (.istore_n 1, 1) := by decide +kernel
theorem dX3_dispatch_10 : decode cX3_dispatch 10 = .ok (.iconst 0, 1) := by decide +kernel
theorem dX3_dispatch_11 : decode cX3_dispatch 11 = .ok (.istore_n 2, 1) := by decide +kernel
theorem dX3_dispatch_12 : decode cX3_dispatch 12 = .ok (.aload_n 0, 1) := by decide +kernel
theorem dX3_dispatch_13 : decode cX3_dispatch 13 = .ok (.invokevirtual 129, 3) := by decide +kernel
theorem dX3_dispatch_16 : decode cX3_dispatch 16 = .ok (.iconst 0, 1) := by decide +kernel
theorem dX3_dispatch_17 : decode cX3_dispatch 17 = .ok (.istore_n 3, 1) := by decide +kernel
theorem dX3_dispatch_18 : decode cX3_dispatch 18 = .ok (.iload_n 3, 1) := by decide +kernel
theorem dX3_dispatch_19 : decode cX3_dispatch 19 = .ok (.iload_n 1, 1) := by decide +kernel
theorem dX3_dispatch_20 : decode cX3_dispatch 20 = .ok (.if_icmp .ge 89, 3) := by decide +kernel
theorem dX3_dispatch_23 : decode cX3_dispatch 23 = .ok (.aload_n 0, 1) := by decide +kernel
theorem dX3_dispatch_24 : decode cX3_dispatch 24 = .ok (.aload_n 0, 1) := by decide +kernel
theorem dX3_dispatch_25 : decode cX3_dispatch 25 = .ok (.getfield 60, 3) := by decide +kernel
theorem dX3_dispatch_28 : decode cX3_dispatch 28 = .ok (.iload_n 3, 1) := by decide +kernel
theorem dX3_dispatch_29 : decode cX3_dispatch 29 = .ok (.iaload, 1) := by decide +kernel
theorem dX3_dispatch_30 : decode cX3_dispatch 30 = .ok (.invokevirtual 132, 3) := by decide +kernel
theorem dX3_dispatch_33 : decode cX3_dispatch 33 = .ok (.ifCond .eq 70, 3) := by decide +kernel
theorem dX3_dispatch_36 : decode cX3_dispatch 36 = .ok (.aload_n 0, 1) := by decide +kernel
theorem dX3_dispatch_37 : decode cX3_dispatch 37 = .ok (.getfield 63, 3) := by decide +kernel
theorem dX3_dispatch_40 : decode cX3_dispatch 40 = .ok (.iload_n 2, 1) := by decide +kernel
theorem dX3_dispatch_41 : decode cX3_dispatch 41 = .ok (.aload_n 0, 1) := by decide +kernel
theorem dX3_dispatch_42 : decode cX3_dispatch 42 = .ok (.getfield 60, 3) := by decide +kernel
theorem dX3_dispatch_45 : decode cX3_dispatch 45 = .ok (.iload_n 3, 1) := by decide +kernel
theorem dX3_dispatch_46 : decode cX3_dispatch 46 = .ok (.iaload, 1) := by decide +kernel
theorem dX3_dispatch_47 : decode cX3_dispatch 47 = .ok (.iastore, 1) := by decide +kernel
theorem dX3_dispatch_48 : decode cX3_dispatch 48 = .ok (.aload_n 0, 1) := by decide +kernel
theorem dX3_dispatch_49 : decode cX3_dispatch 49 = .ok (.iconst 0, 1) := by decide +kernel
theorem dX3_dispatch_50 : decode cX3_dispatch 50 = .ok (.iload_n 2, 1) := by decide +kernel
theorem dX3_dispatch_51 : decode cX3_dispatch 51 = .ok (.iconst 1, 1) := by decide +kernel
theorem dX3_dispatch_52 : decode cX3_dispatch 52 = .ok (.iadd, 1) := by decide +kernel
theorem dX3_dispatch_53 : decode cX3_dispatch 53 = .ok (.invokevirtual 122, 3) := by decide +kernel
theorem dX3_dispatch_56 : decode cX3_dispatch 56 = .ok (.istore 4, 2) := by decide +kernel
