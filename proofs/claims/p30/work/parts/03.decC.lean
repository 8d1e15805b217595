theorem dX0_init_0 : decode cX0_init 0 = .ok (.aload_n 0, 1) := by decide +kernel
theorem dX0_init_1 : decode cX0_init 1 = .ok (.invokespecial 3, 3) := by decide +kernel
theorem dX0_init_4 : decode cX0_init 4 = .ok (.aload_n 0, 1) := by decide +kernel
theorem dX0_init_5 : decode cX0_init 5 = .ok (.bipush 100, 2) := by decide +kernel
theorem dX0_init_7 : decode cX0_init 7 = .ok (.newarray .boolean, 2) := by decide +kernel
theorem dX0_init_9 : decode cX0_init 9 = .ok (.putfield 9, 3) := by decide +kernel
theorem dX0_init_12 : decode cX0_init 12 = .ok (.aload_n 0, 1) := by decide +kernel
theorem dX0_init_13 : decode cX0_init 13 = .ok (.bipush 100, 2) := by decide +kernel
theorem dX0_init_15 : decode cX0_init 15 = .ok (.newarray .int, 2) := by decide +kernel
theorem dX0_init_17 : decode cX0_init 17 = .ok (.putfield 15, 3) := by decide +kernel
theorem dX0_init_20 : decode cX0_init 20 = .ok (.aload_n 0, 1) := by decide +kernel
theorem dX0_init_21 : decode cX0_init 21 = .ok (.iconst 0, 1) := by decide +kernel
theorem dX0_init_22 : decode cX0_init 22 = .ok (.putfield 19, 3) := by decide +kernel
theorem dX0_init_25 : decode cX0_init 25 = .ok (.return_, 1) := by decide +kernel
theorem dX0_list_0 : decode cX0_list 0 = .ok (.iconst 0, 1) := by decide +kernel
theorem dX0_list_1 : decode cX0_list 1 = .ok (.istore_n 3, 1) := by decide +kernel
theorem dX0_list_2 : decode cX0_list 2 = .ok (.iload_n 3, 1) := by decide +kernel
theorem dX0_list_3 : decode cX0_list 3 = .ok (.bipush 100, 2) := by decide +kernel
theorem dX0_list_5 : decode cX0_list 5 = .ok (.if_icmp .ge 16, 3) := by decide +kernel
theorem dX0_list_8 : decode cX0_list 8 = .ok (.aload_n 0, 1) := by decide +kernel
theorem dX0_list_9 : decode cX0_list 9 = .ok (.getfield 9, 3) := by decide +kernel
theorem dX0_list_12 : decode cX0_list 12 = .ok (.iload_n 3, 1) := by decide +kernel
theorem dX0_list_13 : decode cX0_list 13 = .ok (.iconst 0, 1) := by decide +kernel
theorem dX0_list_14 : decode cX0_list 14 = .ok (.bastore, 1) := by decide +kernel
theorem dX0_list_15 : decode cX0_list 15 = .ok (.iinc 3 1, 3) := by decide +kernel
theorem dX0_list_18 : decode cX0_list 18 = .ok (.goto (-16), 3) := by decide +kernel
theorem dX0_list_21 : decode cX0_list 21 = .ok (.aload_n 0, 1) := by decide +kernel
theorem dX0_list_22 : decode cX0_list 22 = .ok (.iconst 0, 1) := by decide +kernel
theorem dX0_list_23 : decode cX0_list 23 = .ok (.invokevirtual 23, 3) := by decide +kernel
theorem dX0_list_26 : decode cX0_list 26 = .ok (.iconst 0, 1) := by decide +kernel
theorem dX0_list_27 : decode cX0_list 27 = .ok (.istore_n 3, 1) := by decide +kernel
theorem dX0_list_28 : decode cX0_list 28 = .ok (.iload_n 3, 1) := by decide +kernel
theorem dX0_list_29 : decode cX0_list 29 = .ok (.aload_n 1, 1) := by decide +kernel
theorem dX0_list_30 : decode cX0_list 30 = .ok (.invokevirtual 27, 3) := by decide +kernel
theorem dX0_list_33 : decode cX0_list 33 = .ok (.if_icmp .ge 32, 3) := by decide +kernel
theorem dX0_list_36 : decode cX0_list 36 = .ok (.aload_n 1, 1) := by decide +kernel
theorem dX0_list_37 : decode cX0_list 37 = .ok (.iload_n 3, 1) := by decide +kernel
theorem dX0_list_38 : decode cX0_list 38 = .ok (.invokevirtual 32, 3) := by decide +kernel
theorem dX0_list_41 : decode cX0_list 41 = .ok (.invokestatic 36, 3) := by decide +kernel
theorem dX0_list_44 : decode cX0_list 44 = .ok (.ifCond .eq 15, 3) := by decide +kernel
theorem dX0_list_47 : decode cX0_list 47 = .ok (.aload_n 0, 1) := by decide +kernel
theorem dX0_list_48 : decode cX0_list 48 = .ok (.aload_n 1, 1) := by decide +kernel
theorem dX0_list_49 : decode cX0_list 49 = .ok (.iload_n 3, 1) := by decide +kernel
theorem dX0_list_50 : decode cX0_list 50 = .ok (.invokevirtual 32, 3) := by decide +kernel
theorem dX0_list_53 : decode cX0_list 53 = .ok (.invokestatic 42, 3) := by decide +kernel
theorem dX0_list_56 : decode cX0_list 56 = .ok (.invokevirtual 23, 3) := by decide +kernel
theorem dX0_list_59 : decode cX0_list 59 = .ok (.iinc 3 1, 3) := by decide +kernel
theorem dX0_list_62 : decode cX0_list 62 = .ok (.goto (-34), 3) := by decide +kernel
theorem dX0_list_65 : decode cX0_list 65 = .ok (.iconst 0, 1) := by decide +kernel
theorem dX0_list_66 : decode cX0_list 66 = .ok (.istore_n 3, 1) := by decide +kernel
theorem dX0_list_67 : decode cX0_list 67 = .ok (.iload_n 3, 1) := by decide +kernel
theorem dX0_list_68 : decode cX0_list 68 = .ok (.aload_n 2, 1) := by decide +kernel
theorem dX0_list_69 : decode cX0_list 69 = .ok (.arraylength, 1) := by decide +kernel
theorem dX0_list_70 : decode cX0_list 70 = .ok (.if_icmp .ge 23, 3) := by decide +kernel
theorem dX0_list_73 : decode cX0_list 73 = .ok (.aload_n 2, 1) := by decide +kernel
theorem dX0_list_74 : decode cX0_list 74 = .ok (.iload_n 3, 1) := by decide +kernel
theorem dX0_list_75 : decode cX0_list 75 = .ok (.iaload, 1) := by decide +kernel
theorem dX0_list_76 : decode cX0_list 76 = .ok (.iconst (-1), 1) := by decide +kernel
theorem dX0_list_77 : decode cX0_list 77 = .ok (.if_icmp .eq 10, 3) := by decide +kernel
theorem dX0_list_80 : decode cX0_list 80 = .ok (.aload_n 0, 1) := by decide +kernel
theorem dX0_list_81 : decode cX0_list 81 = .ok (.aload_n 2, 1) := by decide +kernel
theorem dX0_list_82 : decode cX0_list 82 = .ok (.iload_n 3, 1) := by decide +kernel
theorem dX0_list_83 : decode cX0_list 83 = .ok (.iaload, 1) := by decide +kernel
theorem dX0_list_84 : decode cX0_list 84 = .ok (.invokevirtual 23, 3) := by decide +kernel
theorem dX0_list_87 : decode cX0_list 87 = .ok (.iinc 3 1, 3) := by decide +kernel
theorem dX0_list_90 : decode cX0_list 90 = .ok (.goto (-23), 3) := by decide +kernel
theorem dX0_list_93 : decode cX0_list 93 = .ok (.aload_n 0, 1) := by decide +kernel
theorem dX0_list_94 : decode cX0_list 94 = .ok (.iconst 0, 1) := by decide +kernel
theorem dX0_list_95 : decode cX0_list 95 = .ok (.putfield 19, 3) := by decide +kernel
theorem dX0_list_98 : decode cX0_list 98 = .ok (.iconst 0, 1) := by decide +kernel
theorem dX0_list_99 : decode cX0_list 99 = .ok (.istore_n 3, 1) := by decide +kernel
theorem dX0_list_100 : decode cX0_list 100 = .ok (.iload_n 3, 1) := by decide +kernel
theorem dX0_list_101 : decode cX0_list 101 = .ok (.bipush 100, 2) := by decide +kernel
theorem dX0_list_103 : decode cX0_list 103 = .ok (.if_icmp .ge 38, 3) := by decide +kernel
theorem dX0_list_106 : decode cX0_list 106 = .ok (.aload_n 0, 1) := by decide +kernel
theorem dX0_list_107 : decode cX0_list 107 = .ok (.getfield 9, 3) := by decide +kernel
theorem dX0_list_110 : decode cX0_list 110 = .ok (.iload_n 3, 1) := by decide +kernel
theorem dX0_list_111 : decode cX0_list 111 = .ok (.baload, 1) := by decide +kernel
theorem dX0_list_112 : decode cX0_list 112 = .ok (.ifCond .eq 23, 3) := by decide +kernel
theorem dX0_list_115 : decode cX0_list 115 = .ok (.aload_n 0, 1) := by decide +kernel
theorem dX0_list_116 : decode cX0_list 116 = .ok (.getfield 15, 3) := by decide +kernel
theorem dX0_list_119 : decode cX0_list 119 = .ok (.aload_n 0, 1) := by decide +kernel
theorem dX0_list_120 : decode cX0_list 120 = .ok (.getfield 19, 3) := by decide +kernel
theorem dX0_list_123 : decode cX0_list 123 = .ok (.iload_n 3, 1) := by decide +kernel
theorem dX0_list_124 : decode cX0_list 124 = .ok (.iastore, 1) := by decide +kernel
theorem dX0_list_125 : decode cX0_list 125 = .ok (.aload_n 0, 1) := by decide +kernel
theorem dX0_list_126 : decode cX0_list 126 = .ok (.dup, 1) := by decide +kernel
theorem dX0_list_127 : decode cX0_list 127 = .ok (.getfield 19, 3) := by decide +kernel
theorem dX0_list_130 : decode cX0_list 130 = .ok (.iconst 1, 1) := by decide +kernel
theorem dX0_list_131 : decode cX0_list 131 = .ok (.iadd, 1) := by decide +kernel
theorem dX0_list_132 : decode cX0_list 132 = .ok (.putfield 19, 3) := by decide +kernel
theorem dX0_list_135 : decode cX0_list 135 = .ok (.iinc 3 1, 3) := by decide +kernel
theorem dX0_list_138 : decode cX0_list 138 = .ok (.goto (-38), 3) := by decide +kernel
theorem dX0_list_141 : decode cX0_list 141 = .ok (.return_, 1) := by decide +kernel
theorem dX0_mark_0 : decode cX0_mark 0 = .ok (.iload_n 1, 1) := by decide +kernel
theorem dX0_mark_1 : decode cX0_mark 1 = .ok (.iconst 0, 1) := by decide +kernel
theorem dX0_mark_2 : decode cX0_mark 2 = .ok (.invokestatic 45, 3) := by decide +kernel
theorem dX0_mark_5 : decode cX0_mark 5 = .ok (.istore_n 2, 1) := by decide +kernel
theorem dX0_mark_6 : decode cX0_mark 6 = .ok (.iload_n 2, 1) := by decide +kernel
theorem dX0_mark_7 : decode cX0_mark 7 = .ok (.bipush 100, 2) := by decide +kernel
theorem dX0_mark_9 : decode cX0_mark 9 = .ok (.if_icmp .ge 23, 3) := by decide +kernel
theorem dX0_mark_12 : decode cX0_mark 12 = .ok (.iload_n 2, 1) := by decide +kernel
theorem dX0_mark_13 : decode cX0_mark 13 = .ok (.iload_n 1, 1) := by decide +kernel
theorem dX0_mark_14 : decode cX0_mark 14 = .ok (.iconst 2, 1) := by decide +kernel
theorem dX0_mark_15 : decode cX0_mark 15 = .ok (.iadd, 1) := by decide +kernel
theorem dX0_mark_16 : decode cX0_mark 16 = .ok (.if_icmp .gt 16, 3) := by decide +kernel
theorem dX0_mark_19 : decode cX0_mark 19 = .ok (.aload_n 0, 1) := by decide +kernel
theorem dX0_mark_20 : decode cX0_mark 20 = .ok (.getfield 9, 3) := by decide +kernel
theorem dX0_mark_23 : decode cX0_mark 23 = .ok (.iload_n 2, 1) := by decide +kernel
theorem dX0_mark_24 : decode cX0_mark 24 = .ok (.iconst 1, 1) := by decide +kernel
theorem dX0_mark_25 : decode cX0_mark 25 = .ok (.bastore, 1) := by decide +kernel
theorem dX0_mark_26 : decode cX0_mark 26 = .ok (.iinc 2 1, 3) := by decide +kernel
theorem dX0_mark_29 : decode cX0_mark 29 = .ok (.goto (-23), 3) := by decide +kernel
theorem dX0_mark_32 : decode cX0_mark 32 = .ok (.return_, 1) := by decide +kernel
theorem dX0_size_0 : decode cX0_size 0 = .ok (.aload_n 0, 1) := by decide +kernel
theorem dX0_size_1 : decode cX0_size 1 = .ok (.getfield 19, 3) := by decide +kernel
theorem dX0_size_4 : decode cX0_size 4 = .ok (.ireturn, 1) := by decide +kernel
theorem dX0_valueAt_0 : decode cX0_valueAt 0 = .ok (.iload_n 1, 1) := by decide +kernel
theorem dX0_valueAt_1 : decode cX0_valueAt 1 = .ok (.ifCond .lt 20, 3) := by decide +kernel
theorem dX0_valueAt_4 : decode cX0_valueAt 4 = .ok (.iload_n 1, 1) := by decide +kernel
theorem dX0_valueAt_5 : decode cX0_valueAt 5 = .ok (.aload_n 0, 1) := by decide +kernel
theorem dX0_valueAt_6 : decode cX0_valueAt 6 = .ok (.getfield 19, 3) := by decide +kernel
theorem dX0_valueAt_9 : decode cX0_valueAt 9 = .ok (.if_icmp .ge 12, 3) := by decide +kernel
theorem dX0_valueAt_12 : decode cX0_valueAt 12 = .ok (.aload_n 0, 1) := by decide +kernel
theorem dX0_valueAt_13 : decode cX0_valueAt 13 = .ok (.getfield 15, 3) := by decide +kernel
theorem dX0_valueAt_16 : decode cX0_valueAt 16 = .ok (.iload_n 1, 1) := by decide +kernel
theorem dX0_valueAt_17 : decode cX0_valueAt 17 = .ok (.iaload, 1) := by decide +kernel
theorem dX0_valueAt_18 : decode cX0_valueAt 18 = .ok (.goto 4, 3) := by decide +kernel
theorem dX0_valueAt_21 : decode cX0_valueAt 21 = .ok (.iconst 0, 1) := by decide +kernel
theorem dX0_valueAt_22 : decode cX0_valueAt 22 = .ok (.ireturn, 1) := by decide +kernel
theorem dX1_init_0 : decode cX1_init 0 = .ok (.aload_n 0, 1) := by decide +kernel
theorem dX1_init_1 : decode cX1_init 1 = .ok (.invokespecial 1, 3) := by decide +kernel
theorem dX1_init_4 : decode cX1_init 4 = .ok (.aload_n 0, 1) := by decide +kernel
theorem dX1_init_5 : decode cX1_init 5 = .ok (.new 7, 3) := by decide +kernel
theorem dX1_init_8 : decode cX1_init 8 = .ok (.dup, 1) := by decide +kernel
theorem dX1_init_9 : decode cX1_init 9 = .ok (.invokespecial 9, 3) := by decide +kernel
theorem dX1_init_12 : decode cX1_init 12 = .ok (.putfield 10, 3) := by decide +kernel
theorem dX1_init_15 : decode cX1_init 15 = .ok (.aload_n 0, 1) := by decide +kernel
theorem dX1_init_16 : decode cX1_init 16 = .ok (.new 7, 3) := by decide +kernel
theorem dX1_init_19 : decode cX1_init 19 = .ok (.dup, 1) := by decide +kernel
theorem dX1_init_20 : decode cX1_init 20 = .ok (.invokespecial 9, 3) := by decide +kernel
theorem dX1_init_23 : decode cX1_init 23 = .ok (.putfield 16, 3) := by decide +kernel
theorem dX1_init_26 : decode cX1_init 26 = .ok (.return_, 1) := by decide +kernel
theorem dX1_truthOf_0 : decode cX1_truthOf 0 = .ok (.aload_n 0, 1) := by decide +kernel
theorem dX1_truthOf_1 : decode cX1_truthOf 1 = .ok (.invokevirtual 19, 3) := by decide +kernel
theorem dX1_truthOf_4 : decode cX1_truthOf 4 = .ok (.iconst 0, 1) := by decide +kernel
theorem dX1_truthOf_5 : decode cX1_truthOf 5 = .ok (.istore 4, 2) := by decide +kernel
theorem dX1_truthOf_7 : decode cX1_truthOf 7 = .ok (.iload 4, 2) := by decide +kernel
theorem dX1_truthOf_9 : decode cX1_truthOf 9 = .ok (.aload_n 1, 1) := by decide +kernel
theorem dX1_truthOf_10 : decode cX1_truthOf 10 = .ok (.invokevirtual 22, 3) := by decide +kernel
theorem dX1_truthOf_13 : decode cX1_truthOf 13 = .ok (.if_icmp .ge 144, 3) := by decide +kernel
theorem dX1_truthOf_16 : decode cX1_truthOf 16 = .ok (.aload_n 1, 1) := by decide +kernel
theorem dX1_truthOf_17 : decode cX1_truthOf 17 = .ok (.iload 4, 2) := by decide +kernel
theorem dX1_truthOf_19 : decode cX1_truthOf 19 = .ok (.invokevirtual 28, 3) := by decide +kernel
theorem dX1_truthOf_22 : decode cX1_truthOf 22 = .ok (.istore 5, 2) := by decide +kernel
theorem dX1_truthOf_24 : decode cX1_truthOf 24 = .ok (.iload 5, 2) := by decide +kernel
theorem dX1_truthOf_26 : decode cX1_truthOf 26 = .ok (.invokestatic 32, 3) := by decide +kernel
theorem dX1_truthOf_29 : decode cX1_truthOf 29 = .ok (.lookupswitch 108 #[(33, 35), (38, 54), (124, 81)], 35) := by decide +kernel
theorem dX1_truthOf_64 : decode cX1_truthOf 64 = .ok (.aload_n 0, 1) := by decide +kernel
theorem dX1_truthOf_65 : decode cX1_truthOf 65 = .ok (.getfield 10, 3) := by decide +kernel
theorem dX1_truthOf_68 : decode cX1_truthOf 68 = .ok (.iconst 2, 1) := by decide +kernel
theorem dX1_truthOf_69 : decode cX1_truthOf 69 = .ok (.aload_n 0, 1) := by decide +kernel
theorem dX1_truthOf_70 : decode cX1_truthOf 70 = .ok (.getfield 10, 3) := by decide +kernel
theorem dX1_truthOf_73 : decode cX1_truthOf 73 = .ok (.invokevirtual 38, 3) := by decide +kernel
theorem dX1_truthOf_76 : decode cX1_truthOf 76 = .ok (.isub, 1) := by decide +kernel
theorem dX1_truthOf_77 : decode cX1_truthOf 77 = .ok (.invokevirtual 41, 3) := by decide +kernel
theorem dX1_truthOf_80 : decode cX1_truthOf 80 = .ok (.goto 71, 3) := by decide +kernel
theorem dX1_truthOf_83 : decode cX1_truthOf 83 = .ok (.aload_n 0, 1) := by decide +kernel
theorem dX1_truthOf_84 : decode cX1_truthOf 84 = .ok (.getfield 10, 3) := by decide +kernel
theorem dX1_truthOf_87 : decode cX1_truthOf 87 = .ok (.aload_n 0, 1) := by decide +kernel
theorem dX1_truthOf_88 : decode cX1_truthOf 88 = .ok (.getfield 10, 3) := by decide +kernel
theorem dX1_truthOf_91 : decode cX1_truthOf 91 = .ok (.invokevirtual 38, 3) := by decide +kernel
theorem dX1_truthOf_94 : decode cX1_truthOf 94 = .ok (.aload_n 0, 1) := by decide +kernel
theorem dX1_truthOf_95 : decode cX1_truthOf 95 = .ok (.getfield 10, 3) := by decide +kernel
theorem dX1_truthOf_98 : decode cX1_truthOf 98 = .ok (.invokevirtual 38, 3) := by decide +kernel
theorem dX1_truthOf_101 : decode cX1_truthOf 101 = .ok (.invokestatic 45, 3) := by decide +kernel
theorem dX1_truthOf_104 : decode cX1_truthOf 104 = .ok (.invokevirtual 41, 3) := by decide +kernel
theorem dX1_truthOf_107 : decode cX1_truthOf 107 = .ok (.goto 44, 3) := by decide +kernel
theorem dX1_truthOf_110 : decode cX1_truthOf 110 = .ok (.aload_n 0, 1) := by decide +kernel
theorem dX1_truthOf_111 : decode cX1_truthOf 111 = .ok (.getfield 10, 3) := by decide +kernel
theorem dX1_truthOf_114 : decode cX1_truthOf 114 = .ok (.aload_n 0, 1) := by decide +kernel
theorem dX1_truthOf_115 : decode cX1_truthOf 115 = .ok (.getfield 10, 3) := by decide +kernel
theorem dX1_truthOf_118 : decode cX1_truthOf 118 = .ok (.invokevirtual 38, 3) := by decide +kernel
theorem dX1_truthOf_121 : decode cX1_truthOf 121 = .ok (.aload_n 0, 1) := by decide +kernel
theorem dX1_truthOf_122 : decode cX1_truthOf 122 = .ok (.getfield 10, 3) := by decide +kernel
theorem dX1_truthOf_125 : decode cX1_truthOf 125 = .ok (.invokevirtual 38, 3) := by decide +kernel
theorem dX1_truthOf_128 : decode cX1_truthOf 128 = .ok (.invokestatic 51, 3) := by decide +kernel
theorem dX1_truthOf_131 : decode cX1_truthOf 131 = .ok (.invokevirtual 41, 3) := by decide +kernel
theorem dX1_truthOf_134 : decode cX1_truthOf 134 = .ok (.goto 17, 3) := by decide +kernel
theorem dX1_truthOf_137 : decode cX1_truthOf 137 = .ok (.aload_n 0, 1) := by decide +kernel
theorem dX1_truthOf_138 : decode cX1_truthOf 138 = .ok (.getfield 10, 3) := by decide +kernel
theorem dX1_truthOf_141 : decode cX1_truthOf 141 = .ok (.iload 5, 2) := by decide +kernel
theorem dX1_truthOf_143 : decode cX1_truthOf 143 = .ok (.aload_n 2, 1) := by decide +kernel
theorem dX1_truthOf_144 : decode cX1_truthOf 144 = .ok (.iload_n 3, 1) := by decide +kernel
theorem dX1_truthOf_145 : decode cX1_truthOf 145 = .ok (.invokestatic 54, 3) := by decide +kernel
theorem dX1_truthOf_148 : decode cX1_truthOf 148 = .ok (.invokevirtual 41, 3) := by decide +kernel
theorem dX1_truthOf_151 : decode cX1_truthOf 151 = .ok (.iinc 4 1, 3) := by decide +kernel
theorem dX1_truthOf_154 : decode cX1_truthOf 154 = .ok (.goto (-147), 3) := by decide +kernel
theorem dX1_truthOf_157 : decode cX1_truthOf 157 = .ok (.aload_n 0, 1) := by decide +kernel
theorem dX1_truthOf_158 : decode cX1_truthOf 158 = .ok (.getfield 10, 3) := by decide +kernel
theorem dX1_truthOf_161 : decode cX1_truthOf 161 = .ok (.invokevirtual 58, 3) := by decide +kernel
theorem dX1_truthOf_164 : decode cX1_truthOf 164 = .ok (.ireturn, 1) := by decide +kernel
theorem dX1_depthOf_0 : decode cX1_depthOf 0 = .ok (.aload_n 0, 1) := by decide +kernel
theorem dX1_depthOf_1 : decode cX1_depthOf 1 = .ok (.invokevirtual 19, 3) := by decide +kernel
theorem dX1_depthOf_4 : decode cX1_depthOf 4 = .ok (.iconst 0, 1) := by decide +kernel
theorem dX1_depthOf_5 : decode cX1_depthOf 5 = .ok (.istore_n 2, 1) := by decide +kernel
theorem dX1_depthOf_6 : decode cX1_depthOf 6 = .ok (.iload_n 2, 1) := by decide +kernel
theorem dX1_depthOf_7 : decode cX1_depthOf 7 = .ok (.aload_n 1, 1) := by decide +kernel
theorem dX1_depthOf_8 : decode cX1_depthOf 8 = .ok (.invokevirtual 22, 3) := by decide +kernel
theorem dX1_depthOf_11 : decode cX1_depthOf 11 = .ok (.if_icmp .ge 107, 3) := by decide +kernel
theorem dX1_depthOf_14 : decode cX1_depthOf 14 = .ok (.aload_n 1, 1) := by decide +kernel
theorem dX1_depthOf_15 : decode cX1_depthOf 15 = .ok (.iload_n 2, 1) := by decide +kernel
theorem dX1_depthOf_16 : decode cX1_depthOf 16 = .ok (.invokevirtual 28, 3) := by decide +kernel
theorem dX1_depthOf_19 : decode cX1_depthOf 19 = .ok (.invokestatic 32, 3) := by decide +kernel
theorem dX1_depthOf_22 : decode cX1_depthOf 22 = .ok (.lookupswitch 82 #[(33, 34), (38, 53), (124, 53)], 34) := by decide +kernel
theorem dX1_depthOf_56 : decode cX1_depthOf 56 = .ok (.aload_n 0, 1) := by decide +kernel
theorem dX1_depthOf_57 : decode cX1_depthOf 57 = .ok (.getfield 10, 3) := by decide +kernel
theorem dX1_depthOf_60 : decode cX1_depthOf 60 = .ok (.aload_n 0, 1) := by decide +kernel
theorem dX1_depthOf_61 : decode cX1_depthOf 61 = .ok (.getfield 10, 3) := by decide +kernel
theorem dX1_depthOf_64 : decode cX1_depthOf 64 = .ok (.invokevirtual 38, 3) := by decide +kernel
theorem dX1_depthOf_67 : decode cX1_depthOf 67 = .ok (.iconst 1, 1) := by decide +kernel
theorem dX1_depthOf_68 : decode cX1_depthOf 68 = .ok (.iadd, 1) := by decide +kernel
theorem dX1_depthOf_69 : decode cX1_depthOf 69 = .ok (.invokevirtual 41, 3) := by decide +kernel
theorem dX1_depthOf_72 : decode cX1_depthOf 72 = .ok (.goto 40, 3) := by decide +kernel
theorem dX1_depthOf_75 : decode cX1_depthOf 75 = .ok (.aload_n 0, 1) := by decide +kernel
theorem dX1_depthOf_76 : decode cX1_depthOf 76 = .ok (.getfield 10, 3) := by decide +kernel
theorem dX1_depthOf_79 : decode cX1_depthOf 79 = .ok (.aload_n 0, 1) := by decide +kernel
theorem dX1_depthOf_80 : decode cX1_depthOf 80 = .ok (.getfield 10, 3) := by decide +kernel
theorem dX1_depthOf_83 : decode cX1_depthOf 83 = .ok (.invokevirtual 38, 3) := by decide +kernel
theorem dX1_depthOf_86 : decode cX1_depthOf 86 = .ok (.aload_n 0, 1) := by decide +kernel
theorem dX1_depthOf_87 : decode cX1_depthOf 87 = .ok (.getfield 10, 3) := by decide +kernel
theorem dX1_depthOf_90 : decode cX1_depthOf 90 = .ok (.invokevirtual 38, 3) := by decide +kernel
theorem dX1_depthOf_93 : decode cX1_depthOf 93 = .ok (.invokestatic 51, 3) := by decide +kernel
theorem dX1_depthOf_96 : decode cX1_depthOf 96 = .ok (.iconst 1, 1) := by decide +kernel
theorem dX1_depthOf_97 : decode cX1_depthOf 97 = .ok (.iadd, 1) := by decide +kernel
theorem dX1_depthOf_98 : decode cX1_depthOf 98 = .ok (.invokevirtual 41, 3) := by decide +kernel
theorem dX1_depthOf_101 : decode cX1_depthOf 101 = .ok (.goto 11, 3) := by decide +kernel
theorem dX1_depthOf_104 : decode cX1_depthOf 104 = .ok (.aload_n 0, 1) := by decide +kernel
theorem dX1_depthOf_105 : decode cX1_depthOf 105 = .ok (.getfield 10, 3) := by decide +kernel
theorem dX1_depthOf_108 : decode cX1_depthOf 108 = .ok (.iconst 1, 1) := by decide +kernel
theorem dX1_depthOf_109 : decode cX1_depthOf 109 = .ok (.invokevirtual 41, 3) := by decide +kernel
theorem dX1_depthOf_112 : decode cX1_depthOf 112 = .ok (.iinc 2 1, 3) := by decide +kernel
theorem dX1_depthOf_115 : decode cX1_depthOf 115 = .ok (.goto (-109), 3) := by decide +kernel
theorem dX1_depthOf_118 : decode cX1_depthOf 118 = .ok (.aload_n 0, 1) := by decide +kernel
theorem dX1_depthOf_119 : decode cX1_depthOf 119 = .ok (.getfield 10, 3) := by decide +kernel
theorem dX1_depthOf_122 : decode cX1_depthOf 122 = .ok (.invokevirtual 58, 3) := by decide +kernel
theorem dX1_depthOf_125 : decode cX1_depthOf 125 = .ok (.ireturn, 1) := by decide +kernel
theorem dX1_start_0 : decode cX1_start 0 = .ok (.aload_n 0, 1) := by decide +kernel
theorem dX1_start_1 : decode cX1_start 1 = .ok (.getfield 10, 3) := by decide +kernel
theorem dX1_start_4 : decode cX1_start 4 = .ok (.invokevirtual 61, 3) := by decide +kernel
theorem dX1_start_7 : decode cX1_start 7 = .ok (.aload_n 0, 1) := by decide +kernel
theorem dX1_start_8 : decode cX1_start 8 = .ok (.getfield 16, 3) := by decide +kernel
theorem dX1_start_11 : decode cX1_start 11 = .ok (.invokevirtual 61, 3) := by decide +kernel
theorem dX1_start_14 : decode cX1_start 14 = .ok (.return_, 1) := by decide +kernel
theorem dX1_pushSets_0 : decode cX1_pushSets 0 = .ok (.aload_n 0, 1) := by decide +kernel
theorem dX1_pushSets_1 : decode cX1_pushSets 1 = .ok (.getfield 10, 3) := by decide +kernel
theorem dX1_pushSets_4 : decode cX1_pushSets 4 = .ok (.iload_n 1, 1) := by decide +kernel
theorem dX1_pushSets_5 : decode cX1_pushSets 5 = .ok (.invokevirtual 41, 3) := by decide +kernel
theorem dX1_pushSets_8 : decode cX1_pushSets 8 = .ok (.aload_n 0, 1) := by decide +kernel
theorem dX1_pushSets_9 : decode cX1_pushSets 9 = .ok (.getfield 16, 3) := by decide +kernel
theorem dX1_pushSets_12 : decode cX1_pushSets 12 = .ok (.iload_n 2, 1) := by decide +kernel
theorem dX1_pushSets_13 : decode cX1_pushSets 13 = .ok (.invokevirtual 41, 3) := by decide +kernel
theorem dX1_pushSets_16 : decode cX1_pushSets 16 = .ok (.return_, 1) := by decide +kernel
theorem dX1_joinSets_0 : decode cX1_joinSets 0 = .ok (.aload_n 0, 1) := by decide +kernel
theorem dX1_joinSets_1 : decode cX1_joinSets 1 = .ok (.getfield 10, 3) := by decide +kernel
theorem dX1_joinSets_4 : decode cX1_joinSets 4 = .ok (.invokevirtual 38, 3) := by decide +kernel
theorem dX1_joinSets_7 : decode cX1_joinSets 7 = .ok (.istore_n 2, 1) := by decide +kernel
theorem dX1_joinSets_8 : decode cX1_joinSets 8 = .ok (.aload_n 0, 1) := by decide +kernel
theorem dX1_joinSets_9 : decode cX1_joinSets 9 = .ok (.getfield 16, 3) := by decide +kernel
theorem dX1_joinSets_12 : decode cX1_joinSets 12 = .ok (.invokevirtual 38, 3) := by decide +kernel
theorem dX1_joinSets_15 : decode cX1_joinSets 15 = .ok (.istore_n 3, 1) := by decide +kernel
theorem dX1_joinSets_16 : decode cX1_joinSets 16 = .ok (.iload_n 1, 1) := by decide +kernel
theorem dX1_joinSets_17 : decode cX1_joinSets 17 = .ok (.lookupswitch 61 #[(33, 27), (38, 36)], 27) := by decide +kernel
theorem dX1_joinSets_44 : decode cX1_joinSets 44 = .ok (.aload_n 0, 1) := by decide +kernel
theorem dX1_joinSets_45 : decode cX1_joinSets 45 = .ok (.iload_n 3, 1) := by decide +kernel
theorem dX1_joinSets_46 : decode cX1_joinSets 46 = .ok (.iload_n 2, 1) := by decide +kernel
theorem dX1_joinSets_47 : decode cX1_joinSets 47 = .ok (.invokevirtual 64, 3) := by decide +kernel
theorem dX1_joinSets_50 : decode cX1_joinSets 50 = .ok (.goto 50, 3) := by decide +kernel
theorem dX1_joinSets_53 : decode cX1_joinSets 53 = .ok (.aload_n 0, 1) := by decide +kernel
theorem dX1_joinSets_54 : decode cX1_joinSets 54 = .ok (.aload_n 0, 1) := by decide +kernel
theorem dX1_joinSets_55 : decode cX1_joinSets 55 = .ok (.getfield 10, 3) := by decide +kernel
theorem dX1_joinSets_58 : decode cX1_joinSets 58 = .ok (.invokevirtual 38, 3) := by decide +kernel
theorem dX1_joinSets_61 : decode cX1_joinSets 61 = .ok (.iload_n 2, 1) := by decide +kernel
theorem dX1_joinSets_62 : decode cX1_joinSets 62 = .ok (.iand, 1) := by decide +kernel
theorem dX1_joinSets_63 : decode cX1_joinSets 63 = .ok (.aload_n 0, 1) := by decide +kernel
theorem dX1_joinSets_64 : decode cX1_joinSets 64 = .ok (.getfield 16, 3) := by decide +kernel
theorem dX1_joinSets_67 : decode cX1_joinSets 67 = .ok (.invokevirtual 38, 3) := by decide +kernel
theorem dX1_joinSets_70 : decode cX1_joinSets 70 = .ok (.iload_n 3, 1) := by decide +kernel
theorem dX1_joinSets_71 : decode cX1_joinSets 71 = .ok (.ior, 1) := by decide +kernel
theorem dX1_joinSets_72 : decode cX1_joinSets 72 = .ok (.invokevirtual 64, 3) := by decide +kernel
theorem dX1_joinSets_75 : decode cX1_joinSets 75 = .ok (.goto 25, 3) := by decide +kernel
theorem dX1_joinSets_78 : decode cX1_joinSets 78 = .ok (.aload_n 0, 1) := by decide +kernel
theorem dX1_joinSets_79 : decode cX1_joinSets 79 = .ok (.aload_n 0, 1) := by decide +kernel
theorem dX1_joinSets_80 : decode cX1_joinSets 80 = .ok (.getfield 10, 3) := by decide +kernel
theorem dX1_joinSets_83 : decode cX1_joinSets 83 = .ok (.invokevirtual 38, 3) := by decide +kernel
theorem dX1_joinSets_86 : decode cX1_joinSets 86 = .ok (.iload_n 2, 1) := by decide +kernel
theorem dX1_joinSets_87 : decode cX1_joinSets 87 = .ok (.ior, 1) := by decide +kernel
theorem dX1_joinSets_88 : decode cX1_joinSets 88 = .ok (.aload_n 0, 1) := by decide +kernel
theorem dX1_joinSets_89 : decode cX1_joinSets 89 = .ok (.getfield 16, 3) := by decide +kernel
theorem dX1_joinSets_92 : decode cX1_joinSets 92 = .ok (.invokevirtual 38, 3) := by decide +kernel
theorem dX1_joinSets_95 : decode cX1_joinSets 95 = .ok (.iload_n 3, 1) := by decide +kernel
theorem dX1_joinSets_96 : decode cX1_joinSets 96 = .ok (.iand, 1) := by decide +kernel
theorem dX1_joinSets_97 : decode cX1_joinSets 97 = .ok (.invokevirtual 64, 3) := by decide +kernel
theorem dX1_joinSets_100 : decode cX1_joinSets 100 = .ok (.return_, 1) := by decide +kernel
theorem dX1_trueSet_0 : decode cX1_trueSet 0 = .ok (.aload_n 0, 1) := by decide +kernel
theorem dX1_trueSet_1 : decode cX1_trueSet 1 = .ok (.getfield 10, 3) := by decide +kernel
theorem dX1_trueSet_4 : decode cX1_trueSet 4 = .ok (.invokevirtual 58, 3) := by decide +kernel
theorem dX1_trueSet_7 : decode cX1_trueSet 7 = .ok (.ireturn, 1) := by decide +kernel
theorem dX1_falseSet_0 : decode cX1_falseSet 0 = .ok (.aload_n 0, 1) := by decide +kernel
theorem dX1_falseSet_1 : decode cX1_falseSet 1 = .ok (.getfield 16, 3) := by decide +kernel
theorem dX1_falseSet_4 : decode cX1_falseSet 4 = .ok (.invokevirtual 58, 3) := by decide +kernel
theorem dX1_falseSet_7 : decode cX1_falseSet 7 = .ok (.ireturn, 1) := by decide +kernel
theorem dX2_init_0 : decode cX2_init 0 = .ok (.aload_n 0, 1) := by decide +kernel
theorem dX2_init_1 : decode cX2_init 1 = .ok (.invokespecial 1, 3) := by decide +kernel
theorem dX2_init_4 : decode cX2_init 4 = .ok (.aload_n 0, 1) := by decide +kernel
theorem dX2_init_5 : decode cX2_init 5 = .ok (.aload_n 1, 1) := by decide +kernel
theorem dX2_init_6 : decode cX2_init 6 = .ok (.putfield 7, 3) := by decide +kernel
theorem dX2_init_9 : decode cX2_init 9 = .ok (.return_, 1) := by decide +kernel
theorem dX2_size_0 : decode cX2_size 0 = .ok (.aload_n 0, 1) := by decide +kernel
theorem dX2_size_1 : decode cX2_size 1 = .ok (.getfield 7, 3) := by decide +kernel
theorem dX2_size_4 : decode cX2_size 4 = .ok (.arraylength, 1) := by decide +kernel
theorem dX2_size_5 : decode cX2_size 5 = .ok (.ireturn, 1) := by decide +kernel
theorem dX2_step_0 : decode cX2_step 0 = .ok (.iload_n 1, 1) := by decide +kernel
theorem dX2_step_1 : decode cX2_step 1 = .ok (.ifCond .lt 21, 3) := by decide +kernel
theorem dX2_step_4 : decode cX2_step 4 = .ok (.iload_n 1, 1) := by decide +kernel
theorem dX2_step_5 : decode cX2_step 5 = .ok (.aload_n 0, 1) := by decide +kernel
theorem dX2_step_6 : decode cX2_step 6 = .ok (.getfield 7, 3) := by decide +kernel
theorem dX2_step_9 : decode cX2_step 9 = .ok (.arraylength, 1) := by decide +kernel
theorem dX2_step_10 : decode cX2_step 10 = .ok (.if_icmp .ge 12, 3) := by decide +kernel
theorem dX2_step_13 : decode cX2_step 13 = .ok (.aload_n 0, 1) := by decide +kernel
theorem dX2_step_14 : decode cX2_step 14 = .ok (.getfield 7, 3) := by decide +kernel
theorem dX2_step_17 : decode cX2_step 17 = .ok (.iload_n 1, 1) := by decide +kernel
theorem dX2_step_18 : decode cX2_step 18 = .ok (.iaload, 1) := by decide +kernel
theorem dX2_step_19 : decode cX2_step 19 = .ok (.goto 4, 3) := by decide +kernel
theorem dX2_step_22 : decode cX2_step 22 = .ok (.iconst 0, 1) := by decide +kernel
theorem dX2_step_23 : decode cX2_step 23 = .ok (.ireturn, 1) := by decide +kernel
theorem dX2_testCount_0 : decode cX2_testCount 0 = .ok (.iconst 0, 1) := by decide +kernel
theorem dX2_testCount_1 : decode cX2_testCount 1 = .ok (.istore_n 1, 1) := by decide +kernel
theorem dX2_testCount_2 : decode cX2_testCount 2 = .ok (.iconst 0, 1) := by decide +kernel
theorem dX2_testCount_3 : decode cX2_testCount 3 = .ok (.istore_n 2, 1) := by decide +kernel
theorem dX2_testCount_4 : decode cX2_testCount 4 = .ok (.iload_n 2, 1) := by decide +kernel
theorem dX2_testCount_5 : decode cX2_testCount 5 = .ok (.aload_n 0, 1) := by decide +kernel
theorem dX2_testCount_6 : decode cX2_testCount 6 = .ok (.getfield 7, 3) := by decide +kernel
theorem dX2_testCount_9 : decode cX2_testCount 9 = .ok (.arraylength, 1) := by decide +kernel
theorem dX2_testCount_10 : decode cX2_testCount 10 = .ok (.if_icmp .ge 24, 3) := by decide +kernel
theorem dX2_testCount_13 : decode cX2_testCount 13 = .ok (.aload_n 0, 1) := by decide +kernel
theorem dX2_testCount_14 : decode cX2_testCount 14 = .ok (.getfield 7, 3) := by decide +kernel
theorem dX2_testCount_17 : decode cX2_testCount 17 = .ok (.iload_n 2, 1) := by decide +kernel
theorem dX2_testCount_18 : decode cX2_testCount 18 = .ok (.iaload, 1) := by decide +kernel
theorem dX2_testCount_19 : decode cX2_testCount 19 = .ok (.invokestatic 13, 3) := by decide +kernel
theorem dX2_testCount_22 : decode cX2_testCount 22 = .ok (.ifCond .eq 6, 3) := by decide +kernel
theorem dX2_testCount_25 : decode cX2_testCount 25 = .ok (.iinc 1 1, 3) := by decide +kernel
theorem dX2_testCount_28 : decode cX2_testCount 28 = .ok (.iinc 2 1, 3) := by decide +kernel
theorem dX2_testCount_31 : decode cX2_testCount 31 = .ok (.goto (-27), 3) := by decide +kernel
theorem dX2_testCount_34 : decode cX2_testCount 34 = .ok (.iload_n 1, 1) := by decide +kernel
theorem dX2_testCount_35 : decode cX2_testCount 35 = .ok (.ireturn, 1) := by decide +kernel
theorem dX2_columnSet_0 : decode cX2_columnSet 0 = .ok (.iconst 0, 1) := by decide +kernel
theorem dX2_columnSet_1 : decode cX2_columnSet 1 = .ok (.istore_n 1, 1) := by decide +kernel
theorem dX2_columnSet_2 : decode cX2_columnSet 2 = .ok (.iconst 0, 1) := by decide +kernel
theorem dX2_columnSet_3 : decode cX2_columnSet 3 = .ok (.istore_n 2, 1) := by decide +kernel
theorem dX2_columnSet_4 : decode cX2_columnSet 4 = .ok (.iload_n 2, 1) := by decide +kernel
theorem dX2_columnSet_5 : decode cX2_columnSet 5 = .ok (.aload_n 0, 1) := by decide +kernel
theorem dX2_columnSet_6 : decode cX2_columnSet 6 = .ok (.getfield 7, 3) := by decide +kernel
theorem dX2_columnSet_9 : decode cX2_columnSet 9 = .ok (.arraylength, 1) := by decide +kernel
theorem dX2_columnSet_10 : decode cX2_columnSet 10 = .ok (.if_icmp .ge 61, 3) := by decide +kernel
theorem dX2_columnSet_13 : decode cX2_columnSet 13 = .ok (.aload_n 0, 1) := by decide +kernel
theorem dX2_columnSet_14 : decode cX2_columnSet 14 = .ok (.getfield 7, 3) := by decide +kernel
theorem dX2_columnSet_17 : decode cX2_columnSet 17 = .ok (.iload_n 2, 1) := by decide +kernel
theorem dX2_columnSet_18 : decode cX2_columnSet 18 = .ok (.iaload, 1) := by decide +kernel
theorem dX2_columnSet_19 : decode cX2_columnSet 19 = .ok (.invokestatic 13, 3) := by decide +kernel
theorem dX2_columnSet_22 : decode cX2_columnSet 22 = .ok (.ifCond .eq 43, 3) := by decide +kernel
theorem dX2_columnSet_25 : decode cX2_columnSet 25 = .ok (.iload_n 1, 1) := by decide +kernel
theorem dX2_columnSet_26 : decode cX2_columnSet 26 = .ok (.iconst 1, 1) := by decide +kernel
theorem dX2_columnSet_27 : decode cX2_columnSet 27 = .ok (.aload_n 0, 1) := by decide +kernel
theorem dX2_columnSet_28 : decode cX2_columnSet 28 = .ok (.getfield 7, 3) := by decide +kernel
theorem dX2_columnSet_31 : decode cX2_columnSet 31 = .ok (.iload_n 2, 1) := by decide +kernel
theorem dX2_columnSet_32 : decode cX2_columnSet 32 = .ok (.iaload, 1) := by decide +kernel
theorem dX2_columnSet_33 : decode cX2_columnSet 33 = .ok (.invokestatic 19, 3) := by decide +kernel
theorem dX2_columnSet_36 : decode cX2_columnSet 36 = .ok (.ishl, 1) := by decide +kernel
theorem dX2_columnSet_37 : decode cX2_columnSet 37 = .ok (.ior, 1) := by decide +kernel
theorem dX2_columnSet_38 : decode cX2_columnSet 38 = .ok (.istore_n 1, 1) := by decide +kernel
theorem dX2_columnSet_39 : decode cX2_columnSet 39 = .ok (.aload_n 0, 1) := by decide +kernel
theorem dX2_columnSet_40 : decode cX2_columnSet 40 = .ok (.getfield 7, 3) := by decide +kernel
theorem dX2_columnSet_43 : decode cX2_columnSet 43 = .ok (.iload_n 2, 1) := by decide +kernel
theorem dX2_columnSet_44 : decode cX2_columnSet 44 = .ok (.iaload, 1) := by decide +kernel
theorem dX2_columnSet_45 : decode cX2_columnSet 45 = .ok (.invokestatic 23, 3) := by decide +kernel
theorem dX2_columnSet_48 : decode cX2_columnSet 48 = .ok (.ifCond .eq 17, 3) := by decide +kernel
theorem dX2_columnSet_51 : decode cX2_columnSet 51 = .ok (.iload_n 1, 1) := by decide +kernel
theorem dX2_columnSet_52 : decode cX2_columnSet 52 = .ok (.iconst 1, 1) := by decide +kernel
theorem dX2_columnSet_53 : decode cX2_columnSet 53 = .ok (.aload_n 0, 1) := by decide +kernel
theorem dX2_columnSet_54 : decode cX2_columnSet 54 = .ok (.getfield 7, 3) := by decide +kernel
theorem dX2_columnSet_57 : decode cX2_columnSet 57 = .ok (.iload_n 2, 1) := by decide +kernel
theorem dX2_columnSet_58 : decode cX2_columnSet 58 = .ok (.iaload, 1) := by decide +kernel
theorem dX2_columnSet_59 : decode cX2_columnSet 59 = .ok (.invokestatic 26, 3) := by decide +kernel
theorem dX2_columnSet_62 : decode cX2_columnSet 62 = .ok (.ishl, 1) := by decide +kernel
theorem dX2_columnSet_63 : decode cX2_columnSet 63 = .ok (.ior, 1) := by decide +kernel
theorem dX2_columnSet_64 : decode cX2_columnSet 64 = .ok (.istore_n 1, 1) := by decide +kernel
theorem dX2_columnSet_65 : decode cX2_columnSet 65 = .ok (.iinc 2 1, 3) := by decide +kernel
theorem dX2_columnSet_68 : decode cX2_columnSet 68 = .ok (.goto (-64), 3) := by decide +kernel
theorem dX2_columnSet_71 : decode cX2_columnSet 71 = .ok (.iload_n 1, 1) := by decide +kernel
theorem dX2_columnSet_72 : decode cX2_columnSet 72 = .ok (.ireturn, 1) := by decide +kernel
theorem dX2_copySteps_0 : decode cX2_copySteps 0 = .ok (.iload_n 2, 1) := by decide +kernel
theorem dX2_copySteps_1 : decode cX2_copySteps 1 = .ok (.ifCond .lt 30, 3) := by decide +kernel
theorem dX2_copySteps_4 : decode cX2_copySteps 4 = .ok (.iload_n 2, 1) := by decide +kernel
theorem dX2_copySteps_5 : decode cX2_copySteps 5 = .ok (.aload_n 0, 1) := by decide +kernel
theorem dX2_copySteps_6 : decode cX2_copySteps 6 = .ok (.getfield 7, 3) := by decide +kernel
theorem dX2_copySteps_9 : decode cX2_copySteps 9 = .ok (.arraylength, 1) := by decide +kernel
theorem dX2_copySteps_10 : decode cX2_copySteps 10 = .ok (.iadd, 1) := by decide +kernel
theorem dX2_copySteps_11 : decode cX2_copySteps 11 = .ok (.aload_n 1, 1) := by decide +kernel
theorem dX2_copySteps_12 : decode cX2_copySteps 12 = .ok (.arraylength, 1) := by decide +kernel
theorem dX2_copySteps_13 : decode cX2_copySteps 13 = .ok (.if_icmp .gt 18, 3) := by decide +kernel
theorem dX2_copySteps_16 : decode cX2_copySteps 16 = .ok (.aload_n 0, 1) := by decide +kernel
theorem dX2_copySteps_17 : decode cX2_copySteps 17 = .ok (.getfield 7, 3) := by decide +kernel
theorem dX2_copySteps_20 : decode cX2_copySteps 20 = .ok (.iconst 0, 1) := by decide +kernel
theorem dX2_copySteps_21 : decode cX2_copySteps 21 = .ok (.aload_n 1, 1) := by decide +kernel
theorem dX2_copySteps_22 : decode cX2_copySteps 22 = .ok (.iload_n 2, 1) := by decide +kernel
theorem dX2_copySteps_23 : decode cX2_copySteps 23 = .ok (.aload_n 0, 1) := by decide +kernel
theorem dX2_copySteps_24 : decode cX2_copySteps 24 = .ok (.getfield 7, 3) := by decide +kernel
theorem dX2_copySteps_27 : decode cX2_copySteps 27 = .ok (.arraylength, 1) := by decide +kernel
theorem dX2_copySteps_28 : decode cX2_copySteps 28 = .ok (.invokestatic 29, 3) := by decide +kernel
theorem dX2_copySteps_31 : decode cX2_copySteps 31 = .ok (.return_, 1) := by decide +kernel
theorem dX3_init_0 : decode cX3_init 0 = .ok (.aload_n 0, 1) := by decide +kernel
theorem dX3_init_1 : decode cX3_init 1 = .ok (.invokespecial 3, 3) := by decide +kernel
theorem dX3_init_4 : decode cX3_init 4 = .ok (.aload_n 0, 1) := by decide +kernel
theorem dX3_init_5 : decode cX3_init 5 = .ok (.bipush 64, 2) := by decide +kernel
theorem dX3_init_7 : decode cX3_init 7 = .ok (.newarray .int, 2) := by decide +kernel
theorem dX3_init_9 : decode cX3_init 9 = .ok (.putfield 9, 3) := by decide +kernel
theorem dX3_init_12 : decode cX3_init 12 = .ok (.aload_n 0, 1) := by decide +kernel
theorem dX3_init_13 : decode cX3_init 13 = .ok (.iconst 0, 1) := by decide +kernel
theorem dX3_init_14 : decode cX3_init 14 = .ok (.putfield 15, 3) := by decide +kernel
theorem dX3_init_17 : decode cX3_init 17 = .ok (.return_, 1) := by decide +kernel
theorem dX3_clear_0 : decode cX3_clear 0 = .ok (.aload_n 0, 1) := by decide +kernel
theorem dX3_clear_1 : decode cX3_clear 1 = .ok (.iconst 0, 1) := by decide +kernel
theorem dX3_clear_2 : decode cX3_clear 2 = .ok (.putfield 15, 3) := by decide +kernel
theorem dX3_clear_5 : decode cX3_clear 5 = .ok (.return_, 1) := by decide +kernel
theorem dX3_height_0 : decode cX3_height 0 = .ok (.aload_n 0, 1) := by decide +kernel
theorem dX3_height_1 : decode cX3_height 1 = .ok (.getfield 15, 3) := by decide +kernel
theorem dX3_height_4 : decode cX3_height 4 = .ok (.ireturn, 1) := by decide +kernel
theorem dX3_push_0 : decode cX3_push 0 = .ok (.aload_n 0, 1) := by decide +kernel
theorem dX3_push_1 : decode cX3_push 1 = .ok (.getfield 15, 3) := by decide +kernel
theorem dX3_push_4 : decode cX3_push 4 = .ok (.aload_n 0, 1) := by decide +kernel
theorem dX3_push_5 : decode cX3_push 5 = .ok (.getfield 9, 3) := by decide +kernel
theorem dX3_push_8 : decode cX3_push 8 = .ok (.arraylength, 1) := by decide +kernel
theorem dX3_push_9 : decode cX3_push 9 = .ok (.if_icmp .ge 23, 3) := by decide +kernel
theorem dX3_push_12 : decode cX3_push 12 = .ok (.aload_n 0, 1) := by decide +kernel
theorem dX3_push_13 : decode cX3_push 13 = .ok (.getfield 9, 3) := by decide +kernel
theorem dX3_push_16 : decode cX3_push 16 = .ok (.aload_n 0, 1) := by decide +kernel
theorem dX3_push_17 : decode cX3_push 17 = .ok (.getfield 15, 3) := by decide +kernel
theorem dX3_push_20 : decode cX3_push 20 = .ok (.iload_n 1, 1) := by decide +kernel
theorem dX3_push_21 : decode cX3_push 21 = .ok (.iastore, 1) := by decide +kernel
theorem dX3_push_22 : decode cX3_push 22 = .ok (.aload_n 0, 1) := by decide +kernel
theorem dX3_push_23 : decode cX3_push 23 = .ok (.dup, 1) := by decide +kernel
theorem dX3_push_24 : decode cX3_push 24 = .ok (.getfield 15, 3) := by decide +kernel
theorem dX3_push_27 : decode cX3_push 27 = .ok (.iconst 1, 1) := by decide +kernel
theorem dX3_push_28 : decode cX3_push 28 = .ok (.iadd, 1) := by decide +kernel
theorem dX3_push_29 : decode cX3_push 29 = .ok (.putfield 15, 3) := by decide +kernel
theorem dX3_push_32 : decode cX3_push 32 = .ok (.return_, 1) := by decide +kernel
theorem dX3_pop_0 : decode cX3_pop 0 = .ok (.aload_n 0, 1) := by decide +kernel
theorem dX3_pop_1 : decode cX3_pop 1 = .ok (.getfield 15, 3) := by decide +kernel
theorem dX3_pop_4 : decode cX3_pop 4 = .ok (.ifCond .gt 5, 3) := by decide +kernel
theorem dX3_pop_7 : decode cX3_pop 7 = .ok (.iconst 0, 1) := by decide +kernel
theorem dX3_pop_8 : decode cX3_pop 8 = .ok (.ireturn, 1) := by decide +kernel
theorem dX3_pop_9 : decode cX3_pop 9 = .ok (.aload_n 0, 1) := by decide +kernel
theorem dX3_pop_10 : decode cX3_pop 10 = .ok (.dup, 1) := by decide +kernel
theorem dX3_pop_11 : decode cX3_pop 11 = .ok (.getfield 15, 3) := by decide +kernel
theorem dX3_pop_14 : decode cX3_pop 14 = .ok (.iconst 1, 1) := by decide +kernel
theorem dX3_pop_15 : decode cX3_pop 15 = .ok (.isub, 1) := by decide +kernel
theorem dX3_pop_16 : decode cX3_pop 16 = .ok (.putfield 15, 3) := by decide +kernel
theorem dX3_pop_19 : decode cX3_pop 19 = .ok (.aload_n 0, 1) := by decide +kernel
theorem dX3_pop_20 : decode cX3_pop 20 = .ok (.getfield 9, 3) := by decide +kernel
theorem dX3_pop_23 : decode cX3_pop 23 = .ok (.aload_n 0, 1) := by decide +kernel
theorem dX3_pop_24 : decode cX3_pop 24 = .ok (.getfield 15, 3) := by decide +kernel
theorem dX3_pop_27 : decode cX3_pop 27 = .ok (.iaload, 1) := by decide +kernel
theorem dX3_pop_28 : decode cX3_pop 28 = .ok (.ireturn, 1) := by decide +kernel
theorem dX3_top_0 : decode cX3_top 0 = .ok (.aload_n 0, 1) := by decide +kernel
theorem dX3_top_1 : decode cX3_top 1 = .ok (.getfield 15, 3) := by decide +kernel
theorem dX3_top_4 : decode cX3_top 4 = .ok (.ifCond .gt 7, 3) := by decide +kernel
theorem dX3_top_7 : decode cX3_top 7 = .ok (.iconst 0, 1) := by decide +kernel
theorem dX3_top_8 : decode cX3_top 8 = .ok (.goto 14, 3) := by decide +kernel
theorem dX3_top_11 : decode cX3_top 11 = .ok (.aload_n 0, 1) := by decide +kernel
theorem dX3_top_12 : decode cX3_top 12 = .ok (.getfield 9, 3) := by decide +kernel
theorem dX3_top_15 : decode cX3_top 15 = .ok (.aload_n 0, 1) := by decide +kernel
theorem dX3_top_16 : decode cX3_top 16 = .ok (.getfield 15, 3) := by decide +kernel
theorem dX3_top_19 : decode cX3_top 19 = .ok (.iconst 1, 1) := by decide +kernel
theorem dX3_top_20 : decode cX3_top 20 = .ok (.isub, 1) := by decide +kernel
theorem dX3_top_21 : decode cX3_top 21 = .ok (.iaload, 1) := by decide +kernel
theorem dX3_top_22 : decode cX3_top 22 = .ok (.ireturn, 1) := by decide +kernel
theorem dX3_toArray_0 : decode cX3_toArray 0 = .ok (.aload_n 0, 1) := by decide +kernel
theorem dX3_toArray_1 : decode cX3_toArray 1 = .ok (.getfield 15, 3) := by decide +kernel
theorem dX3_toArray_4 : decode cX3_toArray 4 = .ok (.newarray .int, 2) := by decide +kernel
theorem dX3_toArray_6 : decode cX3_toArray 6 = .ok (.astore_n 1, 1) := by decide +kernel
theorem dX3_toArray_7 : decode cX3_toArray 7 = .ok (.aload_n 0, 1) := by decide +kernel
theorem dX3_toArray_8 : decode cX3_toArray 8 = .ok (.getfield 9, 3) := by decide +kernel
theorem dX3_toArray_11 : decode cX3_toArray 11 = .ok (.iconst 0, 1) := by decide +kernel
theorem dX3_toArray_12 : decode cX3_toArray 12 = .ok (.aload_n 1, 1) := by decide +kernel
theorem dX3_toArray_13 : decode cX3_toArray 13 = .ok (.iconst 0, 1) := by decide +kernel
theorem dX3_toArray_14 : decode cX3_toArray 14 = .ok (.aload_n 0, 1) := by decide +kernel
theorem dX3_toArray_15 : decode cX3_toArray 15 = .ok (.getfield 15, 3) := by decide +kernel
theorem dX3_toArray_18 : decode cX3_toArray 18 = .ok (.invokestatic 19, 3) := by decide +kernel
theorem dX3_toArray_21 : decode cX3_toArray 21 = .ok (.aload_n 1, 1) := by decide +kernel
theorem dX3_toArray_22 : decode cX3_toArray 22 = .ok (.areturn, 1) := by decide +kernel
theorem dX4_init_0 : decode cX4_init 0 = .ok (.aload_n 0, 1) := by decide +kernel
theorem dX4_init_1 : decode cX4_init 1 = .ok (.invokespecial 1, 3) := by decide +kernel
theorem dX4_init_4 : decode cX4_init 4 = .ok (.aload_n 0, 1) := by decide +kernel
theorem dX4_init_5 : decode cX4_init 5 = .ok (.new 7, 3) := by decide +kernel
theorem dX4_init_8 : decode cX4_init 8 = .ok (.dup, 1) := by decide +kernel
theorem dX4_init_9 : decode cX4_init 9 = .ok (.invokespecial 9, 3) := by decide +kernel
theorem dX4_init_12 : decode cX4_init 12 = .ok (.putfield 10, 3) := by decide +kernel
theorem dX4_init_15 : decode cX4_init 15 = .ok (.aload_n 0, 1) := by decide +kernel
theorem dX4_init_16 : decode cX4_init 16 = .ok (.new 7, 3) := by decide +kernel
theorem dX4_init_19 : decode cX4_init 19 = .ok (.dup, 1) := by decide +kernel
theorem dX4_init_20 : decode cX4_init 20 = .ok (.invokespecial 9, 3) := by decide +kernel
theorem dX4_init_23 : decode cX4_init 23 = .ok (.putfield 16, 3) := by decide +kernel
theorem dX4_init_26 : decode cX4_init 26 = .ok (.aload_n 0, 1) := by decide +kernel
theorem dX4_init_27 : decode cX4_init 27 = .ok (.iconst 0, 1) := by decide +kernel
theorem dX4_init_28 : decode cX4_init 28 = .ok (.putfield 19, 3) := by decide +kernel
theorem dX4_init_31 : decode cX4_init 31 = .ok (.aload_n 0, 1) := by decide +kernel
theorem dX4_init_32 : decode cX4_init 32 = .ok (.iconst 0, 1) := by decide +kernel
theorem dX4_init_33 : decode cX4_init 33 = .ok (.putfield 23, 3) := by decide +kernel
theorem dX4_init_36 : decode cX4_init 36 = .ok (.aload_n 0, 1) := by decide +kernel
theorem dX4_init_37 : decode cX4_init 37 = .ok (.iconst 0, 1) := by decide +kernel
theorem dX4_init_38 : decode cX4_init 38 = .ok (.putfield 26, 3) := by decide +kernel
theorem dX4_init_41 : decode cX4_init 41 = .ok (.aload_n 0, 1) := by decide +kernel
theorem dX4_init_42 : decode cX4_init 42 = .ok (.bipush 61, 2) := by decide +kernel
theorem dX4_init_44 : decode cX4_init 44 = .ok (.putfield 29, 3) := by decide +kernel
theorem dX4_init_47 : decode cX4_init 47 = .ok (.aload_n 0, 1) := by decide +kernel
theorem dX4_init_48 : decode cX4_init 48 = .ok (.iconst 0, 1) := by decide +kernel
theorem dX4_init_49 : decode cX4_init 49 = .ok (.putfield 33, 3) := by decide +kernel
theorem dX4_init_52 : decode cX4_init 52 = .ok (.return_, 1) := by decide +kernel
theorem dX4_read_0 : decode cX4_read 0 = .ok (.aload_n 0, 1) := by decide +kernel
theorem dX4_read_1 : decode cX4_read 1 = .ok (.getfield 10, 3) := by decide +kernel
theorem dX4_read_4 : decode cX4_read 4 = .ok (.invokevirtual 36, 3) := by decide +kernel
theorem dX4_read_7 : decode cX4_read 7 = .ok (.aload_n 0, 1) := by decide +kernel
theorem dX4_read_8 : decode cX4_read 8 = .ok (.getfield 16, 3) := by decide +kernel
theorem dX4_read_11 : decode cX4_read 11 = .ok (.invokevirtual 36, 3) := by decide +kernel
theorem dX4_read_14 : decode cX4_read 14 = .ok (.aload_n 0, 1) := by decide +kernel
theorem dX4_read_15 : decode cX4_read 15 = .ok (.iconst 0, 1) := by decide +kernel
theorem dX4_read_16 : decode cX4_read 16 = .ok (.putfield 19, 3) := by decide +kernel
theorem dX4_read_19 : decode cX4_read 19 = .ok (.aload_n 0, 1) := by decide +kernel
theorem dX4_read_20 : decode cX4_read 20 = .ok (.iconst 0, 1) := by decide +kernel
theorem dX4_read_21 : decode cX4_read 21 = .ok (.putfield 23, 3) := by decide +kernel
theorem dX4_read_24 : decode cX4_read 24 = .ok (.iconst 0, 1) := by decide +kernel
theorem dX4_read_25 : decode cX4_read 25 = .ok (.istore_n 3, 1) := by decide +kernel
theorem dX4_read_26 : decode cX4_read 26 = .ok (.iload_n 3, 1) := by decide +kernel
theorem dX4_read_27 : decode cX4_read 27 = .ok (.iload_n 2, 1) := by decide +kernel
theorem dX4_read_28 : decode cX4_read 28 = .ok (.if_icmp .ge 27, 3) := by decide +kernel
theorem dX4_read_31 : decode cX4_read 31 = .ok (.iload_n 3, 1) := by decide +kernel
theorem dX4_read_32 : decode cX4_read 32 = .ok (.aload_n 1, 1) := by decide +kernel
theorem dX4_read_33 : decode cX4_read 33 = .ok (.arraylength, 1) := by decide +kernel
theorem dX4_read_34 : decode cX4_read 34 = .ok (.if_icmp .ge 21, 3) := by decide +kernel
theorem dX4_read_37 : decode cX4_read 37 = .ok (.aload_n 0, 1) := by decide +kernel
theorem dX4_read_38 : decode cX4_read 38 = .ok (.aload_n 1, 1) := by decide +kernel
theorem dX4_read_39 : decode cX4_read 39 = .ok (.iload_n 3, 1) := by decide +kernel
theorem dX4_read_40 : decode cX4_read 40 = .ok (.caload, 1) := by decide +kernel
theorem dX4_read_41 : decode cX4_read 41 = .ok (.invokevirtual 39, 3) := by decide +kernel
theorem dX4_read_44 : decode cX4_read 44 = .ok (.ifCond .ne 5, 3) := by decide +kernel
theorem dX4_read_47 : decode cX4_read 47 = .ok (.iload_n 3, 1) := by decide +kernel
theorem dX4_read_48 : decode cX4_read 48 = .ok (.ireturn, 1) := by decide +kernel
theorem dX4_read_49 : decode cX4_read 49 = .ok (.iinc 3 1, 3) := by decide +kernel
theorem dX4_read_52 : decode cX4_read 52 = .ok (.goto (-26), 3) := by decide +kernel
theorem dX4_read_55 : decode cX4_read 55 = .ok (.iload_n 2, 1) := by decide +kernel
theorem dX4_read_56 : decode cX4_read 56 = .ok (.ireturn, 1) := by decide +kernel
theorem dX4_finish_0 : decode cX4_finish 0 = .ok (.aload_n 0, 1) := by decide +kernel
theorem dX4_finish_1 : decode cX4_finish 1 = .ok (.invokevirtual 43, 3) := by decide +kernel
theorem dX4_finish_4 : decode cX4_finish 4 = .ok (.aload_n 0, 1) := by decide +kernel
theorem dX4_finish_5 : decode cX4_finish 5 = .ok (.getfield 19, 3) := by decide +kernel
theorem dX4_finish_8 : decode cX4_finish 8 = .ok (.iconst 4, 1) := by decide +kernel
theorem dX4_finish_9 : decode cX4_finish 9 = .ok (.if_icmp .ne 10, 3) := by decide +kernel
theorem dX4_finish_12 : decode cX4_finish 12 = .ok (.aload_n 0, 1) := by decide +kernel
theorem dX4_finish_13 : decode cX4_finish 13 = .ok (.getfield 23, 3) := by decide +kernel
theorem dX4_finish_16 : decode cX4_finish 16 = .ok (.ifCond .le 5, 3) := by decide +kernel
theorem dX4_finish_19 : decode cX4_finish 19 = .ok (.iconst 0, 1) := by decide +kernel
theorem dX4_finish_20 : decode cX4_finish 20 = .ok (.ireturn, 1) := by decide +kernel
theorem dX4_finish_21 : decode cX4_finish 21 = .ok (.aload_n 0, 1) := by decide +kernel
theorem dX4_finish_22 : decode cX4_finish 22 = .ok (.iconst 1, 1) := by decide +kernel
theorem dX4_finish_23 : decode cX4_finish 23 = .ok (.invokevirtual 46, 3) := by decide +kernel
theorem dX4_finish_26 : decode cX4_finish 26 = .ok (.iconst 1, 1) := by decide +kernel
theorem dX4_finish_27 : decode cX4_finish 27 = .ok (.ireturn, 1) := by decide +kernel
theorem dX4_steps_0 : decode cX4_steps 0 = .ok (.aload_n 0, 1) := by decide +kernel
theorem dX4_steps_1 : decode cX4_steps 1 = .ok (.getfield 10, 3) := by decide +kernel
theorem dX4_steps_4 : decode cX4_steps 4 = .ok (.invokevirtual 50, 3) := by decide +kernel
theorem dX4_steps_7 : decode cX4_steps 7 = .ok (.areturn, 1) := by decide +kernel
theorem dX4_takes_0 : decode cX4_takes 0 = .ok (.aload_n 0, 1) := by decide +kernel
theorem dX4_takes_1 : decode cX4_takes 1 = .ok (.getfield 19, 3) := by decide +kernel
theorem dX4_takes_4 : decode cX4_takes 4 = .ok (.tableswitch 56 0 3 #[32, 38, 44, 50], 32) := by decide +kernel
theorem dX4_takes_36 : decode cX4_takes 36 = .ok (.aload_n 0, 1) := by decide +kernel
theorem dX4_takes_37 : decode cX4_takes 37 = .ok (.iload_n 1, 1) := by decide +kernel
theorem dX4_takes_38 : decode cX4_takes 38 = .ok (.invokevirtual 54, 3) := by decide +kernel
theorem dX4_takes_41 : decode cX4_takes 41 = .ok (.ireturn, 1) := by decide +kernel
theorem dX4_takes_42 : decode cX4_takes 42 = .ok (.aload_n 0, 1) := by decide +kernel
theorem dX4_takes_43 : decode cX4_takes 43 = .ok (.iload_n 1, 1) := by decide +kernel
theorem dX4_takes_44 : decode cX4_takes 44 = .ok (.invokevirtual 57, 3) := by decide +kernel
theorem dX4_takes_47 : decode cX4_takes 47 = .ok (.ireturn, 1) := by decide +kernel
theorem dX4_takes_48 : decode cX4_takes 48 = .ok (.aload_n 0, 1) := by decide +kernel
theorem dX4_takes_49 : decode cX4_takes 49 = .ok (.iload_n 1, 1) := by decide +kernel
theorem dX4_takes_50 : decode cX4_takes 50 = .ok (.invokevirtual 60, 3) := by decide +kernel
theorem dX4_takes_53 : decode cX4_takes 53 = .ok (.ireturn, 1) := by decide +kernel
theorem dX4_takes_54 : decode cX4_takes 54 = .ok (.aload_n 0, 1) := by decide +kernel
theorem dX4_takes_55 : decode cX4_takes 55 = .ok (.iload_n 1, 1) := by decide +kernel
theorem dX4_takes_56 : decode cX4_takes 56 = .ok (.invokevirtual 63, 3) := by decide +kernel
theorem dX4_takes_59 : decode cX4_takes 59 = .ok (.ireturn, 1) := by decide +kernel
theorem dX4_takes_60 : decode cX4_takes 60 = .ok (.aload_n 0, 1) := by decide +kernel
theorem dX4_takes_61 : decode cX4_takes 61 = .ok (.iload_n 1, 1) := by decide +kernel
theorem dX4_takes_62 : decode cX4_takes 62 = .ok (.invokevirtual 66, 3) := by decide +kernel
theorem dX4_takes_65 : decode cX4_takes 65 = .ok (.ireturn, 1) := by decide +kernel
theorem dX4_takesFactor_0 : decode cX4_takesFactor 0 = .ok (.iload_n 1, 1) := by decide +kernel
theorem dX4_takesFactor_1 : decode cX4_takesFactor 1 = .ok (.bipush 33, 2) := by decide +kernel
theorem dX4_takesFactor_3 : decode cX4_takesFactor 3 = .ok (.if_icmp .eq 9, 3) := by decide +kernel
theorem dX4_takesFactor_6 : decode cX4_takesFactor 6 = .ok (.iload_n 1, 1) := by decide +kernel
theorem dX4_takesFactor_7 : decode cX4_takesFactor 7 = .ok (.bipush 40, 2) := by decide +kernel
theorem dX4_takesFactor_9 : decode cX4_takesFactor 9 = .ok (.if_icmp .ne 33, 3) := by decide +kernel
theorem dX4_takesFactor_12 : decode cX4_takesFactor 12 = .ok (.aload_n 0, 1) := by decide +kernel
theorem dX4_takesFactor_13 : decode cX4_takesFactor 13 = .ok (.getfield 16, 3) := by decide +kernel
theorem dX4_takesFactor_16 : decode cX4_takesFactor 16 = .ok (.iload_n 1, 1) := by decide +kernel
theorem dX4_takesFactor_17 : decode cX4_takesFactor 17 = .ok (.invokevirtual 69, 3) := by decide +kernel
theorem dX4_takesFactor_20 : decode cX4_takesFactor 20 = .ok (.aload_n 0, 1) := by decide +kernel
theorem dX4_takesFactor_21 : decode cX4_takesFactor 21 = .ok (.dup, 1) := by decide +kernel
theorem dX4_takesFactor_22 : decode cX4_takesFactor 22 = .ok (.getfield 23, 3) := by decide +kernel
theorem dX4_takesFactor_25 : decode cX4_takesFactor 25 = .ok (.iload_n 1, 1) := by decide +kernel
theorem dX4_takesFactor_26 : decode cX4_takesFactor 26 = .ok (.bipush 40, 2) := by decide +kernel
theorem dX4_takesFactor_28 : decode cX4_takesFactor 28 = .ok (.if_icmp .ne 7, 3) := by decide +kernel
theorem dX4_takesFactor_31 : decode cX4_takesFactor 31 = .ok (.iconst 1, 1) := by decide +kernel
theorem dX4_takesFactor_32 : decode cX4_takesFactor 32 = .ok (.goto 4, 3) := by decide +kernel
theorem dX4_takesFactor_35 : decode cX4_takesFactor 35 = .ok (.iconst 0, 1) := by decide +kernel
theorem dX4_takesFactor_36 : decode cX4_takesFactor 36 = .ok (.iadd, 1) := by decide +kernel
theorem dX4_takesFactor_37 : decode cX4_takesFactor 37 = .ok (.putfield 23, 3) := by decide +kernel
theorem dX4_takesFactor_40 : decode cX4_takesFactor 40 = .ok (.iconst 1, 1) := by decide +kernel
theorem dX4_takesFactor_41 : decode cX4_takesFactor 41 = .ok (.ireturn, 1) := by decide +kernel
theorem dX4_takesFactor_42 : decode cX4_takesFactor 42 = .ok (.iload_n 1, 1) := by decide +kernel
theorem dX4_takesFactor_43 : decode cX4_takesFactor 43 = .ok (.invokestatic 72, 3) := by decide +kernel
theorem dX4_takesFactor_46 : decode cX4_takesFactor 46 = .ok (.ifCond .ne 5, 3) := by decide +kernel
theorem dX4_takesFactor_49 : decode cX4_takesFactor 49 = .ok (.iconst 0, 1) := by decide +kernel
theorem dX4_takesFactor_50 : decode cX4_takesFactor 50 = .ok (.ireturn, 1) := by decide +kernel
theorem dX4_takesFactor_51 : decode cX4_takesFactor 51 = .ok (.aload_n 0, 1) := by decide +kernel
theorem dX4_takesFactor_52 : decode cX4_takesFactor 52 = .ok (.iload_n 1, 1) := by decide +kernel
theorem dX4_takesFactor_53 : decode cX4_takesFactor 53 = .ok (.bipush 97, 2) := by decide +kernel
theorem dX4_takesFactor_55 : decode cX4_takesFactor 55 = .ok (.isub, 1) := by decide +kernel
theorem dX4_takesFactor_56 : decode cX4_takesFactor 56 = .ok (.putfield 26, 3) := by decide +kernel
theorem dX4_takesFactor_59 : decode cX4_takesFactor 59 = .ok (.aload_n 0, 1) := by decide +kernel
theorem dX4_takesFactor_60 : decode cX4_takesFactor 60 = .ok (.iconst 1, 1) := by decide +kernel
theorem dX4_takesFactor_61 : decode cX4_takesFactor 61 = .ok (.putfield 19, 3) := by decide +kernel
theorem dX4_takesFactor_64 : decode cX4_takesFactor 64 = .ok (.iconst 1, 1) := by decide +kernel
theorem dX4_takesFactor_65 : decode cX4_takesFactor 65 = .ok (.ireturn, 1) := by decide +kernel
theorem dX4_takesSign_0 : decode cX4_takesSign 0 = .ok (.iload_n 1, 1) := by decide +kernel
theorem dX4_takesSign_1 : decode cX4_takesSign 1 = .ok (.bipush 63, 2) := by decide +kernel
theorem dX4_takesSign_3 : decode cX4_takesSign 3 = .ok (.if_icmp .ne 12, 3) := by decide +kernel
theorem dX4_takesSign_6 : decode cX4_takesSign 6 = .ok (.aload_n 0, 1) := by decide +kernel
theorem dX4_takesSign_7 : decode cX4_takesSign 7 = .ok (.iload_n 1, 1) := by decide +kernel
theorem dX4_takesSign_8 : decode cX4_takesSign 8 = .ok (.iconst 0, 1) := by decide +kernel
theorem dX4_takesSign_9 : decode cX4_takesSign 9 = .ok (.iconst 0, 1) := by decide +kernel
theorem dX4_takesSign_10 : decode cX4_takesSign 10 = .ok (.invokevirtual 75, 3) := by decide +kernel
theorem dX4_takesSign_13 : decode cX4_takesSign 13 = .ok (.iconst 1, 1) := by decide +kernel
theorem dX4_takesSign_14 : decode cX4_takesSign 14 = .ok (.ireturn, 1) := by decide +kernel
theorem dX4_takesSign_15 : decode cX4_takesSign 15 = .ok (.iload_n 1, 1) := by decide +kernel
theorem dX4_takesSign_16 : decode cX4_takesSign 16 = .ok (.bipush 61, 2) := by decide +kernel
theorem dX4_takesSign_18 : decode cX4_takesSign 18 = .ok (.if_icmp .eq 17, 3) := by decide +kernel
theorem dX4_takesSign_21 : decode cX4_takesSign 21 = .ok (.iload_n 1, 1) := by decide +kernel
theorem dX4_takesSign_22 : decode cX4_takesSign 22 = .ok (.bipush 60, 2) := by decide +kernel
theorem dX4_takesSign_24 : decode cX4_takesSign 24 = .ok (.if_icmp .eq 11, 3) := by decide +kernel
theorem dX4_takesSign_27 : decode cX4_takesSign 27 = .ok (.iload_n 1, 1) := by decide +kernel
theorem dX4_takesSign_28 : decode cX4_takesSign 28 = .ok (.bipush 62, 2) := by decide +kernel
theorem dX4_takesSign_30 : decode cX4_takesSign 30 = .ok (.if_icmp .eq 5, 3) := by decide +kernel
theorem dX4_takesSign_33 : decode cX4_takesSign 33 = .ok (.iconst 0, 1) := by decide +kernel
theorem dX4_takesSign_34 : decode cX4_takesSign 34 = .ok (.ireturn, 1) := by decide +kernel
theorem dX4_takesSign_35 : decode cX4_takesSign 35 = .ok (.aload_n 0, 1) := by decide +kernel
theorem dX4_takesSign_36 : decode cX4_takesSign 36 = .ok (.iload_n 1, 1) := by decide +kernel
theorem dX4_takesSign_37 : decode cX4_takesSign 37 = .ok (.putfield 29, 3) := by decide +kernel
theorem dX4_takesSign_40 : decode cX4_takesSign 40 = .ok (.aload_n 0, 1) := by decide +kernel
theorem dX4_takesSign_41 : decode cX4_takesSign 41 = .ok (.iconst 2, 1) := by decide +kernel
theorem dX4_takesSign_42 : decode cX4_takesSign 42 = .ok (.putfield 19, 3) := by decide +kernel
theorem dX4_takesSign_45 : decode cX4_takesSign 45 = .ok (.iconst 1, 1) := by decide +kernel
theorem dX4_takesSign_46 : decode cX4_takesSign 46 = .ok (.ireturn, 1) := by decide +kernel
theorem dX4_takesOperand_0 : decode cX4_takesOperand 0 = .ok (.iload_n 1, 1) := by decide +kernel
theorem dX4_takesOperand_1 : decode cX4_takesOperand 1 = .ok (.invokestatic 72, 3) := by decide +kernel
theorem dX4_takesOperand_4 : decode cX4_takesOperand 4 = .ok (.ifCond .eq 18, 3) := by decide +kernel
theorem dX4_takesOperand_7 : decode cX4_takesOperand 7 = .ok (.aload_n 0, 1) := by decide +kernel
theorem dX4_takesOperand_8 : decode cX4_takesOperand 8 = .ok (.aload_n 0, 1) := by decide +kernel
theorem dX4_takesOperand_9 : decode cX4_takesOperand 9 = .ok (.getfield 29, 3) := by decide +kernel
theorem dX4_takesOperand_12 : decode cX4_takesOperand 12 = .ok (.iconst 1, 1) := by decide +kernel
theorem dX4_takesOperand_13 : decode cX4_takesOperand 13 = .ok (.iload_n 1, 1) := by decide +kernel
theorem dX4_takesOperand_14 : decode cX4_takesOperand 14 = .ok (.bipush 97, 2) := by decide +kernel
theorem dX4_takesOperand_16 : decode cX4_takesOperand 16 = .ok (.isub, 1) := by decide +kernel
theorem dX4_takesOperand_17 : decode cX4_takesOperand 17 = .ok (.invokevirtual 75, 3) := by decide +kernel
theorem dX4_takesOperand_20 : decode cX4_takesOperand 20 = .ok (.iconst 1, 1) := by decide +kernel
theorem dX4_takesOperand_21 : decode cX4_takesOperand 21 = .ok (.ireturn, 1) := by decide +kernel
theorem dX4_takesOperand_22 : decode cX4_takesOperand 22 = .ok (.iload_n 1, 1) := by decide +kernel
theorem dX4_takesOperand_23 : decode cX4_takesOperand 23 = .ok (.invokestatic 79, 3) := by decide +kernel
theorem dX4_takesOperand_26 : decode cX4_takesOperand 26 = .ok (.ifCond .ne 5, 3) := by decide +kernel
theorem dX4_takesOperand_29 : decode cX4_takesOperand 29 = .ok (.iconst 0, 1) := by decide +kernel
theorem dX4_takesOperand_30 : decode cX4_takesOperand 30 = .ok (.ireturn, 1) := by decide +kernel
theorem dX4_takesOperand_31 : decode cX4_takesOperand 31 = .ok (.aload_n 0, 1) := by decide +kernel
theorem dX4_takesOperand_32 : decode cX4_takesOperand 32 = .ok (.iload_n 1, 1) := by decide +kernel
theorem dX4_takesOperand_33 : decode cX4_takesOperand 33 = .ok (.bipush 48, 2) := by decide +kernel
theorem dX4_takesOperand_35 : decode cX4_takesOperand 35 = .ok (.isub, 1) := by decide +kernel
theorem dX4_takesOperand_36 : decode cX4_takesOperand 36 = .ok (.putfield 33, 3) := by decide +kernel
theorem dX4_takesOperand_39 : decode cX4_takesOperand 39 = .ok (.aload_n 0, 1) := by decide +kernel
theorem dX4_takesOperand_40 : decode cX4_takesOperand 40 = .ok (.iconst 3, 1) := by decide +kernel
theorem dX4_takesOperand_41 : decode cX4_takesOperand 41 = .ok (.putfield 19, 3) := by decide +kernel
theorem dX4_takesOperand_44 : decode cX4_takesOperand 44 = .ok (.aload_n 0, 1) := by decide +kernel
theorem dX4_takesOperand_45 : decode cX4_takesOperand 45 = .ok (.getfield 33, 3) := by decide +kernel
theorem dX4_takesOperand_48 : decode cX4_takesOperand 48 = .ok (.ifCond .ne 7, 3) := by decide +kernel
theorem dX4_takesOperand_51 : decode cX4_takesOperand 51 = .ok (.aload_n 0, 1) := by decide +kernel
theorem dX4_takesOperand_52 : decode cX4_takesOperand 52 = .ok (.invokevirtual 43, 3) := by decide +kernel
theorem dX4_takesOperand_55 : decode cX4_takesOperand 55 = .ok (.iconst 1, 1) := by decide +kernel
theorem dX4_takesOperand_56 : decode cX4_takesOperand 56 = .ok (.ireturn, 1) := by decide +kernel
theorem dX4_takesSecondDigit_0 : decode cX4_takesSecondDigit 0 = .ok (.iload_n 1, 1) := by decide +kernel
theorem dX4_takesSecondDigit_1 : decode cX4_takesSecondDigit 1 = .ok (.invokestatic 79, 3) := by decide +kernel
theorem dX4_takesSecondDigit_4 : decode cX4_takesSecondDigit 4 = .ok (.ifCond .eq 25, 3) := by decide +kernel
theorem dX4_takesSecondDigit_7 : decode cX4_takesSecondDigit 7 = .ok (.aload_n 0, 1) := by decide +kernel
theorem dX4_takesSecondDigit_8 : decode cX4_takesSecondDigit 8 = .ok (.aload_n 0, 1) := by decide +kernel
theorem dX4_takesSecondDigit_9 : decode cX4_takesSecondDigit 9 = .ok (.getfield 33, 3) := by decide +kernel
theorem dX4_takesSecondDigit_12 : decode cX4_takesSecondDigit 12 = .ok (.bipush 10, 2) := by decide +kernel
theorem dX4_takesSecondDigit_14 : decode cX4_takesSecondDigit 14 = .ok (.imul, 1) := by decide +kernel
theorem dX4_takesSecondDigit_15 : decode cX4_takesSecondDigit 15 = .ok (.iload_n 1, 1) := by decide +kernel
theorem dX4_takesSecondDigit_16 : decode cX4_takesSecondDigit 16 = .ok (.bipush 48, 2) := by decide +kernel
theorem dX4_takesSecondDigit_18 : decode cX4_takesSecondDigit 18 = .ok (.isub, 1) := by decide +kernel
theorem dX4_takesSecondDigit_19 : decode cX4_takesSecondDigit 19 = .ok (.iadd, 1) := by decide +kernel
theorem dX4_takesSecondDigit_20 : decode cX4_takesSecondDigit 20 = .ok (.putfield 33, 3) := by decide +kernel
theorem dX4_takesSecondDigit_23 : decode cX4_takesSecondDigit 23 = .ok (.aload_n 0, 1) := by decide +kernel
theorem dX4_takesSecondDigit_24 : decode cX4_takesSecondDigit 24 = .ok (.invokevirtual 43, 3) := by decide +kernel
theorem dX4_takesSecondDigit_27 : decode cX4_takesSecondDigit 27 = .ok (.iconst 1, 1) := by decide +kernel
theorem dX4_takesSecondDigit_28 : decode cX4_takesSecondDigit 28 = .ok (.ireturn, 1) := by decide +kernel
theorem dX4_takesSecondDigit_29 : decode cX4_takesSecondDigit 29 = .ok (.aload_n 0, 1) := by decide +kernel
theorem dX4_takesSecondDigit_30 : decode cX4_takesSecondDigit 30 = .ok (.invokevirtual 43, 3) := by decide +kernel
theorem dX4_takesSecondDigit_33 : decode cX4_takesSecondDigit 33 = .ok (.aload_n 0, 1) := by decide +kernel
theorem dX4_takesSecondDigit_34 : decode cX4_takesSecondDigit 34 = .ok (.iload_n 1, 1) := by decide +kernel
theorem dX4_takesSecondDigit_35 : decode cX4_takesSecondDigit 35 = .ok (.invokevirtual 66, 3) := by decide +kernel
theorem dX4_takesSecondDigit_38 : decode cX4_takesSecondDigit 38 = .ok (.ireturn, 1) := by decide +kernel
theorem dX4_takesJoint_0 : decode cX4_takesJoint 0 = .ok (.iload_n 1, 1) := by decide +kernel
theorem dX4_takesJoint_1 : decode cX4_takesJoint 1 = .ok (.bipush 41, 2) := by decide +kernel
theorem dX4_takesJoint_3 : decode cX4_takesJoint 3 = .ok (.if_icmp .ne 35, 3) := by decide +kernel
theorem dX4_takesJoint_6 : decode cX4_takesJoint 6 = .ok (.aload_n 0, 1) := by decide +kernel
theorem dX4_takesJoint_7 : decode cX4_takesJoint 7 = .ok (.getfield 23, 3) := by decide +kernel
theorem dX4_takesJoint_10 : decode cX4_takesJoint 10 = .ok (.ifCond .le 28, 3) := by decide +kernel
theorem dX4_takesJoint_13 : decode cX4_takesJoint 13 = .ok (.aload_n 0, 1) := by decide +kernel
theorem dX4_takesJoint_14 : decode cX4_takesJoint 14 = .ok (.iconst 1, 1) := by decide +kernel
theorem dX4_takesJoint_15 : decode cX4_takesJoint 15 = .ok (.invokevirtual 46, 3) := by decide +kernel
theorem dX4_takesJoint_18 : decode cX4_takesJoint 18 = .ok (.aload_n 0, 1) := by decide +kernel
theorem dX4_takesJoint_19 : decode cX4_takesJoint 19 = .ok (.getfield 16, 3) := by decide +kernel
theorem dX4_takesJoint_22 : decode cX4_takesJoint 22 = .ok (.invokevirtual 82, 3) := by decide +kernel
theorem dX4_takesJoint_25 : decode cX4_takesJoint 25 = .ok (.pop, 1) := by decide +kernel
theorem dX4_takesJoint_26 : decode cX4_takesJoint 26 = .ok (.aload_n 0, 1) := by decide +kernel
theorem dX4_takesJoint_27 : decode cX4_takesJoint 27 = .ok (.dup, 1) := by decide +kernel
theorem dX4_takesJoint_28 : decode cX4_takesJoint 28 = .ok (.getfield 23, 3) := by decide +kernel
theorem dX4_takesJoint_31 : decode cX4_takesJoint 31 = .ok (.iconst 1, 1) := by decide +kernel
theorem dX4_takesJoint_32 : decode cX4_takesJoint 32 = .ok (.isub, 1) := by decide +kernel
theorem dX4_takesJoint_33 : decode cX4_takesJoint 33 = .ok (.putfield 23, 3) := by decide +kernel
theorem dX4_takesJoint_36 : decode cX4_takesJoint 36 = .ok (.iconst 1, 1) := by decide +kernel
theorem dX4_takesJoint_37 : decode cX4_takesJoint 37 = .ok (.ireturn, 1) := by decide +kernel
theorem dX4_takesJoint_38 : decode cX4_takesJoint 38 = .ok (.iload_n 1, 1) := by decide +kernel
theorem dX4_takesJoint_39 : decode cX4_takesJoint 39 = .ok (.bipush 38, 2) := by decide +kernel
theorem dX4_takesJoint_41 : decode cX4_takesJoint 41 = .ok (.if_icmp .eq 11, 3) := by decide +kernel
theorem dX4_takesJoint_44 : decode cX4_takesJoint 44 = .ok (.iload_n 1, 1) := by decide +kernel
theorem dX4_takesJoint_45 : decode cX4_takesJoint 45 = .ok (.bipush 124, 2) := by decide +kernel
theorem dX4_takesJoint_47 : decode cX4_takesJoint 47 = .ok (.if_icmp .eq 5, 3) := by decide +kernel
theorem dX4_takesJoint_50 : decode cX4_takesJoint 50 = .ok (.iconst 0, 1) := by decide +kernel
theorem dX4_takesJoint_51 : decode cX4_takesJoint 51 = .ok (.ireturn, 1) := by decide +kernel
theorem dX4_takesJoint_52 : decode cX4_takesJoint 52 = .ok (.aload_n 0, 1) := by decide +kernel
theorem dX4_takesJoint_53 : decode cX4_takesJoint 53 = .ok (.iload_n 1, 1) := by decide +kernel
theorem dX4_takesJoint_54 : decode cX4_takesJoint 54 = .ok (.invokestatic 86, 3) := by decide +kernel
theorem dX4_takesJoint_57 : decode cX4_takesJoint 57 = .ok (.invokevirtual 46, 3) := by decide +kernel
theorem dX4_takesJoint_60 : decode cX4_takesJoint 60 = .ok (.aload_n 0, 1) := by decide +kernel
theorem dX4_takesJoint_61 : decode cX4_takesJoint 61 = .ok (.getfield 16, 3) := by decide +kernel
theorem dX4_takesJoint_64 : decode cX4_takesJoint 64 = .ok (.iload_n 1, 1) := by decide +kernel
theorem dX4_takesJoint_65 : decode cX4_takesJoint 65 = .ok (.invokevirtual 69, 3) := by decide +kernel
theorem dX4_takesJoint_68 : decode cX4_takesJoint 68 = .ok (.aload_n 0, 1) := by decide +kernel
theorem dX4_takesJoint_69 : decode cX4_takesJoint 69 = .ok (.iconst 0, 1) := by decide +kernel
theorem dX4_takesJoint_70 : decode cX4_takesJoint 70 = .ok (.putfield 19, 3) := by decide +kernel
theorem dX4_takesJoint_73 : decode cX4_takesJoint 73 = .ok (.iconst 1, 1) := by decide +kernel
theorem dX4_takesJoint_74 : decode cX4_takesJoint 74 = .ok (.ireturn, 1) := by decide +kernel
theorem dX4_endValue_0 : decode cX4_endValue 0 = .ok (.aload_n 0, 1) := by decide +kernel
theorem dX4_endValue_1 : decode cX4_endValue 1 = .ok (.getfield 19, 3) := by decide +kernel
theorem dX4_endValue_4 : decode cX4_endValue 4 = .ok (.iconst 3, 1) := by decide +kernel
theorem dX4_endValue_5 : decode cX4_endValue 5 = .ok (.if_icmp .ne 16, 3) := by decide +kernel
theorem dX4_endValue_8 : decode cX4_endValue 8 = .ok (.aload_n 0, 1) := by decide +kernel
theorem dX4_endValue_9 : decode cX4_endValue 9 = .ok (.aload_n 0, 1) := by decide +kernel
theorem dX4_endValue_10 : decode cX4_endValue 10 = .ok (.getfield 29, 3) := by decide +kernel
theorem dX4_endValue_13 : decode cX4_endValue 13 = .ok (.iconst 0, 1) := by decide +kernel
theorem dX4_endValue_14 : decode cX4_endValue 14 = .ok (.aload_n 0, 1) := by decide +kernel
theorem dX4_endValue_15 : decode cX4_endValue 15 = .ok (.getfield 33, 3) := by decide +kernel
theorem dX4_endValue_18 : decode cX4_endValue 18 = .ok (.invokevirtual 75, 3) := by decide +kernel
theorem dX4_endValue_21 : decode cX4_endValue 21 = .ok (.return_, 1) := by decide +kernel
theorem dX4_endTest_0 : decode cX4_endTest 0 = .ok (.aload_n 0, 1) := by decide +kernel
theorem dX4_endTest_1 : decode cX4_endTest 1 = .ok (.getfield 10, 3) := by decide +kernel
theorem dX4_endTest_4 : decode cX4_endTest 4 = .ok (.iload_n 1, 1) := by decide +kernel
theorem dX4_endTest_5 : decode cX4_endTest 5 = .ok (.aload_n 0, 1) := by decide +kernel
theorem dX4_endTest_6 : decode cX4_endTest 6 = .ok (.getfield 26, 3) := by decide +kernel
theorem dX4_endTest_9 : decode cX4_endTest 9 = .ok (.iload_n 2, 1) := by decide +kernel
theorem dX4_endTest_10 : decode cX4_endTest 10 = .ok (.iload_n 3, 1) := by decide +kernel
theorem dX4_endTest_11 : decode cX4_endTest 11 = .ok (.invokestatic 90, 3) := by decide +kernel
theorem dX4_endTest_14 : decode cX4_endTest 14 = .ok (.invokevirtual 69, 3) := by decide +kernel
theorem dX4_endTest_17 : decode cX4_endTest 17 = .ok (.aload_n 0, 1) := by decide +kernel
theorem dX4_endTest_18 : decode cX4_endTest 18 = .ok (.iconst 4, 1) := by decide +kernel
theorem dX4_endTest_19 : decode cX4_endTest 19 = .ok (.putfield 19, 3) := by decide +kernel
theorem dX4_endTest_22 : decode cX4_endTest 22 = .ok (.return_, 1) := by decide +kernel
theorem dX4_release_0 : decode cX4_release 0 = .ok (.aload_n 0, 1) := by decide +kernel
theorem dX4_release_1 : decode cX4_release 1 = .ok (.getfield 16, 3) := by decide +kernel
theorem dX4_release_4 : decode cX4_release 4 = .ok (.invokevirtual 96, 3) := by decide +kernel
theorem dX4_release_7 : decode cX4_release 7 = .ok (.istore_n 2, 1) := by decide +kernel
theorem dX4_release_8 : decode cX4_release 8 = .ok (.iload_n 2, 1) := by decide +kernel
theorem dX4_release_9 : decode cX4_release 9 = .ok (.ifCond .le 42, 3) := by decide +kernel
theorem dX4_release_12 : decode cX4_release 12 = .ok (.aload_n 0, 1) := by decide +kernel
theorem dX4_release_13 : decode cX4_release 13 = .ok (.getfield 16, 3) := by decide +kernel
theorem dX4_release_16 : decode cX4_release 16 = .ok (.invokevirtual 99, 3) := by decide +kernel
theorem dX4_release_19 : decode cX4_release 19 = .ok (.i2c, 1) := by decide +kernel
theorem dX4_release_20 : decode cX4_release 20 = .ok (.invokestatic 86, 3) := by decide +kernel
theorem dX4_release_23 : decode cX4_release 23 = .ok (.iload_n 1, 1) := by decide +kernel
theorem dX4_release_24 : decode cX4_release 24 = .ok (.if_icmp .lt 27, 3) := by decide +kernel
theorem dX4_release_27 : decode cX4_release 27 = .ok (.aload_n 0, 1) := by decide +kernel
theorem dX4_release_28 : decode cX4_release 28 = .ok (.getfield 10, 3) := by decide +kernel
theorem dX4_release_31 : decode cX4_release 31 = .ok (.aload_n 0, 1) := by decide +kernel
theorem dX4_release_32 : decode cX4_release 32 = .ok (.getfield 16, 3) := by decide +kernel
theorem dX4_release_35 : decode cX4_release 35 = .ok (.invokevirtual 82, 3) := by decide +kernel
theorem dX4_release_38 : decode cX4_release 38 = .ok (.i2c, 1) := by decide +kernel
theorem dX4_release_39 : decode cX4_release 39 = .ok (.invokestatic 102, 3) := by decide +kernel
theorem dX4_release_42 : decode cX4_release 42 = .ok (.invokevirtual 69, 3) := by decide +kernel
theorem dX4_release_45 : decode cX4_release 45 = .ok (.iinc 2 (-1), 3) := by decide +kernel
theorem dX4_release_48 : decode cX4_release 48 = .ok (.goto (-40), 3) := by decide +kernel
theorem dX4_release_51 : decode cX4_release 51 = .ok (.return_, 1) := by decide +kernel
theorem dX4_strength_0 : decode cX4_strength 0 = .ok (.iload_n 0, 1) := by decide +kernel
theorem dX4_strength_1 : decode cX4_strength 1 = .ok (.lookupswitch 41 #[(33, 35), (38, 37), (124, 39)], 35) := by decide +kernel
theorem dX4_strength_36 : decode cX4_strength 36 = .ok (.iconst 3, 1) := by decide +kernel
theorem dX4_strength_37 : decode cX4_strength 37 = .ok (.ireturn, 1) := by decide +kernel
theorem dX4_strength_38 : decode cX4_strength 38 = .ok (.iconst 2, 1) := by decide +kernel
theorem dX4_strength_39 : decode cX4_strength 39 = .ok (.ireturn, 1) := by decide +kernel
theorem dX4_strength_40 : decode cX4_strength 40 = .ok (.iconst 1, 1) := by decide +kernel
theorem dX4_strength_41 : decode cX4_strength 41 = .ok (.ireturn, 1) := by decide +kernel
theorem dX4_strength_42 : decode cX4_strength 42 = .ok (.iconst 0, 1) := by decide +kernel
theorem dX4_strength_43 : decode cX4_strength 43 = .ok (.ireturn, 1) := by decide +kernel
theorem dX4_isColumn_0 : decode cX4_isColumn 0 = .ok (.iload_n 0, 1) := by decide +kernel
theorem dX4_isColumn_1 : decode cX4_isColumn 1 = .ok (.bipush 97, 2) := by decide +kernel
theorem dX4_isColumn_3 : decode cX4_isColumn 3 = .ok (.if_icmp .lt 13, 3) := by decide +kernel
theorem dX4_isColumn_6 : decode cX4_isColumn 6 = .ok (.iload_n 0, 1) := by decide +kernel
theorem dX4_isColumn_7 : decode cX4_isColumn 7 = .ok (.bipush 100, 2) := by decide +kernel
theorem dX4_isColumn_9 : decode cX4_isColumn 9 = .ok (.if_icmp .gt 7, 3) := by decide +kernel
theorem dX4_isColumn_12 : decode cX4_isColumn 12 = .ok (.iconst 1, 1) := by decide +kernel
theorem dX4_isColumn_13 : decode cX4_isColumn 13 = .ok (.goto 4, 3) := by decide +kernel
theorem dX4_isColumn_16 : decode cX4_isColumn 16 = .ok (.iconst 0, 1) := by decide +kernel
theorem dX4_isColumn_17 : decode cX4_isColumn 17 = .ok (.ireturn, 1) := by decide +kernel
theorem dX4_isDigit_0 : decode cX4_isDigit 0 = .ok (.iload_n 0, 1) := by decide +kernel
theorem dX4_isDigit_1 : decode cX4_isDigit 1 = .ok (.bipush 48, 2) := by decide +kernel
theorem dX4_isDigit_3 : decode cX4_isDigit 3 = .ok (.if_icmp .lt 13, 3) := by decide +kernel
theorem dX4_isDigit_6 : decode cX4_isDigit 6 = .ok (.iload_n 0, 1) := by decide +kernel
theorem dX4_isDigit_7 : decode cX4_isDigit 7 = .ok (.bipush 57, 2) := by decide +kernel
theorem dX4_isDigit_9 : decode cX4_isDigit 9 = .ok (.if_icmp .gt 7, 3) := by decide +kernel
theorem dX4_isDigit_12 : decode cX4_isDigit 12 = .ok (.iconst 1, 1) := by decide +kernel
theorem dX4_isDigit_13 : decode cX4_isDigit 13 = .ok (.goto 4, 3) := by decide +kernel
theorem dX4_isDigit_16 : decode cX4_isDigit 16 = .ok (.iconst 0, 1) := by decide +kernel
theorem dX4_isDigit_17 : decode cX4_isDigit 17 = .ok (.ireturn, 1) := by decide +kernel
theorem dX5_init_0 : decode cX5_init 0 = .ok (.aload_n 0, 1) := by decide +kernel
theorem dX5_init_1 : decode cX5_init 1 = .ok (.invokespecial 3, 3) := by decide +kernel
theorem dX5_init_4 : decode cX5_init 4 = .ok (.aload_n 0, 1) := by decide +kernel
theorem dX5_init_5 : decode cX5_init 5 = .ok (.sipush 160, 3) := by decide +kernel
theorem dX5_init_8 : decode cX5_init 8 = .ok (.newarray .char, 2) := by decide +kernel
theorem dX5_init_10 : decode cX5_init 10 = .ok (.putfield 9, 3) := by decide +kernel
theorem dX5_init_13 : decode cX5_init 13 = .ok (.aload_n 0, 1) := by decide +kernel
theorem dX5_init_14 : decode cX5_init 14 = .ok (.new 15, 3) := by decide +kernel
theorem dX5_init_17 : decode cX5_init 17 = .ok (.dup, 1) := by decide +kernel
theorem dX5_init_18 : decode cX5_init 18 = .ok (.invokespecial 17, 3) := by decide +kernel
theorem dX5_init_21 : decode cX5_init 21 = .ok (.putfield 18, 3) := by decide +kernel
theorem dX5_init_24 : decode cX5_init 24 = .ok (.aload_n 0, 1) := by decide +kernel
theorem dX5_init_25 : decode cX5_init 25 = .ok (.new 15, 3) := by decide +kernel
theorem dX5_init_28 : decode cX5_init 28 = .ok (.dup, 1) := by decide +kernel
theorem dX5_init_29 : decode cX5_init 29 = .ok (.invokespecial 17, 3) := by decide +kernel
theorem dX5_init_32 : decode cX5_init 32 = .ok (.putfield 22, 3) := by decide +kernel
theorem dX5_init_35 : decode cX5_init 35 = .ok (.aload_n 0, 1) := by decide +kernel
theorem dX5_init_36 : decode cX5_init 36 = .ok (.iconst 0, 1) := by decide +kernel
theorem dX5_init_37 : decode cX5_init 37 = .ok (.putfield 25, 3) := by decide +kernel
theorem dX5_init_40 : decode cX5_init 40 = .ok (.return_, 1) := by decide +kernel
theorem dX5_write_0 : decode cX5_write 0 = .ok (.aload_n 0, 1) := by decide +kernel
theorem dX5_write_1 : decode cX5_write 1 = .ok (.iconst 0, 1) := by decide +kernel
theorem dX5_write_2 : decode cX5_write 2 = .ok (.putfield 25, 3) := by decide +kernel
theorem dX5_write_5 : decode cX5_write 5 = .ok (.aload_n 0, 1) := by decide +kernel
theorem dX5_write_6 : decode cX5_write 6 = .ok (.getfield 18, 3) := by decide +kernel
theorem dX5_write_9 : decode cX5_write 9 = .ok (.invokevirtual 29, 3) := by decide +kernel
theorem dX5_write_12 : decode cX5_write 12 = .ok (.aload_n 0, 1) := by decide +kernel
theorem dX5_write_13 : decode cX5_write 13 = .ok (.getfield 22, 3) := by decide +kernel
theorem dX5_write_16 : decode cX5_write 16 = .ok (.invokevirtual 29, 3) := by decide +kernel
theorem dX5_write_19 : decode cX5_write 19 = .ok (.iconst 0, 1) := by decide +kernel
theorem dX5_write_20 : decode cX5_write 20 = .ok (.istore_n 2, 1) := by decide +kernel
theorem dX5_write_21 : decode cX5_write 21 = .ok (.iload_n 2, 1) := by decide +kernel
theorem dX5_write_22 : decode cX5_write 22 = .ok (.aload_n 1, 1) := by decide +kernel
theorem dX5_write_23 : decode cX5_write 23 = .ok (.invokevirtual 32, 3) := by decide +kernel
theorem dX5_write_26 : decode cX5_write 26 = .ok (.if_icmp .ge 63, 3) := by decide +kernel
theorem dX5_write_29 : decode cX5_write 29 = .ok (.aload_n 1, 1) := by decide +kernel
theorem dX5_write_30 : decode cX5_write 30 = .ok (.iload_n 2, 1) := by decide +kernel
theorem dX5_write_31 : decode cX5_write 31 = .ok (.invokevirtual 38, 3) := by decide +kernel
theorem dX5_write_34 : decode cX5_write 34 = .ok (.istore_n 3, 1) := by decide +kernel
theorem dX5_write_35 : decode cX5_write 35 = .ok (.iload_n 3, 1) := by decide +kernel
theorem dX5_write_36 : decode cX5_write 36 = .ok (.invokestatic 42, 3) := by decide +kernel
theorem dX5_write_39 : decode cX5_write 39 = .ok (.istore 4, 2) := by decide +kernel
theorem dX5_write_41 : decode cX5_write 41 = .ok (.iload 4, 2) := by decide +kernel
theorem dX5_write_43 : decode cX5_write 43 = .ok (.bipush 33, 2) := by decide +kernel
theorem dX5_write_45 : decode cX5_write 45 = .ok (.if_icmp .ne 10, 3) := by decide +kernel
theorem dX5_write_48 : decode cX5_write 48 = .ok (.aload_n 0, 1) := by decide +kernel
theorem dX5_write_49 : decode cX5_write 49 = .ok (.invokevirtual 48, 3) := by decide +kernel
theorem dX5_write_52 : decode cX5_write 52 = .ok (.goto 31, 3) := by decide +kernel
theorem dX5_write_55 : decode cX5_write 55 = .ok (.iload 4, 2) := by decide +kernel
theorem dX5_write_57 : decode cX5_write 57 = .ok (.bipush 38, 2) := by decide +kernel
theorem dX5_write_59 : decode cX5_write 59 = .ok (.if_icmp .eq 10, 3) := by decide +kernel
theorem dX5_write_62 : decode cX5_write 62 = .ok (.iload 4, 2) := by decide +kernel
theorem dX5_write_64 : decode cX5_write 64 = .ok (.bipush 124, 2) := by decide +kernel
theorem dX5_write_66 : decode cX5_write 66 = .ok (.if_icmp .ne 12, 3) := by decide +kernel
theorem dX5_write_69 : decode cX5_write 69 = .ok (.aload_n 0, 1) := by decide +kernel
theorem dX5_write_70 : decode cX5_write 70 = .ok (.iload 4, 2) := by decide +kernel
theorem dX5_write_72 : decode cX5_write 72 = .ok (.invokevirtual 51, 3) := by decide +kernel
theorem dX5_write_75 : decode cX5_write 75 = .ok (.goto 8, 3) := by decide +kernel
theorem dX5_write_78 : decode cX5_write 78 = .ok (.aload_n 0, 1) := by decide +kernel
theorem dX5_write_79 : decode cX5_write 79 = .ok (.iload_n 3, 1) := by decide +kernel
theorem dX5_write_80 : decode cX5_write 80 = .ok (.invokevirtual 55, 3) := by decide +kernel
theorem dX5_write_83 : decode cX5_write 83 = .ok (.iinc 2 1, 3) := by decide +kernel
theorem dX5_write_86 : decode cX5_write 86 = .ok (.goto (-65), 3) := by decide +kernel
theorem dX5_write_89 : decode cX5_write 89 = .ok (.return_, 1) := by decide +kernel
theorem dX5_length_0 : decode cX5_length 0 = .ok (.aload_n 0, 1) := by decide +kernel
theorem dX5_length_1 : decode cX5_length 1 = .ok (.getfield 25, 3) := by decide +kernel
theorem dX5_length_4 : decode cX5_length 4 = .ok (.ireturn, 1) := by decide +kernel
theorem dX5_codeAt_0 : decode cX5_codeAt 0 = .ok (.iload_n 1, 1) := by decide +kernel
theorem dX5_codeAt_1 : decode cX5_codeAt 1 = .ok (.ifCond .lt 20, 3) := by decide +kernel
theorem dX5_codeAt_4 : decode cX5_codeAt 4 = .ok (.iload_n 1, 1) := by decide +kernel
theorem dX5_codeAt_5 : decode cX5_codeAt 5 = .ok (.aload_n 0, 1) := by decide +kernel
theorem dX5_codeAt_6 : decode cX5_codeAt 6 = .ok (.getfield 25, 3) := by decide +kernel
theorem dX5_codeAt_9 : decode cX5_codeAt 9 = .ok (.if_icmp .ge 12, 3) := by decide +kernel
theorem dX5_codeAt_12 : decode cX5_codeAt 12 = .ok (.aload_n 0, 1) := by decide +kernel
theorem dX5_codeAt_13 : decode cX5_codeAt 13 = .ok (.getfield 9, 3) := by decide +kernel
theorem dX5_codeAt_16 : decode cX5_codeAt 16 = .ok (.iload_n 1, 1) := by decide +kernel
theorem dX5_codeAt_17 : decode cX5_codeAt 17 = .ok (.caload, 1) := by decide +kernel
theorem dX5_codeAt_18 : decode cX5_codeAt 18 = .ok (.goto 5, 3) := by decide +kernel
theorem dX5_codeAt_21 : decode cX5_codeAt 21 = .ok (.bipush (-2), 2) := by decide +kernel
theorem dX5_codeAt_23 : decode cX5_codeAt 23 = .ok (.ireturn, 1) := by decide +kernel
theorem dX5_writeTest_0 : decode cX5_writeTest 0 = .ok (.aload_n 0, 1) := by decide +kernel
theorem dX5_writeTest_1 : decode cX5_writeTest 1 = .ok (.getfield 18, 3) := by decide +kernel
theorem dX5_writeTest_4 : decode cX5_writeTest 4 = .ok (.aload_n 0, 1) := by decide +kernel
theorem dX5_writeTest_5 : decode cX5_writeTest 5 = .ok (.getfield 25, 3) := by decide +kernel
theorem dX5_writeTest_8 : decode cX5_writeTest 8 = .ok (.invokevirtual 59, 3) := by decide +kernel
theorem dX5_writeTest_11 : decode cX5_writeTest 11 = .ok (.aload_n 0, 1) := by decide +kernel
theorem dX5_writeTest_12 : decode cX5_writeTest 12 = .ok (.getfield 22, 3) := by decide +kernel
theorem dX5_writeTest_15 : decode cX5_writeTest 15 = .ok (.iload_n 1, 1) := by decide +kernel
theorem dX5_writeTest_16 : decode cX5_writeTest 16 = .ok (.invokestatic 42, 3) := by decide +kernel
theorem dX5_writeTest_19 : decode cX5_writeTest 19 = .ok (.invokevirtual 59, 3) := by decide +kernel
theorem dX5_writeTest_22 : decode cX5_writeTest 22 = .ok (.aload_n 0, 1) := by decide +kernel
theorem dX5_writeTest_23 : decode cX5_writeTest 23 = .ok (.aload_n 0, 1) := by decide +kernel
theorem dX5_writeTest_24 : decode cX5_writeTest 24 = .ok (.getfield 25, 3) := by decide +kernel
theorem dX5_writeTest_27 : decode cX5_writeTest 27 = .ok (.bipush 97, 2) := by decide +kernel
theorem dX5_writeTest_29 : decode cX5_writeTest 29 = .ok (.iload_n 1, 1) := by decide +kernel
theorem dX5_writeTest_30 : decode cX5_writeTest 30 = .ok (.invokestatic 62, 3) := by decide +kernel
theorem dX5_writeTest_33 : decode cX5_writeTest 33 = .ok (.iadd, 1) := by decide +kernel
theorem dX5_writeTest_34 : decode cX5_writeTest 34 = .ok (.i2c, 1) := by decide +kernel
theorem dX5_writeTest_35 : decode cX5_writeTest 35 = .ok (.invokevirtual 65, 3) := by decide +kernel
theorem dX5_writeTest_38 : decode cX5_writeTest 38 = .ok (.aload_n 0, 1) := by decide +kernel
theorem dX5_writeTest_39 : decode cX5_writeTest 39 = .ok (.aload_n 0, 1) := by decide +kernel
theorem dX5_writeTest_40 : decode cX5_writeTest 40 = .ok (.getfield 25, 3) := by decide +kernel
theorem dX5_writeTest_43 : decode cX5_writeTest 43 = .ok (.iload_n 1, 1) := by decide +kernel
theorem dX5_writeTest_44 : decode cX5_writeTest 44 = .ok (.invokestatic 42, 3) := by decide +kernel
theorem dX5_writeTest_47 : decode cX5_writeTest 47 = .ok (.invokevirtual 65, 3) := by decide +kernel
theorem dX5_writeTest_50 : decode cX5_writeTest 50 = .ok (.iload_n 1, 1) := by decide +kernel
theorem dX5_writeTest_51 : decode cX5_writeTest 51 = .ok (.invokestatic 69, 3) := by decide +kernel
theorem dX5_writeTest_54 : decode cX5_writeTest 54 = .ok (.ifCond .eq 22, 3) := by decide +kernel
theorem dX5_writeTest_57 : decode cX5_writeTest 57 = .ok (.aload_n 0, 1) := by decide +kernel
theorem dX5_writeTest_58 : decode cX5_writeTest 58 = .ok (.aload_n 0, 1) := by decide +kernel
theorem dX5_writeTest_59 : decode cX5_writeTest 59 = .ok (.getfield 25, 3) := by decide +kernel
theorem dX5_writeTest_62 : decode cX5_writeTest 62 = .ok (.bipush 97, 2) := by decide +kernel
theorem dX5_writeTest_64 : decode cX5_writeTest 64 = .ok (.iload_n 1, 1) := by decide +kernel
theorem dX5_writeTest_65 : decode cX5_writeTest 65 = .ok (.invokestatic 73, 3) := by decide +kernel
theorem dX5_writeTest_68 : decode cX5_writeTest 68 = .ok (.iadd, 1) := by decide +kernel
theorem dX5_writeTest_69 : decode cX5_writeTest 69 = .ok (.i2c, 1) := by decide +kernel
theorem dX5_writeTest_70 : decode cX5_writeTest 70 = .ok (.invokevirtual 65, 3) := by decide +kernel
theorem dX5_writeTest_73 : decode cX5_writeTest 73 = .ok (.goto 18, 3) := by decide +kernel
theorem dX5_writeTest_76 : decode cX5_writeTest 76 = .ok (.iload_n 1, 1) := by decide +kernel
theorem dX5_writeTest_77 : decode cX5_writeTest 77 = .ok (.invokestatic 76, 3) := by decide +kernel
theorem dX5_writeTest_80 : decode cX5_writeTest 80 = .ok (.ifCond .eq 11, 3) := by decide +kernel
theorem dX5_writeTest_83 : decode cX5_writeTest 83 = .ok (.aload_n 0, 1) := by decide +kernel
theorem dX5_writeTest_84 : decode cX5_writeTest 84 = .ok (.iload_n 1, 1) := by decide +kernel
theorem dX5_writeTest_85 : decode cX5_writeTest 85 = .ok (.invokestatic 79, 3) := by decide +kernel
theorem dX5_writeTest_88 : decode cX5_writeTest 88 = .ok (.invokevirtual 82, 3) := by decide +kernel
theorem dX5_writeTest_91 : decode cX5_writeTest 91 = .ok (.return_, 1) := by decide +kernel
theorem dX5_writeValue_0 : decode cX5_writeValue 0 = .ok (.iload_n 1, 1) := by decide +kernel
theorem dX5_writeValue_1 : decode cX5_writeValue 1 = .ok (.bipush 10, 2) := by decide +kernel
theorem dX5_writeValue_3 : decode cX5_writeValue 3 = .ok (.if_icmp .lt 19, 3) := by decide +kernel
theorem dX5_writeValue_6 : decode cX5_writeValue 6 = .ok (.aload_n 0, 1) := by decide +kernel
theorem dX5_writeValue_7 : decode cX5_writeValue 7 = .ok (.aload_n 0, 1) := by decide +kernel
theorem dX5_writeValue_8 : decode cX5_writeValue 8 = .ok (.getfield 25, 3) := by decide +kernel
theorem dX5_writeValue_11 : decode cX5_writeValue 11 = .ok (.bipush 48, 2) := by decide +kernel
theorem dX5_writeValue_13 : decode cX5_writeValue 13 = .ok (.iload_n 1, 1) := by decide +kernel
theorem dX5_writeValue_14 : decode cX5_writeValue 14 = .ok (.bipush 10, 2) := by decide +kernel
theorem dX5_writeValue_16 : decode cX5_writeValue 16 = .ok (.idiv, 1) := by decide +kernel
theorem dX5_writeValue_17 : decode cX5_writeValue 17 = .ok (.iadd, 1) := by decide +kernel
theorem dX5_writeValue_18 : decode cX5_writeValue 18 = .ok (.i2c, 1) := by decide +kernel
theorem dX5_writeValue_19 : decode cX5_writeValue 19 = .ok (.invokevirtual 65, 3) := by decide +kernel
theorem dX5_writeValue_22 : decode cX5_writeValue 22 = .ok (.aload_n 0, 1) := by decide +kernel
theorem dX5_writeValue_23 : decode cX5_writeValue 23 = .ok (.aload_n 0, 1) := by decide +kernel
theorem dX5_writeValue_24 : decode cX5_writeValue 24 = .ok (.getfield 25, 3) := by decide +kernel
theorem dX5_writeValue_27 : decode cX5_writeValue 27 = .ok (.bipush 48, 2) := by decide +kernel
theorem dX5_writeValue_29 : decode cX5_writeValue 29 = .ok (.iload_n 1, 1) := by decide +kernel
theorem dX5_writeValue_30 : decode cX5_writeValue 30 = .ok (.bipush 10, 2) := by decide +kernel
theorem dX5_writeValue_32 : decode cX5_writeValue 32 = .ok (.irem, 1) := by decide +kernel
theorem dX5_writeValue_33 : decode cX5_writeValue 33 = .ok (.iadd, 1) := by decide +kernel
theorem dX5_writeValue_34 : decode cX5_writeValue 34 = .ok (.i2c, 1) := by decide +kernel
theorem dX5_writeValue_35 : decode cX5_writeValue 35 = .ok (.invokevirtual 65, 3) := by decide +kernel
theorem dX5_writeValue_38 : decode cX5_writeValue 38 = .ok (.return_, 1) := by decide +kernel
theorem dX5_negateLast_0 : decode cX5_negateLast 0 = .ok (.aload_n 0, 1) := by decide +kernel
theorem dX5_negateLast_1 : decode cX5_negateLast 1 = .ok (.getfield 22, 3) := by decide +kernel
theorem dX5_negateLast_4 : decode cX5_negateLast 4 = .ok (.invokevirtual 85, 3) := by decide +kernel
theorem dX5_negateLast_7 : decode cX5_negateLast 7 = .ok (.istore_n 1, 1) := by decide +kernel
theorem dX5_negateLast_8 : decode cX5_negateLast 8 = .ok (.iload_n 1, 1) := by decide +kernel
theorem dX5_negateLast_9 : decode cX5_negateLast 9 = .ok (.bipush 38, 2) := by decide +kernel
theorem dX5_negateLast_11 : decode cX5_negateLast 11 = .ok (.if_icmp .eq 9, 3) := by decide +kernel
theorem dX5_negateLast_14 : decode cX5_negateLast 14 = .ok (.iload_n 1, 1) := by decide +kernel
theorem dX5_negateLast_15 : decode cX5_negateLast 15 = .ok (.bipush 124, 2) := by decide +kernel
theorem dX5_negateLast_17 : decode cX5_negateLast 17 = .ok (.if_icmp .ne 18, 3) := by decide +kernel
theorem dX5_negateLast_20 : decode cX5_negateLast 20 = .ok (.aload_n 0, 1) := by decide +kernel
theorem dX5_negateLast_21 : decode cX5_negateLast 21 = .ok (.aload_n 0, 1) := by decide +kernel
theorem dX5_negateLast_22 : decode cX5_negateLast 22 = .ok (.getfield 18, 3) := by decide +kernel
theorem dX5_negateLast_25 : decode cX5_negateLast 25 = .ok (.invokevirtual 88, 3) := by decide +kernel
theorem dX5_negateLast_28 : decode cX5_negateLast 28 = .ok (.aload_n 0, 1) := by decide +kernel
theorem dX5_negateLast_29 : decode cX5_negateLast 29 = .ok (.getfield 25, 3) := by decide +kernel
theorem dX5_negateLast_32 : decode cX5_negateLast 32 = .ok (.invokevirtual 91, 3) := by decide +kernel
theorem dX5_negateLast_35 : decode cX5_negateLast 35 = .ok (.aload_n 0, 1) := by decide +kernel
theorem dX5_negateLast_36 : decode cX5_negateLast 36 = .ok (.aload_n 0, 1) := by decide +kernel
theorem dX5_negateLast_37 : decode cX5_negateLast 37 = .ok (.getfield 18, 3) := by decide +kernel
theorem dX5_negateLast_40 : decode cX5_negateLast 40 = .ok (.invokevirtual 88, 3) := by decide +kernel
theorem dX5_negateLast_43 : decode cX5_negateLast 43 = .ok (.bipush 33, 2) := by decide +kernel
theorem dX5_negateLast_45 : decode cX5_negateLast 45 = .ok (.invokevirtual 65, 3) := by decide +kernel
theorem dX5_negateLast_48 : decode cX5_negateLast 48 = .ok (.aload_n 0, 1) := by decide +kernel
theorem dX5_negateLast_49 : decode cX5_negateLast 49 = .ok (.getfield 22, 3) := by decide +kernel
theorem dX5_negateLast_52 : decode cX5_negateLast 52 = .ok (.bipush 33, 2) := by decide +kernel
theorem dX5_negateLast_54 : decode cX5_negateLast 54 = .ok (.invokevirtual 59, 3) := by decide +kernel
theorem dX5_negateLast_57 : decode cX5_negateLast 57 = .ok (.return_, 1) := by decide +kernel
theorem dX5_joinLastTwo_0 : decode cX5_joinLastTwo 0 = .ok (.aload_n 0, 1) := by decide +kernel
theorem dX5_joinLastTwo_1 : decode cX5_joinLastTwo 1 = .ok (.getfield 18, 3) := by decide +kernel
theorem dX5_joinLastTwo_4 : decode cX5_joinLastTwo 4 = .ok (.invokevirtual 85, 3) := by decide +kernel
theorem dX5_joinLastTwo_7 : decode cX5_joinLastTwo 7 = .ok (.istore_n 2, 1) := by decide +kernel
theorem dX5_joinLastTwo_8 : decode cX5_joinLastTwo 8 = .ok (.aload_n 0, 1) := by decide +kernel
theorem dX5_joinLastTwo_9 : decode cX5_joinLastTwo 9 = .ok (.getfield 22, 3) := by decide +kernel
theorem dX5_joinLastTwo_12 : decode cX5_joinLastTwo 12 = .ok (.invokevirtual 85, 3) := by decide +kernel
theorem dX5_joinLastTwo_15 : decode cX5_joinLastTwo 15 = .ok (.istore_n 3, 1) := by decide +kernel
theorem dX5_joinLastTwo_16 : decode cX5_joinLastTwo 16 = .ok (.aload_n 0, 1) := by decide +kernel
theorem dX5_joinLastTwo_17 : decode cX5_joinLastTwo 17 = .ok (.getfield 22, 3) := by decide +kernel
theorem dX5_joinLastTwo_20 : decode cX5_joinLastTwo 20 = .ok (.invokevirtual 85, 3) := by decide +kernel
theorem dX5_joinLastTwo_23 : decode cX5_joinLastTwo 23 = .ok (.istore 4, 2) := by decide +kernel
theorem dX5_joinLastTwo_25 : decode cX5_joinLastTwo 25 = .ok (.iload_n 3, 1) := by decide +kernel
theorem dX5_joinLastTwo_26 : decode cX5_joinLastTwo 26 = .ok (.iload_n 1, 1) := by decide +kernel
theorem dX5_joinLastTwo_27 : decode cX5_joinLastTwo 27 = .ok (.if_icmp .eq 15, 3) := by decide +kernel
theorem dX5_joinLastTwo_30 : decode cX5_joinLastTwo 30 = .ok (.iload_n 1, 1) := by decide +kernel
theorem dX5_joinLastTwo_31 : decode cX5_joinLastTwo 31 = .ok (.bipush 38, 2) := by decide +kernel
theorem dX5_joinLastTwo_33 : decode cX5_joinLastTwo 33 = .ok (.if_icmp .ne 18, 3) := by decide +kernel
theorem dX5_joinLastTwo_36 : decode cX5_joinLastTwo 36 = .ok (.iload_n 3, 1) := by decide +kernel
theorem dX5_joinLastTwo_37 : decode cX5_joinLastTwo 37 = .ok (.bipush 124, 2) := by decide +kernel
theorem dX5_joinLastTwo_39 : decode cX5_joinLastTwo 39 = .ok (.if_icmp .ne 12, 3) := by decide +kernel
theorem dX5_joinLastTwo_42 : decode cX5_joinLastTwo 42 = .ok (.aload_n 0, 1) := by decide +kernel
theorem dX5_joinLastTwo_43 : decode cX5_joinLastTwo 43 = .ok (.iload_n 2, 1) := by decide +kernel
theorem dX5_joinLastTwo_44 : decode cX5_joinLastTwo 44 = .ok (.aload_n 0, 1) := by decide +kernel
theorem dX5_joinLastTwo_45 : decode cX5_joinLastTwo 45 = .ok (.getfield 25, 3) := by decide +kernel
theorem dX5_joinLastTwo_48 : decode cX5_joinLastTwo 48 = .ok (.invokevirtual 91, 3) := by decide +kernel
theorem dX5_joinLastTwo_51 : decode cX5_joinLastTwo 51 = .ok (.aload_n 0, 1) := by decide +kernel
theorem dX5_joinLastTwo_52 : decode cX5_joinLastTwo 52 = .ok (.iload_n 2, 1) := by decide +kernel
theorem dX5_joinLastTwo_53 : decode cX5_joinLastTwo 53 = .ok (.iload_n 1, 1) := by decide +kernel
theorem dX5_joinLastTwo_54 : decode cX5_joinLastTwo 54 = .ok (.invokevirtual 65, 3) := by decide +kernel
theorem dX5_joinLastTwo_57 : decode cX5_joinLastTwo 57 = .ok (.iload_n 1, 1) := by decide +kernel
theorem dX5_joinLastTwo_58 : decode cX5_joinLastTwo 58 = .ok (.bipush 38, 2) := by decide +kernel
theorem dX5_joinLastTwo_60 : decode cX5_joinLastTwo 60 = .ok (.if_icmp .ne 22, 3) := by decide +kernel
theorem dX5_joinLastTwo_63 : decode cX5_joinLastTwo 63 = .ok (.iload 4, 2) := by decide +kernel
theorem dX5_joinLastTwo_65 : decode cX5_joinLastTwo 65 = .ok (.bipush 124, 2) := by decide +kernel
theorem dX5_joinLastTwo_67 : decode cX5_joinLastTwo 67 = .ok (.if_icmp .ne 15, 3) := by decide +kernel
theorem dX5_joinLastTwo_70 : decode cX5_joinLastTwo 70 = .ok (.aload_n 0, 1) := by decide +kernel
theorem dX5_joinLastTwo_71 : decode cX5_joinLastTwo 71 = .ok (.aload_n 0, 1) := by decide +kernel
theorem dX5_joinLastTwo_72 : decode cX5_joinLastTwo 72 = .ok (.getfield 18, 3) := by decide +kernel
theorem dX5_joinLastTwo_75 : decode cX5_joinLastTwo 75 = .ok (.invokevirtual 88, 3) := by decide +kernel
theorem dX5_joinLastTwo_78 : decode cX5_joinLastTwo 78 = .ok (.iload_n 2, 1) := by decide +kernel
theorem dX5_joinLastTwo_79 : decode cX5_joinLastTwo 79 = .ok (.invokevirtual 91, 3) := by decide +kernel
theorem dX5_joinLastTwo_82 : decode cX5_joinLastTwo 82 = .ok (.aload_n 0, 1) := by decide +kernel
theorem dX5_joinLastTwo_83 : decode cX5_joinLastTwo 83 = .ok (.getfield 22, 3) := by decide +kernel
theorem dX5_joinLastTwo_86 : decode cX5_joinLastTwo 86 = .ok (.iload_n 1, 1) := by decide +kernel
theorem dX5_joinLastTwo_87 : decode cX5_joinLastTwo 87 = .ok (.invokevirtual 59, 3) := by decide +kernel
theorem dX5_joinLastTwo_90 : decode cX5_joinLastTwo 90 = .ok (.return_, 1) := by decide +kernel
theorem dX5_wrap_0 : decode cX5_wrap 0 = .ok (.aload_n 0, 1) := by decide +kernel
theorem dX5_wrap_1 : decode cX5_wrap 1 = .ok (.iload_n 2, 1) := by decide +kernel
theorem dX5_wrap_2 : decode cX5_wrap 2 = .ok (.bipush 41, 2) := by decide +kernel
theorem dX5_wrap_4 : decode cX5_wrap 4 = .ok (.invokevirtual 65, 3) := by decide +kernel
theorem dX5_wrap_7 : decode cX5_wrap 7 = .ok (.aload_n 0, 1) := by decide +kernel
theorem dX5_wrap_8 : decode cX5_wrap 8 = .ok (.iload_n 1, 1) := by decide +kernel
theorem dX5_wrap_9 : decode cX5_wrap 9 = .ok (.bipush 40, 2) := by decide +kernel
theorem dX5_wrap_11 : decode cX5_wrap 11 = .ok (.invokevirtual 65, 3) := by decide +kernel
theorem dX5_wrap_14 : decode cX5_wrap 14 = .ok (.return_, 1) := by decide +kernel
theorem dX5_insert_0 : decode cX5_insert 0 = .ok (.iload_n 1, 1) := by decide +kernel
theorem dX5_insert_1 : decode cX5_insert 1 = .ok (.ifCond .lt 23, 3) := by decide +kernel
theorem dX5_insert_4 : decode cX5_insert 4 = .ok (.iload_n 1, 1) := by decide +kernel
theorem dX5_insert_5 : decode cX5_insert 5 = .ok (.aload_n 0, 1) := by decide +kernel
theorem dX5_insert_6 : decode cX5_insert 6 = .ok (.getfield 25, 3) := by decide +kernel
theorem dX5_insert_9 : decode cX5_insert 9 = .ok (.if_icmp .gt 15, 3) := by decide +kernel
theorem dX5_insert_12 : decode cX5_insert 12 = .ok (.aload_n 0, 1) := by decide +kernel
theorem dX5_insert_13 : decode cX5_insert 13 = .ok (.getfield 25, 3) := by decide +kernel
theorem dX5_insert_16 : decode cX5_insert 16 = .ok (.aload_n 0, 1) := by decide +kernel
theorem dX5_insert_17 : decode cX5_insert 17 = .ok (.getfield 9, 3) := by decide +kernel
theorem dX5_insert_20 : decode cX5_insert 20 = .ok (.arraylength, 1) := by decide +kernel
theorem dX5_insert_21 : decode cX5_insert 21 = .ok (.if_icmp .lt 4, 3) := by decide +kernel
theorem dX5_insert_24 : decode cX5_insert 24 = .ok (.return_, 1) := by decide +kernel
theorem dX5_insert_25 : decode cX5_insert 25 = .ok (.aload_n 0, 1) := by decide +kernel
theorem dX5_insert_26 : decode cX5_insert 26 = .ok (.getfield 25, 3) := by decide +kernel
theorem dX5_insert_29 : decode cX5_insert 29 = .ok (.istore_n 3, 1) := by decide +kernel
theorem dX5_insert_30 : decode cX5_insert 30 = .ok (.iload_n 3, 1) := by decide +kernel
theorem dX5_insert_31 : decode cX5_insert 31 = .ok (.iload_n 1, 1) := by decide +kernel
theorem dX5_insert_32 : decode cX5_insert 32 = .ok (.if_icmp .le 23, 3) := by decide +kernel
theorem dX5_insert_35 : decode cX5_insert 35 = .ok (.aload_n 0, 1) := by decide +kernel
theorem dX5_insert_36 : decode cX5_insert 36 = .ok (.getfield 9, 3) := by decide +kernel
theorem dX5_insert_39 : decode cX5_insert 39 = .ok (.iload_n 3, 1) := by decide +kernel
theorem dX5_insert_40 : decode cX5_insert 40 = .ok (.aload_n 0, 1) := by decide +kernel
theorem dX5_insert_41 : decode cX5_insert 41 = .ok (.getfield 9, 3) := by decide +kernel
theorem dX5_insert_44 : decode cX5_insert 44 = .ok (.iload_n 3, 1) := by decide +kernel
theorem dX5_insert_45 : decode cX5_insert 45 = .ok (.iconst 1, 1) := by decide +kernel
theorem dX5_insert_46 : decode cX5_insert 46 = .ok (.isub, 1) := by decide +kernel
theorem dX5_insert_47 : decode cX5_insert 47 = .ok (.caload, 1) := by decide +kernel
theorem dX5_insert_48 : decode cX5_insert 48 = .ok (.castore, 1) := by decide +kernel
theorem dX5_insert_49 : decode cX5_insert 49 = .ok (.iinc 3 (-1), 3) := by decide +kernel
theorem dX5_insert_52 : decode cX5_insert 52 = .ok (.goto (-22), 3) := by decide +kernel
theorem dX5_insert_55 : decode cX5_insert 55 = .ok (.aload_n 0, 1) := by decide +kernel
theorem dX5_insert_56 : decode cX5_insert 56 = .ok (.getfield 9, 3) := by decide +kernel
theorem dX5_insert_59 : decode cX5_insert 59 = .ok (.iload_n 1, 1) := by decide +kernel
theorem dX5_insert_60 : decode cX5_insert 60 = .ok (.iload_n 2, 1) := by decide +kernel
theorem dX5_insert_61 : decode cX5_insert 61 = .ok (.castore, 1) := by decide +kernel
theorem dX5_insert_62 : decode cX5_insert 62 = .ok (.aload_n 0, 1) := by decide +kernel
theorem dX5_insert_63 : decode cX5_insert 63 = .ok (.dup, 1) := by decide +kernel
theorem dX5_insert_64 : decode cX5_insert 64 = .ok (.getfield 25, 3) := by decide +kernel
theorem dX5_insert_67 : decode cX5_insert 67 = .ok (.iconst 1, 1) := by decide +kernel
theorem dX5_insert_68 : decode cX5_insert 68 = .ok (.iadd, 1) := by decide +kernel
theorem dX5_insert_69 : decode cX5_insert 69 = .ok (.putfield 25, 3) := by decide +kernel
theorem dX5_insert_72 : decode cX5_insert 72 = .ok (.return_, 1) := by decide +kernel
theorem dX6_init_0 : decode cX6_init 0 = .ok (.aload_n 0, 1) := by decide +kernel
theorem dX6_init_1 : decode cX6_init 1 = .ok (.invokespecial 3, 3) := by decide +kernel
theorem dX6_init_4 : decode cX6_init 4 = .ok (.aload_n 0, 1) := by decide +kernel
theorem dX6_init_5 : decode cX6_init 5 = .ok (.sipush 128, 3) := by decide +kernel
theorem dX6_init_8 : decode cX6_init 8 = .ok (.newarray .int, 2) := by decide +kernel
theorem dX6_init_10 : decode cX6_init 10 = .ok (.putfield 9, 3) := by decide +kernel
theorem dX6_init_13 : decode cX6_init 13 = .ok (.aload_n 0, 1) := by decide +kernel
theorem dX6_init_14 : decode cX6_init 14 = .ok (.iconst 2, 1) := by decide +kernel
theorem dX6_init_15 : decode cX6_init 15 = .ok (.newarray .int, 2) := by decide +kernel
theorem dX6_init_17 : decode cX6_init 17 = .ok (.putfield 15, 3) := by decide +kernel
theorem dX6_init_20 : decode cX6_init 20 = .ok (.aload_n 0, 1) := by decide +kernel
theorem dX6_init_21 : decode cX6_init 21 = .ok (.bipush 6, 2) := by decide +kernel
theorem dX6_init_23 : decode cX6_init 23 = .ok (.anewarray 18, 3) := by decide +kernel
theorem dX6_init_26 : decode cX6_init 26 = .ok (.putfield 20, 3) := by decide +kernel
theorem dX6_init_29 : decode cX6_init 29 = .ok (.aload_n 0, 1) := by decide +kernel
theorem dX6_init_30 : decode cX6_init 30 = .ok (.iconst 2, 1) := by decide +kernel
theorem dX6_init_31 : decode cX6_init 31 = .ok (.anewarray 18, 3) := by decide +kernel
theorem dX6_init_34 : decode cX6_init 34 = .ok (.putfield 24, 3) := by decide +kernel
theorem dX6_init_37 : decode cX6_init 37 = .ok (.aload_n 0, 1) := by decide +kernel
theorem dX6_init_38 : decode cX6_init 38 = .ok (.iconst 0, 1) := by decide +kernel
theorem dX6_init_39 : decode cX6_init 39 = .ok (.putfield 27, 3) := by decide +kernel
theorem dX6_init_42 : decode cX6_init 42 = .ok (.return_, 1) := by decide +kernel
theorem dX6_takeOver_0 : decode cX6_takeOver 0 = .ok (.aload_n 1, 1) := by decide +kernel
theorem dX6_takeOver_1 : decode cX6_takeOver 1 = .ok (.getfield 9, 3) := by decide +kernel
theorem dX6_takeOver_4 : decode cX6_takeOver 4 = .ok (.iconst 0, 1) := by decide +kernel
theorem dX6_takeOver_5 : decode cX6_takeOver 5 = .ok (.aload_n 0, 1) := by decide +kernel
theorem dX6_takeOver_6 : decode cX6_takeOver 6 = .ok (.getfield 9, 3) := by decide +kernel
theorem dX6_takeOver_9 : decode cX6_takeOver 9 = .ok (.iconst 0, 1) := by decide +kernel
theorem dX6_takeOver_10 : decode cX6_takeOver 10 = .ok (.aload_n 0, 1) := by decide +kernel
theorem dX6_takeOver_11 : decode cX6_takeOver 11 = .ok (.getfield 9, 3) := by decide +kernel
theorem dX6_takeOver_14 : decode cX6_takeOver 14 = .ok (.arraylength, 1) := by decide +kernel
theorem dX6_takeOver_15 : decode cX6_takeOver 15 = .ok (.invokestatic 31, 3) := by decide +kernel
theorem dX6_takeOver_18 : decode cX6_takeOver 18 = .ok (.iconst 0, 1) := by decide +kernel
theorem dX6_takeOver_19 : decode cX6_takeOver 19 = .ok (.istore_n 2, 1) := by decide +kernel
theorem dX6_takeOver_20 : decode cX6_takeOver 20 = .ok (.iload_n 2, 1) := by decide +kernel
theorem dX6_takeOver_21 : decode cX6_takeOver 21 = .ok (.iconst 2, 1) := by decide +kernel
theorem dX6_takeOver_22 : decode cX6_takeOver 22 = .ok (.if_icmp .ge 33, 3) := by decide +kernel
theorem dX6_takeOver_25 : decode cX6_takeOver 25 = .ok (.aload_n 0, 1) := by decide +kernel
theorem dX6_takeOver_26 : decode cX6_takeOver 26 = .ok (.getfield 15, 3) := by decide +kernel
theorem dX6_takeOver_29 : decode cX6_takeOver 29 = .ok (.iload_n 2, 1) := by decide +kernel
theorem dX6_takeOver_30 : decode cX6_takeOver 30 = .ok (.aload_n 1, 1) := by decide +kernel
theorem dX6_takeOver_31 : decode cX6_takeOver 31 = .ok (.getfield 15, 3) := by decide +kernel
theorem dX6_takeOver_34 : decode cX6_takeOver 34 = .ok (.iload_n 2, 1) := by decide +kernel
theorem dX6_takeOver_35 : decode cX6_takeOver 35 = .ok (.iaload, 1) := by decide +kernel
theorem dX6_takeOver_36 : decode cX6_takeOver 36 = .ok (.iastore, 1) := by decide +kernel
theorem dX6_takeOver_37 : decode cX6_takeOver 37 = .ok (.aload_n 0, 1) := by decide +kernel
theorem dX6_takeOver_38 : decode cX6_takeOver 38 = .ok (.getfield 24, 3) := by decide +kernel
theorem dX6_takeOver_41 : decode cX6_takeOver 41 = .ok (.iload_n 2, 1) := by decide +kernel
theorem dX6_takeOver_42 : decode cX6_takeOver 42 = .ok (.aload_n 1, 1) := by decide +kernel
theorem dX6_takeOver_43 : decode cX6_takeOver 43 = .ok (.getfield 24, 3) := by decide +kernel
theorem dX6_takeOver_46 : decode cX6_takeOver 46 = .ok (.iload_n 2, 1) := by decide +kernel
theorem dX6_takeOver_47 : decode cX6_takeOver 47 = .ok (.aaload, 1) := by decide +kernel
theorem dX6_takeOver_48 : decode cX6_takeOver 48 = .ok (.aastore, 1) := by decide +kernel
theorem dX6_takeOver_49 : decode cX6_takeOver 49 = .ok (.iinc 2 1, 3) := by decide +kernel
theorem dX6_takeOver_52 : decode cX6_takeOver 52 = .ok (.goto (-32), 3) := by decide +kernel
theorem dX6_takeOver_55 : decode cX6_takeOver 55 = .ok (.iconst 0, 1) := by decide +kernel
theorem dX6_takeOver_56 : decode cX6_takeOver 56 = .ok (.istore_n 2, 1) := by decide +kernel
theorem dX6_takeOver_57 : decode cX6_takeOver 57 = .ok (.iload_n 2, 1) := by decide +kernel
theorem dX6_takeOver_58 : decode cX6_takeOver 58 = .ok (.bipush 6, 2) := by decide +kernel
theorem dX6_takeOver_60 : decode cX6_takeOver 60 = .ok (.if_icmp .ge 21, 3) := by decide +kernel
theorem dX6_takeOver_63 : decode cX6_takeOver 63 = .ok (.aload_n 0, 1) := by decide +kernel
theorem dX6_takeOver_64 : decode cX6_takeOver 64 = .ok (.getfield 20, 3) := by decide +kernel
theorem dX6_takeOver_67 : decode cX6_takeOver 67 = .ok (.iload_n 2, 1) := by decide +kernel
theorem dX6_takeOver_68 : decode cX6_takeOver 68 = .ok (.aload_n 1, 1) := by decide +kernel
theorem dX6_takeOver_69 : decode cX6_takeOver 69 = .ok (.getfield 20, 3) := by decide +kernel
theorem dX6_takeOver_72 : decode cX6_takeOver 72 = .ok (.iload_n 2, 1) := by decide +kernel
theorem dX6_takeOver_73 : decode cX6_takeOver 73 = .ok (.aaload, 1) := by decide +kernel
theorem dX6_takeOver_74 : decode cX6_takeOver 74 = .ok (.aastore, 1) := by decide +kernel
theorem dX6_takeOver_75 : decode cX6_takeOver 75 = .ok (.iinc 2 1, 3) := by decide +kernel
theorem dX6_takeOver_78 : decode cX6_takeOver 78 = .ok (.goto (-21), 3) := by decide +kernel
theorem dX6_takeOver_81 : decode cX6_takeOver 81 = .ok (.aload_n 0, 1) := by decide +kernel
theorem dX6_takeOver_82 : decode cX6_takeOver 82 = .ok (.aload_n 1, 1) := by decide +kernel
theorem dX6_takeOver_83 : decode cX6_takeOver 83 = .ok (.getfield 27, 3) := by decide +kernel
theorem dX6_takeOver_86 : decode cX6_takeOver 86 = .ok (.putfield 27, 3) := by decide +kernel
theorem dX6_takeOver_89 : decode cX6_takeOver 89 = .ok (.return_, 1) := by decide +kernel
theorem dX7_joint_0 : decode cX7_joint 0 = .ok (.iload_n 0, 1) := by decide +kernel
theorem dX7_joint_1 : decode cX7_joint 1 = .ok (.ireturn, 1) := by decide +kernel
theorem dX7_test_0 : decode cX7_test 0 = .ok (.iload_n 0, 1) := by decide +kernel
theorem dX7_test_1 : decode cX7_test 1 = .ok (.iload_n 1, 1) := by decide +kernel
theorem dX7_test_2 : decode cX7_test 2 = .ok (.bipush 7, 2) := by decide +kernel
theorem dX7_test_4 : decode cX7_test 4 = .ok (.ishl, 1) := by decide +kernel
theorem dX7_test_5 : decode cX7_test 5 = .ok (.ior, 1) := by decide +kernel
theorem dX7_test_6 : decode cX7_test 6 = .ok (.iload_n 2, 1) := by decide +kernel
theorem dX7_test_7 : decode cX7_test 7 = .ok (.ifCond .eq 7, 3) := by decide +kernel
theorem dX7_test_10 : decode cX7_test 10 = .ok (.iconst 1, 1) := by decide +kernel
theorem dX7_test_11 : decode cX7_test 11 = .ok (.goto 4, 3) := by decide +kernel
theorem dX7_test_14 : decode cX7_test 14 = .ok (.iconst 0, 1) := by decide +kernel
theorem dX7_test_15 : decode cX7_test 15 = .ok (.bipush 9, 2) := by decide +kernel
theorem dX7_test_17 : decode cX7_test 17 = .ok (.ishl, 1) := by decide +kernel
theorem dX7_test_18 : decode cX7_test 18 = .ok (.ior, 1) := by decide +kernel
theorem dX7_test_19 : decode cX7_test 19 = .ok (.iload_n 3, 1) := by decide +kernel
theorem dX7_test_20 : decode cX7_test 20 = .ok (.bipush 10, 2) := by decide +kernel
theorem dX7_test_22 : decode cX7_test 22 = .ok (.ishl, 1) := by decide +kernel
theorem dX7_test_23 : decode cX7_test 23 = .ok (.ior, 1) := by decide +kernel
theorem dX7_test_24 : decode cX7_test 24 = .ok (.ireturn, 1) := by decide +kernel
theorem dX7_signOf_0 : decode cX7_signOf 0 = .ok (.iload_n 0, 1) := by decide +kernel
theorem dX7_signOf_1 : decode cX7_signOf 1 = .ok (.bipush 127, 2) := by decide +kernel
theorem dX7_signOf_3 : decode cX7_signOf 3 = .ok (.iand, 1) := by decide +kernel
theorem dX7_signOf_4 : decode cX7_signOf 4 = .ok (.i2c, 1) := by decide +kernel
theorem dX7_signOf_5 : decode cX7_signOf 5 = .ok (.ireturn, 1) := by decide +kernel
theorem dX7_columnOf_0 : decode cX7_columnOf 0 = .ok (.iload_n 0, 1) := by decide +kernel
theorem dX7_columnOf_1 : decode cX7_columnOf 1 = .ok (.bipush 7, 2) := by decide +kernel
theorem dX7_columnOf_3 : decode cX7_columnOf 3 = .ok (.ishr, 1) := by decide +kernel
theorem dX7_columnOf_4 : decode cX7_columnOf 4 = .ok (.iconst 3, 1) := by decide +kernel
theorem dX7_columnOf_5 : decode cX7_columnOf 5 = .ok (.iand, 1) := by decide +kernel
theorem dX7_columnOf_6 : decode cX7_columnOf 6 = .ok (.ireturn, 1) := by decide +kernel
theorem dX7_comparesColumns_0 : decode cX7_comparesColumns 0 = .ok (.iload_n 0, 1) := by decide +kernel
theorem dX7_comparesColumns_1 : decode cX7_comparesColumns 1 = .ok (.bipush 9, 2) := by decide +kernel
theorem dX7_comparesColumns_3 : decode cX7_comparesColumns 3 = .ok (.ishr, 1) := by decide +kernel
theorem dX7_comparesColumns_4 : decode cX7_comparesColumns 4 = .ok (.iconst 1, 1) := by decide +kernel
theorem dX7_comparesColumns_5 : decode cX7_comparesColumns 5 = .ok (.iand, 1) := by decide +kernel
theorem dX7_comparesColumns_6 : decode cX7_comparesColumns 6 = .ok (.iconst 1, 1) := by decide +kernel
theorem dX7_comparesColumns_7 : decode cX7_comparesColumns 7 = .ok (.if_icmp .ne 7, 3) := by decide +kernel
theorem dX7_comparesColumns_10 : decode cX7_comparesColumns 10 = .ok (.iconst 1, 1) := by decide +kernel
theorem dX7_comparesColumns_11 : decode cX7_comparesColumns 11 = .ok (.goto 4, 3) := by decide +kernel
theorem dX7_comparesColumns_14 : decode cX7_comparesColumns 14 = .ok (.iconst 0, 1) := by decide +kernel
theorem dX7_comparesColumns_15 : decode cX7_comparesColumns 15 = .ok (.ireturn, 1) := by decide +kernel
theorem dX7_otherColumnOf_0 : decode cX7_otherColumnOf 0 = .ok (.iload_n 0, 1) := by decide +kernel
theorem dX7_otherColumnOf_1 : decode cX7_otherColumnOf 1 = .ok (.bipush 10, 2) := by decide +kernel
theorem dX7_otherColumnOf_3 : decode cX7_otherColumnOf 3 = .ok (.ishr, 1) := by decide +kernel
theorem dX7_otherColumnOf_4 : decode cX7_otherColumnOf 4 = .ok (.iconst 3, 1) := by decide +kernel
theorem dX7_otherColumnOf_5 : decode cX7_otherColumnOf 5 = .ok (.iand, 1) := by decide +kernel
theorem dX7_otherColumnOf_6 : decode cX7_otherColumnOf 6 = .ok (.ireturn, 1) := by decide +kernel
theorem dX7_valueOf_0 : decode cX7_valueOf 0 = .ok (.iload_n 0, 1) := by decide +kernel
theorem dX7_valueOf_1 : decode cX7_valueOf 1 = .ok (.bipush 10, 2) := by decide +kernel
theorem dX7_valueOf_3 : decode cX7_valueOf 3 = .ok (.ishr, 1) := by decide +kernel
theorem dX7_valueOf_4 : decode cX7_valueOf 4 = .ok (.ireturn, 1) := by decide +kernel
theorem dX7_isTest_0 : decode cX7_isTest 0 = .ok (.iload_n 0, 1) := by decide +kernel
theorem dX7_isTest_1 : decode cX7_isTest 1 = .ok (.invokestatic 9, 3) := by decide +kernel
theorem dX7_isTest_4 : decode cX7_isTest 4 = .ok (.istore_n 1, 1) := by decide +kernel
theorem dX7_isTest_5 : decode cX7_isTest 5 = .ok (.iload_n 1, 1) := by decide +kernel
theorem dX7_isTest_6 : decode cX7_isTest 6 = .ok (.bipush 33, 2) := by decide +kernel
theorem dX7_isTest_8 : decode cX7_isTest 8 = .ok (.if_icmp .eq 19, 3) := by decide +kernel
theorem dX7_isTest_11 : decode cX7_isTest 11 = .ok (.iload_n 1, 1) := by decide +kernel
theorem dX7_isTest_12 : decode cX7_isTest 12 = .ok (.bipush 38, 2) := by decide +kernel
theorem dX7_isTest_14 : decode cX7_isTest 14 = .ok (.if_icmp .eq 13, 3) := by decide +kernel
theorem dX7_isTest_17 : decode cX7_isTest 17 = .ok (.iload_n 1, 1) := by decide +kernel
theorem dX7_isTest_18 : decode cX7_isTest 18 = .ok (.bipush 124, 2) := by decide +kernel
theorem dX7_isTest_20 : decode cX7_isTest 20 = .ok (.if_icmp .eq 7, 3) := by decide +kernel
theorem dX7_isTest_23 : decode cX7_isTest 23 = .ok (.iconst 1, 1) := by decide +kernel
theorem dX7_isTest_24 : decode cX7_isTest 24 = .ok (.goto 4, 3) := by decide +kernel
theorem dX7_isTest_27 : decode cX7_isTest 27 = .ok (.iconst 0, 1) := by decide +kernel
theorem dX7_isTest_28 : decode cX7_isTest 28 = .ok (.ireturn, 1) := by decide +kernel
theorem dX7_comparesWithValue_0 : decode cX7_comparesWithValue 0 = .ok (.iload_n 0, 1) := by decide +kernel
theorem dX7_comparesWithValue_1 : decode cX7_comparesWithValue 1 = .ok (.invokestatic 15, 3) := by decide +kernel
theorem dX7_comparesWithValue_4 : decode cX7_comparesWithValue 4 = .ok (.ifCond .eq 23, 3) := by decide +kernel
theorem dX7_comparesWithValue_7 : decode cX7_comparesWithValue 7 = .ok (.iload_n 0, 1) := by decide +kernel
theorem dX7_comparesWithValue_8 : decode cX7_comparesWithValue 8 = .ok (.invokestatic 9, 3) := by decide +kernel
theorem dX7_comparesWithValue_11 : decode cX7_comparesWithValue 11 = .ok (.bipush 63, 2) := by decide +kernel
theorem dX7_comparesWithValue_13 : decode cX7_comparesWithValue 13 = .ok (.if_icmp .eq 14, 3) := by decide +kernel
theorem dX7_comparesWithValue_16 : decode cX7_comparesWithValue 16 = .ok (.iload_n 0, 1) := by decide +kernel
theorem dX7_comparesWithValue_17 : decode cX7_comparesWithValue 17 = .ok (.invokestatic 19, 3) := by decide +kernel
theorem dX7_comparesWithValue_20 : decode cX7_comparesWithValue 20 = .ok (.ifCond .ne 7, 3) := by decide +kernel
theorem dX7_comparesWithValue_23 : decode cX7_comparesWithValue 23 = .ok (.iconst 1, 1) := by decide +kernel
theorem dX7_comparesWithValue_24 : decode cX7_comparesWithValue 24 = .ok (.goto 4, 3) := by decide +kernel
theorem dX7_comparesWithValue_27 : decode cX7_comparesWithValue 27 = .ok (.iconst 0, 1) := by decide +kernel
theorem dX7_comparesWithValue_28 : decode cX7_comparesWithValue 28 = .ok (.ireturn, 1) := by decide +kernel
theorem dX7_truthOf_0 : decode cX7_truthOf 0 = .ok (.iload_n 0, 1) := by decide +kernel
theorem dX7_truthOf_1 : decode cX7_truthOf 1 = .ok (.invokestatic 9, 3) := by decide +kernel
theorem dX7_truthOf_4 : decode cX7_truthOf 4 = .ok (.istore_n 3, 1) := by decide +kernel
theorem dX7_truthOf_5 : decode cX7_truthOf 5 = .ok (.iload_n 0, 1) := by decide +kernel
theorem dX7_truthOf_6 : decode cX7_truthOf 6 = .ok (.invokestatic 22, 3) := by decide +kernel
theorem dX7_truthOf_9 : decode cX7_truthOf 9 = .ok (.istore 4, 2) := by decide +kernel
theorem dX7_truthOf_11 : decode cX7_truthOf 11 = .ok (.iload_n 3, 1) := by decide +kernel
theorem dX7_truthOf_12 : decode cX7_truthOf 12 = .ok (.bipush 63, 2) := by decide +kernel
theorem dX7_truthOf_14 : decode cX7_truthOf 14 = .ok (.if_icmp .ne 18, 3) := by decide +kernel
theorem dX7_truthOf_17 : decode cX7_truthOf 17 = .ok (.iload_n 2, 1) := by decide +kernel
theorem dX7_truthOf_18 : decode cX7_truthOf 18 = .ok (.iload 4, 2) := by decide +kernel
theorem dX7_truthOf_20 : decode cX7_truthOf 20 = .ok (.invokestatic 26, 3) := by decide +kernel
theorem dX7_truthOf_23 : decode cX7_truthOf 23 = .ok (.ifCond .eq 7, 3) := by decide +kernel
theorem dX7_truthOf_26 : decode cX7_truthOf 26 = .ok (.iconst 2, 1) := by decide +kernel
theorem dX7_truthOf_27 : decode cX7_truthOf 27 = .ok (.goto 4, 3) := by decide +kernel
theorem dX7_truthOf_30 : decode cX7_truthOf 30 = .ok (.iconst 0, 1) := by decide +kernel
theorem dX7_truthOf_31 : decode cX7_truthOf 31 = .ok (.ireturn, 1) := by decide +kernel
theorem dX7_truthOf_32 : decode cX7_truthOf 32 = .ok (.aload_n 1, 1) := by decide +kernel
theorem dX7_truthOf_33 : decode cX7_truthOf 33 = .ok (.iload 4, 2) := by decide +kernel
theorem dX7_truthOf_35 : decode cX7_truthOf 35 = .ok (.invokestatic 30, 3) := by decide +kernel
theorem dX7_truthOf_38 : decode cX7_truthOf 38 = .ok (.istore 5, 2) := by decide +kernel
theorem dX7_truthOf_40 : decode cX7_truthOf 40 = .ok (.iload_n 0, 1) := by decide +kernel
theorem dX7_truthOf_41 : decode cX7_truthOf 41 = .ok (.invokestatic 19, 3) := by decide +kernel
theorem dX7_truthOf_44 : decode cX7_truthOf 44 = .ok (.ifCond .eq 14, 3) := by decide +kernel
theorem dX7_truthOf_47 : decode cX7_truthOf 47 = .ok (.aload_n 1, 1) := by decide +kernel
theorem dX7_truthOf_48 : decode cX7_truthOf 48 = .ok (.iload_n 0, 1) := by decide +kernel
theorem dX7_truthOf_49 : decode cX7_truthOf 49 = .ok (.invokestatic 34, 3) := by decide +kernel
theorem dX7_truthOf_52 : decode cX7_truthOf 52 = .ok (.invokestatic 30, 3) := by decide +kernel
theorem dX7_truthOf_55 : decode cX7_truthOf 55 = .ok (.goto 7, 3) := by decide +kernel
theorem dX7_truthOf_58 : decode cX7_truthOf 58 = .ok (.iload_n 0, 1) := by decide +kernel
theorem dX7_truthOf_59 : decode cX7_truthOf 59 = .ok (.invokestatic 37, 3) := by decide +kernel
theorem dX7_truthOf_62 : decode cX7_truthOf 62 = .ok (.istore 6, 2) := by decide +kernel
theorem dX7_truthOf_64 : decode cX7_truthOf 64 = .ok (.iload 5, 2) := by decide +kernel
theorem dX7_truthOf_66 : decode cX7_truthOf 66 = .ok (.iconst (-1), 1) := by decide +kernel
theorem dX7_truthOf_67 : decode cX7_truthOf 67 = .ok (.if_icmp .eq 9, 3) := by decide +kernel
theorem dX7_truthOf_70 : decode cX7_truthOf 70 = .ok (.iload 6, 2) := by decide +kernel
theorem dX7_truthOf_72 : decode cX7_truthOf 72 = .ok (.iconst (-1), 1) := by decide +kernel
theorem dX7_truthOf_73 : decode cX7_truthOf 73 = .ok (.if_icmp .ne 5, 3) := by decide +kernel
theorem dX7_truthOf_76 : decode cX7_truthOf 76 = .ok (.iconst 1, 1) := by decide +kernel
theorem dX7_truthOf_77 : decode cX7_truthOf 77 = .ok (.ireturn, 1) := by decide +kernel
theorem dX7_truthOf_78 : decode cX7_truthOf 78 = .ok (.iload_n 3, 1) := by decide +kernel
theorem dX7_truthOf_79 : decode cX7_truthOf 79 = .ok (.bipush 61, 2) := by decide +kernel
theorem dX7_truthOf_81 : decode cX7_truthOf 81 = .ok (.if_icmp .ne 18, 3) := by decide +kernel
theorem dX7_truthOf_84 : decode cX7_truthOf 84 = .ok (.iload 5, 2) := by decide +kernel
theorem dX7_truthOf_86 : decode cX7_truthOf 86 = .ok (.iload 6, 2) := by decide +kernel
theorem dX7_truthOf_88 : decode cX7_truthOf 88 = .ok (.if_icmp .ne 7, 3) := by decide +kernel
theorem dX7_truthOf_91 : decode cX7_truthOf 91 = .ok (.iconst 1, 1) := by decide +kernel
theorem dX7_truthOf_92 : decode cX7_truthOf 92 = .ok (.goto 40, 3) := by decide +kernel
theorem dX7_truthOf_95 : decode cX7_truthOf 95 = .ok (.iconst 0, 1) := by decide +kernel
theorem dX7_truthOf_96 : decode cX7_truthOf 96 = .ok (.goto 36, 3) := by decide +kernel
theorem dX7_truthOf_99 : decode cX7_truthOf 99 = .ok (.iload_n 3, 1) := by decide +kernel
theorem dX7_truthOf_100 : decode cX7_truthOf 100 = .ok (.bipush 60, 2) := by decide +kernel
theorem dX7_truthOf_102 : decode cX7_truthOf 102 = .ok (.if_icmp .ne 18, 3) := by decide +kernel
theorem dX7_truthOf_105 : decode cX7_truthOf 105 = .ok (.iload 5, 2) := by decide +kernel
theorem dX7_truthOf_107 : decode cX7_truthOf 107 = .ok (.iload 6, 2) := by decide +kernel
theorem dX7_truthOf_109 : decode cX7_truthOf 109 = .ok (.if_icmp .ge 7, 3) := by decide +kernel
theorem dX7_truthOf_112 : decode cX7_truthOf 112 = .ok (.iconst 1, 1) := by decide +kernel
theorem dX7_truthOf_113 : decode cX7_truthOf 113 = .ok (.goto 19, 3) := by decide +kernel
theorem dX7_truthOf_116 : decode cX7_truthOf 116 = .ok (.iconst 0, 1) := by decide +kernel
theorem dX7_truthOf_117 : decode cX7_truthOf 117 = .ok (.goto 15, 3) := by decide +kernel
theorem dX7_truthOf_120 : decode cX7_truthOf 120 = .ok (.iload 5, 2) := by decide +kernel
theorem dX7_truthOf_122 : decode cX7_truthOf 122 = .ok (.iload 6, 2) := by decide +kernel
theorem dX7_truthOf_124 : decode cX7_truthOf 124 = .ok (.if_icmp .le 7, 3) := by decide +kernel
theorem dX7_truthOf_127 : decode cX7_truthOf 127 = .ok (.iconst 1, 1) := by decide +kernel
theorem dX7_truthOf_128 : decode cX7_truthOf 128 = .ok (.goto 4, 3) := by decide +kernel
theorem dX7_truthOf_131 : decode cX7_truthOf 131 = .ok (.iconst 0, 1) := by decide +kernel
theorem dX7_truthOf_132 : decode cX7_truthOf 132 = .ok (.istore 7, 2) := by decide +kernel
theorem dX7_truthOf_134 : decode cX7_truthOf 134 = .ok (.iload 7, 2) := by decide +kernel
theorem dX7_truthOf_136 : decode cX7_truthOf 136 = .ok (.ifCond .eq 7, 3) := by decide +kernel
theorem dX7_truthOf_139 : decode cX7_truthOf 139 = .ok (.iconst 2, 1) := by decide +kernel
theorem dX7_truthOf_140 : decode cX7_truthOf 140 = .ok (.goto 4, 3) := by decide +kernel
theorem dX7_truthOf_143 : decode cX7_truthOf 143 = .ok (.iconst 0, 1) := by decide +kernel
theorem dX7_truthOf_144 : decode cX7_truthOf 144 = .ok (.ireturn, 1) := by decide +kernel
theorem dX7_cellOf_0 : decode cX7_cellOf 0 = .ok (.iload_n 1, 1) := by decide +kernel
theorem dX7_cellOf_1 : decode cX7_cellOf 1 = .ok (.aload_n 0, 1) := by decide +kernel
theorem dX7_cellOf_2 : decode cX7_cellOf 2 = .ok (.arraylength, 1) := by decide +kernel
theorem dX7_cellOf_3 : decode cX7_cellOf 3 = .ok (.if_icmp .ge 9, 3) := by decide +kernel
theorem dX7_cellOf_6 : decode cX7_cellOf 6 = .ok (.aload_n 0, 1) := by decide +kernel
theorem dX7_cellOf_7 : decode cX7_cellOf 7 = .ok (.iload_n 1, 1) := by decide +kernel
theorem dX7_cellOf_8 : decode cX7_cellOf 8 = .ok (.iaload, 1) := by decide +kernel
theorem dX7_cellOf_9 : decode cX7_cellOf 9 = .ok (.goto 4, 3) := by decide +kernel
theorem dX7_cellOf_12 : decode cX7_cellOf 12 = .ok (.iconst (-1), 1) := by decide +kernel
theorem dX7_cellOf_13 : decode cX7_cellOf 13 = .ok (.ireturn, 1) := by decide +kernel
theorem dX8_init_0 : decode cX8_init 0 = .ok (.aload_n 0, 1) := by decide +kernel
theorem dX8_init_1 : decode cX8_init 1 = .ok (.invokespecial 1, 3) := by decide +kernel
theorem dX8_init_4 : decode cX8_init 4 = .ok (.aload_n 0, 1) := by decide +kernel
theorem dX8_init_5 : decode cX8_init 5 = .ok (.new 7, 3) := by decide +kernel
theorem dX8_init_8 : decode cX8_init 8 = .ok (.dup, 1) := by decide +kernel
theorem dX8_init_9 : decode cX8_init 9 = .ok (.invokespecial 9, 3) := by decide +kernel
theorem dX8_init_12 : decode cX8_init 12 = .ok (.putfield 10, 3) := by decide +kernel
theorem dX8_init_15 : decode cX8_init 15 = .ok (.aload_n 0, 1) := by decide +kernel
theorem dX8_init_16 : decode cX8_init 16 = .ok (.bipush 6, 2) := by decide +kernel
theorem dX8_init_18 : decode cX8_init 18 = .ok (.anewarray 7, 3) := by decide +kernel
theorem dX8_init_21 : decode cX8_init 21 = .ok (.putfield 16, 3) := by decide +kernel
theorem dX8_init_24 : decode cX8_init 24 = .ok (.aload_n 0, 1) := by decide +kernel
theorem dX8_init_25 : decode cX8_init 25 = .ok (.iconst 0, 1) := by decide +kernel
theorem dX8_init_26 : decode cX8_init 26 = .ok (.putfield 20, 3) := by decide +kernel
theorem dX8_init_29 : decode cX8_init 29 = .ok (.aload_n 0, 1) := by decide +kernel
theorem dX8_init_30 : decode cX8_init 30 = .ok (.iconst 2, 1) := by decide +kernel
theorem dX8_init_31 : decode cX8_init 31 = .ok (.anewarray 7, 3) := by decide +kernel
theorem dX8_init_34 : decode cX8_init 34 = .ok (.putfield 24, 3) := by decide +kernel
theorem dX8_init_37 : decode cX8_init 37 = .ok (.aload_n 0, 1) := by decide +kernel
theorem dX8_init_38 : decode cX8_init 38 = .ok (.iconst 2, 1) := by decide +kernel
theorem dX8_init_39 : decode cX8_init 39 = .ok (.newarray .boolean, 2) := by decide +kernel
theorem dX8_init_41 : decode cX8_init 41 = .ok (.putfield 27, 3) := by decide +kernel
theorem dX8_init_44 : decode cX8_init 44 = .ok (.aload_n 0, 1) := by decide +kernel
theorem dX8_init_45 : decode cX8_init 45 = .ok (.bipush 60, 2) := by decide +kernel
theorem dX8_init_47 : decode cX8_init 47 = .ok (.newarray .char, 2) := by decide +kernel
theorem dX8_init_49 : decode cX8_init 49 = .ok (.putfield 31, 3) := by decide +kernel
theorem dX8_init_52 : decode cX8_init 52 = .ok (.aload_n 0, 1) := by decide +kernel
theorem dX8_init_53 : decode cX8_init 53 = .ok (.iconst 0, 1) := by decide +kernel
theorem dX8_init_54 : decode cX8_init 54 = .ok (.putfield 35, 3) := by decide +kernel
theorem dX8_init_57 : decode cX8_init 57 = .ok (.aload_n 0, 1) := by decide +kernel
theorem dX8_init_58 : decode cX8_init 58 = .ok (.iconst 4, 1) := by decide +kernel
theorem dX8_init_59 : decode cX8_init 59 = .ok (.newarray .int, 2) := by decide +kernel
theorem dX8_init_61 : decode cX8_init 61 = .ok (.putfield 38, 3) := by decide +kernel
theorem dX8_init_64 : decode cX8_init 64 = .ok (.aload_n 0, 1) := by decide +kernel
theorem dX8_init_65 : decode cX8_init 65 = .ok (.new 42, 3) := by decide +kernel
theorem dX8_init_68 : decode cX8_init 68 = .ok (.dup, 1) := by decide +kernel
theorem dX8_init_69 : decode cX8_init 69 = .ok (.invokespecial 44, 3) := by decide +kernel
theorem dX8_init_72 : decode cX8_init 72 = .ok (.putfield 45, 3) := by decide +kernel
theorem dX8_init_75 : decode cX8_init 75 = .ok (.aload_n 0, 1) := by decide +kernel
theorem dX8_init_76 : decode cX8_init 76 = .ok (.new 49, 3) := by decide +kernel
theorem dX8_init_79 : decode cX8_init 79 = .ok (.dup, 1) := by decide +kernel
theorem dX8_init_80 : decode cX8_init 80 = .ok (.invokespecial 51, 3) := by decide +kernel
theorem dX8_init_83 : decode cX8_init 83 = .ok (.putfield 52, 3) := by decide +kernel
theorem dX8_init_86 : decode cX8_init 86 = .ok (.aload_n 0, 1) := by decide +kernel
theorem dX8_init_87 : decode cX8_init 87 = .ok (.new 56, 3) := by decide +kernel
theorem dX8_init_90 : decode cX8_init 90 = .ok (.dup, 1) := by decide +kernel
theorem dX8_init_91 : decode cX8_init 91 = .ok (.invokespecial 58, 3) := by decide +kernel
theorem dX8_init_94 : decode cX8_init 94 = .ok (.putfield 59, 3) := by decide +kernel
theorem dX8_init_97 : decode cX8_init 97 = .ok (.aload_n 0, 1) := by decide +kernel
theorem dX8_init_98 : decode cX8_init 98 = .ok (.new 63, 3) := by decide +kernel
theorem dX8_init_101 : decode cX8_init 101 = .ok (.dup, 1) := by decide +kernel
theorem dX8_init_102 : decode cX8_init 102 = .ok (.invokespecial 65, 3) := by decide +kernel
theorem dX8_init_105 : decode cX8_init 105 = .ok (.putfield 66, 3) := by decide +kernel
theorem dX8_init_108 : decode cX8_init 108 = .ok (.iconst 0, 1) := by decide +kernel
theorem dX8_init_109 : decode cX8_init 109 = .ok (.istore_n 1, 1) := by decide +kernel
theorem dX8_init_110 : decode cX8_init 110 = .ok (.iload_n 1, 1) := by decide +kernel
theorem dX8_init_111 : decode cX8_init 111 = .ok (.bipush 6, 2) := by decide +kernel
theorem dX8_init_113 : decode cX8_init 113 = .ok (.if_icmp .ge 22, 3) := by decide +kernel
theorem dX8_init_116 : decode cX8_init 116 = .ok (.aload_n 0, 1) := by decide +kernel
theorem dX8_init_117 : decode cX8_init 117 = .ok (.getfield 16, 3) := by decide +kernel
theorem dX8_init_120 : decode cX8_init 120 = .ok (.iload_n 1, 1) := by decide +kernel
theorem dX8_init_121 : decode cX8_init 121 = .ok (.new 7, 3) := by decide +kernel
theorem dX8_init_124 : decode cX8_init 124 = .ok (.dup, 1) := by decide +kernel
theorem dX8_init_125 : decode cX8_init 125 = .ok (.invokespecial 9, 3) := by decide +kernel
theorem dX8_init_128 : decode cX8_init 128 = .ok (.aastore, 1) := by decide +kernel
theorem dX8_init_129 : decode cX8_init 129 = .ok (.iinc 1 1, 3) := by decide +kernel
theorem dX8_init_132 : decode cX8_init 132 = .ok (.goto (-22), 3) := by decide +kernel
theorem dX8_init_135 : decode cX8_init 135 = .ok (.iconst 0, 1) := by decide +kernel
theorem dX8_init_136 : decode cX8_init 136 = .ok (.istore_n 1, 1) := by decide +kernel
theorem dX8_init_137 : decode cX8_init 137 = .ok (.iload_n 1, 1) := by decide +kernel
theorem dX8_init_138 : decode cX8_init 138 = .ok (.iconst 2, 1) := by decide +kernel
theorem dX8_init_139 : decode cX8_init 139 = .ok (.if_icmp .ge 22, 3) := by decide +kernel
theorem dX8_init_142 : decode cX8_init 142 = .ok (.aload_n 0, 1) := by decide +kernel
theorem dX8_init_143 : decode cX8_init 143 = .ok (.getfield 24, 3) := by decide +kernel
theorem dX8_init_146 : decode cX8_init 146 = .ok (.iload_n 1, 1) := by decide +kernel
theorem dX8_init_147 : decode cX8_init 147 = .ok (.new 7, 3) := by decide +kernel
theorem dX8_init_150 : decode cX8_init 150 = .ok (.dup, 1) := by decide +kernel
theorem dX8_init_151 : decode cX8_init 151 = .ok (.invokespecial 9, 3) := by decide +kernel
theorem dX8_init_154 : decode cX8_init 154 = .ok (.aastore, 1) := by decide +kernel
theorem dX8_init_155 : decode cX8_init 155 = .ok (.iinc 1 1, 3) := by decide +kernel
theorem dX8_init_158 : decode cX8_init 158 = .ok (.goto (-21), 3) := by decide +kernel
theorem dX8_init_161 : decode cX8_init 161 = .ok (.return_, 1) := by decide +kernel
theorem dX8_add_0 : decode cX8_add 0 = .ok (.iload_n 1, 1) := by decide +kernel
theorem dX8_add_1 : decode cX8_add 1 = .ok (.invokestatic 70, 3) := by decide +kernel
theorem dX8_add_4 : decode cX8_add 4 = .ok (.iload_n 2, 1) := by decide +kernel
theorem dX8_add_5 : decode cX8_add 5 = .ok (.invokestatic 74, 3) := by decide +kernel
theorem dX8_add_8 : decode cX8_add 8 = .ok (.iload_n 3, 1) := by decide +kernel
theorem dX8_add_9 : decode cX8_add 9 = .ok (.invokestatic 74, 3) := by decide +kernel
theorem dX8_add_12 : decode cX8_add 12 = .ok (.iload 4, 2) := by decide +kernel
theorem dX8_add_14 : decode cX8_add 14 = .ok (.invokestatic 74, 3) := by decide +kernel
theorem dX8_add_17 : decode cX8_add 17 = .ok (.iload 5, 2) := by decide +kernel
theorem dX8_add_19 : decode cX8_add 19 = .ok (.invokestatic 74, 3) := by decide +kernel
theorem dX8_add_22 : decode cX8_add 22 = .ok (.aload_n 0, 1) := by decide +kernel
theorem dX8_add_23 : decode cX8_add 23 = .ok (.getfield 10, 3) := by decide +kernel
theorem dX8_add_26 : decode cX8_add 26 = .ok (.getfield 77, 3) := by decide +kernel
theorem dX8_add_29 : decode cX8_add 29 = .ok (.iload_n 1, 1) := by decide +kernel
theorem dX8_add_30 : decode cX8_add 30 = .ok (.iaload, 1) := by decide +kernel
theorem dX8_add_31 : decode cX8_add 31 = .ok (.istore 6, 2) := by decide +kernel
theorem dX8_add_33 : decode cX8_add 33 = .ok (.iload 6, 2) := by decide +kernel
theorem dX8_add_35 : decode cX8_add 35 = .ok (.bipush 16, 2) := by decide +kernel
theorem dX8_add_37 : decode cX8_add 37 = .ok (.if_icmp .lt 13, 3) := by decide +kernel
theorem dX8_add_40 : decode cX8_add 40 = .ok (.new 80, 3) := by decide +kernel
theorem dX8_add_43 : decode cX8_add 43 = .ok (.dup, 1) := by decide +kernel
theorem dX8_add_44 : decode cX8_add 44 = .ok (.ldc 82, 2) := by decide +kernel
theorem dX8_add_46 : decode cX8_add 46 = .ok (.invokespecial 84, 3) := by decide +kernel
theorem dX8_add_49 : decode cX8_add 49 = .ok (.athrow, 1) := by decide +kernel
theorem dX8_add_50 : decode cX8_add 50 = .ok (.aload_n 0, 1) := by decide +kernel
theorem dX8_add_51 : decode cX8_add 51 = .ok (.invokevirtual 87, 3) := by decide +kernel
theorem dX8_add_54 : decode cX8_add 54 = .ok (.aload_n 0, 1) := by decide +kernel
theorem dX8_add_55 : decode cX8_add 55 = .ok (.getfield 38, 3) := by decide +kernel
theorem dX8_add_58 : decode cX8_add 58 = .ok (.iconst 0, 1) := by decide +kernel
theorem dX8_add_59 : decode cX8_add 59 = .ok (.iload_n 2, 1) := by decide +kernel
theorem dX8_add_60 : decode cX8_add 60 = .ok (.iastore, 1) := by decide +kernel
theorem dX8_add_61 : decode cX8_add 61 = .ok (.aload_n 0, 1) := by decide +kernel
theorem dX8_add_62 : decode cX8_add 62 = .ok (.getfield 38, 3) := by decide +kernel
theorem dX8_add_65 : decode cX8_add 65 = .ok (.iconst 1, 1) := by decide +kernel
theorem dX8_add_66 : decode cX8_add 66 = .ok (.iload_n 3, 1) := by decide +kernel
theorem dX8_add_67 : decode cX8_add 67 = .ok (.iastore, 1) := by decide +kernel
theorem dX8_add_68 : decode cX8_add 68 = .ok (.aload_n 0, 1) := by decide +kernel
theorem dX8_add_69 : decode cX8_add 69 = .ok (.getfield 38, 3) := by decide +kernel
theorem dX8_add_72 : decode cX8_add 72 = .ok (.iconst 2, 1) := by decide +kernel
theorem dX8_add_73 : decode cX8_add 73 = .ok (.iload 4, 2) := by decide +kernel
theorem dX8_add_75 : decode cX8_add 75 = .ok (.iastore, 1) := by decide +kernel
theorem dX8_add_76 : decode cX8_add 76 = .ok (.aload_n 0, 1) := by decide +kernel
theorem dX8_add_77 : decode cX8_add 77 = .ok (.getfield 38, 3) := by decide +kernel
theorem dX8_add_80 : decode cX8_add 80 = .ok (.iconst 3, 1) := by decide +kernel
theorem dX8_add_81 : decode cX8_add 81 = .ok (.iload 5, 2) := by decide +kernel
theorem dX8_add_83 : decode cX8_add 83 = .ok (.iastore, 1) := by decide +kernel
theorem dX8_add_84 : decode cX8_add 84 = .ok (.aload_n 0, 1) := by decide +kernel
theorem dX8_add_85 : decode cX8_add 85 = .ok (.aload_n 0, 1) := by decide +kernel
theorem dX8_add_86 : decode cX8_add 86 = .ok (.getfield 10, 3) := by decide +kernel
theorem dX8_add_89 : decode cX8_add 89 = .ok (.getfield 90, 3) := by decide +kernel
theorem dX8_add_92 : decode cX8_add 92 = .ok (.iload_n 1, 1) := by decide +kernel
theorem dX8_add_93 : decode cX8_add 93 = .ok (.aaload, 1) := by decide +kernel
theorem dX8_add_94 : decode cX8_add 94 = .ok (.invokevirtual 94, 3) := by decide +kernel
theorem dX8_add_97 : decode cX8_add 97 = .ok (.ifCond .eq 8, 3) := by decide +kernel
theorem dX8_add_100 : decode cX8_add 100 = .ok (.aload_n 0, 1) := by decide +kernel
theorem dX8_add_101 : decode cX8_add 101 = .ok (.invokevirtual 98, 3) := by decide +kernel
theorem dX8_add_104 : decode cX8_add 104 = .ok (.ireturn, 1) := by decide +kernel
theorem dX8_add_105 : decode cX8_add 105 = .ok (.iconst 0, 1) := by decide +kernel
theorem dX8_add_106 : decode cX8_add 106 = .ok (.istore 7, 2) := by decide +kernel
theorem dX8_add_108 : decode cX8_add 108 = .ok (.iload 7, 2) := by decide +kernel
theorem dX8_add_110 : decode cX8_add 110 = .ok (.iconst 4, 1) := by decide +kernel
theorem dX8_add_111 : decode cX8_add 111 = .ok (.if_icmp .ge 32, 3) := by decide +kernel
theorem dX8_add_114 : decode cX8_add 114 = .ok (.aload_n 0, 1) := by decide +kernel
theorem dX8_add_115 : decode cX8_add 115 = .ok (.getfield 10, 3) := by decide +kernel
theorem dX8_add_118 : decode cX8_add 118 = .ok (.getfield 102, 3) := by decide +kernel
theorem dX8_add_121 : decode cX8_add 121 = .ok (.iload_n 1, 1) := by decide +kernel
theorem dX8_add_122 : decode cX8_add 122 = .ok (.iload 6, 2) := by decide +kernel
theorem dX8_add_124 : decode cX8_add 124 = .ok (.iload 7, 2) := by decide +kernel
theorem dX8_add_126 : decode cX8_add 126 = .ok (.invokestatic 105, 3) := by decide +kernel
theorem dX8_add_129 : decode cX8_add 129 = .ok (.aload_n 0, 1) := by decide +kernel
theorem dX8_add_130 : decode cX8_add 130 = .ok (.getfield 38, 3) := by decide +kernel
theorem dX8_add_133 : decode cX8_add 133 = .ok (.iload 7, 2) := by decide +kernel
theorem dX8_add_135 : decode cX8_add 135 = .ok (.iaload, 1) := by decide +kernel
theorem dX8_add_136 : decode cX8_add 136 = .ok (.iastore, 1) := by decide +kernel
theorem dX8_add_137 : decode cX8_add 137 = .ok (.iinc 7 1, 3) := by decide +kernel
theorem dX8_add_140 : decode cX8_add 140 = .ok (.goto (-32), 3) := by decide +kernel
theorem dX8_add_143 : decode cX8_add 143 = .ok (.aload_n 0, 1) := by decide +kernel
theorem dX8_add_144 : decode cX8_add 144 = .ok (.getfield 10, 3) := by decide +kernel
theorem dX8_add_147 : decode cX8_add 147 = .ok (.getfield 77, 3) := by decide +kernel
theorem dX8_add_150 : decode cX8_add 150 = .ok (.iload_n 1, 1) := by decide +kernel
theorem dX8_add_151 : decode cX8_add 151 = .ok (.iload 6, 2) := by decide +kernel
theorem dX8_add_153 : decode cX8_add 153 = .ok (.iconst 1, 1) := by decide +kernel
theorem dX8_add_154 : decode cX8_add 154 = .ok (.iadd, 1) := by decide +kernel
theorem dX8_add_155 : decode cX8_add 155 = .ok (.iastore, 1) := by decide +kernel
theorem dX8_add_156 : decode cX8_add 156 = .ok (.iload 6, 2) := by decide +kernel
theorem dX8_add_158 : decode cX8_add 158 = .ok (.ireturn, 1) := by decide +kernel
theorem dX8_change_0 : decode cX8_change 0 = .ok (.aload_n 0, 1) := by decide +kernel
theorem dX8_change_1 : decode cX8_change 1 = .ok (.iload_n 1, 1) := by decide +kernel
theorem dX8_change_2 : decode cX8_change 2 = .ok (.iload_n 2, 1) := by decide +kernel
theorem dX8_change_3 : decode cX8_change 3 = .ok (.invokevirtual 109, 3) := by decide +kernel
theorem dX8_change_6 : decode cX8_change 6 = .ok (.iload_n 3, 1) := by decide +kernel
theorem dX8_change_7 : decode cX8_change 7 = .ok (.invokestatic 113, 3) := by decide +kernel
theorem dX8_change_10 : decode cX8_change 10 = .ok (.iload 4, 2) := by decide +kernel
theorem dX8_change_12 : decode cX8_change 12 = .ok (.invokestatic 74, 3) := by decide +kernel
theorem dX8_change_15 : decode cX8_change 15 = .ok (.aload_n 0, 1) := by decide +kernel
theorem dX8_change_16 : decode cX8_change 16 = .ok (.invokevirtual 87, 3) := by decide +kernel
theorem dX8_change_19 : decode cX8_change 19 = .ok (.aload_n 0, 1) := by decide +kernel
theorem dX8_change_20 : decode cX8_change 20 = .ok (.iload_n 1, 1) := by decide +kernel
theorem dX8_change_21 : decode cX8_change 21 = .ok (.iload_n 2, 1) := by decide +kernel
theorem dX8_change_22 : decode cX8_change 22 = .ok (.iload_n 3, 1) := by decide +kernel
theorem dX8_change_23 : decode cX8_change 23 = .ok (.iload 4, 2) := by decide +kernel
theorem dX8_change_25 : decode cX8_change 25 = .ok (.invokevirtual 116, 3) := by decide +kernel
theorem dX8_change_28 : decode cX8_change 28 = .ok (.ifCond .eq 8, 3) := by decide +kernel
theorem dX8_change_31 : decode cX8_change 31 = .ok (.aload_n 0, 1) := by decide +kernel
theorem dX8_change_32 : decode cX8_change 32 = .ok (.invokevirtual 98, 3) := by decide +kernel
theorem dX8_change_35 : decode cX8_change 35 = .ok (.ireturn, 1) := by decide +kernel
theorem dX8_change_36 : decode cX8_change 36 = .ok (.iload_n 1, 1) := by decide +kernel
theorem dX8_change_37 : decode cX8_change 37 = .ok (.iload_n 2, 1) := by decide +kernel
theorem dX8_change_38 : decode cX8_change 38 = .ok (.iload_n 3, 1) := by decide +kernel
theorem dX8_change_39 : decode cX8_change 39 = .ok (.invokestatic 105, 3) := by decide +kernel
theorem dX8_change_42 : decode cX8_change 42 = .ok (.istore 5, 2) := by decide +kernel
theorem dX8_change_44 : decode cX8_change 44 = .ok (.aload_n 0, 1) := by decide +kernel
theorem dX8_change_45 : decode cX8_change 45 = .ok (.getfield 10, 3) := by decide +kernel
theorem dX8_change_48 : decode cX8_change 48 = .ok (.getfield 102, 3) := by decide +kernel
theorem dX8_change_51 : decode cX8_change 51 = .ok (.iload 5, 2) := by decide +kernel
theorem dX8_change_53 : decode cX8_change 53 = .ok (.iaload, 1) := by decide +kernel
theorem dX8_change_54 : decode cX8_change 54 = .ok (.istore 6, 2) := by decide +kernel
theorem dX8_change_56 : decode cX8_change 56 = .ok (.aload_n 0, 1) := by decide +kernel
theorem dX8_change_57 : decode cX8_change 57 = .ok (.getfield 10, 3) := by decide +kernel
theorem dX8_change_60 : decode cX8_change 60 = .ok (.getfield 102, 3) := by decide +kernel
theorem dX8_change_63 : decode cX8_change 63 = .ok (.iload 5, 2) := by decide +kernel
theorem dX8_change_65 : decode cX8_change 65 = .ok (.iload 4, 2) := by decide +kernel
theorem dX8_change_67 : decode cX8_change 67 = .ok (.iastore, 1) := by decide +kernel
theorem dX8_change_68 : decode cX8_change 68 = .ok (.iload 6, 2) := by decide +kernel
theorem dX8_change_70 : decode cX8_change 70 = .ok (.ireturn, 1) := by decide +kernel
theorem dX8_drop_0 : decode cX8_drop 0 = .ok (.aload_n 0, 1) := by decide +kernel
theorem dX8_drop_1 : decode cX8_drop 1 = .ok (.iload_n 1, 1) := by decide +kernel
theorem dX8_drop_2 : decode cX8_drop 2 = .ok (.iload_n 2, 1) := by decide +kernel
theorem dX8_drop_3 : decode cX8_drop 3 = .ok (.invokevirtual 109, 3) := by decide +kernel
theorem dX8_drop_6 : decode cX8_drop 6 = .ok (.aload_n 0, 1) := by decide +kernel
theorem dX8_drop_7 : decode cX8_drop 7 = .ok (.invokevirtual 87, 3) := by decide +kernel
theorem dX8_drop_10 : decode cX8_drop 10 = .ok (.aload_n 0, 1) := by decide +kernel
theorem dX8_drop_11 : decode cX8_drop 11 = .ok (.iload_n 1, 1) := by decide +kernel
theorem dX8_drop_12 : decode cX8_drop 12 = .ok (.iconst 1, 1) := by decide +kernel
theorem dX8_drop_13 : decode cX8_drop 13 = .ok (.iload_n 2, 1) := by decide +kernel
theorem dX8_drop_14 : decode cX8_drop 14 = .ok (.ishl, 1) := by decide +kernel
theorem dX8_drop_15 : decode cX8_drop 15 = .ok (.invokevirtual 120, 3) := by decide +kernel
theorem dX8_drop_18 : decode cX8_drop 18 = .ok (.aload_n 0, 1) := by decide +kernel
theorem dX8_drop_19 : decode cX8_drop 19 = .ok (.getfield 10, 3) := by decide +kernel
theorem dX8_drop_22 : decode cX8_drop 22 = .ok (.getfield 77, 3) := by decide +kernel
theorem dX8_drop_25 : decode cX8_drop 25 = .ok (.iload_n 1, 1) := by decide +kernel
theorem dX8_drop_26 : decode cX8_drop 26 = .ok (.iaload, 1) := by decide +kernel
theorem dX8_drop_27 : decode cX8_drop 27 = .ok (.ireturn, 1) := by decide +kernel
theorem dX8_define_0 : decode cX8_define 0 = .ok (.iload_n 1, 1) := by decide +kernel
theorem dX8_define_1 : decode cX8_define 1 = .ok (.invokestatic 123, 3) := by decide +kernel
theorem dX8_define_4 : decode cX8_define 4 = .ok (.aload_n 0, 1) := by decide +kernel
theorem dX8_define_5 : decode cX8_define 5 = .ok (.getfield 59, 3) := by decide +kernel
theorem dX8_define_8 : decode cX8_define 8 = .ok (.aload_n 0, 1) := by decide +kernel
theorem dX8_define_9 : decode cX8_define 9 = .ok (.getfield 31, 3) := by decide +kernel
theorem dX8_define_12 : decode cX8_define 12 = .ok (.aload_n 0, 1) := by decide +kernel
theorem dX8_define_13 : decode cX8_define 13 = .ok (.getfield 35, 3) := by decide +kernel
theorem dX8_define_16 : decode cX8_define 16 = .ok (.invokevirtual 126, 3) := by decide +kernel
theorem dX8_define_19 : decode cX8_define 19 = .ok (.aload_n 0, 1) := by decide +kernel
theorem dX8_define_20 : decode cX8_define 20 = .ok (.getfield 35, 3) := by decide +kernel
theorem dX8_define_23 : decode cX8_define 23 = .ok (.if_icmp .lt 13, 3) := by decide +kernel
theorem dX8_define_26 : decode cX8_define 26 = .ok (.aload_n 0, 1) := by decide +kernel
theorem dX8_define_27 : decode cX8_define 27 = .ok (.getfield 59, 3) := by decide +kernel
theorem dX8_define_30 : decode cX8_define 30 = .ok (.invokevirtual 130, 3) := by decide +kernel
theorem dX8_define_33 : decode cX8_define 33 = .ok (.ifCond .ne 13, 3) := by decide +kernel
theorem dX8_define_36 : decode cX8_define 36 = .ok (.new 134, 3) := by decide +kernel
theorem dX8_define_39 : decode cX8_define 39 = .ok (.dup, 1) := by decide +kernel
theorem dX8_define_40 : decode cX8_define 40 = .ok (.ldc 136, 2) := by decide +kernel
theorem dX8_define_42 : decode cX8_define 42 = .ok (.invokespecial 138, 3) := by decide +kernel
theorem dX8_define_45 : decode cX8_define 45 = .ok (.athrow, 1) := by decide +kernel
theorem dX8_define_46 : decode cX8_define 46 = .ok (.aload_n 0, 1) := by decide +kernel
theorem dX8_define_47 : decode cX8_define 47 = .ok (.invokevirtual 87, 3) := by decide +kernel
theorem dX8_define_50 : decode cX8_define 50 = .ok (.new 139, 3) := by decide +kernel
theorem dX8_define_53 : decode cX8_define 53 = .ok (.dup, 1) := by decide +kernel
theorem dX8_define_54 : decode cX8_define 54 = .ok (.aload_n 0, 1) := by decide +kernel
theorem dX8_define_55 : decode cX8_define 55 = .ok (.getfield 59, 3) := by decide +kernel
theorem dX8_define_58 : decode cX8_define 58 = .ok (.invokevirtual 141, 3) := by decide +kernel
theorem dX8_define_61 : decode cX8_define 61 = .ok (.invokespecial 145, 3) := by decide +kernel
theorem dX8_define_64 : decode cX8_define 64 = .ok (.astore_n 2, 1) := by decide +kernel
theorem dX8_define_65 : decode cX8_define 65 = .ok (.aload_n 0, 1) := by decide +kernel
theorem dX8_define_66 : decode cX8_define 66 = .ok (.getfield 10, 3) := by decide +kernel
theorem dX8_define_69 : decode cX8_define 69 = .ok (.getfield 148, 3) := by decide +kernel
theorem dX8_define_72 : decode cX8_define 72 = .ok (.iload_n 1, 1) := by decide +kernel
theorem dX8_define_73 : decode cX8_define 73 = .ok (.aload_n 2, 1) := by decide +kernel
theorem dX8_define_74 : decode cX8_define 74 = .ok (.aastore, 1) := by decide +kernel
theorem dX8_define_75 : decode cX8_define 75 = .ok (.aload_n 0, 1) := by decide +kernel
theorem dX8_define_76 : decode cX8_define 76 = .ok (.iconst 0, 1) := by decide +kernel
theorem dX8_define_77 : decode cX8_define 77 = .ok (.putfield 35, 3) := by decide +kernel
theorem dX8_define_80 : decode cX8_define 80 = .ok (.aload_n 2, 1) := by decide +kernel
theorem dX8_define_81 : decode cX8_define 81 = .ok (.invokevirtual 151, 3) := by decide +kernel
theorem dX8_define_84 : decode cX8_define 84 = .ok (.ireturn, 1) := by decide +kernel
theorem dX8_combine_0 : decode cX8_combine 0 = .ok (.iload_n 1, 1) := by decide +kernel
theorem dX8_combine_1 : decode cX8_combine 1 = .ok (.invokestatic 123, 3) := by decide +kernel
theorem dX8_combine_4 : decode cX8_combine 4 = .ok (.iload_n 2, 1) := by decide +kernel
theorem dX8_combine_5 : decode cX8_combine 5 = .ok (.invokestatic 123, 3) := by decide +kernel
theorem dX8_combine_8 : decode cX8_combine 8 = .ok (.iload_n 3, 1) := by decide +kernel
theorem dX8_combine_9 : decode cX8_combine 9 = .ok (.invokestatic 123, 3) := by decide +kernel
theorem dX8_combine_12 : decode cX8_combine 12 = .ok (.iload 4, 2) := by decide +kernel
theorem dX8_combine_14 : decode cX8_combine 14 = .ok (.iconst 2, 1) := by decide +kernel
theorem dX8_combine_15 : decode cX8_combine 15 = .ok (.invokestatic 154, 3) := by decide +kernel
theorem dX8_combine_18 : decode cX8_combine 18 = .ok (.aload_n 0, 1) := by decide +kernel
theorem dX8_combine_19 : decode cX8_combine 19 = .ok (.iload_n 2, 1) := by decide +kernel
theorem dX8_combine_20 : decode cX8_combine 20 = .ok (.invokevirtual 157, 3) := by decide +kernel
theorem dX8_combine_23 : decode cX8_combine 23 = .ok (.astore 5, 2) := by decide +kernel
theorem dX8_combine_25 : decode cX8_combine 25 = .ok (.iload 4, 2) := by decide +kernel
theorem dX8_combine_27 : decode cX8_combine 27 = .ok (.ifCond .ne 11, 3) := by decide +kernel
theorem dX8_combine_30 : decode cX8_combine 30 = .ok (.aload 5, 2) := by decide +kernel
theorem dX8_combine_32 : decode cX8_combine 32 = .ok (.invokestatic 161, 3) := by decide +kernel
theorem dX8_combine_35 : decode cX8_combine 35 = .ok (.goto 26, 3) := by decide +kernel
theorem dX8_combine_38 : decode cX8_combine 38 = .ok (.aload 5, 2) := by decide +kernel
theorem dX8_combine_40 : decode cX8_combine 40 = .ok (.aload_n 0, 1) := by decide +kernel
theorem dX8_combine_41 : decode cX8_combine 41 = .ok (.iload_n 3, 1) := by decide +kernel
theorem dX8_combine_42 : decode cX8_combine 42 = .ok (.invokevirtual 157, 3) := by decide +kernel
theorem dX8_combine_45 : decode cX8_combine 45 = .ok (.iload 4, 2) := by decide +kernel
theorem dX8_combine_47 : decode cX8_combine 47 = .ok (.iconst 1, 1) := by decide +kernel
theorem dX8_combine_48 : decode cX8_combine 48 = .ok (.if_icmp .ne 8, 3) := by decide +kernel
theorem dX8_combine_51 : decode cX8_combine 51 = .ok (.bipush 38, 2) := by decide +kernel
theorem dX8_combine_53 : decode cX8_combine 53 = .ok (.goto 5, 3) := by decide +kernel
theorem dX8_combine_56 : decode cX8_combine 56 = .ok (.bipush 124, 2) := by decide +kernel
theorem dX8_combine_58 : decode cX8_combine 58 = .ok (.invokestatic 165, 3) := by decide +kernel
theorem dX8_combine_61 : decode cX8_combine 61 = .ok (.astore 6, 2) := by decide +kernel
theorem dX8_combine_63 : decode cX8_combine 63 = .ok (.aload_n 0, 1) := by decide +kernel
theorem dX8_combine_64 : decode cX8_combine 64 = .ok (.invokevirtual 87, 3) := by decide +kernel
theorem dX8_combine_67 : decode cX8_combine 67 = .ok (.aload_n 0, 1) := by decide +kernel
theorem dX8_combine_68 : decode cX8_combine 68 = .ok (.getfield 10, 3) := by decide +kernel
theorem dX8_combine_71 : decode cX8_combine 71 = .ok (.getfield 148, 3) := by decide +kernel
theorem dX8_combine_74 : decode cX8_combine 74 = .ok (.iload_n 1, 1) := by decide +kernel
theorem dX8_combine_75 : decode cX8_combine 75 = .ok (.aload 6, 2) := by decide +kernel
theorem dX8_combine_77 : decode cX8_combine 77 = .ok (.aastore, 1) := by decide +kernel
theorem dX8_combine_78 : decode cX8_combine 78 = .ok (.aload 6, 2) := by decide +kernel
theorem dX8_combine_80 : decode cX8_combine 80 = .ok (.invokevirtual 151, 3) := by decide +kernel
theorem dX8_combine_83 : decode cX8_combine 83 = .ok (.ireturn, 1) := by decide +kernel
theorem dX8_check_0 : decode cX8_check 0 = .ok (.iload_n 1, 1) := by decide +kernel
theorem dX8_check_1 : decode cX8_check 1 = .ok (.invokestatic 70, 3) := by decide +kernel
theorem dX8_check_4 : decode cX8_check 4 = .ok (.aconst_null, 1) := by decide +kernel
theorem dX8_check_5 : decode cX8_check 5 = .ok (.astore_n 3, 1) := by decide +kernel
theorem dX8_check_6 : decode cX8_check 6 = .ok (.iload_n 2, 1) := by decide +kernel
theorem dX8_check_7 : decode cX8_check 7 = .ok (.bipush (-2), 2) := by decide +kernel
theorem dX8_check_9 : decode cX8_check 9 = .ok (.if_icmp .eq 13, 3) := by decide +kernel
theorem dX8_check_12 : decode cX8_check 12 = .ok (.iload_n 2, 1) := by decide +kernel
theorem dX8_check_13 : decode cX8_check 13 = .ok (.invokestatic 123, 3) := by decide +kernel
theorem dX8_check_16 : decode cX8_check 16 = .ok (.aload_n 0, 1) := by decide +kernel
theorem dX8_check_17 : decode cX8_check 17 = .ok (.iload_n 2, 1) := by decide +kernel
theorem dX8_check_18 : decode cX8_check 18 = .ok (.invokevirtual 157, 3) := by decide +kernel
theorem dX8_check_21 : decode cX8_check 21 = .ok (.astore_n 3, 1) := by decide +kernel
theorem dX8_check_22 : decode cX8_check 22 = .ok (.aload_n 0, 1) := by decide +kernel
theorem dX8_check_23 : decode cX8_check 23 = .ok (.invokevirtual 87, 3) := by decide +kernel
theorem dX8_check_26 : decode cX8_check 26 = .ok (.aload_n 3, 1) := by decide +kernel
theorem dX8_check_27 : decode cX8_check 27 = .ok (.ifnonnull 7, 3) := by decide +kernel
theorem dX8_check_30 : decode cX8_check 30 = .ok (.iconst 0, 1) := by decide +kernel
theorem dX8_check_31 : decode cX8_check 31 = .ok (.goto 10, 3) := by decide +kernel
theorem dX8_check_34 : decode cX8_check 34 = .ok (.aload_n 0, 1) := by decide +kernel
theorem dX8_check_35 : decode cX8_check 35 = .ok (.iload_n 1, 1) := by decide +kernel
theorem dX8_check_36 : decode cX8_check 36 = .ok (.aload_n 3, 1) := by decide +kernel
theorem dX8_check_37 : decode cX8_check 37 = .ok (.iconst 0, 1) := by decide +kernel
theorem dX8_check_38 : decode cX8_check 38 = .ok (.invokevirtual 169, 3) := by decide +kernel
theorem dX8_check_41 : decode cX8_check 41 = .ok (.istore 4, 2) := by decide +kernel
theorem dX8_check_43 : decode cX8_check 43 = .ok (.iload 4, 2) := by decide +kernel
theorem dX8_check_45 : decode cX8_check 45 = .ok (.ifCond .le 19, 3) := by decide +kernel
theorem dX8_check_48 : decode cX8_check 48 = .ok (.aload_n 0, 1) := by decide +kernel
theorem dX8_check_49 : decode cX8_check 49 = .ok (.getfield 10, 3) := by decide +kernel
theorem dX8_check_52 : decode cX8_check 52 = .ok (.dup, 1) := by decide +kernel
theorem dX8_check_53 : decode cX8_check 53 = .ok (.getfield 173, 3) := by decide +kernel
theorem dX8_check_56 : decode cX8_check 56 = .ok (.iconst 1, 1) := by decide +kernel
theorem dX8_check_57 : decode cX8_check 57 = .ok (.iadd, 1) := by decide +kernel
theorem dX8_check_58 : decode cX8_check 58 = .ok (.putfield 173, 3) := by decide +kernel
theorem dX8_check_61 : decode cX8_check 61 = .ok (.goto 13, 3) := by decide +kernel
theorem dX8_check_64 : decode cX8_check 64 = .ok (.aload_n 0, 1) := by decide +kernel
theorem dX8_check_65 : decode cX8_check 65 = .ok (.getfield 10, 3) := by decide +kernel
theorem dX8_check_68 : decode cX8_check 68 = .ok (.getfield 90, 3) := by decide +kernel
theorem dX8_check_71 : decode cX8_check 71 = .ok (.iload_n 1, 1) := by decide +kernel
theorem dX8_check_72 : decode cX8_check 72 = .ok (.aload_n 3, 1) := by decide +kernel
theorem dX8_check_73 : decode cX8_check 73 = .ok (.aastore, 1) := by decide +kernel
theorem dX8_check_74 : decode cX8_check 74 = .ok (.iload 4, 2) := by decide +kernel
theorem dX8_check_76 : decode cX8_check 76 = .ok (.ireturn, 1) := by decide +kernel
theorem dX8_remove_0 : decode cX8_remove 0 = .ok (.iload_n 1, 1) := by decide +kernel
theorem dX8_remove_1 : decode cX8_remove 1 = .ok (.invokestatic 70, 3) := by decide +kernel
theorem dX8_remove_4 : decode cX8_remove 4 = .ok (.iload_n 2, 1) := by decide +kernel
theorem dX8_remove_5 : decode cX8_remove 5 = .ok (.invokestatic 123, 3) := by decide +kernel
theorem dX8_remove_8 : decode cX8_remove 8 = .ok (.aload_n 0, 1) := by decide +kernel
theorem dX8_remove_9 : decode cX8_remove 9 = .ok (.iload_n 2, 1) := by decide +kernel
theorem dX8_remove_10 : decode cX8_remove 10 = .ok (.invokevirtual 157, 3) := by decide +kernel
theorem dX8_remove_13 : decode cX8_remove 13 = .ok (.astore_n 3, 1) := by decide +kernel
theorem dX8_remove_14 : decode cX8_remove 14 = .ok (.aload_n 0, 1) := by decide +kernel
theorem dX8_remove_15 : decode cX8_remove 15 = .ok (.invokevirtual 87, 3) := by decide +kernel
theorem dX8_remove_18 : decode cX8_remove 18 = .ok (.aload_n 0, 1) := by decide +kernel
theorem dX8_remove_19 : decode cX8_remove 19 = .ok (.iload_n 1, 1) := by decide +kernel
theorem dX8_remove_20 : decode cX8_remove 20 = .ok (.aload_n 3, 1) := by decide +kernel
theorem dX8_remove_21 : decode cX8_remove 21 = .ok (.iconst 2, 1) := by decide +kernel
theorem dX8_remove_22 : decode cX8_remove 22 = .ok (.invokevirtual 176, 3) := by decide +kernel
theorem dX8_remove_25 : decode cX8_remove 25 = .ok (.istore 4, 2) := by decide +kernel
theorem dX8_remove_27 : decode cX8_remove 27 = .ok (.aload_n 0, 1) := by decide +kernel
theorem dX8_remove_28 : decode cX8_remove 28 = .ok (.iload_n 1, 1) := by decide +kernel
theorem dX8_remove_29 : decode cX8_remove 29 = .ok (.iload 4, 2) := by decide +kernel
theorem dX8_remove_31 : decode cX8_remove 31 = .ok (.invokevirtual 120, 3) := by decide +kernel
theorem dX8_remove_34 : decode cX8_remove 34 = .ok (.iload 4, 2) := by decide +kernel
theorem dX8_remove_36 : decode cX8_remove 36 = .ok (.invokestatic 179, 3) := by decide +kernel
theorem dX8_remove_39 : decode cX8_remove 39 = .ok (.ireturn, 1) := by decide +kernel
theorem dX8_update_0 : decode cX8_update 0 = .ok (.iload_n 1, 1) := by decide +kernel
theorem dX8_update_1 : decode cX8_update 1 = .ok (.invokestatic 70, 3) := by decide +kernel
theorem dX8_update_4 : decode cX8_update 4 = .ok (.iload_n 2, 1) := by decide +kernel
theorem dX8_update_5 : decode cX8_update 5 = .ok (.invokestatic 123, 3) := by decide +kernel
theorem dX8_update_8 : decode cX8_update 8 = .ok (.iload_n 3, 1) := by decide +kernel
theorem dX8_update_9 : decode cX8_update 9 = .ok (.invokestatic 113, 3) := by decide +kernel
theorem dX8_update_12 : decode cX8_update 12 = .ok (.iload 4, 2) := by decide +kernel
theorem dX8_update_14 : decode cX8_update 14 = .ok (.invokestatic 74, 3) := by decide +kernel
theorem dX8_update_17 : decode cX8_update 17 = .ok (.aload_n 0, 1) := by decide +kernel
theorem dX8_update_18 : decode cX8_update 18 = .ok (.iload_n 2, 1) := by decide +kernel
theorem dX8_update_19 : decode cX8_update 19 = .ok (.invokevirtual 157, 3) := by decide +kernel
theorem dX8_update_22 : decode cX8_update 22 = .ok (.astore 5, 2) := by decide +kernel
theorem dX8_update_24 : decode cX8_update 24 = .ok (.aload_n 0, 1) := by decide +kernel
theorem dX8_update_25 : decode cX8_update 25 = .ok (.invokevirtual 87, 3) := by decide +kernel
theorem dX8_update_28 : decode cX8_update 28 = .ok (.aload_n 0, 1) := by decide +kernel
theorem dX8_update_29 : decode cX8_update 29 = .ok (.iload_n 1, 1) := by decide +kernel
theorem dX8_update_30 : decode cX8_update 30 = .ok (.aload 5, 2) := by decide +kernel
theorem dX8_update_32 : decode cX8_update 32 = .ok (.iconst 2, 1) := by decide +kernel
theorem dX8_update_33 : decode cX8_update 33 = .ok (.invokevirtual 176, 3) := by decide +kernel
theorem dX8_update_36 : decode cX8_update 36 = .ok (.istore 6, 2) := by decide +kernel
theorem dX8_update_38 : decode cX8_update 38 = .ok (.iconst 0, 1) := by decide +kernel
theorem dX8_update_39 : decode cX8_update 39 = .ok (.istore 7, 2) := by decide +kernel
theorem dX8_update_41 : decode cX8_update 41 = .ok (.iload 7, 2) := by decide +kernel
theorem dX8_update_43 : decode cX8_update 43 = .ok (.aload_n 0, 1) := by decide +kernel
theorem dX8_update_44 : decode cX8_update 44 = .ok (.getfield 10, 3) := by decide +kernel
theorem dX8_update_47 : decode cX8_update 47 = .ok (.getfield 77, 3) := by decide +kernel
theorem dX8_update_50 : decode cX8_update 50 = .ok (.iload_n 1, 1) := by decide +kernel
theorem dX8_update_51 : decode cX8_update 51 = .ok (.iaload, 1) := by decide +kernel
theorem dX8_update_52 : decode cX8_update 52 = .ok (.if_icmp .ge 37, 3) := by decide +kernel
theorem dX8_update_55 : decode cX8_update 55 = .ok (.iload 6, 2) := by decide +kernel
theorem dX8_update_57 : decode cX8_update 57 = .ok (.iload 7, 2) := by decide +kernel
theorem dX8_update_59 : decode cX8_update 59 = .ok (.invokestatic 185, 3) := by decide +kernel
theorem dX8_update_62 : decode cX8_update 62 = .ok (.ifCond .eq 21, 3) := by decide +kernel
theorem dX8_update_65 : decode cX8_update 65 = .ok (.aload_n 0, 1) := by decide +kernel
theorem dX8_update_66 : decode cX8_update 66 = .ok (.iload_n 1, 1) := by decide +kernel
theorem dX8_update_67 : decode cX8_update 67 = .ok (.iload 7, 2) := by decide +kernel
theorem dX8_update_69 : decode cX8_update 69 = .ok (.iload_n 3, 1) := by decide +kernel
theorem dX8_update_70 : decode cX8_update 70 = .ok (.iload 4, 2) := by decide +kernel
theorem dX8_update_72 : decode cX8_update 72 = .ok (.invokevirtual 116, 3) := by decide +kernel
theorem dX8_update_75 : decode cX8_update 75 = .ok (.ifCond .eq 8, 3) := by decide +kernel
theorem dX8_update_78 : decode cX8_update 78 = .ok (.aload_n 0, 1) := by decide +kernel
theorem dX8_update_79 : decode cX8_update 79 = .ok (.invokevirtual 98, 3) := by decide +kernel
theorem dX8_update_82 : decode cX8_update 82 = .ok (.ireturn, 1) := by decide +kernel
theorem dX8_update_83 : decode cX8_update 83 = .ok (.iinc 7 1, 3) := by decide +kernel
theorem dX8_update_86 : decode cX8_update 86 = .ok (.goto (-45), 3) := by decide +kernel
theorem dX8_update_89 : decode cX8_update 89 = .ok (.iconst 0, 1) := by decide +kernel
theorem dX8_update_90 : decode cX8_update 90 = .ok (.istore 7, 2) := by decide +kernel
theorem dX8_update_92 : decode cX8_update 92 = .ok (.iload 7, 2) := by decide +kernel
theorem dX8_update_94 : decode cX8_update 94 = .ok (.aload_n 0, 1) := by decide +kernel
theorem dX8_update_95 : decode cX8_update 95 = .ok (.getfield 10, 3) := by decide +kernel
theorem dX8_update_98 : decode cX8_update 98 = .ok (.getfield 77, 3) := by decide +kernel
theorem dX8_update_101 : decode cX8_update 101 = .ok (.iload_n 1, 1) := by decide +kernel
theorem dX8_update_102 : decode cX8_update 102 = .ok (.iaload, 1) := by decide +kernel
theorem dX8_update_103 : decode cX8_update 103 = .ok (.if_icmp .ge 36, 3) := by decide +kernel
theorem dX8_update_106 : decode cX8_update 106 = .ok (.iload 6, 2) := by decide +kernel
theorem dX8_update_108 : decode cX8_update 108 = .ok (.iload 7, 2) := by decide +kernel
theorem dX8_update_110 : decode cX8_update 110 = .ok (.invokestatic 185, 3) := by decide +kernel
theorem dX8_update_113 : decode cX8_update 113 = .ok (.ifCond .eq 20, 3) := by decide +kernel
theorem dX8_update_116 : decode cX8_update 116 = .ok (.aload_n 0, 1) := by decide +kernel
theorem dX8_update_117 : decode cX8_update 117 = .ok (.getfield 10, 3) := by decide +kernel
theorem dX8_update_120 : decode cX8_update 120 = .ok (.getfield 102, 3) := by decide +kernel
theorem dX8_update_123 : decode cX8_update 123 = .ok (.iload_n 1, 1) := by decide +kernel
theorem dX8_update_124 : decode cX8_update 124 = .ok (.iload 7, 2) := by decide +kernel
theorem dX8_update_126 : decode cX8_update 126 = .ok (.iload_n 3, 1) := by decide +kernel
theorem dX8_update_127 : decode cX8_update 127 = .ok (.invokestatic 105, 3) := by decide +kernel
theorem dX8_update_130 : decode cX8_update 130 = .ok (.iload 4, 2) := by decide +kernel
theorem dX8_update_132 : decode cX8_update 132 = .ok (.iastore, 1) := by decide +kernel
theorem dX8_update_133 : decode cX8_update 133 = .ok (.iinc 7 1, 3) := by decide +kernel
theorem dX8_update_136 : decode cX8_update 136 = .ok (.goto (-44), 3) := by decide +kernel
theorem dX8_update_139 : decode cX8_update 139 = .ok (.iload 6, 2) := by decide +kernel
theorem dX8_update_141 : decode cX8_update 141 = .ok (.invokestatic 179, 3) := by decide +kernel
theorem dX8_update_144 : decode cX8_update 144 = .ok (.ireturn, 1) := by decide +kernel
theorem dX8_append_0 : decode cX8_append 0 = .ok (.iload_n 1, 1) := by decide +kernel
theorem dX8_append_1 : decode cX8_append 1 = .ok (.bipush 33, 2) := by decide +kernel
theorem dX8_append_3 : decode cX8_append 3 = .ok (.if_icmp .lt 9, 3) := by decide +kernel
theorem dX8_append_6 : decode cX8_append 6 = .ok (.iload_n 1, 1) := by decide +kernel
theorem dX8_append_7 : decode cX8_append 7 = .ok (.bipush 126, 2) := by decide +kernel
theorem dX8_append_9 : decode cX8_append 9 = .ok (.if_icmp .le 13, 3) := by decide +kernel
theorem dX8_append_12 : decode cX8_append 12 = .ok (.new 134, 3) := by decide +kernel
theorem dX8_append_15 : decode cX8_append 15 = .ok (.dup, 1) := by decide +kernel
theorem dX8_append_16 : decode cX8_append 16 = .ok (.ldc 189, 2) := by decide +kernel
theorem dX8_append_18 : decode cX8_append 18 = .ok (.invokespecial 138, 3) := by decide +kernel
theorem dX8_append_21 : decode cX8_append 21 = .ok (.athrow, 1) := by decide +kernel
theorem dX8_append_22 : decode cX8_append 22 = .ok (.aload_n 0, 1) := by decide +kernel
theorem dX8_append_23 : decode cX8_append 23 = .ok (.getfield 35, 3) := by decide +kernel
theorem dX8_append_26 : decode cX8_append 26 = .ok (.bipush 60, 2) := by decide +kernel
theorem dX8_append_28 : decode cX8_append 28 = .ok (.if_icmp .lt 13, 3) := by decide +kernel
theorem dX8_append_31 : decode cX8_append 31 = .ok (.new 80, 3) := by decide +kernel
theorem dX8_append_34 : decode cX8_append 34 = .ok (.dup, 1) := by decide +kernel
theorem dX8_append_35 : decode cX8_append 35 = .ok (.ldc 191, 2) := by decide +kernel
theorem dX8_append_37 : decode cX8_append 37 = .ok (.invokespecial 84, 3) := by decide +kernel
theorem dX8_append_40 : decode cX8_append 40 = .ok (.athrow, 1) := by decide +kernel
theorem dX8_append_41 : decode cX8_append 41 = .ok (.aload_n 0, 1) := by decide +kernel
theorem dX8_append_42 : decode cX8_append 42 = .ok (.getfield 31, 3) := by decide +kernel
theorem dX8_append_45 : decode cX8_append 45 = .ok (.aload_n 0, 1) := by decide +kernel
theorem dX8_append_46 : decode cX8_append 46 = .ok (.getfield 35, 3) := by decide +kernel
theorem dX8_append_49 : decode cX8_append 49 = .ok (.iload_n 1, 1) := by decide +kernel
theorem dX8_append_50 : decode cX8_append 50 = .ok (.i2c, 1) := by decide +kernel
theorem dX8_append_51 : decode cX8_append 51 = .ok (.castore, 1) := by decide +kernel
theorem dX8_append_52 : decode cX8_append 52 = .ok (.aload_n 0, 1) := by decide +kernel
theorem dX8_append_53 : decode cX8_append 53 = .ok (.dup, 1) := by decide +kernel
theorem dX8_append_54 : decode cX8_append 54 = .ok (.getfield 35, 3) := by decide +kernel
theorem dX8_append_57 : decode cX8_append 57 = .ok (.iconst 1, 1) := by decide +kernel
theorem dX8_append_58 : decode cX8_append 58 = .ok (.iadd, 1) := by decide +kernel
theorem dX8_append_59 : decode cX8_append 59 = .ok (.putfield 35, 3) := by decide +kernel
theorem dX8_append_62 : decode cX8_append 62 = .ok (.aload_n 0, 1) := by decide +kernel
theorem dX8_append_63 : decode cX8_append 63 = .ok (.getfield 35, 3) := by decide +kernel
theorem dX8_append_66 : decode cX8_append 66 = .ok (.ireturn, 1) := by decide +kernel
theorem dX8_clearBuffer_0 : decode cX8_clearBuffer 0 = .ok (.aload_n 0, 1) := by decide +kernel
theorem dX8_clearBuffer_1 : decode cX8_clearBuffer 1 = .ok (.getfield 35, 3) := by decide +kernel
theorem dX8_clearBuffer_4 : decode cX8_clearBuffer 4 = .ok (.istore_n 1, 1) := by decide +kernel
theorem dX8_clearBuffer_5 : decode cX8_clearBuffer 5 = .ok (.aload_n 0, 1) := by decide +kernel
theorem dX8_clearBuffer_6 : decode cX8_clearBuffer 6 = .ok (.iconst 0, 1) := by decide +kernel
theorem dX8_clearBuffer_7 : decode cX8_clearBuffer 7 = .ok (.putfield 35, 3) := by decide +kernel
theorem dX8_clearBuffer_10 : decode cX8_clearBuffer 10 = .ok (.iload_n 1, 1) := by decide +kernel
theorem dX8_clearBuffer_11 : decode cX8_clearBuffer 11 = .ok (.ireturn, 1) := by decide +kernel
theorem dX8_firstError_0 : decode cX8_firstError 0 = .ok (.aload_n 0, 1) := by decide +kernel
theorem dX8_firstError_1 : decode cX8_firstError 1 = .ok (.getfield 59, 3) := by decide +kernel
theorem dX8_firstError_4 : decode cX8_firstError 4 = .ok (.aload_n 0, 1) := by decide +kernel
theorem dX8_firstError_5 : decode cX8_firstError 5 = .ok (.getfield 31, 3) := by decide +kernel
theorem dX8_firstError_8 : decode cX8_firstError 8 = .ok (.aload_n 0, 1) := by decide +kernel
theorem dX8_firstError_9 : decode cX8_firstError 9 = .ok (.getfield 35, 3) := by decide +kernel
theorem dX8_firstError_12 : decode cX8_firstError 12 = .ok (.invokevirtual 126, 3) := by decide +kernel
theorem dX8_firstError_15 : decode cX8_firstError 15 = .ok (.ireturn, 1) := by decide +kernel
theorem dX8_undo_0 : decode cX8_undo 0 = .ok (.aload_n 0, 1) := by decide +kernel
theorem dX8_undo_1 : decode cX8_undo 1 = .ok (.getfield 20, 3) := by decide +kernel
theorem dX8_undo_4 : decode cX8_undo 4 = .ok (.ifCond .gt 13, 3) := by decide +kernel
theorem dX8_undo_7 : decode cX8_undo 7 = .ok (.new 80, 3) := by decide +kernel
theorem dX8_undo_10 : decode cX8_undo 10 = .ok (.dup, 1) := by decide +kernel
theorem dX8_undo_11 : decode cX8_undo 11 = .ok (.ldc 193, 2) := by decide +kernel
theorem dX8_undo_13 : decode cX8_undo 13 = .ok (.invokespecial 84, 3) := by decide +kernel
theorem dX8_undo_16 : decode cX8_undo 16 = .ok (.athrow, 1) := by decide +kernel
theorem dX8_undo_17 : decode cX8_undo 17 = .ok (.aload_n 0, 1) := by decide +kernel
theorem dX8_undo_18 : decode cX8_undo 18 = .ok (.dup, 1) := by decide +kernel
theorem dX8_undo_19 : decode cX8_undo 19 = .ok (.getfield 20, 3) := by decide +kernel
theorem dX8_undo_22 : decode cX8_undo 22 = .ok (.iconst 1, 1) := by decide +kernel
theorem dX8_undo_23 : decode cX8_undo 23 = .ok (.isub, 1) := by decide +kernel
theorem dX8_undo_24 : decode cX8_undo 24 = .ok (.putfield 20, 3) := by decide +kernel
theorem dX8_undo_27 : decode cX8_undo 27 = .ok (.aload_n 0, 1) := by decide +kernel
theorem dX8_undo_28 : decode cX8_undo 28 = .ok (.getfield 16, 3) := by decide +kernel
theorem dX8_undo_31 : decode cX8_undo 31 = .ok (.aload_n 0, 1) := by decide +kernel
theorem dX8_undo_32 : decode cX8_undo 32 = .ok (.getfield 20, 3) := by decide +kernel
theorem dX8_undo_35 : decode cX8_undo 35 = .ok (.aaload, 1) := by decide +kernel
theorem dX8_undo_36 : decode cX8_undo 36 = .ok (.aload_n 0, 1) := by decide +kernel
theorem dX8_undo_37 : decode cX8_undo 37 = .ok (.getfield 10, 3) := by decide +kernel
theorem dX8_undo_40 : decode cX8_undo 40 = .ok (.invokestatic 195, 3) := by decide +kernel
theorem dX8_undo_43 : decode cX8_undo 43 = .ok (.aload_n 0, 1) := by decide +kernel
theorem dX8_undo_44 : decode cX8_undo 44 = .ok (.getfield 20, 3) := by decide +kernel
theorem dX8_undo_47 : decode cX8_undo 47 = .ok (.ireturn, 1) := by decide +kernel
theorem dX8_keep_0 : decode cX8_keep 0 = .ok (.iload_n 1, 1) := by decide +kernel
theorem dX8_keep_1 : decode cX8_keep 1 = .ok (.iconst 1, 1) := by decide +kernel
theorem dX8_keep_2 : decode cX8_keep 2 = .ok (.invokestatic 154, 3) := by decide +kernel
theorem dX8_keep_5 : decode cX8_keep 5 = .ok (.aload_n 0, 1) := by decide +kernel
theorem dX8_keep_6 : decode cX8_keep 6 = .ok (.getfield 10, 3) := by decide +kernel
theorem dX8_keep_9 : decode cX8_keep 9 = .ok (.aload_n 0, 1) := by decide +kernel
theorem dX8_keep_10 : decode cX8_keep 10 = .ok (.getfield 24, 3) := by decide +kernel
theorem dX8_keep_13 : decode cX8_keep 13 = .ok (.iload_n 1, 1) := by decide +kernel
theorem dX8_keep_14 : decode cX8_keep 14 = .ok (.aaload, 1) := by decide +kernel
theorem dX8_keep_15 : decode cX8_keep 15 = .ok (.invokestatic 195, 3) := by decide +kernel
theorem dX8_keep_18 : decode cX8_keep 18 = .ok (.aload_n 0, 1) := by decide +kernel
theorem dX8_keep_19 : decode cX8_keep 19 = .ok (.getfield 27, 3) := by decide +kernel
theorem dX8_keep_22 : decode cX8_keep 22 = .ok (.iload_n 1, 1) := by decide +kernel
theorem dX8_keep_23 : decode cX8_keep 23 = .ok (.iconst 1, 1) := by decide +kernel
theorem dX8_keep_24 : decode cX8_keep 24 = .ok (.bastore, 1) := by decide +kernel
theorem dX8_keep_25 : decode cX8_keep 25 = .ok (.aload_n 0, 1) := by decide +kernel
theorem dX8_keep_26 : decode cX8_keep 26 = .ok (.invokevirtual 199, 3) := by decide +kernel
theorem dX8_keep_29 : decode cX8_keep 29 = .ok (.ireturn, 1) := by decide +kernel
theorem dX8_goBack_0 : decode cX8_goBack 0 = .ok (.iload_n 1, 1) := by decide +kernel
theorem dX8_goBack_1 : decode cX8_goBack 1 = .ok (.iconst 1, 1) := by decide +kernel
theorem dX8_goBack_2 : decode cX8_goBack 2 = .ok (.invokestatic 154, 3) := by decide +kernel
theorem dX8_goBack_5 : decode cX8_goBack 5 = .ok (.aload_n 0, 1) := by decide +kernel
theorem dX8_goBack_6 : decode cX8_goBack 6 = .ok (.getfield 27, 3) := by decide +kernel
theorem dX8_goBack_9 : decode cX8_goBack 9 = .ok (.iload_n 1, 1) := by decide +kernel
theorem dX8_goBack_10 : decode cX8_goBack 10 = .ok (.baload, 1) := by decide +kernel
theorem dX8_goBack_11 : decode cX8_goBack 11 = .ok (.ifCond .ne 13, 3) := by decide +kernel
theorem dX8_goBack_14 : decode cX8_goBack 14 = .ok (.new 80, 3) := by decide +kernel
theorem dX8_goBack_17 : decode cX8_goBack 17 = .ok (.dup, 1) := by decide +kernel
theorem dX8_goBack_18 : decode cX8_goBack 18 = .ok (.ldc 202, 2) := by decide +kernel
theorem dX8_goBack_20 : decode cX8_goBack 20 = .ok (.invokespecial 84, 3) := by decide +kernel
theorem dX8_goBack_23 : decode cX8_goBack 23 = .ok (.athrow, 1) := by decide +kernel
theorem dX8_goBack_24 : decode cX8_goBack 24 = .ok (.aload_n 0, 1) := by decide +kernel
theorem dX8_goBack_25 : decode cX8_goBack 25 = .ok (.invokevirtual 87, 3) := by decide +kernel
theorem dX8_goBack_28 : decode cX8_goBack 28 = .ok (.aload_n 0, 1) := by decide +kernel
theorem dX8_goBack_29 : decode cX8_goBack 29 = .ok (.getfield 24, 3) := by decide +kernel
theorem dX8_goBack_32 : decode cX8_goBack 32 = .ok (.iload_n 1, 1) := by decide +kernel
theorem dX8_goBack_33 : decode cX8_goBack 33 = .ok (.aaload, 1) := by decide +kernel
theorem dX8_goBack_34 : decode cX8_goBack 34 = .ok (.aload_n 0, 1) := by decide +kernel
theorem dX8_goBack_35 : decode cX8_goBack 35 = .ok (.getfield 10, 3) := by decide +kernel
theorem dX8_goBack_38 : decode cX8_goBack 38 = .ok (.invokestatic 195, 3) := by decide +kernel
theorem dX8_goBack_41 : decode cX8_goBack 41 = .ok (.aload_n 0, 1) := by decide +kernel
theorem dX8_goBack_42 : decode cX8_goBack 42 = .ok (.invokevirtual 199, 3) := by decide +kernel
theorem dX8_goBack_45 : decode cX8_goBack 45 = .ok (.ireturn, 1) := by decide +kernel
theorem dX8_cell_0 : decode cX8_cell 0 = .ok (.aload_n 0, 1) := by decide +kernel
theorem dX8_cell_1 : decode cX8_cell 1 = .ok (.iload_n 1, 1) := by decide +kernel
theorem dX8_cell_2 : decode cX8_cell 2 = .ok (.iload_n 2, 1) := by decide +kernel
theorem dX8_cell_3 : decode cX8_cell 3 = .ok (.invokevirtual 109, 3) := by decide +kernel
theorem dX8_cell_6 : decode cX8_cell 6 = .ok (.iload_n 3, 1) := by decide +kernel
theorem dX8_cell_7 : decode cX8_cell 7 = .ok (.invokestatic 113, 3) := by decide +kernel
theorem dX8_cell_10 : decode cX8_cell 10 = .ok (.aload_n 0, 1) := by decide +kernel
theorem dX8_cell_11 : decode cX8_cell 11 = .ok (.getfield 10, 3) := by decide +kernel
theorem dX8_cell_14 : decode cX8_cell 14 = .ok (.getfield 102, 3) := by decide +kernel
theorem dX8_cell_17 : decode cX8_cell 17 = .ok (.iload_n 1, 1) := by decide +kernel
theorem dX8_cell_18 : decode cX8_cell 18 = .ok (.iload_n 2, 1) := by decide +kernel
theorem dX8_cell_19 : decode cX8_cell 19 = .ok (.iload_n 3, 1) := by decide +kernel
theorem dX8_cell_20 : decode cX8_cell 20 = .ok (.invokestatic 105, 3) := by decide +kernel
theorem dX8_cell_23 : decode cX8_cell 23 = .ok (.iaload, 1) := by decide +kernel
theorem dX8_cell_24 : decode cX8_cell 24 = .ok (.ireturn, 1) := by decide +kernel
theorem dX8_column_0 : decode cX8_column 0 = .ok (.iload_n 1, 1) := by decide +kernel
theorem dX8_column_1 : decode cX8_column 1 = .ok (.invokestatic 70, 3) := by decide +kernel
theorem dX8_column_4 : decode cX8_column 4 = .ok (.iload_n 2, 1) := by decide +kernel
theorem dX8_column_5 : decode cX8_column 5 = .ok (.invokestatic 113, 3) := by decide +kernel
theorem dX8_column_8 : decode cX8_column 8 = .ok (.iload_n 3, 1) := by decide +kernel
theorem dX8_column_9 : decode cX8_column 9 = .ok (.bipush 6, 2) := by decide +kernel
theorem dX8_column_11 : decode cX8_column 11 = .ok (.invokestatic 154, 3) := by decide +kernel
theorem dX8_column_14 : decode cX8_column 14 = .ok (.aload_n 0, 1) := by decide +kernel
theorem dX8_column_15 : decode cX8_column 15 = .ok (.getfield 10, 3) := by decide +kernel
theorem dX8_column_18 : decode cX8_column 18 = .ok (.getfield 77, 3) := by decide +kernel
theorem dX8_column_21 : decode cX8_column 21 = .ok (.iload_n 1, 1) := by decide +kernel
theorem dX8_column_22 : decode cX8_column 22 = .ok (.iaload, 1) := by decide +kernel
theorem dX8_column_23 : decode cX8_column 23 = .ok (.istore 4, 2) := by decide +kernel
theorem dX8_column_25 : decode cX8_column 25 = .ok (.iconst 0, 1) := by decide +kernel
theorem dX8_column_26 : decode cX8_column 26 = .ok (.istore 5, 2) := by decide +kernel
theorem dX8_column_28 : decode cX8_column 28 = .ok (.iconst 0, 1) := by decide +kernel
theorem dX8_column_29 : decode cX8_column 29 = .ok (.istore 6, 2) := by decide +kernel
theorem dX8_column_31 : decode cX8_column 31 = .ok (.bipush (-2), 2) := by decide +kernel
theorem dX8_column_33 : decode cX8_column 33 = .ok (.istore 7, 2) := by decide +kernel
theorem dX8_column_35 : decode cX8_column 35 = .ok (.bipush (-2), 2) := by decide +kernel
theorem dX8_column_37 : decode cX8_column 37 = .ok (.istore 8, 2) := by decide +kernel
theorem dX8_column_39 : decode cX8_column 39 = .ok (.iconst 0, 1) := by decide +kernel
theorem dX8_column_40 : decode cX8_column 40 = .ok (.istore 9, 2) := by decide +kernel
theorem dX8_column_42 : decode cX8_column 42 = .ok (.iload 9, 2) := by decide +kernel
theorem dX8_column_44 : decode cX8_column 44 = .ok (.iload 4, 2) := by decide +kernel
theorem dX8_column_46 : decode cX8_column 46 = .ok (.if_icmp .ge 70, 3) := by decide +kernel
theorem dX8_column_49 : decode cX8_column 49 = .ok (.aload_n 0, 1) := by decide +kernel
theorem dX8_column_50 : decode cX8_column 50 = .ok (.getfield 10, 3) := by decide +kernel
theorem dX8_column_53 : decode cX8_column 53 = .ok (.getfield 102, 3) := by decide +kernel
theorem dX8_column_56 : decode cX8_column 56 = .ok (.iload_n 1, 1) := by decide +kernel
theorem dX8_column_57 : decode cX8_column 57 = .ok (.iload 9, 2) := by decide +kernel
theorem dX8_column_59 : decode cX8_column 59 = .ok (.iload_n 2, 1) := by decide +kernel
theorem dX8_column_60 : decode cX8_column 60 = .ok (.invokestatic 105, 3) := by decide +kernel
theorem dX8_column_63 : decode cX8_column 63 = .ok (.iaload, 1) := by decide +kernel
theorem dX8_column_64 : decode cX8_column 64 = .ok (.istore 10, 2) := by decide +kernel
theorem dX8_column_66 : decode cX8_column 66 = .ok (.iload 10, 2) := by decide +kernel
theorem dX8_column_68 : decode cX8_column 68 = .ok (.iconst (-1), 1) := by decide +kernel
theorem dX8_column_69 : decode cX8_column 69 = .ok (.if_icmp .eq 41, 3) := by decide +kernel
theorem dX8_column_72 : decode cX8_column 72 = .ok (.iload 5, 2) := by decide +kernel
theorem dX8_column_74 : decode cX8_column 74 = .ok (.ifCond .ne 8, 3) := by decide +kernel
theorem dX8_column_77 : decode cX8_column 77 = .ok (.iload 10, 2) := by decide +kernel
theorem dX8_column_79 : decode cX8_column 79 = .ok (.goto 10, 3) := by decide +kernel
theorem dX8_column_82 : decode cX8_column 82 = .ok (.iload 7, 2) := by decide +kernel
theorem dX8_column_84 : decode cX8_column 84 = .ok (.iload 10, 2) := by decide +kernel
theorem dX8_column_86 : decode cX8_column 86 = .ok (.invokestatic 204, 3) := by decide +kernel
theorem dX8_column_89 : decode cX8_column 89 = .ok (.istore 7, 2) := by decide +kernel
theorem dX8_column_91 : decode cX8_column 91 = .ok (.iload 8, 2) := by decide +kernel
theorem dX8_column_93 : decode cX8_column 93 = .ok (.iload 10, 2) := by decide +kernel
theorem dX8_column_95 : decode cX8_column 95 = .ok (.invokestatic 210, 3) := by decide +kernel
theorem dX8_column_98 : decode cX8_column 98 = .ok (.istore 8, 2) := by decide +kernel
theorem dX8_column_100 : decode cX8_column 100 = .ok (.iinc 5 1, 3) := by decide +kernel
theorem dX8_column_103 : decode cX8_column 103 = .ok (.iload 6, 2) := by decide +kernel
theorem dX8_column_105 : decode cX8_column 105 = .ok (.iload 10, 2) := by decide +kernel
theorem dX8_column_107 : decode cX8_column 107 = .ok (.iadd, 1) := by decide +kernel
theorem dX8_column_108 : decode cX8_column 108 = .ok (.istore 6, 2) := by decide +kernel
theorem dX8_column_110 : decode cX8_column 110 = .ok (.iinc 9 1, 3) := by decide +kernel
theorem dX8_column_113 : decode cX8_column 113 = .ok (.goto (-71), 3) := by decide +kernel
theorem dX8_column_116 : decode cX8_column 116 = .ok (.iload_n 3, 1) := by decide +kernel
theorem dX8_column_117 : decode cX8_column 117 = .ok (.tableswitch 64 0 5 #[39, 42, 48, 51, 54, 57], 39) := by decide +kernel
theorem dX8_column_156 : decode cX8_column 156 = .ok (.iload 5, 2) := by decide +kernel
theorem dX8_column_158 : decode cX8_column 158 = .ok (.ireturn, 1) := by decide +kernel
theorem dX8_column_159 : decode cX8_column 159 = .ok (.iload 4, 2) := by decide +kernel
theorem dX8_column_161 : decode cX8_column 161 = .ok (.iload 5, 2) := by decide +kernel
theorem dX8_column_163 : decode cX8_column 163 = .ok (.isub, 1) := by decide +kernel
theorem dX8_column_164 : decode cX8_column 164 = .ok (.ireturn, 1) := by decide +kernel
theorem dX8_column_165 : decode cX8_column 165 = .ok (.iload 6, 2) := by decide +kernel
theorem dX8_column_167 : decode cX8_column 167 = .ok (.ireturn, 1) := by decide +kernel
theorem dX8_column_168 : decode cX8_column 168 = .ok (.iload 7, 2) := by decide +kernel
theorem dX8_column_170 : decode cX8_column 170 = .ok (.ireturn, 1) := by decide +kernel
theorem dX8_column_171 : decode cX8_column 171 = .ok (.iload 8, 2) := by decide +kernel
theorem dX8_column_173 : decode cX8_column 173 = .ok (.ireturn, 1) := by decide +kernel
theorem dX8_column_174 : decode cX8_column 174 = .ok (.aload_n 0, 1) := by decide +kernel
theorem dX8_column_175 : decode cX8_column 175 = .ok (.iload_n 1, 1) := by decide +kernel
theorem dX8_column_176 : decode cX8_column 176 = .ok (.iload_n 2, 1) := by decide +kernel
theorem dX8_column_177 : decode cX8_column 177 = .ok (.invokevirtual 213, 3) := by decide +kernel
theorem dX8_column_180 : decode cX8_column 180 = .ok (.ireturn, 1) := by decide +kernel
theorem dX8_column_181 : decode cX8_column 181 = .ok (.iload 5, 2) := by decide +kernel
theorem dX8_column_183 : decode cX8_column 183 = .ok (.ifCond .ne 8, 3) := by decide +kernel
theorem dX8_column_186 : decode cX8_column 186 = .ok (.bipush (-2), 2) := by decide +kernel
theorem dX8_column_188 : decode cX8_column 188 = .ok (.goto 8, 3) := by decide +kernel
theorem dX8_column_191 : decode cX8_column 191 = .ok (.iload 6, 2) := by decide +kernel
theorem dX8_column_193 : decode cX8_column 193 = .ok (.iload 5, 2) := by decide +kernel
theorem dX8_column_195 : decode cX8_column 195 = .ok (.idiv, 1) := by decide +kernel
theorem dX8_column_196 : decode cX8_column 196 = .ok (.ireturn, 1) := by decide +kernel
theorem dX8_group_0 : decode cX8_group 0 = .ok (.iload_n 1, 1) := by decide +kernel
theorem dX8_group_1 : decode cX8_group 1 = .ok (.invokestatic 70, 3) := by decide +kernel
theorem dX8_group_4 : decode cX8_group 4 = .ok (.iload_n 2, 1) := by decide +kernel
theorem dX8_group_5 : decode cX8_group 5 = .ok (.invokestatic 113, 3) := by decide +kernel
theorem dX8_group_8 : decode cX8_group 8 = .ok (.iload_n 3, 1) := by decide +kernel
theorem dX8_group_9 : decode cX8_group 9 = .ok (.ifCond .ge 13, 3) := by decide +kernel
theorem dX8_group_12 : decode cX8_group 12 = .ok (.new 134, 3) := by decide +kernel
theorem dX8_group_15 : decode cX8_group 15 = .ok (.dup, 1) := by decide +kernel
theorem dX8_group_16 : decode cX8_group 16 = .ok (.ldc 216, 2) := by decide +kernel
theorem dX8_group_18 : decode cX8_group 18 = .ok (.invokespecial 138, 3) := by decide +kernel
theorem dX8_group_21 : decode cX8_group 21 = .ok (.athrow, 1) := by decide +kernel
theorem dX8_group_22 : decode cX8_group 22 = .ok (.iload 4, 2) := by decide +kernel
theorem dX8_group_24 : decode cX8_group 24 = .ok (.bipush 7, 2) := by decide +kernel
theorem dX8_group_26 : decode cX8_group 26 = .ok (.invokestatic 154, 3) := by decide +kernel
theorem dX8_group_29 : decode cX8_group 29 = .ok (.iconst 0, 1) := by decide +kernel
theorem dX8_group_30 : decode cX8_group 30 = .ok (.istore 5, 2) := by decide +kernel
theorem dX8_group_32 : decode cX8_group 32 = .ok (.iconst (-1), 1) := by decide +kernel
theorem dX8_group_33 : decode cX8_group 33 = .ok (.istore 6, 2) := by decide +kernel
theorem dX8_group_35 : decode cX8_group 35 = .ok (.iload 6, 2) := by decide +kernel
theorem dX8_group_37 : decode cX8_group 37 = .ok (.bipush 100, 2) := by decide +kernel
theorem dX8_group_39 : decode cX8_group 39 = .ok (.if_icmp .ge 45, 3) := by decide +kernel
theorem dX8_group_42 : decode cX8_group 42 = .ok (.aload_n 0, 1) := by decide +kernel
theorem dX8_group_43 : decode cX8_group 43 = .ok (.iload_n 1, 1) := by decide +kernel
theorem dX8_group_44 : decode cX8_group 44 = .ok (.iload_n 2, 1) := by decide +kernel
theorem dX8_group_45 : decode cX8_group 45 = .ok (.iload 6, 2) := by decide +kernel
theorem dX8_group_47 : decode cX8_group 47 = .ok (.invokevirtual 218, 3) := by decide +kernel
theorem dX8_group_50 : decode cX8_group 50 = .ok (.istore 7, 2) := by decide +kernel
theorem dX8_group_52 : decode cX8_group 52 = .ok (.iload 7, 2) := by decide +kernel
theorem dX8_group_54 : decode cX8_group 54 = .ok (.ifCond .eq 24, 3) := by decide +kernel
theorem dX8_group_57 : decode cX8_group 57 = .ok (.iload 5, 2) := by decide +kernel
theorem dX8_group_59 : decode cX8_group 59 = .ok (.iload_n 3, 1) := by decide +kernel
theorem dX8_group_60 : decode cX8_group 60 = .ok (.if_icmp .ne 15, 3) := by decide +kernel
theorem dX8_group_63 : decode cX8_group 63 = .ok (.aload_n 0, 1) := by decide +kernel
theorem dX8_group_64 : decode cX8_group 64 = .ok (.iload_n 1, 1) := by decide +kernel
theorem dX8_group_65 : decode cX8_group 65 = .ok (.iload 7, 2) := by decide +kernel
theorem dX8_group_67 : decode cX8_group 67 = .ok (.iload 6, 2) := by decide +kernel
theorem dX8_group_69 : decode cX8_group 69 = .ok (.iload 4, 2) := by decide +kernel
theorem dX8_group_71 : decode cX8_group 71 = .ok (.invokevirtual 221, 3) := by decide +kernel
theorem dX8_group_74 : decode cX8_group 74 = .ok (.ireturn, 1) := by decide +kernel
theorem dX8_group_75 : decode cX8_group 75 = .ok (.iinc 5 1, 3) := by decide +kernel
theorem dX8_group_78 : decode cX8_group 78 = .ok (.iinc 6 1, 3) := by decide +kernel
theorem dX8_group_81 : decode cX8_group 81 = .ok (.goto (-46), 3) := by decide +kernel
theorem dX8_group_84 : decode cX8_group 84 = .ok (.bipush (-2), 2) := by decide +kernel
theorem dX8_group_86 : decode cX8_group 86 = .ok (.ireturn, 1) := by decide +kernel
theorem dX8_truth_0 : decode cX8_truth 0 = .ok (.aload_n 0, 1) := by decide +kernel
theorem dX8_truth_1 : decode cX8_truth 1 = .ok (.iload_n 1, 1) := by decide +kernel
theorem dX8_truth_2 : decode cX8_truth 2 = .ok (.iload_n 2, 1) := by decide +kernel
theorem dX8_truth_3 : decode cX8_truth 3 = .ok (.invokevirtual 109, 3) := by decide +kernel
theorem dX8_truth_6 : decode cX8_truth 6 = .ok (.iload_n 3, 1) := by decide +kernel
theorem dX8_truth_7 : decode cX8_truth 7 = .ok (.invokestatic 123, 3) := by decide +kernel
theorem dX8_truth_10 : decode cX8_truth 10 = .ok (.aload_n 0, 1) := by decide +kernel
theorem dX8_truth_11 : decode cX8_truth 11 = .ok (.getfield 10, 3) := by decide +kernel
theorem dX8_truth_14 : decode cX8_truth 14 = .ok (.getfield 148, 3) := by decide +kernel
theorem dX8_truth_17 : decode cX8_truth 17 = .ok (.iload_n 3, 1) := by decide +kernel
theorem dX8_truth_18 : decode cX8_truth 18 = .ok (.aaload, 1) := by decide +kernel
theorem dX8_truth_19 : decode cX8_truth 19 = .ok (.astore 4, 2) := by decide +kernel
theorem dX8_truth_21 : decode cX8_truth 21 = .ok (.aload 4, 2) := by decide +kernel
theorem dX8_truth_23 : decode cX8_truth 23 = .ok (.ifnonnull 8, 3) := by decide +kernel
theorem dX8_truth_26 : decode cX8_truth 26 = .ok (.bipush (-2), 2) := by decide +kernel
theorem dX8_truth_28 : decode cX8_truth 28 = .ok (.goto 11, 3) := by decide +kernel
theorem dX8_truth_31 : decode cX8_truth 31 = .ok (.aload_n 0, 1) := by decide +kernel
theorem dX8_truth_32 : decode cX8_truth 32 = .ok (.iload_n 1, 1) := by decide +kernel
theorem dX8_truth_33 : decode cX8_truth 33 = .ok (.iload_n 2, 1) := by decide +kernel
theorem dX8_truth_34 : decode cX8_truth 34 = .ok (.aload 4, 2) := by decide +kernel
theorem dX8_truth_36 : decode cX8_truth 36 = .ok (.invokevirtual 225, 3) := by decide +kernel
theorem dX8_truth_39 : decode cX8_truth 39 = .ok (.ireturn, 1) := by decide +kernel
theorem dX8_rows_0 : decode cX8_rows 0 = .ok (.iload_n 1, 1) := by decide +kernel
theorem dX8_rows_1 : decode cX8_rows 1 = .ok (.invokestatic 70, 3) := by decide +kernel
theorem dX8_rows_4 : decode cX8_rows 4 = .ok (.iload_n 2, 1) := by decide +kernel
theorem dX8_rows_5 : decode cX8_rows 5 = .ok (.invokestatic 123, 3) := by decide +kernel
theorem dX8_rows_8 : decode cX8_rows 8 = .ok (.iload_n 3, 1) := by decide +kernel
theorem dX8_rows_9 : decode cX8_rows 9 = .ok (.iconst 2, 1) := by decide +kernel
theorem dX8_rows_10 : decode cX8_rows 10 = .ok (.invokestatic 154, 3) := by decide +kernel
theorem dX8_rows_13 : decode cX8_rows 13 = .ok (.iload 4, 2) := by decide +kernel
theorem dX8_rows_15 : decode cX8_rows 15 = .ok (.iconst 1, 1) := by decide +kernel
theorem dX8_rows_16 : decode cX8_rows 16 = .ok (.invokestatic 154, 3) := by decide +kernel
theorem dX8_rows_19 : decode cX8_rows 19 = .ok (.aload_n 0, 1) := by decide +kernel
theorem dX8_rows_20 : decode cX8_rows 20 = .ok (.getfield 10, 3) := by decide +kernel
theorem dX8_rows_23 : decode cX8_rows 23 = .ok (.getfield 148, 3) := by decide +kernel
theorem dX8_rows_26 : decode cX8_rows 26 = .ok (.iload_n 2, 1) := by decide +kernel
theorem dX8_rows_27 : decode cX8_rows 27 = .ok (.aaload, 1) := by decide +kernel
theorem dX8_rows_28 : decode cX8_rows 28 = .ok (.astore 5, 2) := by decide +kernel
theorem dX8_rows_30 : decode cX8_rows 30 = .ok (.aload 5, 2) := by decide +kernel
theorem dX8_rows_32 : decode cX8_rows 32 = .ok (.ifnonnull 6, 3) := by decide +kernel
theorem dX8_rows_35 : decode cX8_rows 35 = .ok (.bipush (-2), 2) := by decide +kernel
theorem dX8_rows_37 : decode cX8_rows 37 = .ok (.ireturn, 1) := by decide +kernel
theorem dX8_rows_38 : decode cX8_rows 38 = .ok (.iload 4, 2) := by decide +kernel
theorem dX8_rows_40 : decode cX8_rows 40 = .ok (.ifCond .ne 14, 3) := by decide +kernel
theorem dX8_rows_43 : decode cX8_rows 43 = .ok (.aload_n 0, 1) := by decide +kernel
theorem dX8_rows_44 : decode cX8_rows 44 = .ok (.iload_n 1, 1) := by decide +kernel
theorem dX8_rows_45 : decode cX8_rows 45 = .ok (.aload 5, 2) := by decide +kernel
theorem dX8_rows_47 : decode cX8_rows 47 = .ok (.iload_n 3, 1) := by decide +kernel
theorem dX8_rows_48 : decode cX8_rows 48 = .ok (.invokevirtual 176, 3) := by decide +kernel
theorem dX8_rows_51 : decode cX8_rows 51 = .ok (.goto 11, 3) := by decide +kernel
theorem dX8_rows_54 : decode cX8_rows 54 = .ok (.aload_n 0, 1) := by decide +kernel
theorem dX8_rows_55 : decode cX8_rows 55 = .ok (.iload_n 1, 1) := by decide +kernel
theorem dX8_rows_56 : decode cX8_rows 56 = .ok (.aload 5, 2) := by decide +kernel
theorem dX8_rows_58 : decode cX8_rows 58 = .ok (.iload_n 3, 1) := by decide +kernel
theorem dX8_rows_59 : decode cX8_rows 59 = .ok (.invokevirtual 229, 3) := by decide +kernel
theorem dX8_rows_62 : decode cX8_rows 62 = .ok (.ireturn, 1) := by decide +kernel
theorem dX8_filter_0 : decode cX8_filter 0 = .ok (.iload_n 1, 1) := by decide +kernel
theorem dX8_filter_1 : decode cX8_filter 1 = .ok (.invokestatic 123, 3) := by decide +kernel
theorem dX8_filter_4 : decode cX8_filter 4 = .ok (.iload_n 2, 1) := by decide +kernel
theorem dX8_filter_5 : decode cX8_filter 5 = .ok (.iconst 4, 1) := by decide +kernel
theorem dX8_filter_6 : decode cX8_filter 6 = .ok (.invokestatic 154, 3) := by decide +kernel
theorem dX8_filter_9 : decode cX8_filter 9 = .ok (.aload_n 0, 1) := by decide +kernel
theorem dX8_filter_10 : decode cX8_filter 10 = .ok (.getfield 10, 3) := by decide +kernel
theorem dX8_filter_13 : decode cX8_filter 13 = .ok (.getfield 148, 3) := by decide +kernel
theorem dX8_filter_16 : decode cX8_filter 16 = .ok (.iload_n 1, 1) := by decide +kernel
theorem dX8_filter_17 : decode cX8_filter 17 = .ok (.aaload, 1) := by decide +kernel
theorem dX8_filter_18 : decode cX8_filter 18 = .ok (.astore_n 3, 1) := by decide +kernel
theorem dX8_filter_19 : decode cX8_filter 19 = .ok (.aload_n 3, 1) := by decide +kernel
theorem dX8_filter_20 : decode cX8_filter 20 = .ok (.ifnonnull 6, 3) := by decide +kernel
theorem dX8_filter_23 : decode cX8_filter 23 = .ok (.bipush (-2), 2) := by decide +kernel
theorem dX8_filter_25 : decode cX8_filter 25 = .ok (.ireturn, 1) := by decide +kernel
theorem dX8_filter_26 : decode cX8_filter 26 = .ok (.iload_n 2, 1) := by decide +kernel
theorem dX8_filter_27 : decode cX8_filter 27 = .ok (.tableswitch 53 0 3 #[29, 34, 43, 48], 29) := by decide +kernel
theorem dX8_filter_56 : decode cX8_filter 56 = .ok (.aload_n 3, 1) := by decide +kernel
theorem dX8_filter_57 : decode cX8_filter 57 = .ok (.invokevirtual 151, 3) := by decide +kernel
theorem dX8_filter_60 : decode cX8_filter 60 = .ok (.ireturn, 1) := by decide +kernel
theorem dX8_filter_61 : decode cX8_filter 61 = .ok (.aload_n 0, 1) := by decide +kernel
theorem dX8_filter_62 : decode cX8_filter 62 = .ok (.getfield 45, 3) := by decide +kernel
theorem dX8_filter_65 : decode cX8_filter 65 = .ok (.aload_n 3, 1) := by decide +kernel
theorem dX8_filter_66 : decode cX8_filter 66 = .ok (.invokevirtual 232, 3) := by decide +kernel
theorem dX8_filter_69 : decode cX8_filter 69 = .ok (.ireturn, 1) := by decide +kernel
theorem dX8_filter_70 : decode cX8_filter 70 = .ok (.aload_n 3, 1) := by decide +kernel
theorem dX8_filter_71 : decode cX8_filter 71 = .ok (.invokevirtual 236, 3) := by decide +kernel
theorem dX8_filter_74 : decode cX8_filter 74 = .ok (.ireturn, 1) := by decide +kernel
theorem dX8_filter_75 : decode cX8_filter 75 = .ok (.aload_n 3, 1) := by decide +kernel
theorem dX8_filter_76 : decode cX8_filter 76 = .ok (.invokevirtual 239, 3) := by decide +kernel
theorem dX8_filter_79 : decode cX8_filter 79 = .ok (.ireturn, 1) := by decide +kernel
theorem dX8_filter_80 : decode cX8_filter 80 = .ok (.aload_n 0, 1) := by decide +kernel
theorem dX8_filter_81 : decode cX8_filter 81 = .ok (.getfield 66, 3) := by decide +kernel
theorem dX8_filter_84 : decode cX8_filter 84 = .ok (.aload_n 3, 1) := by decide +kernel
theorem dX8_filter_85 : decode cX8_filter 85 = .ok (.invokevirtual 242, 3) := by decide +kernel
theorem dX8_filter_88 : decode cX8_filter 88 = .ok (.aload_n 0, 1) := by decide +kernel
theorem dX8_filter_89 : decode cX8_filter 89 = .ok (.getfield 66, 3) := by decide +kernel
theorem dX8_filter_92 : decode cX8_filter 92 = .ok (.invokevirtual 246, 3) := by decide +kernel
theorem dX8_filter_95 : decode cX8_filter 95 = .ok (.ireturn, 1) := by decide +kernel
theorem dX8_letter_0 : decode cX8_letter 0 = .ok (.iload_n 1, 1) := by decide +kernel
theorem dX8_letter_1 : decode cX8_letter 1 = .ok (.invokestatic 123, 3) := by decide +kernel
theorem dX8_letter_4 : decode cX8_letter 4 = .ok (.iload_n 2, 1) := by decide +kernel
theorem dX8_letter_5 : decode cX8_letter 5 = .ok (.ifCond .ge 13, 3) := by decide +kernel
theorem dX8_letter_8 : decode cX8_letter 8 = .ok (.new 134, 3) := by decide +kernel
theorem dX8_letter_11 : decode cX8_letter 11 = .ok (.dup, 1) := by decide +kernel
theorem dX8_letter_12 : decode cX8_letter 12 = .ok (.ldc 249, 2) := by decide +kernel
theorem dX8_letter_14 : decode cX8_letter 14 = .ok (.invokespecial 138, 3) := by decide +kernel
theorem dX8_letter_17 : decode cX8_letter 17 = .ok (.athrow, 1) := by decide +kernel
theorem dX8_letter_18 : decode cX8_letter 18 = .ok (.aload_n 0, 1) := by decide +kernel
theorem dX8_letter_19 : decode cX8_letter 19 = .ok (.getfield 10, 3) := by decide +kernel
theorem dX8_letter_22 : decode cX8_letter 22 = .ok (.getfield 148, 3) := by decide +kernel
theorem dX8_letter_25 : decode cX8_letter 25 = .ok (.iload_n 1, 1) := by decide +kernel
theorem dX8_letter_26 : decode cX8_letter 26 = .ok (.aaload, 1) := by decide +kernel
theorem dX8_letter_27 : decode cX8_letter 27 = .ok (.astore_n 3, 1) := by decide +kernel
theorem dX8_letter_28 : decode cX8_letter 28 = .ok (.aload_n 3, 1) := by decide +kernel
theorem dX8_letter_29 : decode cX8_letter 29 = .ok (.ifnonnull 6, 3) := by decide +kernel
theorem dX8_letter_32 : decode cX8_letter 32 = .ok (.bipush (-2), 2) := by decide +kernel
theorem dX8_letter_34 : decode cX8_letter 34 = .ok (.ireturn, 1) := by decide +kernel
theorem dX8_letter_35 : decode cX8_letter 35 = .ok (.aload_n 0, 1) := by decide +kernel
theorem dX8_letter_36 : decode cX8_letter 36 = .ok (.getfield 66, 3) := by decide +kernel
theorem dX8_letter_39 : decode cX8_letter 39 = .ok (.aload_n 3, 1) := by decide +kernel
theorem dX8_letter_40 : decode cX8_letter 40 = .ok (.invokevirtual 242, 3) := by decide +kernel
theorem dX8_letter_43 : decode cX8_letter 43 = .ok (.aload_n 0, 1) := by decide +kernel
theorem dX8_letter_44 : decode cX8_letter 44 = .ok (.getfield 66, 3) := by decide +kernel
theorem dX8_letter_47 : decode cX8_letter 47 = .ok (.iload_n 2, 1) := by decide +kernel
theorem dX8_letter_48 : decode cX8_letter 48 = .ok (.invokevirtual 251, 3) := by decide +kernel
theorem dX8_letter_51 : decode cX8_letter 51 = .ok (.ireturn, 1) := by decide +kernel
theorem dX8_compare_0 : decode cX8_compare 0 = .ok (.iload_n 1, 1) := by decide +kernel
theorem dX8_compare_1 : decode cX8_compare 1 = .ok (.invokestatic 70, 3) := by decide +kernel
theorem dX8_compare_4 : decode cX8_compare 4 = .ok (.iload_n 2, 1) := by decide +kernel
theorem dX8_compare_5 : decode cX8_compare 5 = .ok (.invokestatic 123, 3) := by decide +kernel
theorem dX8_compare_8 : decode cX8_compare 8 = .ok (.iload_n 3, 1) := by decide +kernel
theorem dX8_compare_9 : decode cX8_compare 9 = .ok (.invokestatic 123, 3) := by decide +kernel
theorem dX8_compare_12 : decode cX8_compare 12 = .ok (.iload 4, 2) := by decide +kernel
theorem dX8_compare_14 : decode cX8_compare 14 = .ok (.iconst 2, 1) := by decide +kernel
theorem dX8_compare_15 : decode cX8_compare 15 = .ok (.invokestatic 154, 3) := by decide +kernel
theorem dX8_compare_18 : decode cX8_compare 18 = .ok (.aload_n 0, 1) := by decide +kernel
theorem dX8_compare_19 : decode cX8_compare 19 = .ok (.getfield 10, 3) := by decide +kernel
theorem dX8_compare_22 : decode cX8_compare 22 = .ok (.getfield 148, 3) := by decide +kernel
theorem dX8_compare_25 : decode cX8_compare 25 = .ok (.iload_n 2, 1) := by decide +kernel
theorem dX8_compare_26 : decode cX8_compare 26 = .ok (.aaload, 1) := by decide +kernel
theorem dX8_compare_27 : decode cX8_compare 27 = .ok (.astore 5, 2) := by decide +kernel
theorem dX8_compare_29 : decode cX8_compare 29 = .ok (.aload_n 0, 1) := by decide +kernel
theorem dX8_compare_30 : decode cX8_compare 30 = .ok (.getfield 10, 3) := by decide +kernel
theorem dX8_compare_33 : decode cX8_compare 33 = .ok (.getfield 148, 3) := by decide +kernel
theorem dX8_compare_36 : decode cX8_compare 36 = .ok (.iload_n 3, 1) := by decide +kernel
theorem dX8_compare_37 : decode cX8_compare 37 = .ok (.aaload, 1) := by decide +kernel
theorem dX8_compare_38 : decode cX8_compare 38 = .ok (.astore 6, 2) := by decide +kernel
theorem dX8_compare_40 : decode cX8_compare 40 = .ok (.aload 5, 2) := by decide +kernel
theorem dX8_compare_42 : decode cX8_compare 42 = .ok (.ifnull 8, 3) := by decide +kernel
theorem dX8_compare_45 : decode cX8_compare 45 = .ok (.aload 6, 2) := by decide +kernel
theorem dX8_compare_47 : decode cX8_compare 47 = .ok (.ifnonnull 6, 3) := by decide +kernel
theorem dX8_compare_50 : decode cX8_compare 50 = .ok (.bipush (-2), 2) := by decide +kernel
theorem dX8_compare_52 : decode cX8_compare 52 = .ok (.ireturn, 1) := by decide +kernel
theorem dX8_compare_53 : decode cX8_compare 53 = .ok (.iconst 0, 1) := by decide +kernel
theorem dX8_compare_54 : decode cX8_compare 54 = .ok (.istore 7, 2) := by decide +kernel
theorem dX8_compare_56 : decode cX8_compare 56 = .ok (.iconst 0, 1) := by decide +kernel
theorem dX8_compare_57 : decode cX8_compare 57 = .ok (.istore 8, 2) := by decide +kernel
theorem dX8_compare_59 : decode cX8_compare 59 = .ok (.iload 8, 2) := by decide +kernel
theorem dX8_compare_61 : decode cX8_compare 61 = .ok (.aload_n 0, 1) := by decide +kernel
theorem dX8_compare_62 : decode cX8_compare 62 = .ok (.getfield 10, 3) := by decide +kernel
theorem dX8_compare_65 : decode cX8_compare 65 = .ok (.getfield 77, 3) := by decide +kernel
theorem dX8_compare_68 : decode cX8_compare 68 = .ok (.iload_n 1, 1) := by decide +kernel
theorem dX8_compare_69 : decode cX8_compare 69 = .ok (.iaload, 1) := by decide +kernel
theorem dX8_compare_70 : decode cX8_compare 70 = .ok (.if_icmp .ge 38, 3) := by decide +kernel
theorem dX8_compare_73 : decode cX8_compare 73 = .ok (.aload_n 0, 1) := by decide +kernel
theorem dX8_compare_74 : decode cX8_compare 74 = .ok (.iload_n 1, 1) := by decide +kernel
theorem dX8_compare_75 : decode cX8_compare 75 = .ok (.iload 8, 2) := by decide +kernel
theorem dX8_compare_77 : decode cX8_compare 77 = .ok (.aload 5, 2) := by decide +kernel
theorem dX8_compare_79 : decode cX8_compare 79 = .ok (.invokevirtual 225, 3) := by decide +kernel
theorem dX8_compare_82 : decode cX8_compare 82 = .ok (.aload_n 0, 1) := by decide +kernel
theorem dX8_compare_83 : decode cX8_compare 83 = .ok (.iload_n 1, 1) := by decide +kernel
theorem dX8_compare_84 : decode cX8_compare 84 = .ok (.iload 8, 2) := by decide +kernel
theorem dX8_compare_86 : decode cX8_compare 86 = .ok (.aload 6, 2) := by decide +kernel
theorem dX8_compare_88 : decode cX8_compare 88 = .ok (.invokevirtual 225, 3) := by decide +kernel
theorem dX8_compare_91 : decode cX8_compare 91 = .ok (.iload 4, 2) := by decide +kernel
theorem dX8_compare_93 : decode cX8_compare 93 = .ok (.invokestatic 254, 3) := by decide +kernel
theorem dX8_compare_96 : decode cX8_compare 96 = .ok (.ifCond .eq 6, 3) := by decide +kernel
theorem dX8_compare_99 : decode cX8_compare 99 = .ok (.iinc 7 1, 3) := by decide +kernel
theorem dX8_compare_102 : decode cX8_compare 102 = .ok (.iinc 8 1, 3) := by decide +kernel
theorem dX8_compare_105 : decode cX8_compare 105 = .ok (.goto (-46), 3) := by decide +kernel
theorem dX8_compare_108 : decode cX8_compare 108 = .ok (.iload 7, 2) := by decide +kernel
theorem dX8_compare_110 : decode cX8_compare 110 = .ok (.ireturn, 1) := by decide +kernel
theorem dX8_certain_0 : decode cX8_certain 0 = .ok (.aload_n 0, 1) := by decide +kernel
theorem dX8_certain_1 : decode cX8_certain 1 = .ok (.iload_n 1, 1) := by decide +kernel
theorem dX8_certain_2 : decode cX8_certain 2 = .ok (.iload_n 2, 1) := by decide +kernel
theorem dX8_certain_3 : decode cX8_certain 3 = .ok (.invokevirtual 109, 3) := by decide +kernel
theorem dX8_certain_6 : decode cX8_certain 6 = .ok (.iload_n 3, 1) := by decide +kernel
theorem dX8_certain_7 : decode cX8_certain 7 = .ok (.invokestatic 123, 3) := by decide +kernel
theorem dX8_certain_10 : decode cX8_certain 10 = .ok (.aload_n 0, 1) := by decide +kernel
theorem dX8_certain_11 : decode cX8_certain 11 = .ok (.getfield 10, 3) := by decide +kernel
theorem dX8_certain_14 : decode cX8_certain 14 = .ok (.getfield 148, 3) := by decide +kernel
theorem dX8_certain_17 : decode cX8_certain 17 = .ok (.iload_n 3, 1) := by decide +kernel
theorem dX8_certain_18 : decode cX8_certain 18 = .ok (.aaload, 1) := by decide +kernel
theorem dX8_certain_19 : decode cX8_certain 19 = .ok (.astore 4, 2) := by decide +kernel
theorem dX8_certain_21 : decode cX8_certain 21 = .ok (.aload 4, 2) := by decide +kernel
theorem dX8_certain_23 : decode cX8_certain 23 = .ok (.ifnonnull 6, 3) := by decide +kernel
theorem dX8_certain_26 : decode cX8_certain 26 = .ok (.bipush (-2), 2) := by decide +kernel
theorem dX8_certain_28 : decode cX8_certain 28 = .ok (.ireturn, 1) := by decide +kernel
theorem dX8_certain_29 : decode cX8_certain 29 = .ok (.aload_n 0, 1) := by decide +kernel
theorem dX8_certain_30 : decode cX8_certain 30 = .ok (.iload_n 1, 1) := by decide +kernel
theorem dX8_certain_31 : decode cX8_certain 31 = .ok (.iload_n 2, 1) := by decide +kernel
theorem dX8_certain_32 : decode cX8_certain 32 = .ok (.invokevirtual 258, 3) := by decide +kernel
theorem dX8_certain_35 : decode cX8_certain 35 = .ok (.aload_n 0, 1) := by decide +kernel
theorem dX8_certain_36 : decode cX8_certain 36 = .ok (.getfield 38, 3) := by decide +kernel
theorem dX8_certain_39 : decode cX8_certain 39 = .ok (.invokestatic 261, 3) := by decide +kernel
theorem dX8_certain_42 : decode cX8_certain 42 = .ok (.istore 5, 2) := by decide +kernel
theorem dX8_certain_44 : decode cX8_certain 44 = .ok (.iload 5, 2) := by decide +kernel
theorem dX8_certain_46 : decode cX8_certain 46 = .ok (.aload 4, 2) := by decide +kernel
theorem dX8_certain_48 : decode cX8_certain 48 = .ok (.invokevirtual 239, 3) := by decide +kernel
theorem dX8_certain_51 : decode cX8_certain 51 = .ok (.iand, 1) := by decide +kernel
theorem dX8_certain_52 : decode cX8_certain 52 = .ok (.istore 6, 2) := by decide +kernel
theorem dX8_certain_54 : decode cX8_certain 54 = .ok (.iload 6, 2) := by decide +kernel
theorem dX8_certain_56 : decode cX8_certain 56 = .ok (.invokestatic 179, 3) := by decide +kernel
theorem dX8_certain_59 : decode cX8_certain 59 = .ok (.iconst 2, 1) := by decide +kernel
theorem dX8_certain_60 : decode cX8_certain 60 = .ok (.if_icmp .le 6, 3) := by decide +kernel
theorem dX8_certain_63 : decode cX8_certain 63 = .ok (.bipush (-2), 2) := by decide +kernel
theorem dX8_certain_65 : decode cX8_certain 65 = .ok (.ireturn, 1) := by decide +kernel
theorem dX8_certain_66 : decode cX8_certain 66 = .ok (.aload_n 0, 1) := by decide +kernel
theorem dX8_certain_67 : decode cX8_certain 67 = .ok (.getfield 52, 3) := by decide +kernel
theorem dX8_certain_70 : decode cX8_certain 70 = .ok (.aload 4, 2) := by decide +kernel
theorem dX8_certain_72 : decode cX8_certain 72 = .ok (.aload_n 0, 1) := by decide +kernel
theorem dX8_certain_73 : decode cX8_certain 73 = .ok (.getfield 38, 3) := by decide +kernel
theorem dX8_certain_76 : decode cX8_certain 76 = .ok (.invokevirtual 265, 3) := by decide +kernel
theorem dX8_certain_79 : decode cX8_certain 79 = .ok (.aload_n 0, 1) := by decide +kernel
theorem dX8_certain_80 : decode cX8_certain 80 = .ok (.aload 4, 2) := by decide +kernel
theorem dX8_certain_82 : decode cX8_certain 82 = .ok (.iload 5, 2) := by decide +kernel
theorem dX8_certain_84 : decode cX8_certain 84 = .ok (.iload 6, 2) := by decide +kernel
theorem dX8_certain_86 : decode cX8_certain 86 = .ok (.invokevirtual 269, 3) := by decide +kernel
theorem dX8_certain_89 : decode cX8_certain 89 = .ok (.ireturn, 1) := by decide +kernel
theorem dX8_join_0 : decode cX8_join 0 = .ok (.iload_n 1, 1) := by decide +kernel
theorem dX8_join_1 : decode cX8_join 1 = .ok (.invokestatic 113, 3) := by decide +kernel
theorem dX8_join_4 : decode cX8_join 4 = .ok (.iload_n 2, 1) := by decide +kernel
theorem dX8_join_5 : decode cX8_join 5 = .ok (.invokestatic 113, 3) := by decide +kernel
theorem dX8_join_8 : decode cX8_join 8 = .ok (.iload_n 3, 1) := by decide +kernel
theorem dX8_join_9 : decode cX8_join 9 = .ok (.ifCond .ge 14, 3) := by decide +kernel
theorem dX8_join_12 : decode cX8_join 12 = .ok (.new 134, 3) := by decide +kernel
theorem dX8_join_15 : decode cX8_join 15 = .ok (.dup, 1) := by decide +kernel
theorem dX8_join_16 : decode cX8_join 16 = .ok (.ldc_w 273, 3) := by decide +kernel
theorem dX8_join_19 : decode cX8_join 19 = .ok (.invokespecial 138, 3) := by decide +kernel
theorem dX8_join_22 : decode cX8_join 22 = .ok (.athrow, 1) := by decide +kernel
theorem dX8_join_23 : decode cX8_join 23 = .ok (.iload_n 3, 1) := by decide +kernel
theorem dX8_join_24 : decode cX8_join 24 = .ok (.tableswitch 53 0 2 #[28, 35, 44], 28) := by decide +kernel
theorem dX8_join_52 : decode cX8_join 52 = .ok (.aload_n 0, 1) := by decide +kernel
theorem dX8_join_53 : decode cX8_join 53 = .ok (.iload_n 1, 1) := by decide +kernel
theorem dX8_join_54 : decode cX8_join 54 = .ok (.iload_n 2, 1) := by decide +kernel
theorem dX8_join_55 : decode cX8_join 55 = .ok (.invokevirtual 275, 3) := by decide +kernel
theorem dX8_join_58 : decode cX8_join 58 = .ok (.ireturn, 1) := by decide +kernel
theorem dX8_join_59 : decode cX8_join 59 = .ok (.aload_n 0, 1) := by decide +kernel
theorem dX8_join_60 : decode cX8_join 60 = .ok (.iconst 0, 1) := by decide +kernel
theorem dX8_join_61 : decode cX8_join 61 = .ok (.iload_n 1, 1) := by decide +kernel
theorem dX8_join_62 : decode cX8_join 62 = .ok (.iconst 1, 1) := by decide +kernel
theorem dX8_join_63 : decode cX8_join 63 = .ok (.iload_n 2, 1) := by decide +kernel
theorem dX8_join_64 : decode cX8_join 64 = .ok (.invokevirtual 278, 3) := by decide +kernel
theorem dX8_join_67 : decode cX8_join 67 = .ok (.ireturn, 1) := by decide +kernel
theorem dX8_join_68 : decode cX8_join 68 = .ok (.aload_n 0, 1) := by decide +kernel
theorem dX8_join_69 : decode cX8_join 69 = .ok (.iconst 1, 1) := by decide +kernel
theorem dX8_join_70 : decode cX8_join 70 = .ok (.iload_n 2, 1) := by decide +kernel
theorem dX8_join_71 : decode cX8_join 71 = .ok (.iconst 0, 1) := by decide +kernel
theorem dX8_join_72 : decode cX8_join 72 = .ok (.iload_n 1, 1) := by decide +kernel
theorem dX8_join_73 : decode cX8_join 73 = .ok (.invokevirtual 278, 3) := by decide +kernel
theorem dX8_join_76 : decode cX8_join 76 = .ok (.ireturn, 1) := by decide +kernel
theorem dX8_join_77 : decode cX8_join 77 = .ok (.aload_n 0, 1) := by decide +kernel
theorem dX8_join_78 : decode cX8_join 78 = .ok (.iload_n 1, 1) := by decide +kernel
theorem dX8_join_79 : decode cX8_join 79 = .ok (.iload_n 2, 1) := by decide +kernel
theorem dX8_join_80 : decode cX8_join 80 = .ok (.iload_n 3, 1) := by decide +kernel
theorem dX8_join_81 : decode cX8_join 81 = .ok (.iconst 3, 1) := by decide +kernel
theorem dX8_join_82 : decode cX8_join 82 = .ok (.isub, 1) := by decide +kernel
theorem dX8_join_83 : decode cX8_join 83 = .ok (.invokevirtual 281, 3) := by decide +kernel
theorem dX8_join_86 : decode cX8_join 86 = .ok (.ireturn, 1) := by decide +kernel
theorem dX8_among_0 : decode cX8_among 0 = .ok (.aload_n 0, 1) := by decide +kernel
theorem dX8_among_1 : decode cX8_among 1 = .ok (.iconst 0, 1) := by decide +kernel
theorem dX8_among_2 : decode cX8_among 2 = .ok (.iload_n 1, 1) := by decide +kernel
theorem dX8_among_3 : decode cX8_among 3 = .ok (.invokevirtual 109, 3) := by decide +kernel
theorem dX8_among_6 : decode cX8_among 6 = .ok (.iload_n 2, 1) := by decide +kernel
theorem dX8_among_7 : decode cX8_among 7 = .ok (.invokestatic 113, 3) := by decide +kernel
theorem dX8_among_10 : decode cX8_among 10 = .ok (.iload_n 3, 1) := by decide +kernel
theorem dX8_among_11 : decode cX8_among 11 = .ok (.invokestatic 113, 3) := by decide +kernel
theorem dX8_among_14 : decode cX8_among 14 = .ok (.aload_n 0, 1) := by decide +kernel
theorem dX8_among_15 : decode cX8_among 15 = .ok (.getfield 10, 3) := by decide +kernel
theorem dX8_among_18 : decode cX8_among 18 = .ok (.getfield 102, 3) := by decide +kernel
theorem dX8_among_21 : decode cX8_among 21 = .ok (.iconst 0, 1) := by decide +kernel
theorem dX8_among_22 : decode cX8_among 22 = .ok (.iload_n 1, 1) := by decide +kernel
theorem dX8_among_23 : decode cX8_among 23 = .ok (.iload_n 2, 1) := by decide +kernel
theorem dX8_among_24 : decode cX8_among 24 = .ok (.invokestatic 105, 3) := by decide +kernel
theorem dX8_among_27 : decode cX8_among 27 = .ok (.iaload, 1) := by decide +kernel
theorem dX8_among_28 : decode cX8_among 28 = .ok (.istore 4, 2) := by decide +kernel
theorem dX8_among_30 : decode cX8_among 30 = .ok (.iconst 0, 1) := by decide +kernel
theorem dX8_among_31 : decode cX8_among 31 = .ok (.istore 5, 2) := by decide +kernel
theorem dX8_among_33 : decode cX8_among 33 = .ok (.iconst 0, 1) := by decide +kernel
theorem dX8_among_34 : decode cX8_among 34 = .ok (.istore 6, 2) := by decide +kernel
theorem dX8_among_36 : decode cX8_among 36 = .ok (.iload 6, 2) := by decide +kernel
theorem dX8_among_38 : decode cX8_among 38 = .ok (.aload_n 0, 1) := by decide +kernel
theorem dX8_among_39 : decode cX8_among 39 = .ok (.getfield 10, 3) := by decide +kernel
theorem dX8_among_42 : decode cX8_among 42 = .ok (.getfield 77, 3) := by decide +kernel
theorem dX8_among_45 : decode cX8_among 45 = .ok (.iconst 1, 1) := by decide +kernel
theorem dX8_among_46 : decode cX8_among 46 = .ok (.iaload, 1) := by decide +kernel
theorem dX8_among_47 : decode cX8_among 47 = .ok (.if_icmp .ge 59, 3) := by decide +kernel
theorem dX8_among_50 : decode cX8_among 50 = .ok (.aload_n 0, 1) := by decide +kernel
theorem dX8_among_51 : decode cX8_among 51 = .ok (.getfield 10, 3) := by decide +kernel
theorem dX8_among_54 : decode cX8_among 54 = .ok (.getfield 102, 3) := by decide +kernel
theorem dX8_among_57 : decode cX8_among 57 = .ok (.iconst 1, 1) := by decide +kernel
theorem dX8_among_58 : decode cX8_among 58 = .ok (.iload 6, 2) := by decide +kernel
theorem dX8_among_60 : decode cX8_among 60 = .ok (.iload_n 3, 1) := by decide +kernel
theorem dX8_among_61 : decode cX8_among 61 = .ok (.invokestatic 105, 3) := by decide +kernel
theorem dX8_among_64 : decode cX8_among 64 = .ok (.iaload, 1) := by decide +kernel
theorem dX8_among_65 : decode cX8_among 65 = .ok (.istore 7, 2) := by decide +kernel
theorem dX8_among_67 : decode cX8_among 67 = .ok (.iload 4, 2) := by decide +kernel
theorem dX8_among_69 : decode cX8_among 69 = .ok (.iconst (-1), 1) := by decide +kernel
theorem dX8_among_70 : decode cX8_among 70 = .ok (.if_icmp .eq 9, 3) := by decide +kernel
theorem dX8_among_73 : decode cX8_among 73 = .ok (.iload 7, 2) := by decide +kernel
theorem dX8_among_75 : decode cX8_among 75 = .ok (.iconst (-1), 1) := by decide +kernel
theorem dX8_among_76 : decode cX8_among 76 = .ok (.if_icmp .ne 14, 3) := by decide +kernel
theorem dX8_among_79 : decode cX8_among 79 = .ok (.iload 5, 2) := by decide +kernel
theorem dX8_among_81 : decode cX8_among 81 = .ok (.iconst 1, 1) := by decide +kernel
theorem dX8_among_82 : decode cX8_among 82 = .ok (.invokestatic 210, 3) := by decide +kernel
theorem dX8_among_85 : decode cX8_among 85 = .ok (.istore 5, 2) := by decide +kernel
theorem dX8_among_87 : decode cX8_among 87 = .ok (.goto 13, 3) := by decide +kernel
theorem dX8_among_90 : decode cX8_among 90 = .ok (.iload 4, 2) := by decide +kernel
theorem dX8_among_92 : decode cX8_among 92 = .ok (.iload 7, 2) := by decide +kernel
theorem dX8_among_94 : decode cX8_among 94 = .ok (.if_icmp .ne 6, 3) := by decide +kernel
theorem dX8_among_97 : decode cX8_among 97 = .ok (.iconst 2, 1) := by decide +kernel
theorem dX8_among_98 : decode cX8_among 98 = .ok (.istore 5, 2) := by decide +kernel
theorem dX8_among_100 : decode cX8_among 100 = .ok (.iinc 6 1, 3) := by decide +kernel
theorem dX8_among_103 : decode cX8_among 103 = .ok (.goto (-67), 3) := by decide +kernel
theorem dX8_among_106 : decode cX8_among 106 = .ok (.iload 5, 2) := by decide +kernel
theorem dX8_among_108 : decode cX8_among 108 = .ok (.ireturn, 1) := by decide +kernel
theorem dX8_count_0 : decode cX8_count 0 = .ok (.iload_n 1, 1) := by decide +kernel
theorem dX8_count_1 : decode cX8_count 1 = .ok (.bipush 7, 2) := by decide +kernel
theorem dX8_count_3 : decode cX8_count 3 = .ok (.invokestatic 154, 3) := by decide +kernel
theorem dX8_count_6 : decode cX8_count 6 = .ok (.iload_n 1, 1) := by decide +kernel
theorem dX8_count_7 : decode cX8_count 7 = .ok (.tableswitch 89 0 6 #[41, 41, 51, 56, 56, 76, 84], 41) := by decide +kernel
theorem dX8_count_48 : decode cX8_count 48 = .ok (.aload_n 0, 1) := by decide +kernel
theorem dX8_count_49 : decode cX8_count 49 = .ok (.getfield 10, 3) := by decide +kernel
theorem dX8_count_52 : decode cX8_count 52 = .ok (.getfield 77, 3) := by decide +kernel
theorem dX8_count_55 : decode cX8_count 55 = .ok (.iload_n 1, 1) := by decide +kernel
theorem dX8_count_56 : decode cX8_count 56 = .ok (.iaload, 1) := by decide +kernel
theorem dX8_count_57 : decode cX8_count 57 = .ok (.ireturn, 1) := by decide +kernel
theorem dX8_count_58 : decode cX8_count 58 = .ok (.aload_n 0, 1) := by decide +kernel
theorem dX8_count_59 : decode cX8_count 59 = .ok (.invokevirtual 284, 3) := by decide +kernel
theorem dX8_count_62 : decode cX8_count 62 = .ok (.ireturn, 1) := by decide +kernel
theorem dX8_count_63 : decode cX8_count 63 = .ok (.aload_n 0, 1) := by decide +kernel
theorem dX8_count_64 : decode cX8_count 64 = .ok (.iload_n 1, 1) := by decide +kernel
theorem dX8_count_65 : decode cX8_count 65 = .ok (.iconst 3, 1) := by decide +kernel
theorem dX8_count_66 : decode cX8_count 66 = .ok (.isub, 1) := by decide +kernel
theorem dX8_count_67 : decode cX8_count 67 = .ok (.aload_n 0, 1) := by decide +kernel
theorem dX8_count_68 : decode cX8_count 68 = .ok (.getfield 10, 3) := by decide +kernel
theorem dX8_count_71 : decode cX8_count 71 = .ok (.getfield 90, 3) := by decide +kernel
theorem dX8_count_74 : decode cX8_count 74 = .ok (.iload_n 1, 1) := by decide +kernel
theorem dX8_count_75 : decode cX8_count 75 = .ok (.iconst 3, 1) := by decide +kernel
theorem dX8_count_76 : decode cX8_count 76 = .ok (.isub, 1) := by decide +kernel
theorem dX8_count_77 : decode cX8_count 77 = .ok (.aaload, 1) := by decide +kernel
theorem dX8_count_78 : decode cX8_count 78 = .ok (.iconst 1, 1) := by decide +kernel
theorem dX8_count_79 : decode cX8_count 79 = .ok (.invokevirtual 169, 3) := by decide +kernel
theorem dX8_count_82 : decode cX8_count 82 = .ok (.ireturn, 1) := by decide +kernel
theorem dX8_count_83 : decode cX8_count 83 = .ok (.aload_n 0, 1) := by decide +kernel
theorem dX8_count_84 : decode cX8_count 84 = .ok (.getfield 10, 3) := by decide +kernel
theorem dX8_count_87 : decode cX8_count 87 = .ok (.getfield 173, 3) := by decide +kernel
theorem dX8_count_90 : decode cX8_count 90 = .ok (.ireturn, 1) := by decide +kernel
theorem dX8_count_91 : decode cX8_count 91 = .ok (.aload_n 0, 1) := by decide +kernel
theorem dX8_count_92 : decode cX8_count 92 = .ok (.getfield 20, 3) := by decide +kernel
theorem dX8_count_95 : decode cX8_count 95 = .ok (.ireturn, 1) := by decide +kernel
theorem dX8_count_96 : decode cX8_count 96 = .ok (.aload_n 0, 1) := by decide +kernel
theorem dX8_count_97 : decode cX8_count 97 = .ok (.getfield 35, 3) := by decide +kernel
theorem dX8_count_100 : decode cX8_count 100 = .ok (.ireturn, 1) := by decide +kernel
theorem dX8_share_0 : decode cX8_share 0 = .ok (.iload_n 1, 1) := by decide +kernel
theorem dX8_share_1 : decode cX8_share 1 = .ok (.invokestatic 70, 3) := by decide +kernel
theorem dX8_share_4 : decode cX8_share 4 = .ok (.iload_n 2, 1) := by decide +kernel
theorem dX8_share_5 : decode cX8_share 5 = .ok (.invokestatic 123, 3) := by decide +kernel
theorem dX8_share_8 : decode cX8_share 8 = .ok (.aload_n 0, 1) := by decide +kernel
theorem dX8_share_9 : decode cX8_share 9 = .ok (.getfield 10, 3) := by decide +kernel
theorem dX8_share_12 : decode cX8_share 12 = .ok (.getfield 77, 3) := by decide +kernel
theorem dX8_share_15 : decode cX8_share 15 = .ok (.iload_n 1, 1) := by decide +kernel
theorem dX8_share_16 : decode cX8_share 16 = .ok (.iaload, 1) := by decide +kernel
theorem dX8_share_17 : decode cX8_share 17 = .ok (.istore_n 3, 1) := by decide +kernel
theorem dX8_share_18 : decode cX8_share 18 = .ok (.iload_n 3, 1) := by decide +kernel
theorem dX8_share_19 : decode cX8_share 19 = .ok (.ifCond .ne 5, 3) := by decide +kernel
theorem dX8_share_22 : decode cX8_share 22 = .ok (.dconst 0, 1) := by decide +kernel
theorem dX8_share_23 : decode cX8_share 23 = .ok (.dreturn, 1) := by decide +kernel
theorem dX8_share_24 : decode cX8_share 24 = .ok (.aload_n 0, 1) := by decide +kernel
theorem dX8_share_25 : decode cX8_share 25 = .ok (.iload_n 1, 1) := by decide +kernel
theorem dX8_share_26 : decode cX8_share 26 = .ok (.aload_n 0, 1) := by decide +kernel
theorem dX8_share_27 : decode cX8_share 27 = .ok (.getfield 10, 3) := by decide +kernel
theorem dX8_share_30 : decode cX8_share 30 = .ok (.getfield 148, 3) := by decide +kernel
theorem dX8_share_33 : decode cX8_share 33 = .ok (.iload_n 2, 1) := by decide +kernel
theorem dX8_share_34 : decode cX8_share 34 = .ok (.aaload, 1) := by decide +kernel
theorem dX8_share_35 : decode cX8_share 35 = .ok (.iconst 2, 1) := by decide +kernel
theorem dX8_share_36 : decode cX8_share 36 = .ok (.invokevirtual 169, 3) := by decide +kernel
theorem dX8_share_39 : decode cX8_share 39 = .ok (.i2d, 1) := by decide +kernel
theorem dX8_share_40 : decode cX8_share 40 = .ok (.iload_n 3, 1) := by decide +kernel
theorem dX8_share_41 : decode cX8_share 41 = .ok (.i2d, 1) := by decide +kernel
theorem dX8_share_42 : decode cX8_share 42 = .ok (.ddiv, 1) := by decide +kernel
theorem dX8_share_43 : decode cX8_share 43 = .ok (.dreturn, 1) := by decide +kernel
theorem dX8_requireTable_0 : decode cX8_requireTable 0 = .ok (.iload_n 0, 1) := by decide +kernel
theorem dX8_requireTable_1 : decode cX8_requireTable 1 = .ok (.ifCond .lt 8, 3) := by decide +kernel
theorem dX8_requireTable_4 : decode cX8_requireTable 4 = .ok (.iload_n 0, 1) := by decide +kernel
theorem dX8_requireTable_5 : decode cX8_requireTable 5 = .ok (.iconst 2, 1) := by decide +kernel
theorem dX8_requireTable_6 : decode cX8_requireTable 6 = .ok (.if_icmp .lt 14, 3) := by decide +kernel
theorem dX8_requireTable_9 : decode cX8_requireTable 9 = .ok (.new 287, 3) := by decide +kernel
theorem dX8_requireTable_12 : decode cX8_requireTable 12 = .ok (.dup, 1) := by decide +kernel
theorem dX8_requireTable_13 : decode cX8_requireTable 13 = .ok (.ldc_w 289, 3) := by decide +kernel
theorem dX8_requireTable_16 : decode cX8_requireTable 16 = .ok (.invokespecial 291, 3) := by decide +kernel
theorem dX8_requireTable_19 : decode cX8_requireTable 19 = .ok (.athrow, 1) := by decide +kernel
theorem dX8_requireTable_20 : decode cX8_requireTable 20 = .ok (.return_, 1) := by decide +kernel
theorem dX8_requireRow_0 : decode cX8_requireRow 0 = .ok (.iload_n 1, 1) := by decide +kernel
theorem dX8_requireRow_1 : decode cX8_requireRow 1 = .ok (.invokestatic 70, 3) := by decide +kernel
theorem dX8_requireRow_4 : decode cX8_requireRow 4 = .ok (.iload_n 2, 1) := by decide +kernel
theorem dX8_requireRow_5 : decode cX8_requireRow 5 = .ok (.ifCond .lt 16, 3) := by decide +kernel
theorem dX8_requireRow_8 : decode cX8_requireRow 8 = .ok (.iload_n 2, 1) := by decide +kernel
theorem dX8_requireRow_9 : decode cX8_requireRow 9 = .ok (.aload_n 0, 1) := by decide +kernel
theorem dX8_requireRow_10 : decode cX8_requireRow 10 = .ok (.getfield 10, 3) := by decide +kernel
theorem dX8_requireRow_13 : decode cX8_requireRow 13 = .ok (.getfield 77, 3) := by decide +kernel
theorem dX8_requireRow_16 : decode cX8_requireRow 16 = .ok (.iload_n 1, 1) := by decide +kernel
theorem dX8_requireRow_17 : decode cX8_requireRow 17 = .ok (.iaload, 1) := by decide +kernel
theorem dX8_requireRow_18 : decode cX8_requireRow 18 = .ok (.if_icmp .lt 14, 3) := by decide +kernel
theorem dX8_requireRow_21 : decode cX8_requireRow 21 = .ok (.new 287, 3) := by decide +kernel
theorem dX8_requireRow_24 : decode cX8_requireRow 24 = .ok (.dup, 1) := by decide +kernel
theorem dX8_requireRow_25 : decode cX8_requireRow 25 = .ok (.ldc_w 292, 3) := by decide +kernel
theorem dX8_requireRow_28 : decode cX8_requireRow 28 = .ok (.invokespecial 291, 3) := by decide +kernel
theorem dX8_requireRow_31 : decode cX8_requireRow 31 = .ok (.athrow, 1) := by decide +kernel
theorem dX8_requireRow_32 : decode cX8_requireRow 32 = .ok (.return_, 1) := by decide +kernel
theorem dX8_requireColumn_0 : decode cX8_requireColumn 0 = .ok (.iload_n 0, 1) := by decide +kernel
theorem dX8_requireColumn_1 : decode cX8_requireColumn 1 = .ok (.ifCond .lt 8, 3) := by decide +kernel
theorem dX8_requireColumn_4 : decode cX8_requireColumn 4 = .ok (.iload_n 0, 1) := by decide +kernel
theorem dX8_requireColumn_5 : decode cX8_requireColumn 5 = .ok (.iconst 4, 1) := by decide +kernel
theorem dX8_requireColumn_6 : decode cX8_requireColumn 6 = .ok (.if_icmp .lt 14, 3) := by decide +kernel
theorem dX8_requireColumn_9 : decode cX8_requireColumn 9 = .ok (.new 287, 3) := by decide +kernel
theorem dX8_requireColumn_12 : decode cX8_requireColumn 12 = .ok (.dup, 1) := by decide +kernel
theorem dX8_requireColumn_13 : decode cX8_requireColumn 13 = .ok (.ldc_w 294, 3) := by decide +kernel
theorem dX8_requireColumn_16 : decode cX8_requireColumn 16 = .ok (.invokespecial 291, 3) := by decide +kernel
theorem dX8_requireColumn_19 : decode cX8_requireColumn 19 = .ok (.athrow, 1) := by decide +kernel
theorem dX8_requireColumn_20 : decode cX8_requireColumn 20 = .ok (.return_, 1) := by decide +kernel
theorem dX8_requireSlot_0 : decode cX8_requireSlot 0 = .ok (.iload_n 0, 1) := by decide +kernel
theorem dX8_requireSlot_1 : decode cX8_requireSlot 1 = .ok (.ifCond .lt 9, 3) := by decide +kernel
theorem dX8_requireSlot_4 : decode cX8_requireSlot 4 = .ok (.iload_n 0, 1) := by decide +kernel
theorem dX8_requireSlot_5 : decode cX8_requireSlot 5 = .ok (.bipush 6, 2) := by decide +kernel
theorem dX8_requireSlot_7 : decode cX8_requireSlot 7 = .ok (.if_icmp .lt 14, 3) := by decide +kernel
theorem dX8_requireSlot_10 : decode cX8_requireSlot 10 = .ok (.new 287, 3) := by decide +kernel
theorem dX8_requireSlot_13 : decode cX8_requireSlot 13 = .ok (.dup, 1) := by decide +kernel
theorem dX8_requireSlot_14 : decode cX8_requireSlot 14 = .ok (.ldc_w 296, 3) := by decide +kernel
theorem dX8_requireSlot_17 : decode cX8_requireSlot 17 = .ok (.invokespecial 291, 3) := by decide +kernel
theorem dX8_requireSlot_20 : decode cX8_requireSlot 20 = .ok (.athrow, 1) := by decide +kernel
theorem dX8_requireSlot_21 : decode cX8_requireSlot 21 = .ok (.return_, 1) := by decide +kernel
theorem dX8_requireCellValue_0 : decode cX8_requireCellValue 0 = .ok (.iload_n 0, 1) := by decide +kernel
theorem dX8_requireCellValue_1 : decode cX8_requireCellValue 1 = .ok (.iconst (-1), 1) := by decide +kernel
theorem dX8_requireCellValue_2 : decode cX8_requireCellValue 2 = .ok (.if_icmp .eq 24, 3) := by decide +kernel
theorem dX8_requireCellValue_5 : decode cX8_requireCellValue 5 = .ok (.iload_n 0, 1) := by decide +kernel
theorem dX8_requireCellValue_6 : decode cX8_requireCellValue 6 = .ok (.ifCond .lt 9, 3) := by decide +kernel
theorem dX8_requireCellValue_9 : decode cX8_requireCellValue 9 = .ok (.iload_n 0, 1) := by decide +kernel
theorem dX8_requireCellValue_10 : decode cX8_requireCellValue 10 = .ok (.bipush 100, 2) := by decide +kernel
theorem dX8_requireCellValue_12 : decode cX8_requireCellValue 12 = .ok (.if_icmp .lt 14, 3) := by decide +kernel
theorem dX8_requireCellValue_15 : decode cX8_requireCellValue 15 = .ok (.new 134, 3) := by decide +kernel
theorem dX8_requireCellValue_18 : decode cX8_requireCellValue 18 = .ok (.dup, 1) := by decide +kernel
theorem dX8_requireCellValue_19 : decode cX8_requireCellValue 19 = .ok (.ldc_w 298, 3) := by decide +kernel
theorem dX8_requireCellValue_22 : decode cX8_requireCellValue 22 = .ok (.invokespecial 138, 3) := by decide +kernel
theorem dX8_requireCellValue_25 : decode cX8_requireCellValue 25 = .ok (.athrow, 1) := by decide +kernel
theorem dX8_requireCellValue_26 : decode cX8_requireCellValue 26 = .ok (.return_, 1) := by decide +kernel
theorem dX8_requireRange_0 : decode cX8_requireRange 0 = .ok (.iload_n 0, 1) := by decide +kernel
theorem dX8_requireRange_1 : decode cX8_requireRange 1 = .ok (.ifCond .lt 8, 3) := by decide +kernel
theorem dX8_requireRange_4 : decode cX8_requireRange 4 = .ok (.iload_n 0, 1) := by decide +kernel
theorem dX8_requireRange_5 : decode cX8_requireRange 5 = .ok (.iload_n 1, 1) := by decide +kernel
theorem dX8_requireRange_6 : decode cX8_requireRange 6 = .ok (.if_icmp .le 14, 3) := by decide +kernel
theorem dX8_requireRange_9 : decode cX8_requireRange 9 = .ok (.new 134, 3) := by decide +kernel
theorem dX8_requireRange_12 : decode cX8_requireRange 12 = .ok (.dup, 1) := by decide +kernel
theorem dX8_requireRange_13 : decode cX8_requireRange 13 = .ok (.ldc_w 300, 3) := by decide +kernel
theorem dX8_requireRange_16 : decode cX8_requireRange 16 = .ok (.invokespecial 138, 3) := by decide +kernel
theorem dX8_requireRange_19 : decode cX8_requireRange 19 = .ok (.athrow, 1) := by decide +kernel
theorem dX8_requireRange_20 : decode cX8_requireRange 20 = .ok (.return_, 1) := by decide +kernel
theorem dX8_filledSlot_0 : decode cX8_filledSlot 0 = .ok (.aload_n 0, 1) := by decide +kernel
theorem dX8_filledSlot_1 : decode cX8_filledSlot 1 = .ok (.getfield 10, 3) := by decide +kernel
theorem dX8_filledSlot_4 : decode cX8_filledSlot 4 = .ok (.getfield 148, 3) := by decide +kernel
theorem dX8_filledSlot_7 : decode cX8_filledSlot 7 = .ok (.iload_n 1, 1) := by decide +kernel
theorem dX8_filledSlot_8 : decode cX8_filledSlot 8 = .ok (.aaload, 1) := by decide +kernel
theorem dX8_filledSlot_9 : decode cX8_filledSlot 9 = .ok (.astore_n 2, 1) := by decide +kernel
theorem dX8_filledSlot_10 : decode cX8_filledSlot 10 = .ok (.aload_n 2, 1) := by decide +kernel
theorem dX8_filledSlot_11 : decode cX8_filledSlot 11 = .ok (.ifnonnull 14, 3) := by decide +kernel
theorem dX8_filledSlot_14 : decode cX8_filledSlot 14 = .ok (.new 80, 3) := by decide +kernel
theorem dX8_filledSlot_17 : decode cX8_filledSlot 17 = .ok (.dup, 1) := by decide +kernel
theorem dX8_filledSlot_18 : decode cX8_filledSlot 18 = .ok (.ldc_w 302, 3) := by decide +kernel
theorem dX8_filledSlot_21 : decode cX8_filledSlot 21 = .ok (.invokespecial 84, 3) := by decide +kernel
theorem dX8_filledSlot_24 : decode cX8_filledSlot 24 = .ok (.athrow, 1) := by decide +kernel
theorem dX8_filledSlot_25 : decode cX8_filledSlot 25 = .ok (.aload_n 2, 1) := by decide +kernel
theorem dX8_filledSlot_26 : decode cX8_filledSlot 26 = .ok (.areturn, 1) := by decide +kernel
theorem dX8_save_0 : decode cX8_save 0 = .ok (.aload_n 0, 1) := by decide +kernel
theorem dX8_save_1 : decode cX8_save 1 = .ok (.getfield 20, 3) := by decide +kernel
theorem dX8_save_4 : decode cX8_save 4 = .ok (.bipush 6, 2) := by decide +kernel
theorem dX8_save_6 : decode cX8_save 6 = .ok (.if_icmp .lt 50, 3) := by decide +kernel
theorem dX8_save_9 : decode cX8_save 9 = .ok (.aload_n 0, 1) := by decide +kernel
theorem dX8_save_10 : decode cX8_save 10 = .ok (.getfield 16, 3) := by decide +kernel
theorem dX8_save_13 : decode cX8_save 13 = .ok (.iconst 0, 1) := by decide +kernel
theorem dX8_save_14 : decode cX8_save 14 = .ok (.aaload, 1) := by decide +kernel
theorem dX8_save_15 : decode cX8_save 15 = .ok (.astore_n 1, 1) := by decide +kernel
theorem dX8_save_16 : decode cX8_save 16 = .ok (.iconst 1, 1) := by decide +kernel
theorem dX8_save_17 : decode cX8_save 17 = .ok (.istore_n 2, 1) := by decide +kernel
theorem dX8_save_18 : decode cX8_save 18 = .ok (.iload_n 2, 1) := by decide +kernel
theorem dX8_save_19 : decode cX8_save 19 = .ok (.bipush 6, 2) := by decide +kernel
theorem dX8_save_21 : decode cX8_save 21 = .ok (.if_icmp .ge 23, 3) := by decide +kernel
theorem dX8_save_24 : decode cX8_save 24 = .ok (.aload_n 0, 1) := by decide +kernel
theorem dX8_save_25 : decode cX8_save 25 = .ok (.getfield 16, 3) := by decide +kernel
theorem dX8_save_28 : decode cX8_save 28 = .ok (.iload_n 2, 1) := by decide +kernel
theorem dX8_save_29 : decode cX8_save 29 = .ok (.iconst 1, 1) := by decide +kernel
theorem dX8_save_30 : decode cX8_save 30 = .ok (.isub, 1) := by decide +kernel
theorem dX8_save_31 : decode cX8_save 31 = .ok (.aload_n 0, 1) := by decide +kernel
theorem dX8_save_32 : decode cX8_save 32 = .ok (.getfield 16, 3) := by decide +kernel
theorem dX8_save_35 : decode cX8_save 35 = .ok (.iload_n 2, 1) := by decide +kernel
theorem dX8_save_36 : decode cX8_save 36 = .ok (.aaload, 1) := by decide +kernel
theorem dX8_save_37 : decode cX8_save 37 = .ok (.aastore, 1) := by decide +kernel
theorem dX8_save_38 : decode cX8_save 38 = .ok (.iinc 2 1, 3) := by decide +kernel
theorem dX8_save_41 : decode cX8_save 41 = .ok (.goto (-23), 3) := by decide +kernel
theorem dX8_save_44 : decode cX8_save 44 = .ok (.aload_n 0, 1) := by decide +kernel
theorem dX8_save_45 : decode cX8_save 45 = .ok (.getfield 16, 3) := by decide +kernel
theorem dX8_save_48 : decode cX8_save 48 = .ok (.iconst 5, 1) := by decide +kernel
theorem dX8_save_49 : decode cX8_save 49 = .ok (.aload_n 1, 1) := by decide +kernel
theorem dX8_save_50 : decode cX8_save 50 = .ok (.aastore, 1) := by decide +kernel
theorem dX8_save_51 : decode cX8_save 51 = .ok (.aload_n 0, 1) := by decide +kernel
theorem dX8_save_52 : decode cX8_save 52 = .ok (.iconst 5, 1) := by decide +kernel
theorem dX8_save_53 : decode cX8_save 53 = .ok (.putfield 20, 3) := by decide +kernel
theorem dX8_save_56 : decode cX8_save 56 = .ok (.aload_n 0, 1) := by decide +kernel
theorem dX8_save_57 : decode cX8_save 57 = .ok (.getfield 10, 3) := by decide +kernel
theorem dX8_save_60 : decode cX8_save 60 = .ok (.aload_n 0, 1) := by decide +kernel
theorem dX8_save_61 : decode cX8_save 61 = .ok (.getfield 16, 3) := by decide +kernel
theorem dX8_save_64 : decode cX8_save 64 = .ok (.aload_n 0, 1) := by decide +kernel
theorem dX8_save_65 : decode cX8_save 65 = .ok (.getfield 20, 3) := by decide +kernel
theorem dX8_save_68 : decode cX8_save 68 = .ok (.aaload, 1) := by decide +kernel
theorem dX8_save_69 : decode cX8_save 69 = .ok (.invokestatic 195, 3) := by decide +kernel
theorem dX8_save_72 : decode cX8_save 72 = .ok (.aload_n 0, 1) := by decide +kernel
theorem dX8_save_73 : decode cX8_save 73 = .ok (.dup, 1) := by decide +kernel
theorem dX8_save_74 : decode cX8_save 74 = .ok (.getfield 20, 3) := by decide +kernel
theorem dX8_save_77 : decode cX8_save 77 = .ok (.iconst 1, 1) := by decide +kernel
theorem dX8_save_78 : decode cX8_save 78 = .ok (.iadd, 1) := by decide +kernel
theorem dX8_save_79 : decode cX8_save 79 = .ok (.putfield 20, 3) := by decide +kernel
theorem dX8_save_82 : decode cX8_save 82 = .ok (.return_, 1) := by decide +kernel
theorem dX8_copyState_0 : decode cX8_copyState 0 = .ok (.aload_n 0, 1) := by decide +kernel
theorem dX8_copyState_1 : decode cX8_copyState 1 = .ok (.ifnull 12, 3) := by decide +kernel
theorem dX8_copyState_4 : decode cX8_copyState 4 = .ok (.aload_n 1, 1) := by decide +kernel
theorem dX8_copyState_5 : decode cX8_copyState 5 = .ok (.ifnull 8, 3) := by decide +kernel
theorem dX8_copyState_8 : decode cX8_copyState 8 = .ok (.aload_n 1, 1) := by decide +kernel
theorem dX8_copyState_9 : decode cX8_copyState 9 = .ok (.aload_n 0, 1) := by decide +kernel
theorem dX8_copyState_10 : decode cX8_copyState 10 = .ok (.invokevirtual 304, 3) := by decide +kernel
theorem dX8_copyState_13 : decode cX8_copyState 13 = .ok (.return_, 1) := by decide +kernel
theorem dX8_refuse_0 : decode cX8_refuse 0 = .ok (.aload_n 0, 1) := by decide +kernel
theorem dX8_refuse_1 : decode cX8_refuse 1 = .ok (.getfield 10, 3) := by decide +kernel
theorem dX8_refuse_4 : decode cX8_refuse 4 = .ok (.dup, 1) := by decide +kernel
theorem dX8_refuse_5 : decode cX8_refuse 5 = .ok (.getfield 173, 3) := by decide +kernel
theorem dX8_refuse_8 : decode cX8_refuse 8 = .ok (.iconst 1, 1) := by decide +kernel
theorem dX8_refuse_9 : decode cX8_refuse 9 = .ok (.iadd, 1) := by decide +kernel
theorem dX8_refuse_10 : decode cX8_refuse 10 = .ok (.putfield 173, 3) := by decide +kernel
theorem dX8_refuse_13 : decode cX8_refuse 13 = .ok (.bipush (-2), 2) := by decide +kernel
theorem dX8_refuse_15 : decode cX8_refuse 15 = .ok (.ireturn, 1) := by decide +kernel
theorem dX8_allRows_0 : decode cX8_allRows 0 = .ok (.aload_n 0, 1) := by decide +kernel
theorem dX8_allRows_1 : decode cX8_allRows 1 = .ok (.getfield 10, 3) := by decide +kernel
theorem dX8_allRows_4 : decode cX8_allRows 4 = .ok (.getfield 77, 3) := by decide +kernel
theorem dX8_allRows_7 : decode cX8_allRows 7 = .ok (.iconst 0, 1) := by decide +kernel
theorem dX8_allRows_8 : decode cX8_allRows 8 = .ok (.iaload, 1) := by decide +kernel
theorem dX8_allRows_9 : decode cX8_allRows 9 = .ok (.aload_n 0, 1) := by decide +kernel
theorem dX8_allRows_10 : decode cX8_allRows 10 = .ok (.getfield 10, 3) := by decide +kernel
theorem dX8_allRows_13 : decode cX8_allRows 13 = .ok (.getfield 77, 3) := by decide +kernel
theorem dX8_allRows_16 : decode cX8_allRows 16 = .ok (.iconst 1, 1) := by decide +kernel
theorem dX8_allRows_17 : decode cX8_allRows 17 = .ok (.iaload, 1) := by decide +kernel
theorem dX8_allRows_18 : decode cX8_allRows 18 = .ok (.iadd, 1) := by decide +kernel
theorem dX8_allRows_19 : decode cX8_allRows 19 = .ok (.ireturn, 1) := by decide +kernel
theorem dX8_filledSlots_0 : decode cX8_filledSlots 0 = .ok (.iconst 0, 1) := by decide +kernel
theorem dX8_filledSlots_1 : decode cX8_filledSlots 1 = .ok (.istore_n 1, 1) := by decide +kernel
theorem dX8_filledSlots_2 : decode cX8_filledSlots 2 = .ok (.iconst 0, 1) := by decide +kernel
theorem dX8_filledSlots_3 : decode cX8_filledSlots 3 = .ok (.istore_n 2, 1) := by decide +kernel
theorem dX8_filledSlots_4 : decode cX8_filledSlots 4 = .ok (.iload_n 2, 1) := by decide +kernel
theorem dX8_filledSlots_5 : decode cX8_filledSlots 5 = .ok (.bipush 6, 2) := by decide +kernel
theorem dX8_filledSlots_7 : decode cX8_filledSlots 7 = .ok (.if_icmp .ge 24, 3) := by decide +kernel
theorem dX8_filledSlots_10 : decode cX8_filledSlots 10 = .ok (.aload_n 0, 1) := by decide +kernel
theorem dX8_filledSlots_11 : decode cX8_filledSlots 11 = .ok (.getfield 10, 3) := by decide +kernel
theorem dX8_filledSlots_14 : decode cX8_filledSlots 14 = .ok (.getfield 148, 3) := by decide +kernel
theorem dX8_filledSlots_17 : decode cX8_filledSlots 17 = .ok (.iload_n 2, 1) := by decide +kernel
theorem dX8_filledSlots_18 : decode cX8_filledSlots 18 = .ok (.aaload, 1) := by decide +kernel
theorem dX8_filledSlots_19 : decode cX8_filledSlots 19 = .ok (.ifnull 6, 3) := by decide +kernel
theorem dX8_filledSlots_22 : decode cX8_filledSlots 22 = .ok (.iinc 1 1, 3) := by decide +kernel
theorem dX8_filledSlots_25 : decode cX8_filledSlots 25 = .ok (.iinc 2 1, 3) := by decide +kernel
theorem dX8_filledSlots_28 : decode cX8_filledSlots 28 = .ok (.goto (-24), 3) := by decide +kernel
theorem dX8_filledSlots_31 : decode cX8_filledSlots 31 = .ok (.iload_n 1, 1) := by decide +kernel
theorem dX8_filledSlots_32 : decode cX8_filledSlots 32 = .ok (.ireturn, 1) := by decide +kernel
theorem dX8_place_0 : decode cX8_place 0 = .ok (.iload_n 0, 1) := by decide +kernel
theorem dX8_place_1 : decode cX8_place 1 = .ok (.bipush 16, 2) := by decide +kernel
theorem dX8_place_3 : decode cX8_place 3 = .ok (.imul, 1) := by decide +kernel
theorem dX8_place_4 : decode cX8_place 4 = .ok (.iload_n 1, 1) := by decide +kernel
theorem dX8_place_5 : decode cX8_place 5 = .ok (.iadd, 1) := by decide +kernel
theorem dX8_place_6 : decode cX8_place 6 = .ok (.iconst 4, 1) := by decide +kernel
theorem dX8_place_7 : decode cX8_place 7 = .ok (.imul, 1) := by decide +kernel
theorem dX8_place_8 : decode cX8_place 8 = .ok (.iload_n 2, 1) := by decide +kernel
theorem dX8_place_9 : decode cX8_place 9 = .ok (.iadd, 1) := by decide +kernel
theorem dX8_place_10 : decode cX8_place 10 = .ok (.ireturn, 1) := by decide +kernel
theorem dX8_hasBit_0 : decode cX8_hasBit 0 = .ok (.iload_n 0, 1) := by decide +kernel
theorem dX8_hasBit_1 : decode cX8_hasBit 1 = .ok (.iload_n 1, 1) := by decide +kernel
theorem dX8_hasBit_2 : decode cX8_hasBit 2 = .ok (.ishr, 1) := by decide +kernel
theorem dX8_hasBit_3 : decode cX8_hasBit 3 = .ok (.iconst 1, 1) := by decide +kernel
theorem dX8_hasBit_4 : decode cX8_hasBit 4 = .ok (.iand, 1) := by decide +kernel
theorem dX8_hasBit_5 : decode cX8_hasBit 5 = .ok (.iconst 1, 1) := by decide +kernel
theorem dX8_hasBit_6 : decode cX8_hasBit 6 = .ok (.if_icmp .ne 7, 3) := by decide +kernel
theorem dX8_hasBit_9 : decode cX8_hasBit 9 = .ok (.iconst 1, 1) := by decide +kernel
theorem dX8_hasBit_10 : decode cX8_hasBit 10 = .ok (.goto 4, 3) := by decide +kernel
theorem dX8_hasBit_13 : decode cX8_hasBit 13 = .ok (.iconst 0, 1) := by decide +kernel
theorem dX8_hasBit_14 : decode cX8_hasBit 14 = .ok (.ireturn, 1) := by decide +kernel
theorem dX8_unknownsOf_0 : decode cX8_unknownsOf 0 = .ok (.iconst 0, 1) := by decide +kernel
theorem dX8_unknownsOf_1 : decode cX8_unknownsOf 1 = .ok (.istore_n 1, 1) := by decide +kernel
theorem dX8_unknownsOf_2 : decode cX8_unknownsOf 2 = .ok (.iconst 0, 1) := by decide +kernel
theorem dX8_unknownsOf_3 : decode cX8_unknownsOf 3 = .ok (.istore_n 2, 1) := by decide +kernel
theorem dX8_unknownsOf_4 : decode cX8_unknownsOf 4 = .ok (.iload_n 2, 1) := by decide +kernel
theorem dX8_unknownsOf_5 : decode cX8_unknownsOf 5 = .ok (.aload_n 0, 1) := by decide +kernel
theorem dX8_unknownsOf_6 : decode cX8_unknownsOf 6 = .ok (.arraylength, 1) := by decide +kernel
theorem dX8_unknownsOf_7 : decode cX8_unknownsOf 7 = .ok (.if_icmp .ge 22, 3) := by decide +kernel
theorem dX8_unknownsOf_10 : decode cX8_unknownsOf 10 = .ok (.aload_n 0, 1) := by decide +kernel
theorem dX8_unknownsOf_11 : decode cX8_unknownsOf 11 = .ok (.iload_n 2, 1) := by decide +kernel
theorem dX8_unknownsOf_12 : decode cX8_unknownsOf 12 = .ok (.iaload, 1) := by decide +kernel
theorem dX8_unknownsOf_13 : decode cX8_unknownsOf 13 = .ok (.iconst (-1), 1) := by decide +kernel
theorem dX8_unknownsOf_14 : decode cX8_unknownsOf 14 = .ok (.if_icmp .ne 9, 3) := by decide +kernel
theorem dX8_unknownsOf_17 : decode cX8_unknownsOf 17 = .ok (.iload_n 1, 1) := by decide +kernel
theorem dX8_unknownsOf_18 : decode cX8_unknownsOf 18 = .ok (.iconst 1, 1) := by decide +kernel
theorem dX8_unknownsOf_19 : decode cX8_unknownsOf 19 = .ok (.iload_n 2, 1) := by decide +kernel
theorem dX8_unknownsOf_20 : decode cX8_unknownsOf 20 = .ok (.ishl, 1) := by decide +kernel
theorem dX8_unknownsOf_21 : decode cX8_unknownsOf 21 = .ok (.ior, 1) := by decide +kernel
theorem dX8_unknownsOf_22 : decode cX8_unknownsOf 22 = .ok (.istore_n 1, 1) := by decide +kernel
theorem dX8_unknownsOf_23 : decode cX8_unknownsOf 23 = .ok (.iinc 2 1, 3) := by decide +kernel
theorem dX8_unknownsOf_26 : decode cX8_unknownsOf 26 = .ok (.goto (-22), 3) := by decide +kernel
theorem dX8_unknownsOf_29 : decode cX8_unknownsOf 29 = .ok (.iload_n 1, 1) := by decide +kernel
theorem dX8_unknownsOf_30 : decode cX8_unknownsOf 30 = .ok (.ireturn, 1) := by decide +kernel
theorem dX8_loadRow_0 : decode cX8_loadRow 0 = .ok (.iconst 0, 1) := by decide +kernel
theorem dX8_loadRow_1 : decode cX8_loadRow 1 = .ok (.istore_n 3, 1) := by decide +kernel
theorem dX8_loadRow_2 : decode cX8_loadRow 2 = .ok (.iload_n 3, 1) := by decide +kernel
theorem dX8_loadRow_3 : decode cX8_loadRow 3 = .ok (.iconst 4, 1) := by decide +kernel
theorem dX8_loadRow_4 : decode cX8_loadRow 4 = .ok (.if_icmp .ge 29, 3) := by decide +kernel
theorem dX8_loadRow_7 : decode cX8_loadRow 7 = .ok (.aload_n 0, 1) := by decide +kernel
theorem dX8_loadRow_8 : decode cX8_loadRow 8 = .ok (.getfield 38, 3) := by decide +kernel
theorem dX8_loadRow_11 : decode cX8_loadRow 11 = .ok (.iload_n 3, 1) := by decide +kernel
theorem dX8_loadRow_12 : decode cX8_loadRow 12 = .ok (.aload_n 0, 1) := by decide +kernel
theorem dX8_loadRow_13 : decode cX8_loadRow 13 = .ok (.getfield 10, 3) := by decide +kernel
theorem dX8_loadRow_16 : decode cX8_loadRow 16 = .ok (.getfield 102, 3) := by decide +kernel
theorem dX8_loadRow_19 : decode cX8_loadRow 19 = .ok (.iload_n 1, 1) := by decide +kernel
theorem dX8_loadRow_20 : decode cX8_loadRow 20 = .ok (.iload_n 2, 1) := by decide +kernel
theorem dX8_loadRow_21 : decode cX8_loadRow 21 = .ok (.iload_n 3, 1) := by decide +kernel
theorem dX8_loadRow_22 : decode cX8_loadRow 22 = .ok (.invokestatic 105, 3) := by decide +kernel
theorem dX8_loadRow_25 : decode cX8_loadRow 25 = .ok (.iaload, 1) := by decide +kernel
theorem dX8_loadRow_26 : decode cX8_loadRow 26 = .ok (.iastore, 1) := by decide +kernel
theorem dX8_loadRow_27 : decode cX8_loadRow 27 = .ok (.iinc 3 1, 3) := by decide +kernel
theorem dX8_loadRow_30 : decode cX8_loadRow 30 = .ok (.goto (-28), 3) := by decide +kernel
theorem dX8_loadRow_33 : decode cX8_loadRow 33 = .ok (.return_, 1) := by decide +kernel
theorem dX8_removeRows_0 : decode cX8_removeRows 0 = .ok (.iconst 0, 1) := by decide +kernel
theorem dX8_removeRows_1 : decode cX8_removeRows 1 = .ok (.istore_n 3, 1) := by decide +kernel
theorem dX8_removeRows_2 : decode cX8_removeRows 2 = .ok (.iconst 0, 1) := by decide +kernel
theorem dX8_removeRows_3 : decode cX8_removeRows 3 = .ok (.istore 4, 2) := by decide +kernel
theorem dX8_removeRows_5 : decode cX8_removeRows 5 = .ok (.iload 4, 2) := by decide +kernel
theorem dX8_removeRows_7 : decode cX8_removeRows 7 = .ok (.aload_n 0, 1) := by decide +kernel
theorem dX8_removeRows_8 : decode cX8_removeRows 8 = .ok (.getfield 10, 3) := by decide +kernel
theorem dX8_removeRows_11 : decode cX8_removeRows 11 = .ok (.getfield 77, 3) := by decide +kernel
theorem dX8_removeRows_14 : decode cX8_removeRows 14 = .ok (.iload_n 1, 1) := by decide +kernel
theorem dX8_removeRows_15 : decode cX8_removeRows 15 = .ok (.iaload, 1) := by decide +kernel
theorem dX8_removeRows_16 : decode cX8_removeRows 16 = .ok (.if_icmp .ge 67, 3) := by decide +kernel
theorem dX8_removeRows_19 : decode cX8_removeRows 19 = .ok (.iload_n 2, 1) := by decide +kernel
theorem dX8_removeRows_20 : decode cX8_removeRows 20 = .ok (.iload 4, 2) := by decide +kernel
theorem dX8_removeRows_22 : decode cX8_removeRows 22 = .ok (.invokestatic 185, 3) := by decide +kernel
theorem dX8_removeRows_25 : decode cX8_removeRows 25 = .ok (.ifCond .ne 52, 3) := by decide +kernel
theorem dX8_removeRows_28 : decode cX8_removeRows 28 = .ok (.iconst 0, 1) := by decide +kernel
theorem dX8_removeRows_29 : decode cX8_removeRows 29 = .ok (.istore 5, 2) := by decide +kernel
theorem dX8_removeRows_31 : decode cX8_removeRows 31 = .ok (.iload 5, 2) := by decide +kernel
theorem dX8_removeRows_33 : decode cX8_removeRows 33 = .ok (.iconst 4, 1) := by decide +kernel
theorem dX8_removeRows_34 : decode cX8_removeRows 34 = .ok (.if_icmp .ge 40, 3) := by decide +kernel
theorem dX8_removeRows_37 : decode cX8_removeRows 37 = .ok (.aload_n 0, 1) := by decide +kernel
theorem dX8_removeRows_38 : decode cX8_removeRows 38 = .ok (.getfield 10, 3) := by decide +kernel
theorem dX8_removeRows_41 : decode cX8_removeRows 41 = .ok (.getfield 102, 3) := by decide +kernel
theorem dX8_removeRows_44 : decode cX8_removeRows 44 = .ok (.iload_n 1, 1) := by decide +kernel
theorem dX8_removeRows_45 : decode cX8_removeRows 45 = .ok (.iload_n 3, 1) := by decide +kernel
theorem dX8_removeRows_46 : decode cX8_removeRows 46 = .ok (.iload 5, 2) := by decide +kernel
theorem dX8_removeRows_48 : decode cX8_removeRows 48 = .ok (.invokestatic 105, 3) := by decide +kernel
theorem dX8_removeRows_51 : decode cX8_removeRows 51 = .ok (.aload_n 0, 1) := by decide +kernel
theorem dX8_removeRows_52 : decode cX8_removeRows 52 = .ok (.getfield 10, 3) := by decide +kernel
theorem dX8_removeRows_55 : decode cX8_removeRows 55 = .ok (.getfield 102, 3) := by decide +kernel
theorem dX8_removeRows_58 : decode cX8_removeRows 58 = .ok (.iload_n 1, 1) := by decide +kernel
theorem dX8_removeRows_59 : decode cX8_removeRows 59 = .ok (.iload 4, 2) := by decide +kernel
theorem dX8_removeRows_61 : decode cX8_removeRows 61 = .ok (.iload 5, 2) := by decide +kernel
theorem dX8_removeRows_63 : decode cX8_removeRows 63 = .ok (.invokestatic 105, 3) := by decide +kernel
theorem dX8_removeRows_66 : decode cX8_removeRows 66 = .ok (.iaload, 1) := by decide +kernel
theorem dX8_removeRows_67 : decode cX8_removeRows 67 = .ok (.iastore, 1) := by decide +kernel
theorem dX8_removeRows_68 : decode cX8_removeRows 68 = .ok (.iinc 5 1, 3) := by decide +kernel
theorem dX8_removeRows_71 : decode cX8_removeRows 71 = .ok (.goto (-40), 3) := by decide +kernel
theorem dX8_removeRows_74 : decode cX8_removeRows 74 = .ok (.iinc 3 1, 3) := by decide +kernel
theorem dX8_removeRows_77 : decode cX8_removeRows 77 = .ok (.iinc 4 1, 3) := by decide +kernel
theorem dX8_removeRows_80 : decode cX8_removeRows 80 = .ok (.goto (-75), 3) := by decide +kernel
theorem dX8_removeRows_83 : decode cX8_removeRows 83 = .ok (.aload_n 0, 1) := by decide +kernel
theorem dX8_removeRows_84 : decode cX8_removeRows 84 = .ok (.getfield 10, 3) := by decide +kernel
theorem dX8_removeRows_87 : decode cX8_removeRows 87 = .ok (.getfield 77, 3) := by decide +kernel
theorem dX8_removeRows_90 : decode cX8_removeRows 90 = .ok (.iload_n 1, 1) := by decide +kernel
theorem dX8_removeRows_91 : decode cX8_removeRows 91 = .ok (.iload_n 3, 1) := by decide +kernel
theorem dX8_removeRows_92 : decode cX8_removeRows 92 = .ok (.iastore, 1) := by decide +kernel
theorem dX8_removeRows_93 : decode cX8_removeRows 93 = .ok (.return_, 1) := by decide +kernel
theorem dX8_rowsWithCell_0 : decode cX8_rowsWithCell 0 = .ok (.iconst 0, 1) := by decide +kernel
theorem dX8_rowsWithCell_1 : decode cX8_rowsWithCell 1 = .ok (.istore 4, 2) := by decide +kernel
theorem dX8_rowsWithCell_3 : decode cX8_rowsWithCell 3 = .ok (.iconst 0, 1) := by decide +kernel
theorem dX8_rowsWithCell_4 : decode cX8_rowsWithCell 4 = .ok (.istore 5, 2) := by decide +kernel
theorem dX8_rowsWithCell_6 : decode cX8_rowsWithCell 6 = .ok (.iload 5, 2) := by decide +kernel
theorem dX8_rowsWithCell_8 : decode cX8_rowsWithCell 8 = .ok (.aload_n 0, 1) := by decide +kernel
theorem dX8_rowsWithCell_9 : decode cX8_rowsWithCell 9 = .ok (.getfield 10, 3) := by decide +kernel
theorem dX8_rowsWithCell_12 : decode cX8_rowsWithCell 12 = .ok (.getfield 77, 3) := by decide +kernel
theorem dX8_rowsWithCell_15 : decode cX8_rowsWithCell 15 = .ok (.iload_n 1, 1) := by decide +kernel
theorem dX8_rowsWithCell_16 : decode cX8_rowsWithCell 16 = .ok (.iaload, 1) := by decide +kernel
theorem dX8_rowsWithCell_17 : decode cX8_rowsWithCell 17 = .ok (.if_icmp .ge 37, 3) := by decide +kernel
theorem dX8_rowsWithCell_20 : decode cX8_rowsWithCell 20 = .ok (.aload_n 0, 1) := by decide +kernel
theorem dX8_rowsWithCell_21 : decode cX8_rowsWithCell 21 = .ok (.getfield 10, 3) := by decide +kernel
theorem dX8_rowsWithCell_24 : decode cX8_rowsWithCell 24 = .ok (.getfield 102, 3) := by decide +kernel
theorem dX8_rowsWithCell_27 : decode cX8_rowsWithCell 27 = .ok (.iload_n 1, 1) := by decide +kernel
theorem dX8_rowsWithCell_28 : decode cX8_rowsWithCell 28 = .ok (.iload 5, 2) := by decide +kernel
theorem dX8_rowsWithCell_30 : decode cX8_rowsWithCell 30 = .ok (.iload_n 2, 1) := by decide +kernel
theorem dX8_rowsWithCell_31 : decode cX8_rowsWithCell 31 = .ok (.invokestatic 105, 3) := by decide +kernel
theorem dX8_rowsWithCell_34 : decode cX8_rowsWithCell 34 = .ok (.iaload, 1) := by decide +kernel
theorem dX8_rowsWithCell_35 : decode cX8_rowsWithCell 35 = .ok (.iload_n 3, 1) := by decide +kernel
theorem dX8_rowsWithCell_36 : decode cX8_rowsWithCell 36 = .ok (.if_icmp .ne 12, 3) := by decide +kernel
theorem dX8_rowsWithCell_39 : decode cX8_rowsWithCell 39 = .ok (.iload 4, 2) := by decide +kernel
theorem dX8_rowsWithCell_41 : decode cX8_rowsWithCell 41 = .ok (.iconst 1, 1) := by decide +kernel
theorem dX8_rowsWithCell_42 : decode cX8_rowsWithCell 42 = .ok (.iload 5, 2) := by decide +kernel
theorem dX8_rowsWithCell_44 : decode cX8_rowsWithCell 44 = .ok (.ishl, 1) := by decide +kernel
theorem dX8_rowsWithCell_45 : decode cX8_rowsWithCell 45 = .ok (.ior, 1) := by decide +kernel
theorem dX8_rowsWithCell_46 : decode cX8_rowsWithCell 46 = .ok (.istore 4, 2) := by decide +kernel
theorem dX8_rowsWithCell_48 : decode cX8_rowsWithCell 48 = .ok (.iinc 5 1, 3) := by decide +kernel
theorem dX8_rowsWithCell_51 : decode cX8_rowsWithCell 51 = .ok (.goto (-45), 3) := by decide +kernel
theorem dX8_rowsWithCell_54 : decode cX8_rowsWithCell 54 = .ok (.iload 4, 2) := by decide +kernel
theorem dX8_rowsWithCell_56 : decode cX8_rowsWithCell 56 = .ok (.ireturn, 1) := by decide +kernel
theorem dX8_differentValues_0 : decode cX8_differentValues 0 = .ok (.iconst 0, 1) := by decide +kernel
theorem dX8_differentValues_1 : decode cX8_differentValues 1 = .ok (.istore_n 3, 1) := by decide +kernel
theorem dX8_differentValues_2 : decode cX8_differentValues 2 = .ok (.iconst 0, 1) := by decide +kernel
theorem dX8_differentValues_3 : decode cX8_differentValues 3 = .ok (.istore 4, 2) := by decide +kernel
theorem dX8_differentValues_5 : decode cX8_differentValues 5 = .ok (.iload 4, 2) := by decide +kernel
theorem dX8_differentValues_7 : decode cX8_differentValues 7 = .ok (.bipush 100, 2) := by decide +kernel
theorem dX8_differentValues_9 : decode cX8_differentValues 9 = .ok (.if_icmp .ge 23, 3) := by decide +kernel
theorem dX8_differentValues_12 : decode cX8_differentValues 12 = .ok (.aload_n 0, 1) := by decide +kernel
theorem dX8_differentValues_13 : decode cX8_differentValues 13 = .ok (.iload_n 1, 1) := by decide +kernel
theorem dX8_differentValues_14 : decode cX8_differentValues 14 = .ok (.iload_n 2, 1) := by decide +kernel
theorem dX8_differentValues_15 : decode cX8_differentValues 15 = .ok (.iload 4, 2) := by decide +kernel
theorem dX8_differentValues_17 : decode cX8_differentValues 17 = .ok (.invokevirtual 218, 3) := by decide +kernel
theorem dX8_differentValues_20 : decode cX8_differentValues 20 = .ok (.ifCond .eq 6, 3) := by decide +kernel
theorem dX8_differentValues_23 : decode cX8_differentValues 23 = .ok (.iinc 3 1, 3) := by decide +kernel
theorem dX8_differentValues_26 : decode cX8_differentValues 26 = .ok (.iinc 4 1, 3) := by decide +kernel
theorem dX8_differentValues_29 : decode cX8_differentValues 29 = .ok (.goto (-24), 3) := by decide +kernel
theorem dX8_differentValues_32 : decode cX8_differentValues 32 = .ok (.iload_n 3, 1) := by decide +kernel
theorem dX8_differentValues_33 : decode cX8_differentValues 33 = .ok (.ireturn, 1) := by decide +kernel
theorem dX8_groupNumber_0 : decode cX8_groupNumber 0 = .ok (.iload 4, 2) := by decide +kernel
theorem dX8_groupNumber_2 : decode cX8_groupNumber 2 = .ok (.tableswitch 62 0 7 #[46, 48, 62, 62, 62, 62, 50, 55], 46) := by decide +kernel
theorem dX8_groupNumber_48 : decode cX8_groupNumber 48 = .ok (.iload_n 3, 1) := by decide +kernel
theorem dX8_groupNumber_49 : decode cX8_groupNumber 49 = .ok (.ireturn, 1) := by decide +kernel
theorem dX8_groupNumber_50 : decode cX8_groupNumber 50 = .ok (.iload_n 2, 1) := by decide +kernel
theorem dX8_groupNumber_51 : decode cX8_groupNumber 51 = .ok (.ireturn, 1) := by decide +kernel
theorem dX8_groupNumber_52 : decode cX8_groupNumber 52 = .ok (.iload_n 2, 1) := by decide +kernel
theorem dX8_groupNumber_53 : decode cX8_groupNumber 53 = .ok (.invokestatic 179, 3) := by decide +kernel
theorem dX8_groupNumber_56 : decode cX8_groupNumber 56 = .ok (.ireturn, 1) := by decide +kernel
theorem dX8_groupNumber_57 : decode cX8_groupNumber 57 = .ok (.aload_n 0, 1) := by decide +kernel
theorem dX8_groupNumber_58 : decode cX8_groupNumber 58 = .ok (.iload_n 1, 1) := by decide +kernel
theorem dX8_groupNumber_59 : decode cX8_groupNumber 59 = .ok (.iload_n 2, 1) := by decide +kernel
theorem dX8_groupNumber_60 : decode cX8_groupNumber 60 = .ok (.invokevirtual 308, 3) := by decide +kernel
theorem dX8_groupNumber_63 : decode cX8_groupNumber 63 = .ok (.ireturn, 1) := by decide +kernel
theorem dX8_groupNumber_64 : decode cX8_groupNumber 64 = .ok (.aload_n 0, 1) := by decide +kernel
theorem dX8_groupNumber_65 : decode cX8_groupNumber 65 = .ok (.iload_n 1, 1) := by decide +kernel
theorem dX8_groupNumber_66 : decode cX8_groupNumber 66 = .ok (.iload_n 2, 1) := by decide +kernel
theorem dX8_groupNumber_67 : decode cX8_groupNumber 67 = .ok (.iload 4, 2) := by decide +kernel
theorem dX8_groupNumber_69 : decode cX8_groupNumber 69 = .ok (.iconst 2, 1) := by decide +kernel
theorem dX8_groupNumber_70 : decode cX8_groupNumber 70 = .ok (.isub, 1) := by decide +kernel
theorem dX8_groupNumber_71 : decode cX8_groupNumber 71 = .ok (.invokevirtual 311, 3) := by decide +kernel
theorem dX8_groupNumber_74 : decode cX8_groupNumber 74 = .ok (.ireturn, 1) := by decide +kernel
theorem dX8_sumOf_0 : decode cX8_sumOf 0 = .ok (.iconst 0, 1) := by decide +kernel
theorem dX8_sumOf_1 : decode cX8_sumOf 1 = .ok (.istore 4, 2) := by decide +kernel
theorem dX8_sumOf_3 : decode cX8_sumOf 3 = .ok (.iconst 0, 1) := by decide +kernel
theorem dX8_sumOf_4 : decode cX8_sumOf 4 = .ok (.istore 5, 2) := by decide +kernel
theorem dX8_sumOf_6 : decode cX8_sumOf 6 = .ok (.iload 5, 2) := by decide +kernel
theorem dX8_sumOf_8 : decode cX8_sumOf 8 = .ok (.aload_n 0, 1) := by decide +kernel
theorem dX8_sumOf_9 : decode cX8_sumOf 9 = .ok (.getfield 10, 3) := by decide +kernel
theorem dX8_sumOf_12 : decode cX8_sumOf 12 = .ok (.getfield 77, 3) := by decide +kernel
theorem dX8_sumOf_15 : decode cX8_sumOf 15 = .ok (.iload_n 1, 1) := by decide +kernel
theorem dX8_sumOf_16 : decode cX8_sumOf 16 = .ok (.iaload, 1) := by decide +kernel
theorem dX8_sumOf_17 : decode cX8_sumOf 17 = .ok (.if_icmp .ge 48, 3) := by decide +kernel
theorem dX8_sumOf_20 : decode cX8_sumOf 20 = .ok (.aload_n 0, 1) := by decide +kernel
theorem dX8_sumOf_21 : decode cX8_sumOf 21 = .ok (.getfield 10, 3) := by decide +kernel
theorem dX8_sumOf_24 : decode cX8_sumOf 24 = .ok (.getfield 102, 3) := by decide +kernel
theorem dX8_sumOf_27 : decode cX8_sumOf 27 = .ok (.iload_n 1, 1) := by decide +kernel
theorem dX8_sumOf_28 : decode cX8_sumOf 28 = .ok (.iload 5, 2) := by decide +kernel
theorem dX8_sumOf_30 : decode cX8_sumOf 30 = .ok (.iload_n 3, 1) := by decide +kernel
theorem dX8_sumOf_31 : decode cX8_sumOf 31 = .ok (.invokestatic 105, 3) := by decide +kernel
theorem dX8_sumOf_34 : decode cX8_sumOf 34 = .ok (.iaload, 1) := by decide +kernel
theorem dX8_sumOf_35 : decode cX8_sumOf 35 = .ok (.istore 6, 2) := by decide +kernel
theorem dX8_sumOf_37 : decode cX8_sumOf 37 = .ok (.iload_n 2, 1) := by decide +kernel
theorem dX8_sumOf_38 : decode cX8_sumOf 38 = .ok (.iload 5, 2) := by decide +kernel
theorem dX8_sumOf_40 : decode cX8_sumOf 40 = .ok (.invokestatic 185, 3) := by decide +kernel
theorem dX8_sumOf_43 : decode cX8_sumOf 43 = .ok (.ifCond .eq 16, 3) := by decide +kernel
theorem dX8_sumOf_46 : decode cX8_sumOf 46 = .ok (.iload 6, 2) := by decide +kernel
theorem dX8_sumOf_48 : decode cX8_sumOf 48 = .ok (.iconst (-1), 1) := by decide +kernel
theorem dX8_sumOf_49 : decode cX8_sumOf 49 = .ok (.if_icmp .eq 10, 3) := by decide +kernel
theorem dX8_sumOf_52 : decode cX8_sumOf 52 = .ok (.iload 4, 2) := by decide +kernel
theorem dX8_sumOf_54 : decode cX8_sumOf 54 = .ok (.iload 6, 2) := by decide +kernel
theorem dX8_sumOf_56 : decode cX8_sumOf 56 = .ok (.iadd, 1) := by decide +kernel
theorem dX8_sumOf_57 : decode cX8_sumOf 57 = .ok (.istore 4, 2) := by decide +kernel
theorem dX8_sumOf_59 : decode cX8_sumOf 59 = .ok (.iinc 5 1, 3) := by decide +kernel
theorem dX8_sumOf_62 : decode cX8_sumOf 62 = .ok (.goto (-56), 3) := by decide +kernel
theorem dX8_sumOf_65 : decode cX8_sumOf 65 = .ok (.iload 4, 2) := by decide +kernel
theorem dX8_sumOf_67 : decode cX8_sumOf 67 = .ok (.ireturn, 1) := by decide +kernel
theorem dX8_unknownCells_0 : decode cX8_unknownCells 0 = .ok (.iconst 0, 1) := by decide +kernel
theorem dX8_unknownCells_1 : decode cX8_unknownCells 1 = .ok (.istore_n 3, 1) := by decide +kernel
theorem dX8_unknownCells_2 : decode cX8_unknownCells 2 = .ok (.iconst 0, 1) := by decide +kernel
theorem dX8_unknownCells_3 : decode cX8_unknownCells 3 = .ok (.istore 4, 2) := by decide +kernel
theorem dX8_unknownCells_5 : decode cX8_unknownCells 5 = .ok (.iload 4, 2) := by decide +kernel
theorem dX8_unknownCells_7 : decode cX8_unknownCells 7 = .ok (.iconst 4, 1) := by decide +kernel
theorem dX8_unknownCells_8 : decode cX8_unknownCells 8 = .ok (.if_icmp .ge 25, 3) := by decide +kernel
theorem dX8_unknownCells_11 : decode cX8_unknownCells 11 = .ok (.iload_n 3, 1) := by decide +kernel
theorem dX8_unknownCells_12 : decode cX8_unknownCells 12 = .ok (.iload_n 2, 1) := by decide +kernel
theorem dX8_unknownCells_13 : decode cX8_unknownCells 13 = .ok (.aload_n 0, 1) := by decide +kernel
theorem dX8_unknownCells_14 : decode cX8_unknownCells 14 = .ok (.iload_n 1, 1) := by decide +kernel
theorem dX8_unknownCells_15 : decode cX8_unknownCells 15 = .ok (.iload 4, 2) := by decide +kernel
theorem dX8_unknownCells_17 : decode cX8_unknownCells 17 = .ok (.iconst (-1), 1) := by decide +kernel
theorem dX8_unknownCells_18 : decode cX8_unknownCells 18 = .ok (.invokevirtual 218, 3) := by decide +kernel
theorem dX8_unknownCells_21 : decode cX8_unknownCells 21 = .ok (.iand, 1) := by decide +kernel
theorem dX8_unknownCells_22 : decode cX8_unknownCells 22 = .ok (.invokestatic 179, 3) := by decide +kernel
theorem dX8_unknownCells_25 : decode cX8_unknownCells 25 = .ok (.iadd, 1) := by decide +kernel
theorem dX8_unknownCells_26 : decode cX8_unknownCells 26 = .ok (.istore_n 3, 1) := by decide +kernel
theorem dX8_unknownCells_27 : decode cX8_unknownCells 27 = .ok (.iinc 4 1, 3) := by decide +kernel
theorem dX8_unknownCells_30 : decode cX8_unknownCells 30 = .ok (.goto (-25), 3) := by decide +kernel
theorem dX8_unknownCells_33 : decode cX8_unknownCells 33 = .ok (.iload_n 3, 1) := by decide +kernel
theorem dX8_unknownCells_34 : decode cX8_unknownCells 34 = .ok (.ireturn, 1) := by decide +kernel
theorem dX8_partnersOf_0 : decode cX8_partnersOf 0 = .ok (.aload_n 0, 1) := by decide +kernel
theorem dX8_partnersOf_1 : decode cX8_partnersOf 1 = .ok (.getfield 10, 3) := by decide +kernel
theorem dX8_partnersOf_4 : decode cX8_partnersOf 4 = .ok (.getfield 102, 3) := by decide +kernel
theorem dX8_partnersOf_7 : decode cX8_partnersOf 7 = .ok (.iload_n 1, 1) := by decide +kernel
theorem dX8_partnersOf_8 : decode cX8_partnersOf 8 = .ok (.iload_n 2, 1) := by decide +kernel
theorem dX8_partnersOf_9 : decode cX8_partnersOf 9 = .ok (.iload_n 3, 1) := by decide +kernel
theorem dX8_partnersOf_10 : decode cX8_partnersOf 10 = .ok (.invokestatic 105, 3) := by decide +kernel
theorem dX8_partnersOf_13 : decode cX8_partnersOf 13 = .ok (.iaload, 1) := by decide +kernel
theorem dX8_partnersOf_14 : decode cX8_partnersOf 14 = .ok (.istore 6, 2) := by decide +kernel
theorem dX8_partnersOf_16 : decode cX8_partnersOf 16 = .ok (.iload 6, 2) := by decide +kernel
theorem dX8_partnersOf_18 : decode cX8_partnersOf 18 = .ok (.iconst (-1), 1) := by decide +kernel
theorem dX8_partnersOf_19 : decode cX8_partnersOf 19 = .ok (.if_icmp .ne 7, 3) := by decide +kernel
theorem dX8_partnersOf_22 : decode cX8_partnersOf 22 = .ok (.iconst 0, 1) := by decide +kernel
theorem dX8_partnersOf_23 : decode cX8_partnersOf 23 = .ok (.goto 13, 3) := by decide +kernel
theorem dX8_partnersOf_26 : decode cX8_partnersOf 26 = .ok (.aload_n 0, 1) := by decide +kernel
theorem dX8_partnersOf_27 : decode cX8_partnersOf 27 = .ok (.iload 4, 2) := by decide +kernel
theorem dX8_partnersOf_29 : decode cX8_partnersOf 29 = .ok (.iload 5, 2) := by decide +kernel
theorem dX8_partnersOf_31 : decode cX8_partnersOf 31 = .ok (.iload 6, 2) := by decide +kernel
theorem dX8_partnersOf_33 : decode cX8_partnersOf 33 = .ok (.invokevirtual 218, 3) := by decide +kernel
theorem dX8_partnersOf_36 : decode cX8_partnersOf 36 = .ok (.ireturn, 1) := by decide +kernel
theorem dX8_pairCount_0 : decode cX8_pairCount 0 = .ok (.iconst 0, 1) := by decide +kernel
theorem dX8_pairCount_1 : decode cX8_pairCount 1 = .ok (.istore_n 3, 1) := by decide +kernel
theorem dX8_pairCount_2 : decode cX8_pairCount 2 = .ok (.iconst 0, 1) := by decide +kernel
theorem dX8_pairCount_3 : decode cX8_pairCount 3 = .ok (.istore 4, 2) := by decide +kernel
theorem dX8_pairCount_5 : decode cX8_pairCount 5 = .ok (.iload 4, 2) := by decide +kernel
theorem dX8_pairCount_7 : decode cX8_pairCount 7 = .ok (.aload_n 0, 1) := by decide +kernel
theorem dX8_pairCount_8 : decode cX8_pairCount 8 = .ok (.getfield 10, 3) := by decide +kernel
theorem dX8_pairCount_11 : decode cX8_pairCount 11 = .ok (.getfield 77, 3) := by decide +kernel
theorem dX8_pairCount_14 : decode cX8_pairCount 14 = .ok (.iconst 0, 1) := by decide +kernel
theorem dX8_pairCount_15 : decode cX8_pairCount 15 = .ok (.iaload, 1) := by decide +kernel
theorem dX8_pairCount_16 : decode cX8_pairCount 16 = .ok (.if_icmp .ge 25, 3) := by decide +kernel
theorem dX8_pairCount_19 : decode cX8_pairCount 19 = .ok (.iload_n 3, 1) := by decide +kernel
theorem dX8_pairCount_20 : decode cX8_pairCount 20 = .ok (.aload_n 0, 1) := by decide +kernel
theorem dX8_pairCount_21 : decode cX8_pairCount 21 = .ok (.iconst 0, 1) := by decide +kernel
theorem dX8_pairCount_22 : decode cX8_pairCount 22 = .ok (.iload 4, 2) := by decide +kernel
theorem dX8_pairCount_24 : decode cX8_pairCount 24 = .ok (.iload_n 1, 1) := by decide +kernel
theorem dX8_pairCount_25 : decode cX8_pairCount 25 = .ok (.iconst 1, 1) := by decide +kernel
theorem dX8_pairCount_26 : decode cX8_pairCount 26 = .ok (.iload_n 2, 1) := by decide +kernel
theorem dX8_pairCount_27 : decode cX8_pairCount 27 = .ok (.invokevirtual 314, 3) := by decide +kernel
theorem dX8_pairCount_30 : decode cX8_pairCount 30 = .ok (.invokestatic 179, 3) := by decide +kernel
theorem dX8_pairCount_33 : decode cX8_pairCount 33 = .ok (.iadd, 1) := by decide +kernel
theorem dX8_pairCount_34 : decode cX8_pairCount 34 = .ok (.istore_n 3, 1) := by decide +kernel
theorem dX8_pairCount_35 : decode cX8_pairCount 35 = .ok (.iinc 4 1, 3) := by decide +kernel
theorem dX8_pairCount_38 : decode cX8_pairCount 38 = .ok (.goto (-33), 3) := by decide +kernel
theorem dX8_pairCount_41 : decode cX8_pairCount 41 = .ok (.iload_n 3, 1) := by decide +kernel
theorem dX8_pairCount_42 : decode cX8_pairCount 42 = .ok (.ireturn, 1) := by decide +kernel
theorem dX8_rowsWithoutPartner_0 : decode cX8_rowsWithoutPartner 0 = .ok (.iconst 0, 1) := by decide +kernel
theorem dX8_rowsWithoutPartner_1 : decode cX8_rowsWithoutPartner 1 = .ok (.istore 5, 2) := by decide +kernel
theorem dX8_rowsWithoutPartner_3 : decode cX8_rowsWithoutPartner 3 = .ok (.iconst 0, 1) := by decide +kernel
theorem dX8_rowsWithoutPartner_4 : decode cX8_rowsWithoutPartner 4 = .ok (.istore 6, 2) := by decide +kernel
theorem dX8_rowsWithoutPartner_6 : decode cX8_rowsWithoutPartner 6 = .ok (.iload 6, 2) := by decide +kernel
theorem dX8_rowsWithoutPartner_8 : decode cX8_rowsWithoutPartner 8 = .ok (.aload_n 0, 1) := by decide +kernel
theorem dX8_rowsWithoutPartner_9 : decode cX8_rowsWithoutPartner 9 = .ok (.getfield 10, 3) := by decide +kernel
theorem dX8_rowsWithoutPartner_12 : decode cX8_rowsWithoutPartner 12 = .ok (.getfield 77, 3) := by decide +kernel
theorem dX8_rowsWithoutPartner_15 : decode cX8_rowsWithoutPartner 15 = .ok (.iload_n 1, 1) := by decide +kernel
theorem dX8_rowsWithoutPartner_16 : decode cX8_rowsWithoutPartner 16 = .ok (.iaload, 1) := by decide +kernel
theorem dX8_rowsWithoutPartner_17 : decode cX8_rowsWithoutPartner 17 = .ok (.if_icmp .ge 32, 3) := by decide +kernel
theorem dX8_rowsWithoutPartner_20 : decode cX8_rowsWithoutPartner 20 = .ok (.aload_n 0, 1) := by decide +kernel
theorem dX8_rowsWithoutPartner_21 : decode cX8_rowsWithoutPartner 21 = .ok (.iload_n 1, 1) := by decide +kernel
theorem dX8_rowsWithoutPartner_22 : decode cX8_rowsWithoutPartner 22 = .ok (.iload 6, 2) := by decide +kernel
theorem dX8_rowsWithoutPartner_24 : decode cX8_rowsWithoutPartner 24 = .ok (.iload_n 2, 1) := by decide +kernel
theorem dX8_rowsWithoutPartner_25 : decode cX8_rowsWithoutPartner 25 = .ok (.iload_n 3, 1) := by decide +kernel
theorem dX8_rowsWithoutPartner_26 : decode cX8_rowsWithoutPartner 26 = .ok (.iload 4, 2) := by decide +kernel
theorem dX8_rowsWithoutPartner_28 : decode cX8_rowsWithoutPartner 28 = .ok (.invokevirtual 314, 3) := by decide +kernel
theorem dX8_rowsWithoutPartner_31 : decode cX8_rowsWithoutPartner 31 = .ok (.ifCond .ne 12, 3) := by decide +kernel
theorem dX8_rowsWithoutPartner_34 : decode cX8_rowsWithoutPartner 34 = .ok (.iload 5, 2) := by decide +kernel
theorem dX8_rowsWithoutPartner_36 : decode cX8_rowsWithoutPartner 36 = .ok (.iconst 1, 1) := by decide +kernel
theorem dX8_rowsWithoutPartner_37 : decode cX8_rowsWithoutPartner 37 = .ok (.iload 6, 2) := by decide +kernel
theorem dX8_rowsWithoutPartner_39 : decode cX8_rowsWithoutPartner 39 = .ok (.ishl, 1) := by decide +kernel
theorem dX8_rowsWithoutPartner_40 : decode cX8_rowsWithoutPartner 40 = .ok (.ior, 1) := by decide +kernel
theorem dX8_rowsWithoutPartner_41 : decode cX8_rowsWithoutPartner 41 = .ok (.istore 5, 2) := by decide +kernel
theorem dX8_rowsWithoutPartner_43 : decode cX8_rowsWithoutPartner 43 = .ok (.iinc 6 1, 3) := by decide +kernel
theorem dX8_rowsWithoutPartner_46 : decode cX8_rowsWithoutPartner 46 = .ok (.goto (-40), 3) := by decide +kernel
theorem dX8_rowsWithoutPartner_49 : decode cX8_rowsWithoutPartner 49 = .ok (.iload 5, 2) := by decide +kernel
theorem dX8_rowsWithoutPartner_51 : decode cX8_rowsWithoutPartner 51 = .ok (.ireturn, 1) := by decide +kernel
theorem dX8_pairAt_0 : decode cX8_pairAt 0 = .ok (.iconst 0, 1) := by decide +kernel
theorem dX8_pairAt_1 : decode cX8_pairAt 1 = .ok (.istore 4, 2) := by decide +kernel
theorem dX8_pairAt_3 : decode cX8_pairAt 3 = .ok (.iconst 0, 1) := by decide +kernel
theorem dX8_pairAt_4 : decode cX8_pairAt 4 = .ok (.istore 5, 2) := by decide +kernel
theorem dX8_pairAt_6 : decode cX8_pairAt 6 = .ok (.iload 5, 2) := by decide +kernel
theorem dX8_pairAt_8 : decode cX8_pairAt 8 = .ok (.aload_n 0, 1) := by decide +kernel
theorem dX8_pairAt_9 : decode cX8_pairAt 9 = .ok (.getfield 10, 3) := by decide +kernel
theorem dX8_pairAt_12 : decode cX8_pairAt 12 = .ok (.getfield 77, 3) := by decide +kernel
theorem dX8_pairAt_15 : decode cX8_pairAt 15 = .ok (.iconst 0, 1) := by decide +kernel
theorem dX8_pairAt_16 : decode cX8_pairAt 16 = .ok (.iaload, 1) := by decide +kernel
theorem dX8_pairAt_17 : decode cX8_pairAt 17 = .ok (.if_icmp .ge 72, 3) := by decide +kernel
theorem dX8_pairAt_20 : decode cX8_pairAt 20 = .ok (.aload_n 0, 1) := by decide +kernel
theorem dX8_pairAt_21 : decode cX8_pairAt 21 = .ok (.iconst 0, 1) := by decide +kernel
theorem dX8_pairAt_22 : decode cX8_pairAt 22 = .ok (.iload 5, 2) := by decide +kernel
theorem dX8_pairAt_24 : decode cX8_pairAt 24 = .ok (.iload_n 1, 1) := by decide +kernel
theorem dX8_pairAt_25 : decode cX8_pairAt 25 = .ok (.iconst 1, 1) := by decide +kernel
theorem dX8_pairAt_26 : decode cX8_pairAt 26 = .ok (.iload_n 2, 1) := by decide +kernel
theorem dX8_pairAt_27 : decode cX8_pairAt 27 = .ok (.invokevirtual 314, 3) := by decide +kernel
theorem dX8_pairAt_30 : decode cX8_pairAt 30 = .ok (.istore 6, 2) := by decide +kernel
theorem dX8_pairAt_32 : decode cX8_pairAt 32 = .ok (.iconst 0, 1) := by decide +kernel
theorem dX8_pairAt_33 : decode cX8_pairAt 33 = .ok (.istore 7, 2) := by decide +kernel
theorem dX8_pairAt_35 : decode cX8_pairAt 35 = .ok (.iload 7, 2) := by decide +kernel
theorem dX8_pairAt_37 : decode cX8_pairAt 37 = .ok (.aload_n 0, 1) := by decide +kernel
theorem dX8_pairAt_38 : decode cX8_pairAt 38 = .ok (.getfield 10, 3) := by decide +kernel
theorem dX8_pairAt_41 : decode cX8_pairAt 41 = .ok (.getfield 77, 3) := by decide +kernel
theorem dX8_pairAt_44 : decode cX8_pairAt 44 = .ok (.iconst 1, 1) := by decide +kernel
theorem dX8_pairAt_45 : decode cX8_pairAt 45 = .ok (.iaload, 1) := by decide +kernel
theorem dX8_pairAt_46 : decode cX8_pairAt 46 = .ok (.if_icmp .ge 37, 3) := by decide +kernel
theorem dX8_pairAt_49 : decode cX8_pairAt 49 = .ok (.iload 6, 2) := by decide +kernel
theorem dX8_pairAt_51 : decode cX8_pairAt 51 = .ok (.iload 7, 2) := by decide +kernel
theorem dX8_pairAt_53 : decode cX8_pairAt 53 = .ok (.invokestatic 185, 3) := by decide +kernel
theorem dX8_pairAt_56 : decode cX8_pairAt 56 = .ok (.ifCond .eq 21, 3) := by decide +kernel
theorem dX8_pairAt_59 : decode cX8_pairAt 59 = .ok (.iload 4, 2) := by decide +kernel
theorem dX8_pairAt_61 : decode cX8_pairAt 61 = .ok (.iload_n 3, 1) := by decide +kernel
theorem dX8_pairAt_62 : decode cX8_pairAt 62 = .ok (.if_icmp .ne 12, 3) := by decide +kernel
theorem dX8_pairAt_65 : decode cX8_pairAt 65 = .ok (.bipush 100, 2) := by decide +kernel
theorem dX8_pairAt_67 : decode cX8_pairAt 67 = .ok (.iload 5, 2) := by decide +kernel
theorem dX8_pairAt_69 : decode cX8_pairAt 69 = .ok (.imul, 1) := by decide +kernel
theorem dX8_pairAt_70 : decode cX8_pairAt 70 = .ok (.iload 7, 2) := by decide +kernel
theorem dX8_pairAt_72 : decode cX8_pairAt 72 = .ok (.iadd, 1) := by decide +kernel
theorem dX8_pairAt_73 : decode cX8_pairAt 73 = .ok (.ireturn, 1) := by decide +kernel
theorem dX8_pairAt_74 : decode cX8_pairAt 74 = .ok (.iinc 4 1, 3) := by decide +kernel
theorem dX8_pairAt_77 : decode cX8_pairAt 77 = .ok (.iinc 7 1, 3) := by decide +kernel
theorem dX8_pairAt_80 : decode cX8_pairAt 80 = .ok (.goto (-45), 3) := by decide +kernel
theorem dX8_pairAt_83 : decode cX8_pairAt 83 = .ok (.iinc 5 1, 3) := by decide +kernel
theorem dX8_pairAt_86 : decode cX8_pairAt 86 = .ok (.goto (-80), 3) := by decide +kernel
theorem dX8_pairAt_89 : decode cX8_pairAt 89 = .ok (.bipush (-2), 2) := by decide +kernel
theorem dX8_pairAt_91 : decode cX8_pairAt 91 = .ok (.ireturn, 1) := by decide +kernel
theorem dX8_truthFor_0 : decode cX8_truthFor 0 = .ok (.aload_n 0, 1) := by decide +kernel
theorem dX8_truthFor_1 : decode cX8_truthFor 1 = .ok (.iload_n 1, 1) := by decide +kernel
theorem dX8_truthFor_2 : decode cX8_truthFor 2 = .ok (.iload_n 2, 1) := by decide +kernel
theorem dX8_truthFor_3 : decode cX8_truthFor 3 = .ok (.invokevirtual 258, 3) := by decide +kernel
theorem dX8_truthFor_6 : decode cX8_truthFor 6 = .ok (.aload_n 0, 1) := by decide +kernel
theorem dX8_truthFor_7 : decode cX8_truthFor 7 = .ok (.getfield 45, 3) := by decide +kernel
theorem dX8_truthFor_10 : decode cX8_truthFor 10 = .ok (.aload_n 3, 1) := by decide +kernel
theorem dX8_truthFor_11 : decode cX8_truthFor 11 = .ok (.aload_n 0, 1) := by decide +kernel
theorem dX8_truthFor_12 : decode cX8_truthFor 12 = .ok (.getfield 38, 3) := by decide +kernel
theorem dX8_truthFor_15 : decode cX8_truthFor 15 = .ok (.aload_n 0, 1) := by decide +kernel
theorem dX8_truthFor_16 : decode cX8_truthFor 16 = .ok (.getfield 38, 3) := by decide +kernel
theorem dX8_truthFor_19 : decode cX8_truthFor 19 = .ok (.invokestatic 261, 3) := by decide +kernel
theorem dX8_truthFor_22 : decode cX8_truthFor 22 = .ok (.invokevirtual 318, 3) := by decide +kernel
theorem dX8_truthFor_25 : decode cX8_truthFor 25 = .ok (.ireturn, 1) := by decide +kernel
theorem dX8_rowsWith_0 : decode cX8_rowsWith 0 = .ok (.iconst 0, 1) := by decide +kernel
theorem dX8_rowsWith_1 : decode cX8_rowsWith 1 = .ok (.istore 4, 2) := by decide +kernel
theorem dX8_rowsWith_3 : decode cX8_rowsWith 3 = .ok (.iconst 0, 1) := by decide +kernel
theorem dX8_rowsWith_4 : decode cX8_rowsWith 4 = .ok (.istore 5, 2) := by decide +kernel
theorem dX8_rowsWith_6 : decode cX8_rowsWith 6 = .ok (.iload 5, 2) := by decide +kernel
theorem dX8_rowsWith_8 : decode cX8_rowsWith 8 = .ok (.aload_n 0, 1) := by decide +kernel
theorem dX8_rowsWith_9 : decode cX8_rowsWith 9 = .ok (.getfield 10, 3) := by decide +kernel
theorem dX8_rowsWith_12 : decode cX8_rowsWith 12 = .ok (.getfield 77, 3) := by decide +kernel
theorem dX8_rowsWith_15 : decode cX8_rowsWith 15 = .ok (.iload_n 1, 1) := by decide +kernel
theorem dX8_rowsWith_16 : decode cX8_rowsWith 16 = .ok (.iaload, 1) := by decide +kernel
theorem dX8_rowsWith_17 : decode cX8_rowsWith 17 = .ok (.if_icmp .ge 30, 3) := by decide +kernel
theorem dX8_rowsWith_20 : decode cX8_rowsWith 20 = .ok (.aload_n 0, 1) := by decide +kernel
theorem dX8_rowsWith_21 : decode cX8_rowsWith 21 = .ok (.iload_n 1, 1) := by decide +kernel
theorem dX8_rowsWith_22 : decode cX8_rowsWith 22 = .ok (.iload 5, 2) := by decide +kernel
theorem dX8_rowsWith_24 : decode cX8_rowsWith 24 = .ok (.aload_n 2, 1) := by decide +kernel
theorem dX8_rowsWith_25 : decode cX8_rowsWith 25 = .ok (.invokevirtual 225, 3) := by decide +kernel
theorem dX8_rowsWith_28 : decode cX8_rowsWith 28 = .ok (.iload_n 3, 1) := by decide +kernel
theorem dX8_rowsWith_29 : decode cX8_rowsWith 29 = .ok (.if_icmp .ne 12, 3) := by decide +kernel
theorem dX8_rowsWith_32 : decode cX8_rowsWith 32 = .ok (.iload 4, 2) := by decide +kernel
theorem dX8_rowsWith_34 : decode cX8_rowsWith 34 = .ok (.iconst 1, 1) := by decide +kernel
theorem dX8_rowsWith_35 : decode cX8_rowsWith 35 = .ok (.iload 5, 2) := by decide +kernel
theorem dX8_rowsWith_37 : decode cX8_rowsWith 37 = .ok (.ishl, 1) := by decide +kernel
theorem dX8_rowsWith_38 : decode cX8_rowsWith 38 = .ok (.ior, 1) := by decide +kernel
theorem dX8_rowsWith_39 : decode cX8_rowsWith 39 = .ok (.istore 4, 2) := by decide +kernel
theorem dX8_rowsWith_41 : decode cX8_rowsWith 41 = .ok (.iinc 5 1, 3) := by decide +kernel
theorem dX8_rowsWith_44 : decode cX8_rowsWith 44 = .ok (.goto (-38), 3) := by decide +kernel
theorem dX8_rowsWith_47 : decode cX8_rowsWith 47 = .ok (.iload 4, 2) := by decide +kernel
theorem dX8_rowsWith_49 : decode cX8_rowsWith 49 = .ok (.ireturn, 1) := by decide +kernel
theorem dX8_countRows_0 : decode cX8_countRows 0 = .ok (.aload_n 2, 1) := by decide +kernel
theorem dX8_countRows_1 : decode cX8_countRows 1 = .ok (.ifnonnull 7, 3) := by decide +kernel
theorem dX8_countRows_4 : decode cX8_countRows 4 = .ok (.iconst 0, 1) := by decide +kernel
theorem dX8_countRows_5 : decode cX8_countRows 5 = .ok (.goto 13, 3) := by decide +kernel
theorem dX8_countRows_8 : decode cX8_countRows 8 = .ok (.aload_n 0, 1) := by decide +kernel
theorem dX8_countRows_9 : decode cX8_countRows 9 = .ok (.iload_n 1, 1) := by decide +kernel
theorem dX8_countRows_10 : decode cX8_countRows 10 = .ok (.aload_n 2, 1) := by decide +kernel
theorem dX8_countRows_11 : decode cX8_countRows 11 = .ok (.iload_n 3, 1) := by decide +kernel
theorem dX8_countRows_12 : decode cX8_countRows 12 = .ok (.invokevirtual 176, 3) := by decide +kernel
theorem dX8_countRows_15 : decode cX8_countRows 15 = .ok (.invokestatic 179, 3) := by decide +kernel
theorem dX8_countRows_18 : decode cX8_countRows 18 = .ok (.ireturn, 1) := by decide +kernel
theorem dX8_rowsByBitSets_0 : decode cX8_rowsByBitSets 0 = .ok (.aload_n 0, 1) := by decide +kernel
theorem dX8_rowsByBitSets_1 : decode cX8_rowsByBitSets 1 = .ok (.getfield 10, 3) := by decide +kernel
theorem dX8_rowsByBitSets_4 : decode cX8_rowsByBitSets 4 = .ok (.getfield 77, 3) := by decide +kernel
theorem dX8_rowsByBitSets_7 : decode cX8_rowsByBitSets 7 = .ok (.iload_n 1, 1) := by decide +kernel
theorem dX8_rowsByBitSets_8 : decode cX8_rowsByBitSets 8 = .ok (.iaload, 1) := by decide +kernel
theorem dX8_rowsByBitSets_9 : decode cX8_rowsByBitSets 9 = .ok (.istore 4, 2) := by decide +kernel
theorem dX8_rowsByBitSets_11 : decode cX8_rowsByBitSets 11 = .ok (.aload_n 0, 1) := by decide +kernel
theorem dX8_rowsByBitSets_12 : decode cX8_rowsByBitSets 12 = .ok (.getfield 45, 3) := by decide +kernel
theorem dX8_rowsByBitSets_15 : decode cX8_rowsByBitSets 15 = .ok (.invokevirtual 322, 3) := by decide +kernel
theorem dX8_rowsByBitSets_18 : decode cX8_rowsByBitSets 18 = .ok (.iconst 0, 1) := by decide +kernel
theorem dX8_rowsByBitSets_19 : decode cX8_rowsByBitSets 19 = .ok (.istore 5, 2) := by decide +kernel
theorem dX8_rowsByBitSets_21 : decode cX8_rowsByBitSets 21 = .ok (.iload 5, 2) := by decide +kernel
theorem dX8_rowsByBitSets_23 : decode cX8_rowsByBitSets 23 = .ok (.aload_n 2, 1) := by decide +kernel
theorem dX8_rowsByBitSets_24 : decode cX8_rowsByBitSets 24 = .ok (.invokevirtual 151, 3) := by decide +kernel
theorem dX8_rowsByBitSets_27 : decode cX8_rowsByBitSets 27 = .ok (.if_icmp .ge 47, 3) := by decide +kernel
theorem dX8_rowsByBitSets_30 : decode cX8_rowsByBitSets 30 = .ok (.aload_n 2, 1) := by decide +kernel
theorem dX8_rowsByBitSets_31 : decode cX8_rowsByBitSets 31 = .ok (.iload 5, 2) := by decide +kernel
theorem dX8_rowsByBitSets_33 : decode cX8_rowsByBitSets 33 = .ok (.invokevirtual 325, 3) := by decide +kernel
theorem dX8_rowsByBitSets_36 : decode cX8_rowsByBitSets 36 = .ok (.istore 6, 2) := by decide +kernel
theorem dX8_rowsByBitSets_38 : decode cX8_rowsByBitSets 38 = .ok (.iload 6, 2) := by decide +kernel
theorem dX8_rowsByBitSets_40 : decode cX8_rowsByBitSets 40 = .ok (.invokestatic 328, 3) := by decide +kernel
theorem dX8_rowsByBitSets_43 : decode cX8_rowsByBitSets 43 = .ok (.ifCond .eq 13, 3) := by decide +kernel
theorem dX8_rowsByBitSets_46 : decode cX8_rowsByBitSets 46 = .ok (.aload_n 0, 1) := by decide +kernel
theorem dX8_rowsByBitSets_47 : decode cX8_rowsByBitSets 47 = .ok (.iload_n 1, 1) := by decide +kernel
theorem dX8_rowsByBitSets_48 : decode cX8_rowsByBitSets 48 = .ok (.iload 6, 2) := by decide +kernel
theorem dX8_rowsByBitSets_50 : decode cX8_rowsByBitSets 50 = .ok (.invokevirtual 334, 3) := by decide +kernel
theorem dX8_rowsByBitSets_53 : decode cX8_rowsByBitSets 53 = .ok (.goto 15, 3) := by decide +kernel
theorem dX8_rowsByBitSets_56 : decode cX8_rowsByBitSets 56 = .ok (.aload_n 0, 1) := by decide +kernel
theorem dX8_rowsByBitSets_57 : decode cX8_rowsByBitSets 57 = .ok (.getfield 45, 3) := by decide +kernel
theorem dX8_rowsByBitSets_60 : decode cX8_rowsByBitSets 60 = .ok (.iload 6, 2) := by decide +kernel
theorem dX8_rowsByBitSets_62 : decode cX8_rowsByBitSets 62 = .ok (.invokestatic 337, 3) := by decide +kernel
theorem dX8_rowsByBitSets_65 : decode cX8_rowsByBitSets 65 = .ok (.invokevirtual 341, 3) := by decide +kernel
theorem dX8_rowsByBitSets_68 : decode cX8_rowsByBitSets 68 = .ok (.iinc 5 1, 3) := by decide +kernel
theorem dX8_rowsByBitSets_71 : decode cX8_rowsByBitSets 71 = .ok (.goto (-50), 3) := by decide +kernel
theorem dX8_rowsByBitSets_74 : decode cX8_rowsByBitSets 74 = .ok (.aload_n 0, 1) := by decide +kernel
theorem dX8_rowsByBitSets_75 : decode cX8_rowsByBitSets 75 = .ok (.getfield 45, 3) := by decide +kernel
theorem dX8_rowsByBitSets_78 : decode cX8_rowsByBitSets 78 = .ok (.invokevirtual 345, 3) := by decide +kernel
theorem dX8_rowsByBitSets_81 : decode cX8_rowsByBitSets 81 = .ok (.istore 5, 2) := by decide +kernel
theorem dX8_rowsByBitSets_83 : decode cX8_rowsByBitSets 83 = .ok (.aload_n 0, 1) := by decide +kernel
theorem dX8_rowsByBitSets_84 : decode cX8_rowsByBitSets 84 = .ok (.getfield 45, 3) := by decide +kernel
theorem dX8_rowsByBitSets_87 : decode cX8_rowsByBitSets 87 = .ok (.invokevirtual 348, 3) := by decide +kernel
theorem dX8_rowsByBitSets_90 : decode cX8_rowsByBitSets 90 = .ok (.istore 6, 2) := by decide +kernel
theorem dX8_rowsByBitSets_92 : decode cX8_rowsByBitSets 92 = .ok (.iload_n 3, 1) := by decide +kernel
theorem dX8_rowsByBitSets_93 : decode cX8_rowsByBitSets 93 = .ok (.lookupswitch 33 #[(0, 30), (2, 27)], 27) := by decide +kernel
theorem dX8_rowsByBitSets_120 : decode cX8_rowsByBitSets 120 = .ok (.iload 5, 2) := by decide +kernel
theorem dX8_rowsByBitSets_122 : decode cX8_rowsByBitSets 122 = .ok (.ireturn, 1) := by decide +kernel
theorem dX8_rowsByBitSets_123 : decode cX8_rowsByBitSets 123 = .ok (.iload 6, 2) := by decide +kernel
theorem dX8_rowsByBitSets_125 : decode cX8_rowsByBitSets 125 = .ok (.ireturn, 1) := by decide +kernel
theorem dX8_rowsByBitSets_126 : decode cX8_rowsByBitSets 126 = .ok (.iconst 1, 1) := by decide +kernel
theorem dX8_rowsByBitSets_127 : decode cX8_rowsByBitSets 127 = .ok (.iload 4, 2) := by decide +kernel
theorem dX8_rowsByBitSets_129 : decode cX8_rowsByBitSets 129 = .ok (.ishl, 1) := by decide +kernel
theorem dX8_rowsByBitSets_130 : decode cX8_rowsByBitSets 130 = .ok (.iconst 1, 1) := by decide +kernel
theorem dX8_rowsByBitSets_131 : decode cX8_rowsByBitSets 131 = .ok (.isub, 1) := by decide +kernel
theorem dX8_rowsByBitSets_132 : decode cX8_rowsByBitSets 132 = .ok (.iload 5, 2) := by decide +kernel
theorem dX8_rowsByBitSets_134 : decode cX8_rowsByBitSets 134 = .ok (.iload 6, 2) := by decide +kernel
theorem dX8_rowsByBitSets_136 : decode cX8_rowsByBitSets 136 = .ok (.ior, 1) := by decide +kernel
theorem dX8_rowsByBitSets_137 : decode cX8_rowsByBitSets 137 = .ok (.iconst (-1), 1) := by decide +kernel
theorem dX8_rowsByBitSets_138 : decode cX8_rowsByBitSets 138 = .ok (.ixor, 1) := by decide +kernel
theorem dX8_rowsByBitSets_139 : decode cX8_rowsByBitSets 139 = .ok (.iand, 1) := by decide +kernel
theorem dX8_rowsByBitSets_140 : decode cX8_rowsByBitSets 140 = .ok (.ireturn, 1) := by decide +kernel
theorem dX8_pushTestSets_0 : decode cX8_pushTestSets 0 = .ok (.iconst 0, 1) := by decide +kernel
theorem dX8_pushTestSets_1 : decode cX8_pushTestSets 1 = .ok (.istore_n 3, 1) := by decide +kernel
theorem dX8_pushTestSets_2 : decode cX8_pushTestSets 2 = .ok (.iconst 0, 1) := by decide +kernel
theorem dX8_pushTestSets_3 : decode cX8_pushTestSets 3 = .ok (.istore 4, 2) := by decide +kernel
theorem dX8_pushTestSets_5 : decode cX8_pushTestSets 5 = .ok (.iconst 0, 1) := by decide +kernel
theorem dX8_pushTestSets_6 : decode cX8_pushTestSets 6 = .ok (.istore 5, 2) := by decide +kernel
theorem dX8_pushTestSets_8 : decode cX8_pushTestSets 8 = .ok (.iload 5, 2) := by decide +kernel
theorem dX8_pushTestSets_10 : decode cX8_pushTestSets 10 = .ok (.aload_n 0, 1) := by decide +kernel
theorem dX8_pushTestSets_11 : decode cX8_pushTestSets 11 = .ok (.getfield 10, 3) := by decide +kernel
theorem dX8_pushTestSets_14 : decode cX8_pushTestSets 14 = .ok (.getfield 77, 3) := by decide +kernel
theorem dX8_pushTestSets_17 : decode cX8_pushTestSets 17 = .ok (.iload_n 1, 1) := by decide +kernel
theorem dX8_pushTestSets_18 : decode cX8_pushTestSets 18 = .ok (.iaload, 1) := by decide +kernel
theorem dX8_pushTestSets_19 : decode cX8_pushTestSets 19 = .ok (.if_icmp .ge 63, 3) := by decide +kernel
theorem dX8_pushTestSets_22 : decode cX8_pushTestSets 22 = .ok (.aload_n 0, 1) := by decide +kernel
theorem dX8_pushTestSets_23 : decode cX8_pushTestSets 23 = .ok (.iload_n 1, 1) := by decide +kernel
theorem dX8_pushTestSets_24 : decode cX8_pushTestSets 24 = .ok (.iload 5, 2) := by decide +kernel
theorem dX8_pushTestSets_26 : decode cX8_pushTestSets 26 = .ok (.invokevirtual 258, 3) := by decide +kernel
theorem dX8_pushTestSets_29 : decode cX8_pushTestSets 29 = .ok (.iload_n 2, 1) := by decide +kernel
theorem dX8_pushTestSets_30 : decode cX8_pushTestSets 30 = .ok (.aload_n 0, 1) := by decide +kernel
theorem dX8_pushTestSets_31 : decode cX8_pushTestSets 31 = .ok (.getfield 38, 3) := by decide +kernel
theorem dX8_pushTestSets_34 : decode cX8_pushTestSets 34 = .ok (.aload_n 0, 1) := by decide +kernel
theorem dX8_pushTestSets_35 : decode cX8_pushTestSets 35 = .ok (.getfield 38, 3) := by decide +kernel
theorem dX8_pushTestSets_38 : decode cX8_pushTestSets 38 = .ok (.invokestatic 261, 3) := by decide +kernel
theorem dX8_pushTestSets_41 : decode cX8_pushTestSets 41 = .ok (.invokestatic 351, 3) := by decide +kernel
theorem dX8_pushTestSets_44 : decode cX8_pushTestSets 44 = .ok (.istore 6, 2) := by decide +kernel
theorem dX8_pushTestSets_46 : decode cX8_pushTestSets 46 = .ok (.iload 6, 2) := by decide +kernel
theorem dX8_pushTestSets_48 : decode cX8_pushTestSets 48 = .ok (.iconst 2, 1) := by decide +kernel
theorem dX8_pushTestSets_49 : decode cX8_pushTestSets 49 = .ok (.if_icmp .ne 13, 3) := by decide +kernel
theorem dX8_pushTestSets_52 : decode cX8_pushTestSets 52 = .ok (.iload_n 3, 1) := by decide +kernel
theorem dX8_pushTestSets_53 : decode cX8_pushTestSets 53 = .ok (.iconst 1, 1) := by decide +kernel
theorem dX8_pushTestSets_54 : decode cX8_pushTestSets 54 = .ok (.iload 5, 2) := by decide +kernel
theorem dX8_pushTestSets_56 : decode cX8_pushTestSets 56 = .ok (.ishl, 1) := by decide +kernel
theorem dX8_pushTestSets_57 : decode cX8_pushTestSets 57 = .ok (.ior, 1) := by decide +kernel
theorem dX8_pushTestSets_58 : decode cX8_pushTestSets 58 = .ok (.istore_n 3, 1) := by decide +kernel
theorem dX8_pushTestSets_59 : decode cX8_pushTestSets 59 = .ok (.goto 17, 3) := by decide +kernel
theorem dX8_pushTestSets_62 : decode cX8_pushTestSets 62 = .ok (.iload 6, 2) := by decide +kernel
theorem dX8_pushTestSets_64 : decode cX8_pushTestSets 64 = .ok (.ifCond .ne 12, 3) := by decide +kernel
theorem dX8_pushTestSets_67 : decode cX8_pushTestSets 67 = .ok (.iload 4, 2) := by decide +kernel
theorem dX8_pushTestSets_69 : decode cX8_pushTestSets 69 = .ok (.iconst 1, 1) := by decide +kernel
theorem dX8_pushTestSets_70 : decode cX8_pushTestSets 70 = .ok (.iload 5, 2) := by decide +kernel
theorem dX8_pushTestSets_72 : decode cX8_pushTestSets 72 = .ok (.ishl, 1) := by decide +kernel
theorem dX8_pushTestSets_73 : decode cX8_pushTestSets 73 = .ok (.ior, 1) := by decide +kernel
theorem dX8_pushTestSets_74 : decode cX8_pushTestSets 74 = .ok (.istore 4, 2) := by decide +kernel
theorem dX8_pushTestSets_76 : decode cX8_pushTestSets 76 = .ok (.iinc 5 1, 3) := by decide +kernel
theorem dX8_pushTestSets_79 : decode cX8_pushTestSets 79 = .ok (.goto (-71), 3) := by decide +kernel
theorem dX8_pushTestSets_82 : decode cX8_pushTestSets 82 = .ok (.aload_n 0, 1) := by decide +kernel
theorem dX8_pushTestSets_83 : decode cX8_pushTestSets 83 = .ok (.getfield 45, 3) := by decide +kernel
theorem dX8_pushTestSets_86 : decode cX8_pushTestSets 86 = .ok (.iload_n 3, 1) := by decide +kernel
theorem dX8_pushTestSets_87 : decode cX8_pushTestSets 87 = .ok (.iload 4, 2) := by decide +kernel
theorem dX8_pushTestSets_89 : decode cX8_pushTestSets 89 = .ok (.invokevirtual 354, 3) := by decide +kernel
theorem dX8_pushTestSets_92 : decode cX8_pushTestSets 92 = .ok (.return_, 1) := by decide +kernel
theorem dX8_rowViolates_0 : decode cX8_rowViolates 0 = .ok (.aload_n 1, 1) := by decide +kernel
theorem dX8_rowViolates_1 : decode cX8_rowViolates 1 = .ok (.ifnull 29, 3) := by decide +kernel
theorem dX8_rowViolates_4 : decode cX8_rowViolates 4 = .ok (.aload_n 0, 1) := by decide +kernel
theorem dX8_rowViolates_5 : decode cX8_rowViolates 5 = .ok (.getfield 45, 3) := by decide +kernel
theorem dX8_rowViolates_8 : decode cX8_rowViolates 8 = .ok (.aload_n 1, 1) := by decide +kernel
theorem dX8_rowViolates_9 : decode cX8_rowViolates 9 = .ok (.aload_n 0, 1) := by decide +kernel
theorem dX8_rowViolates_10 : decode cX8_rowViolates 10 = .ok (.getfield 38, 3) := by decide +kernel
theorem dX8_rowViolates_13 : decode cX8_rowViolates 13 = .ok (.aload_n 0, 1) := by decide +kernel
theorem dX8_rowViolates_14 : decode cX8_rowViolates 14 = .ok (.getfield 38, 3) := by decide +kernel
theorem dX8_rowViolates_17 : decode cX8_rowViolates 17 = .ok (.invokestatic 261, 3) := by decide +kernel
theorem dX8_rowViolates_20 : decode cX8_rowViolates 20 = .ok (.invokevirtual 318, 3) := by decide +kernel
theorem dX8_rowViolates_23 : decode cX8_rowViolates 23 = .ok (.ifCond .ne 7, 3) := by decide +kernel
theorem dX8_rowViolates_26 : decode cX8_rowViolates 26 = .ok (.iconst 1, 1) := by decide +kernel
theorem dX8_rowViolates_27 : decode cX8_rowViolates 27 = .ok (.goto 4, 3) := by decide +kernel
theorem dX8_rowViolates_30 : decode cX8_rowViolates 30 = .ok (.iconst 0, 1) := by decide +kernel
theorem dX8_rowViolates_31 : decode cX8_rowViolates 31 = .ok (.ireturn, 1) := by decide +kernel
theorem dX8_wouldViolate_0 : decode cX8_wouldViolate 0 = .ok (.aload_n 0, 1) := by decide +kernel
theorem dX8_wouldViolate_1 : decode cX8_wouldViolate 1 = .ok (.iload_n 1, 1) := by decide +kernel
theorem dX8_wouldViolate_2 : decode cX8_wouldViolate 2 = .ok (.iload_n 2, 1) := by decide +kernel
theorem dX8_wouldViolate_3 : decode cX8_wouldViolate 3 = .ok (.invokevirtual 258, 3) := by decide +kernel
theorem dX8_wouldViolate_6 : decode cX8_wouldViolate 6 = .ok (.aload_n 0, 1) := by decide +kernel
theorem dX8_wouldViolate_7 : decode cX8_wouldViolate 7 = .ok (.getfield 38, 3) := by decide +kernel
theorem dX8_wouldViolate_10 : decode cX8_wouldViolate 10 = .ok (.iload_n 3, 1) := by decide +kernel
theorem dX8_wouldViolate_11 : decode cX8_wouldViolate 11 = .ok (.iload 4, 2) := by decide +kernel
theorem dX8_wouldViolate_13 : decode cX8_wouldViolate 13 = .ok (.iastore, 1) := by decide +kernel
theorem dX8_wouldViolate_14 : decode cX8_wouldViolate 14 = .ok (.aload_n 0, 1) := by decide +kernel
theorem dX8_wouldViolate_15 : decode cX8_wouldViolate 15 = .ok (.aload_n 0, 1) := by decide +kernel
theorem dX8_wouldViolate_16 : decode cX8_wouldViolate 16 = .ok (.getfield 10, 3) := by decide +kernel
theorem dX8_wouldViolate_19 : decode cX8_wouldViolate 19 = .ok (.getfield 90, 3) := by decide +kernel
theorem dX8_wouldViolate_22 : decode cX8_wouldViolate 22 = .ok (.iload_n 1, 1) := by decide +kernel
theorem dX8_wouldViolate_23 : decode cX8_wouldViolate 23 = .ok (.aaload, 1) := by decide +kernel
theorem dX8_wouldViolate_24 : decode cX8_wouldViolate 24 = .ok (.invokevirtual 94, 3) := by decide +kernel
theorem dX8_wouldViolate_27 : decode cX8_wouldViolate 27 = .ok (.ireturn, 1) := by decide +kernel
theorem dX8_related_0 : decode cX8_related 0 = .ok (.iload_n 2, 1) := by decide +kernel
theorem dX8_related_1 : decode cX8_related 1 = .ok (.lookupswitch 54 #[(0, 27), (1, 38)], 27) := by decide +kernel
theorem dX8_related_28 : decode cX8_related 28 = .ok (.iload_n 0, 1) := by decide +kernel
theorem dX8_related_29 : decode cX8_related 29 = .ok (.iload_n 1, 1) := by decide +kernel
theorem dX8_related_30 : decode cX8_related 30 = .ok (.if_icmp .ne 7, 3) := by decide +kernel
theorem dX8_related_33 : decode cX8_related 33 = .ok (.iconst 1, 1) := by decide +kernel
theorem dX8_related_34 : decode cX8_related 34 = .ok (.goto 4, 3) := by decide +kernel
theorem dX8_related_37 : decode cX8_related 37 = .ok (.iconst 0, 1) := by decide +kernel
theorem dX8_related_38 : decode cX8_related 38 = .ok (.ireturn, 1) := by decide +kernel
theorem dX8_related_39 : decode cX8_related 39 = .ok (.iload_n 0, 1) := by decide +kernel
theorem dX8_related_40 : decode cX8_related 40 = .ok (.iconst 2, 1) := by decide +kernel
theorem dX8_related_41 : decode cX8_related 41 = .ok (.if_icmp .ne 12, 3) := by decide +kernel
theorem dX8_related_44 : decode cX8_related 44 = .ok (.iload_n 1, 1) := by decide +kernel
theorem dX8_related_45 : decode cX8_related 45 = .ok (.iconst 2, 1) := by decide +kernel
theorem dX8_related_46 : decode cX8_related 46 = .ok (.if_icmp .eq 7, 3) := by decide +kernel
theorem dX8_related_49 : decode cX8_related 49 = .ok (.iconst 1, 1) := by decide +kernel
theorem dX8_related_50 : decode cX8_related 50 = .ok (.goto 4, 3) := by decide +kernel
theorem dX8_related_53 : decode cX8_related 53 = .ok (.iconst 0, 1) := by decide +kernel
theorem dX8_related_54 : decode cX8_related 54 = .ok (.ireturn, 1) := by decide +kernel
theorem dX8_related_55 : decode cX8_related 55 = .ok (.iload_n 0, 1) := by decide +kernel
theorem dX8_related_56 : decode cX8_related 56 = .ok (.iload_n 1, 1) := by decide +kernel
theorem dX8_related_57 : decode cX8_related 57 = .ok (.if_icmp .ge 7, 3) := by decide +kernel
theorem dX8_related_60 : decode cX8_related 60 = .ok (.iconst 1, 1) := by decide +kernel
theorem dX8_related_61 : decode cX8_related 61 = .ok (.goto 4, 3) := by decide +kernel
theorem dX8_related_64 : decode cX8_related 64 = .ok (.iconst 0, 1) := by decide +kernel
theorem dX8_related_65 : decode cX8_related 65 = .ok (.ireturn, 1) := by decide +kernel
theorem dX8_certainty_0 : decode cX8_certainty 0 = .ok (.iload_n 3, 1) := by decide +kernel
theorem dX8_certainty_1 : decode cX8_certainty 1 = .ok (.invokestatic 357, 3) := by decide +kernel
theorem dX8_certainty_4 : decode cX8_certainty 4 = .ok (.istore 4, 2) := by decide +kernel
theorem dX8_certainty_6 : decode cX8_certainty 6 = .ok (.iload_n 3, 1) := by decide +kernel
theorem dX8_certainty_7 : decode cX8_certainty 7 = .ok (.iload_n 3, 1) := by decide +kernel
theorem dX8_certainty_8 : decode cX8_certainty 8 = .ok (.iconst 1, 1) := by decide +kernel
theorem dX8_certainty_9 : decode cX8_certainty 9 = .ok (.isub, 1) := by decide +kernel
theorem dX8_certainty_10 : decode cX8_certainty 10 = .ok (.iand, 1) := by decide +kernel
theorem dX8_certainty_11 : decode cX8_certainty 11 = .ok (.invokestatic 357, 3) := by decide +kernel
theorem dX8_certainty_14 : decode cX8_certainty 14 = .ok (.istore 5, 2) := by decide +kernel
theorem dX8_certainty_16 : decode cX8_certainty 16 = .ok (.iload 4, 2) := by decide +kernel
theorem dX8_certainty_18 : decode cX8_certainty 18 = .ok (.iconst 4, 1) := by decide +kernel
theorem dX8_certainty_19 : decode cX8_certainty 19 = .ok (.if_icmp .ge 13, 3) := by decide +kernel
theorem dX8_certainty_22 : decode cX8_certainty 22 = .ok (.aload_n 0, 1) := by decide +kernel
theorem dX8_certainty_23 : decode cX8_certainty 23 = .ok (.getfield 52, 3) := by decide +kernel
theorem dX8_certainty_26 : decode cX8_certainty 26 = .ok (.invokevirtual 360, 3) := by decide +kernel
theorem dX8_certainty_29 : decode cX8_certainty 29 = .ok (.goto 4, 3) := by decide +kernel
theorem dX8_certainty_32 : decode cX8_certainty 32 = .ok (.iconst 1, 1) := by decide +kernel
theorem dX8_certainty_33 : decode cX8_certainty 33 = .ok (.istore 6, 2) := by decide +kernel
theorem dX8_certainty_35 : decode cX8_certainty 35 = .ok (.iload 5, 2) := by decide +kernel
theorem dX8_certainty_37 : decode cX8_certainty 37 = .ok (.iconst 4, 1) := by decide +kernel
theorem dX8_certainty_38 : decode cX8_certainty 38 = .ok (.if_icmp .ge 13, 3) := by decide +kernel
theorem dX8_certainty_41 : decode cX8_certainty 41 = .ok (.aload_n 0, 1) := by decide +kernel
theorem dX8_certainty_42 : decode cX8_certainty 42 = .ok (.getfield 52, 3) := by decide +kernel
theorem dX8_certainty_45 : decode cX8_certainty 45 = .ok (.invokevirtual 360, 3) := by decide +kernel
theorem dX8_certainty_48 : decode cX8_certainty 48 = .ok (.goto 4, 3) := by decide +kernel
theorem dX8_certainty_51 : decode cX8_certainty 51 = .ok (.iconst 1, 1) := by decide +kernel
theorem dX8_certainty_52 : decode cX8_certainty 52 = .ok (.istore 7, 2) := by decide +kernel
theorem dX8_certainty_54 : decode cX8_certainty 54 = .ok (.iconst 0, 1) := by decide +kernel
theorem dX8_certainty_55 : decode cX8_certainty 55 = .ok (.istore 8, 2) := by decide +kernel
theorem dX8_certainty_57 : decode cX8_certainty 57 = .ok (.iconst 0, 1) := by decide +kernel
theorem dX8_certainty_58 : decode cX8_certainty 58 = .ok (.istore 9, 2) := by decide +kernel
theorem dX8_certainty_60 : decode cX8_certainty 60 = .ok (.iconst 0, 1) := by decide +kernel
theorem dX8_certainty_61 : decode cX8_certainty 61 = .ok (.istore 10, 2) := by decide +kernel
theorem dX8_certainty_63 : decode cX8_certainty 63 = .ok (.iload 10, 2) := by decide +kernel
theorem dX8_certainty_65 : decode cX8_certainty 65 = .ok (.iload 6, 2) := by decide +kernel
theorem dX8_certainty_67 : decode cX8_certainty 67 = .ok (.if_icmp .ge 115, 3) := by decide +kernel
theorem dX8_certainty_70 : decode cX8_certainty 70 = .ok (.iload 8, 2) := by decide +kernel
theorem dX8_certainty_72 : decode cX8_certainty 72 = .ok (.ifCond .eq 8, 3) := by decide +kernel
theorem dX8_certainty_75 : decode cX8_certainty 75 = .ok (.iload 9, 2) := by decide +kernel
theorem dX8_certainty_77 : decode cX8_certainty 77 = .ok (.ifCond .ne 105, 3) := by decide +kernel
theorem dX8_certainty_80 : decode cX8_certainty 80 = .ok (.iload 4, 2) := by decide +kernel
theorem dX8_certainty_82 : decode cX8_certainty 82 = .ok (.iconst 4, 1) := by decide +kernel
theorem dX8_certainty_83 : decode cX8_certainty 83 = .ok (.if_icmp .ge 19, 3) := by decide +kernel
theorem dX8_certainty_86 : decode cX8_certainty 86 = .ok (.aload_n 0, 1) := by decide +kernel
theorem dX8_certainty_87 : decode cX8_certainty 87 = .ok (.getfield 38, 3) := by decide +kernel
theorem dX8_certainty_90 : decode cX8_certainty 90 = .ok (.iload 4, 2) := by decide +kernel
theorem dX8_certainty_92 : decode cX8_certainty 92 = .ok (.aload_n 0, 1) := by decide +kernel
theorem dX8_certainty_93 : decode cX8_certainty 93 = .ok (.getfield 52, 3) := by decide +kernel
theorem dX8_certainty_96 : decode cX8_certainty 96 = .ok (.iload 10, 2) := by decide +kernel
theorem dX8_certainty_98 : decode cX8_certainty 98 = .ok (.invokevirtual 361, 3) := by decide +kernel
theorem dX8_certainty_101 : decode cX8_certainty 101 = .ok (.iastore, 1) := by decide +kernel
theorem dX8_certainty_102 : decode cX8_certainty 102 = .ok (.iconst 0, 1) := by decide +kernel
theorem dX8_certainty_103 : decode cX8_certainty 103 = .ok (.istore 11, 2) := by decide +kernel
theorem dX8_certainty_105 : decode cX8_certainty 105 = .ok (.iload 11, 2) := by decide +kernel
theorem dX8_certainty_107 : decode cX8_certainty 107 = .ok (.iload 7, 2) := by decide +kernel
theorem dX8_certainty_109 : decode cX8_certainty 109 = .ok (.if_icmp .ge 67, 3) := by decide +kernel
theorem dX8_certainty_112 : decode cX8_certainty 112 = .ok (.iload 8, 2) := by decide +kernel
theorem dX8_certainty_114 : decode cX8_certainty 114 = .ok (.ifCond .eq 8, 3) := by decide +kernel
theorem dX8_certainty_117 : decode cX8_certainty 117 = .ok (.iload 9, 2) := by decide +kernel
theorem dX8_certainty_119 : decode cX8_certainty 119 = .ok (.ifCond .ne 57, 3) := by decide +kernel
theorem dX8_certainty_122 : decode cX8_certainty 122 = .ok (.iload 5, 2) := by decide +kernel
theorem dX8_certainty_124 : decode cX8_certainty 124 = .ok (.iconst 4, 1) := by decide +kernel
theorem dX8_certainty_125 : decode cX8_certainty 125 = .ok (.if_icmp .ge 19, 3) := by decide +kernel
theorem dX8_certainty_128 : decode cX8_certainty 128 = .ok (.aload_n 0, 1) := by decide +kernel
theorem dX8_certainty_129 : decode cX8_certainty 129 = .ok (.getfield 38, 3) := by decide +kernel
theorem dX8_certainty_132 : decode cX8_certainty 132 = .ok (.iload 5, 2) := by decide +kernel
theorem dX8_certainty_134 : decode cX8_certainty 134 = .ok (.aload_n 0, 1) := by decide +kernel
theorem dX8_certainty_135 : decode cX8_certainty 135 = .ok (.getfield 52, 3) := by decide +kernel
theorem dX8_certainty_138 : decode cX8_certainty 138 = .ok (.iload 11, 2) := by decide +kernel
theorem dX8_certainty_140 : decode cX8_certainty 140 = .ok (.invokevirtual 361, 3) := by decide +kernel
theorem dX8_certainty_143 : decode cX8_certainty 143 = .ok (.iastore, 1) := by decide +kernel
theorem dX8_certainty_144 : decode cX8_certainty 144 = .ok (.aload_n 0, 1) := by decide +kernel
theorem dX8_certainty_145 : decode cX8_certainty 145 = .ok (.getfield 45, 3) := by decide +kernel
theorem dX8_certainty_148 : decode cX8_certainty 148 = .ok (.aload_n 1, 1) := by decide +kernel
theorem dX8_certainty_149 : decode cX8_certainty 149 = .ok (.aload_n 0, 1) := by decide +kernel
theorem dX8_certainty_150 : decode cX8_certainty 150 = .ok (.getfield 38, 3) := by decide +kernel
theorem dX8_certainty_153 : decode cX8_certainty 153 = .ok (.iload_n 2, 1) := by decide +kernel
theorem dX8_certainty_154 : decode cX8_certainty 154 = .ok (.invokevirtual 318, 3) := by decide +kernel
theorem dX8_certainty_157 : decode cX8_certainty 157 = .ok (.iconst 2, 1) := by decide +kernel
theorem dX8_certainty_158 : decode cX8_certainty 158 = .ok (.if_icmp .ne 9, 3) := by decide +kernel
theorem dX8_certainty_161 : decode cX8_certainty 161 = .ok (.iconst 1, 1) := by decide +kernel
theorem dX8_certainty_162 : decode cX8_certainty 162 = .ok (.istore 8, 2) := by decide +kernel
theorem dX8_certainty_164 : decode cX8_certainty 164 = .ok (.goto 6, 3) := by decide +kernel
theorem dX8_certainty_167 : decode cX8_certainty 167 = .ok (.iconst 1, 1) := by decide +kernel
theorem dX8_certainty_168 : decode cX8_certainty 168 = .ok (.istore 9, 2) := by decide +kernel
theorem dX8_certainty_170 : decode cX8_certainty 170 = .ok (.iinc 11 1, 3) := by decide +kernel
theorem dX8_certainty_173 : decode cX8_certainty 173 = .ok (.goto (-68), 3) := by decide +kernel
theorem dX8_certainty_176 : decode cX8_certainty 176 = .ok (.iinc 10 1, 3) := by decide +kernel
theorem dX8_certainty_179 : decode cX8_certainty 179 = .ok (.goto (-116), 3) := by decide +kernel
theorem dX8_certainty_182 : decode cX8_certainty 182 = .ok (.iload 8, 2) := by decide +kernel
theorem dX8_certainty_184 : decode cX8_certainty 184 = .ok (.ifCond .eq 10, 3) := by decide +kernel
theorem dX8_certainty_187 : decode cX8_certainty 187 = .ok (.iload 9, 2) := by decide +kernel
theorem dX8_certainty_189 : decode cX8_certainty 189 = .ok (.ifCond .eq 5, 3) := by decide +kernel
theorem dX8_certainty_192 : decode cX8_certainty 192 = .ok (.iconst 1, 1) := by decide +kernel
theorem dX8_certainty_193 : decode cX8_certainty 193 = .ok (.ireturn, 1) := by decide +kernel
theorem dX8_certainty_194 : decode cX8_certainty 194 = .ok (.iload 8, 2) := by decide +kernel
theorem dX8_certainty_196 : decode cX8_certainty 196 = .ok (.ifCond .eq 7, 3) := by decide +kernel
theorem dX8_certainty_199 : decode cX8_certainty 199 = .ok (.iconst 2, 1) := by decide +kernel
theorem dX8_certainty_200 : decode cX8_certainty 200 = .ok (.goto 4, 3) := by decide +kernel
theorem dX8_certainty_203 : decode cX8_certainty 203 = .ok (.iconst 0, 1) := by decide +kernel
theorem dX8_certainty_204 : decode cX8_certainty 204 = .ok (.ireturn, 1) := by decide +kernel
theorem dX8_lowestBit_0 : decode cX8_lowestBit 0 = .ok (.iconst 0, 1) := by decide +kernel
theorem dX8_lowestBit_1 : decode cX8_lowestBit 1 = .ok (.istore_n 1, 1) := by decide +kernel
theorem dX8_lowestBit_2 : decode cX8_lowestBit 2 = .ok (.iload_n 1, 1) := by decide +kernel
theorem dX8_lowestBit_3 : decode cX8_lowestBit 3 = .ok (.iconst 4, 1) := by decide +kernel
theorem dX8_lowestBit_4 : decode cX8_lowestBit 4 = .ok (.if_icmp .ge 17, 3) := by decide +kernel
theorem dX8_lowestBit_7 : decode cX8_lowestBit 7 = .ok (.iload_n 0, 1) := by decide +kernel
theorem dX8_lowestBit_8 : decode cX8_lowestBit 8 = .ok (.iload_n 1, 1) := by decide +kernel
theorem dX8_lowestBit_9 : decode cX8_lowestBit 9 = .ok (.invokestatic 185, 3) := by decide +kernel
theorem dX8_lowestBit_12 : decode cX8_lowestBit 12 = .ok (.ifCond .ne 9, 3) := by decide +kernel
theorem dX8_lowestBit_15 : decode cX8_lowestBit 15 = .ok (.iinc 1 1, 3) := by decide +kernel
theorem dX8_lowestBit_18 : decode cX8_lowestBit 18 = .ok (.goto (-16), 3) := by decide +kernel
theorem dX8_lowestBit_21 : decode cX8_lowestBit 21 = .ok (.iload_n 1, 1) := by decide +kernel
theorem dX8_lowestBit_22 : decode cX8_lowestBit 22 = .ok (.ireturn, 1) := by decide +kernel
theorem dX8_negationOf_0 : decode cX8_negationOf 0 = .ok (.aload_n 0, 1) := by decide +kernel
theorem dX8_negationOf_1 : decode cX8_negationOf 1 = .ok (.invokevirtual 151, 3) := by decide +kernel
theorem dX8_negationOf_4 : decode cX8_negationOf 4 = .ok (.iconst 1, 1) := by decide +kernel
theorem dX8_negationOf_5 : decode cX8_negationOf 5 = .ok (.iadd, 1) := by decide +kernel
theorem dX8_negationOf_6 : decode cX8_negationOf 6 = .ok (.istore_n 1, 1) := by decide +kernel
theorem dX8_negationOf_7 : decode cX8_negationOf 7 = .ok (.iload_n 1, 1) := by decide +kernel
theorem dX8_negationOf_8 : decode cX8_negationOf 8 = .ok (.invokestatic 364, 3) := by decide +kernel
theorem dX8_negationOf_11 : decode cX8_negationOf 11 = .ok (.iload_n 1, 1) := by decide +kernel
theorem dX8_negationOf_12 : decode cX8_negationOf 12 = .ok (.newarray .int, 2) := by decide +kernel
theorem dX8_negationOf_14 : decode cX8_negationOf 14 = .ok (.astore_n 2, 1) := by decide +kernel
theorem dX8_negationOf_15 : decode cX8_negationOf 15 = .ok (.aload_n 0, 1) := by decide +kernel
theorem dX8_negationOf_16 : decode cX8_negationOf 16 = .ok (.aload_n 2, 1) := by decide +kernel
theorem dX8_negationOf_17 : decode cX8_negationOf 17 = .ok (.iconst 0, 1) := by decide +kernel
theorem dX8_negationOf_18 : decode cX8_negationOf 18 = .ok (.invokevirtual 367, 3) := by decide +kernel
theorem dX8_negationOf_21 : decode cX8_negationOf 21 = .ok (.aload_n 2, 1) := by decide +kernel
theorem dX8_negationOf_22 : decode cX8_negationOf 22 = .ok (.iload_n 1, 1) := by decide +kernel
theorem dX8_negationOf_23 : decode cX8_negationOf 23 = .ok (.iconst 1, 1) := by decide +kernel
theorem dX8_negationOf_24 : decode cX8_negationOf 24 = .ok (.isub, 1) := by decide +kernel
theorem dX8_negationOf_25 : decode cX8_negationOf 25 = .ok (.bipush 33, 2) := by decide +kernel
theorem dX8_negationOf_27 : decode cX8_negationOf 27 = .ok (.invokestatic 371, 3) := by decide +kernel
theorem dX8_negationOf_30 : decode cX8_negationOf 30 = .ok (.iastore, 1) := by decide +kernel
theorem dX8_negationOf_31 : decode cX8_negationOf 31 = .ok (.new 139, 3) := by decide +kernel
theorem dX8_negationOf_34 : decode cX8_negationOf 34 = .ok (.dup, 1) := by decide +kernel
theorem dX8_negationOf_35 : decode cX8_negationOf 35 = .ok (.aload_n 2, 1) := by decide +kernel
theorem dX8_negationOf_36 : decode cX8_negationOf 36 = .ok (.invokespecial 145, 3) := by decide +kernel
theorem dX8_negationOf_39 : decode cX8_negationOf 39 = .ok (.areturn, 1) := by decide +kernel
theorem dX8_joinOf_0 : decode cX8_joinOf 0 = .ok (.aload_n 0, 1) := by decide +kernel
theorem dX8_joinOf_1 : decode cX8_joinOf 1 = .ok (.invokevirtual 151, 3) := by decide +kernel
theorem dX8_joinOf_4 : decode cX8_joinOf 4 = .ok (.aload_n 1, 1) := by decide +kernel
theorem dX8_joinOf_5 : decode cX8_joinOf 5 = .ok (.invokevirtual 151, 3) := by decide +kernel
theorem dX8_joinOf_8 : decode cX8_joinOf 8 = .ok (.iadd, 1) := by decide +kernel
theorem dX8_joinOf_9 : decode cX8_joinOf 9 = .ok (.iconst 1, 1) := by decide +kernel
theorem dX8_joinOf_10 : decode cX8_joinOf 10 = .ok (.iadd, 1) := by decide +kernel
theorem dX8_joinOf_11 : decode cX8_joinOf 11 = .ok (.istore_n 3, 1) := by decide +kernel
theorem dX8_joinOf_12 : decode cX8_joinOf 12 = .ok (.iload_n 3, 1) := by decide +kernel
theorem dX8_joinOf_13 : decode cX8_joinOf 13 = .ok (.invokestatic 364, 3) := by decide +kernel
theorem dX8_joinOf_16 : decode cX8_joinOf 16 = .ok (.iload_n 3, 1) := by decide +kernel
theorem dX8_joinOf_17 : decode cX8_joinOf 17 = .ok (.newarray .int, 2) := by decide +kernel
theorem dX8_joinOf_19 : decode cX8_joinOf 19 = .ok (.astore 4, 2) := by decide +kernel
theorem dX8_joinOf_21 : decode cX8_joinOf 21 = .ok (.aload_n 0, 1) := by decide +kernel
theorem dX8_joinOf_22 : decode cX8_joinOf 22 = .ok (.aload 4, 2) := by decide +kernel
theorem dX8_joinOf_24 : decode cX8_joinOf 24 = .ok (.iconst 0, 1) := by decide +kernel
theorem dX8_joinOf_25 : decode cX8_joinOf 25 = .ok (.invokevirtual 367, 3) := by decide +kernel
theorem dX8_joinOf_28 : decode cX8_joinOf 28 = .ok (.aload_n 1, 1) := by decide +kernel
theorem dX8_joinOf_29 : decode cX8_joinOf 29 = .ok (.aload 4, 2) := by decide +kernel
theorem dX8_joinOf_31 : decode cX8_joinOf 31 = .ok (.aload_n 0, 1) := by decide +kernel
theorem dX8_joinOf_32 : decode cX8_joinOf 32 = .ok (.invokevirtual 151, 3) := by decide +kernel
theorem dX8_joinOf_35 : decode cX8_joinOf 35 = .ok (.invokevirtual 367, 3) := by decide +kernel
theorem dX8_joinOf_38 : decode cX8_joinOf 38 = .ok (.aload 4, 2) := by decide +kernel
theorem dX8_joinOf_40 : decode cX8_joinOf 40 = .ok (.iload_n 3, 1) := by decide +kernel
theorem dX8_joinOf_41 : decode cX8_joinOf 41 = .ok (.iconst 1, 1) := by decide +kernel
theorem dX8_joinOf_42 : decode cX8_joinOf 42 = .ok (.isub, 1) := by decide +kernel
theorem dX8_joinOf_43 : decode cX8_joinOf 43 = .ok (.iload_n 2, 1) := by decide +kernel
theorem dX8_joinOf_44 : decode cX8_joinOf 44 = .ok (.invokestatic 371, 3) := by decide +kernel
theorem dX8_joinOf_47 : decode cX8_joinOf 47 = .ok (.iastore, 1) := by decide +kernel
theorem dX8_joinOf_48 : decode cX8_joinOf 48 = .ok (.new 139, 3) := by decide +kernel
theorem dX8_joinOf_51 : decode cX8_joinOf 51 = .ok (.dup, 1) := by decide +kernel
theorem dX8_joinOf_52 : decode cX8_joinOf 52 = .ok (.aload 4, 2) := by decide +kernel
theorem dX8_joinOf_54 : decode cX8_joinOf 54 = .ok (.invokespecial 145, 3) := by decide +kernel
theorem dX8_joinOf_57 : decode cX8_joinOf 57 = .ok (.areturn, 1) := by decide +kernel
theorem dX8_requireCombinedSize_0 : decode cX8_requireCombinedSize 0 = .ok (.iload_n 0, 1) := by decide +kernel
theorem dX8_requireCombinedSize_1 : decode cX8_requireCombinedSize 1 = .ok (.bipush 40, 2) := by decide +kernel
theorem dX8_requireCombinedSize_3 : decode cX8_requireCombinedSize 3 = .ok (.if_icmp .le 14, 3) := by decide +kernel
theorem dX8_requireCombinedSize_6 : decode cX8_requireCombinedSize 6 = .ok (.new 80, 3) := by decide +kernel
theorem dX8_requireCombinedSize_9 : decode cX8_requireCombinedSize 9 = .ok (.dup, 1) := by decide +kernel
theorem dX8_requireCombinedSize_10 : decode cX8_requireCombinedSize 10 = .ok (.ldc_w 375, 3) := by decide +kernel
theorem dX8_requireCombinedSize_13 : decode cX8_requireCombinedSize 13 = .ok (.invokespecial 84, 3) := by decide +kernel
theorem dX8_requireCombinedSize_16 : decode cX8_requireCombinedSize 16 = .ok (.athrow, 1) := by decide +kernel
theorem dX8_requireCombinedSize_17 : decode cX8_requireCombinedSize 17 = .ok (.return_, 1) := by decide +kernel
