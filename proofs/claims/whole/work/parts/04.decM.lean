theorem dX9_init_0 : decode cX9_init 0 = .ok (.aload_n 0, 1) := by decide +kernel
theorem dX9_init_1 : decode cX9_init 1 = .ok (.invokespecial 1, 3) := by decide +kernel
theorem dX9_init_4 : decode cX9_init 4 = .ok (.aload_n 0, 1) := by decide +kernel
theorem dX9_init_5 : decode cX9_init 5 = .ok (.sipush 619, 3) := by decide +kernel
theorem dX9_init_8 : decode cX9_init 8 = .ok (.newarray .int, 2) := by decide +kernel
theorem dX9_init_10 : decode cX9_init 10 = .ok (.putfield 7, 3) := by decide +kernel
theorem dX9_init_13 : decode cX9_init 13 = .ok (.aload_n 0, 1) := by decide +kernel
theorem dX9_init_14 : decode cX9_init 14 = .ok (.sipush 3714, 3) := by decide +kernel
theorem dX9_init_17 : decode cX9_init 17 = .ok (.newarray .int, 2) := by decide +kernel
theorem dX9_init_19 : decode cX9_init 19 = .ok (.putfield 13, 3) := by decide +kernel
theorem dX9_init_22 : decode cX9_init 22 = .ok (.aload_n 0, 1) := by decide +kernel
theorem dX9_init_23 : decode cX9_init 23 = .ok (.sipush 1238, 3) := by decide +kernel
theorem dX9_init_26 : decode cX9_init 26 = .ok (.newarray .int, 2) := by decide +kernel
theorem dX9_init_28 : decode cX9_init 28 = .ok (.putfield 16, 3) := by decide +kernel
theorem dX9_init_31 : decode cX9_init 31 = .ok (.aload_n 0, 1) := by decide +kernel
theorem dX9_init_32 : decode cX9_init 32 = .ok (.iconst 2, 1) := by decide +kernel
theorem dX9_init_33 : decode cX9_init 33 = .ok (.newarray .boolean, 2) := by decide +kernel
theorem dX9_init_35 : decode cX9_init 35 = .ok (.putfield 19, 3) := by decide +kernel
theorem dX9_init_38 : decode cX9_init 38 = .ok (.aload_n 0, 1) := by decide +kernel
theorem dX9_init_39 : decode cX9_init 39 = .ok (.bipush 60, 2) := by decide +kernel
theorem dX9_init_41 : decode cX9_init 41 = .ok (.newarray .int, 2) := by decide +kernel
theorem dX9_init_43 : decode cX9_init 43 = .ok (.putfield 23, 3) := by decide +kernel
theorem dX9_init_46 : decode cX9_init 46 = .ok (.aload_n 0, 1) := by decide +kernel
theorem dX9_init_47 : decode cX9_init 47 = .ok (.iconst 4, 1) := by decide +kernel
theorem dX9_init_48 : decode cX9_init 48 = .ok (.newarray .int, 2) := by decide +kernel
theorem dX9_init_50 : decode cX9_init 50 = .ok (.putfield 26, 3) := by decide +kernel
theorem dX9_init_53 : decode cX9_init 53 = .ok (.aload_n 0, 1) := by decide +kernel
theorem dX9_init_54 : decode cX9_init 54 = .ok (.iconst 4, 1) := by decide +kernel
theorem dX9_init_55 : decode cX9_init 55 = .ok (.newarray .int, 2) := by decide +kernel
theorem dX9_init_57 : decode cX9_init 57 = .ok (.putfield 29, 3) := by decide +kernel
theorem dX9_init_60 : decode cX9_init 60 = .ok (.aload_n 0, 1) := by decide +kernel
theorem dX9_init_61 : decode cX9_init 61 = .ok (.bipush 60, 2) := by decide +kernel
theorem dX9_init_63 : decode cX9_init 63 = .ok (.newarray .int, 2) := by decide +kernel
theorem dX9_init_65 : decode cX9_init 65 = .ok (.putfield 32, 3) := by decide +kernel
theorem dX9_init_68 : decode cX9_init 68 = .ok (.aload_n 0, 1) := by decide +kernel
theorem dX9_init_69 : decode cX9_init 69 = .ok (.bipush 60, 2) := by decide +kernel
theorem dX9_init_71 : decode cX9_init 71 = .ok (.newarray .int, 2) := by decide +kernel
theorem dX9_init_73 : decode cX9_init 73 = .ok (.putfield 35, 3) := by decide +kernel
theorem dX9_init_76 : decode cX9_init 76 = .ok (.aload_n 0, 1) := by decide +kernel
theorem dX9_init_77 : decode cX9_init 77 = .ok (.bipush 60, 2) := by decide +kernel
theorem dX9_init_79 : decode cX9_init 79 = .ok (.newarray .int, 2) := by decide +kernel
theorem dX9_init_81 : decode cX9_init 81 = .ok (.putfield 38, 3) := by decide +kernel
theorem dX9_init_84 : decode cX9_init 84 = .ok (.aload_n 0, 1) := by decide +kernel
theorem dX9_init_85 : decode cX9_init 85 = .ok (.sipush 400, 3) := by decide +kernel
theorem dX9_init_88 : decode cX9_init 88 = .ok (.newarray .int, 2) := by decide +kernel
theorem dX9_init_90 : decode cX9_init 90 = .ok (.putfield 41, 3) := by decide +kernel
theorem dX9_init_93 : decode cX9_init 93 = .ok (.aload_n 0, 1) := by decide +kernel
theorem dX9_init_94 : decode cX9_init 94 = .ok (.bipush 60, 2) := by decide +kernel
theorem dX9_init_96 : decode cX9_init 96 = .ok (.newarray .int, 2) := by decide +kernel
theorem dX9_init_98 : decode cX9_init 98 = .ok (.putfield 44, 3) := by decide +kernel
theorem dX9_init_101 : decode cX9_init 101 = .ok (.return_, 1) := by decide +kernel
theorem dX9_thrown_0 : decode cX9_thrown 0 = .ok (.aload_n 0, 1) := by decide +kernel
theorem dX9_thrown_1 : decode cX9_thrown 1 = .ok (.getfield 47, 3) := by decide +kernel
theorem dX9_thrown_4 : decode cX9_thrown 4 = .ok (.ireturn, 1) := by decide +kernel
theorem dX9_refuses_0 : decode cX9_refuses 0 = .ok (.aload_n 0, 1) := by decide +kernel
theorem dX9_refuses_1 : decode cX9_refuses 1 = .ok (.iload_n 1, 1) := by decide +kernel
theorem dX9_refuses_2 : decode cX9_refuses 2 = .ok (.putfield 47, 3) := by decide +kernel
theorem dX9_refuses_5 : decode cX9_refuses 5 = .ok (.iconst 0, 1) := by decide +kernel
theorem dX9_refuses_6 : decode cX9_refuses 6 = .ok (.ireturn, 1) := by decide +kernel
theorem dX9_in_0 : decode cX9_in 0 = .ok (.iload_n 0, 1) := by decide +kernel
theorem dX9_in_1 : decode cX9_in 1 = .ok (.iload_n 1, 1) := by decide +kernel
theorem dX9_in_2 : decode cX9_in 2 = .ok (.if_icmp .lt 12, 3) := by decide +kernel
theorem dX9_in_5 : decode cX9_in 5 = .ok (.iload_n 0, 1) := by decide +kernel
theorem dX9_in_6 : decode cX9_in 6 = .ok (.iload_n 2, 1) := by decide +kernel
theorem dX9_in_7 : decode cX9_in 7 = .ok (.if_icmp .gt 7, 3) := by decide +kernel
theorem dX9_in_10 : decode cX9_in 10 = .ok (.iconst 1, 1) := by decide +kernel
theorem dX9_in_11 : decode cX9_in 11 = .ok (.goto 4, 3) := by decide +kernel
theorem dX9_in_14 : decode cX9_in 14 = .ok (.iconst 0, 1) := by decide +kernel
theorem dX9_in_15 : decode cX9_in 15 = .ok (.ireturn, 1) := by decide +kernel
theorem dX9_lays_0 : decode cX9_lays 0 = .ok (.iconst 0, 1) := by decide +kernel
theorem dX9_lays_1 : decode cX9_lays 1 = .ok (.istore 4, 2) := by decide +kernel
theorem dX9_lays_3 : decode cX9_lays 3 = .ok (.iload 4, 2) := by decide +kernel
theorem dX9_lays_5 : decode cX9_lays 5 = .ok (.sipush 619, 3) := by decide +kernel
theorem dX9_lays_8 : decode cX9_lays 8 = .ok (.if_icmp .ge 21, 3) := by decide +kernel
theorem dX9_lays_11 : decode cX9_lays 11 = .ok (.aload_n 2, 1) := by decide +kernel
theorem dX9_lays_12 : decode cX9_lays 12 = .ok (.iload_n 3, 1) := by decide +kernel
theorem dX9_lays_13 : decode cX9_lays 13 = .ok (.iload 4, 2) := by decide +kernel
theorem dX9_lays_15 : decode cX9_lays 15 = .ok (.iadd, 1) := by decide +kernel
theorem dX9_lays_16 : decode cX9_lays 16 = .ok (.aload_n 0, 1) := by decide +kernel
theorem dX9_lays_17 : decode cX9_lays 17 = .ok (.iload_n 1, 1) := by decide +kernel
theorem dX9_lays_18 : decode cX9_lays 18 = .ok (.iload 4, 2) := by decide +kernel
theorem dX9_lays_20 : decode cX9_lays 20 = .ok (.iadd, 1) := by decide +kernel
theorem dX9_lays_21 : decode cX9_lays 21 = .ok (.iaload, 1) := by decide +kernel
theorem dX9_lays_22 : decode cX9_lays 22 = .ok (.iastore, 1) := by decide +kernel
theorem dX9_lays_23 : decode cX9_lays 23 = .ok (.iinc 4 1, 3) := by decide +kernel
theorem dX9_lays_26 : decode cX9_lays 26 = .ok (.goto (-23), 3) := by decide +kernel
theorem dX9_lays_29 : decode cX9_lays 29 = .ok (.return_, 1) := by decide +kernel
theorem dX9_saves_0 : decode cX9_saves 0 = .ok (.aload_n 0, 1) := by decide +kernel
theorem dX9_saves_1 : decode cX9_saves 1 = .ok (.getfield 51, 3) := by decide +kernel
theorem dX9_saves_4 : decode cX9_saves 4 = .ok (.bipush 6, 2) := by decide +kernel
theorem dX9_saves_6 : decode cX9_saves 6 = .ok (.if_icmp .ne 44, 3) := by decide +kernel
theorem dX9_saves_9 : decode cX9_saves 9 = .ok (.iconst 0, 1) := by decide +kernel
theorem dX9_saves_10 : decode cX9_saves 10 = .ok (.istore_n 1, 1) := by decide +kernel
theorem dX9_saves_11 : decode cX9_saves 11 = .ok (.iload_n 1, 1) := by decide +kernel
theorem dX9_saves_12 : decode cX9_saves 12 = .ok (.sipush 3095, 3) := by decide +kernel
theorem dX9_saves_15 : decode cX9_saves 15 = .ok (.if_icmp .ge 25, 3) := by decide +kernel
theorem dX9_saves_18 : decode cX9_saves 18 = .ok (.aload_n 0, 1) := by decide +kernel
theorem dX9_saves_19 : decode cX9_saves 19 = .ok (.getfield 13, 3) := by decide +kernel
theorem dX9_saves_22 : decode cX9_saves 22 = .ok (.iload_n 1, 1) := by decide +kernel
theorem dX9_saves_23 : decode cX9_saves 23 = .ok (.aload_n 0, 1) := by decide +kernel
theorem dX9_saves_24 : decode cX9_saves 24 = .ok (.getfield 13, 3) := by decide +kernel
theorem dX9_saves_27 : decode cX9_saves 27 = .ok (.iload_n 1, 1) := by decide +kernel
theorem dX9_saves_28 : decode cX9_saves 28 = .ok (.sipush 619, 3) := by decide +kernel
theorem dX9_saves_31 : decode cX9_saves 31 = .ok (.iadd, 1) := by decide +kernel
theorem dX9_saves_32 : decode cX9_saves 32 = .ok (.iaload, 1) := by decide +kernel
theorem dX9_saves_33 : decode cX9_saves 33 = .ok (.iastore, 1) := by decide +kernel
theorem dX9_saves_34 : decode cX9_saves 34 = .ok (.iinc 1 1, 3) := by decide +kernel
theorem dX9_saves_37 : decode cX9_saves 37 = .ok (.goto (-26), 3) := by decide +kernel
theorem dX9_saves_40 : decode cX9_saves 40 = .ok (.aload_n 0, 1) := by decide +kernel
theorem dX9_saves_41 : decode cX9_saves 41 = .ok (.dup, 1) := by decide +kernel
theorem dX9_saves_42 : decode cX9_saves 42 = .ok (.getfield 51, 3) := by decide +kernel
theorem dX9_saves_45 : decode cX9_saves 45 = .ok (.iconst 1, 1) := by decide +kernel
theorem dX9_saves_46 : decode cX9_saves 46 = .ok (.isub, 1) := by decide +kernel
theorem dX9_saves_47 : decode cX9_saves 47 = .ok (.putfield 51, 3) := by decide +kernel
theorem dX9_saves_50 : decode cX9_saves 50 = .ok (.aload_n 0, 1) := by decide +kernel
theorem dX9_saves_51 : decode cX9_saves 51 = .ok (.getfield 7, 3) := by decide +kernel
theorem dX9_saves_54 : decode cX9_saves 54 = .ok (.iconst 0, 1) := by decide +kernel
theorem dX9_saves_55 : decode cX9_saves 55 = .ok (.aload_n 0, 1) := by decide +kernel
theorem dX9_saves_56 : decode cX9_saves 56 = .ok (.getfield 13, 3) := by decide +kernel
theorem dX9_saves_59 : decode cX9_saves 59 = .ok (.sipush 619, 3) := by decide +kernel
theorem dX9_saves_62 : decode cX9_saves 62 = .ok (.aload_n 0, 1) := by decide +kernel
theorem dX9_saves_63 : decode cX9_saves 63 = .ok (.getfield 51, 3) := by decide +kernel
theorem dX9_saves_66 : decode cX9_saves 66 = .ok (.imul, 1) := by decide +kernel
theorem dX9_saves_67 : decode cX9_saves 67 = .ok (.invokestatic 54, 3) := by decide +kernel
theorem dX9_saves_70 : decode cX9_saves 70 = .ok (.aload_n 0, 1) := by decide +kernel
theorem dX9_saves_71 : decode cX9_saves 71 = .ok (.dup, 1) := by decide +kernel
theorem dX9_saves_72 : decode cX9_saves 72 = .ok (.getfield 51, 3) := by decide +kernel
theorem dX9_saves_75 : decode cX9_saves 75 = .ok (.iconst 1, 1) := by decide +kernel
theorem dX9_saves_76 : decode cX9_saves 76 = .ok (.iadd, 1) := by decide +kernel
theorem dX9_saves_77 : decode cX9_saves 77 = .ok (.putfield 51, 3) := by decide +kernel
theorem dX9_saves_80 : decode cX9_saves 80 = .ok (.return_, 1) := by decide +kernel
theorem dX9_many_0 : decode cX9_many 0 = .ok (.aload_n 0, 1) := by decide +kernel
theorem dX9_many_1 : decode cX9_many 1 = .ok (.getfield 7, 3) := by decide +kernel
theorem dX9_many_4 : decode cX9_many 4 = .ok (.iconst 0, 1) := by decide +kernel
theorem dX9_many_5 : decode cX9_many 5 = .ok (.iload_n 1, 1) := by decide +kernel
theorem dX9_many_6 : decode cX9_many 6 = .ok (.iadd, 1) := by decide +kernel
theorem dX9_many_7 : decode cX9_many 7 = .ok (.iaload, 1) := by decide +kernel
theorem dX9_many_8 : decode cX9_many 8 = .ok (.ireturn, 1) := by decide +kernel
theorem dX9_at_0 : decode cX9_at 0 = .ok (.iconst 2, 1) := by decide +kernel
theorem dX9_at_1 : decode cX9_at 1 = .ok (.iconst 4, 1) := by decide +kernel
theorem dX9_at_2 : decode cX9_at 2 = .ok (.bipush 16, 2) := by decide +kernel
theorem dX9_at_4 : decode cX9_at 4 = .ok (.iload_n 0, 1) := by decide +kernel
theorem dX9_at_5 : decode cX9_at 5 = .ok (.imul, 1) := by decide +kernel
theorem dX9_at_6 : decode cX9_at 6 = .ok (.iload_n 1, 1) := by decide +kernel
theorem dX9_at_7 : decode cX9_at 7 = .ok (.iadd, 1) := by decide +kernel
theorem dX9_at_8 : decode cX9_at 8 = .ok (.imul, 1) := by decide +kernel
theorem dX9_at_9 : decode cX9_at 9 = .ok (.iadd, 1) := by decide +kernel
theorem dX9_at_10 : decode cX9_at 10 = .ok (.iload_n 2, 1) := by decide +kernel
theorem dX9_at_11 : decode cX9_at 11 = .ok (.iadd, 1) := by decide +kernel
theorem dX9_at_12 : decode cX9_at 12 = .ok (.ireturn, 1) := by decide +kernel
theorem dX9_of_0 : decode cX9_of 0 = .ok (.aload_n 0, 1) := by decide +kernel
theorem dX9_of_1 : decode cX9_of 1 = .ok (.getfield 7, 3) := by decide +kernel
theorem dX9_of_4 : decode cX9_of 4 = .ok (.iload_n 1, 1) := by decide +kernel
theorem dX9_of_5 : decode cX9_of 5 = .ok (.iload_n 2, 1) := by decide +kernel
theorem dX9_of_6 : decode cX9_of 6 = .ok (.iload_n 3, 1) := by decide +kernel
theorem dX9_of_7 : decode cX9_of 7 = .ok (.invokestatic 58, 3) := by decide +kernel
theorem dX9_of_10 : decode cX9_of 10 = .ok (.iaload, 1) := by decide +kernel
theorem dX9_of_11 : decode cX9_of 11 = .ok (.ireturn, 1) := by decide +kernel
theorem dX9_parts_0 : decode cX9_parts 0 = .ok (.aload_n 0, 1) := by decide +kernel
theorem dX9_parts_1 : decode cX9_parts 1 = .ok (.getfield 7, 3) := by decide +kernel
theorem dX9_parts_4 : decode cX9_parts 4 = .ok (.sipush 130, 3) := by decide +kernel
theorem dX9_parts_7 : decode cX9_parts 7 = .ok (.bipush 61, 2) := by decide +kernel
theorem dX9_parts_9 : decode cX9_parts 9 = .ok (.iload_n 1, 1) := by decide +kernel
theorem dX9_parts_10 : decode cX9_parts 10 = .ok (.imul, 1) := by decide +kernel
theorem dX9_parts_11 : decode cX9_parts 11 = .ok (.iadd, 1) := by decide +kernel
theorem dX9_parts_12 : decode cX9_parts 12 = .ok (.iaload, 1) := by decide +kernel
theorem dX9_parts_13 : decode cX9_parts 13 = .ok (.ireturn, 1) := by decide +kernel
theorem dX9_part_0 : decode cX9_part 0 = .ok (.aload_n 0, 1) := by decide +kernel
theorem dX9_part_1 : decode cX9_part 1 = .ok (.getfield 7, 3) := by decide +kernel
theorem dX9_part_4 : decode cX9_part 4 = .ok (.sipush 130, 3) := by decide +kernel
theorem dX9_part_7 : decode cX9_part 7 = .ok (.bipush 61, 2) := by decide +kernel
theorem dX9_part_9 : decode cX9_part 9 = .ok (.iload_n 1, 1) := by decide +kernel
theorem dX9_part_10 : decode cX9_part 10 = .ok (.imul, 1) := by decide +kernel
theorem dX9_part_11 : decode cX9_part 11 = .ok (.iadd, 1) := by decide +kernel
theorem dX9_part_12 : decode cX9_part 12 = .ok (.iconst 1, 1) := by decide +kernel
theorem dX9_part_13 : decode cX9_part 13 = .ok (.iadd, 1) := by decide +kernel
theorem dX9_part_14 : decode cX9_part 14 = .ok (.iload_n 2, 1) := by decide +kernel
theorem dX9_part_15 : decode cX9_part 15 = .ok (.iadd, 1) := by decide +kernel
theorem dX9_part_16 : decode cX9_part 16 = .ok (.iaload, 1) := by decide +kernel
theorem dX9_part_17 : decode cX9_part 17 = .ok (.ireturn, 1) := by decide +kernel
theorem dX9_isTable_0 : decode cX9_isTable 0 = .ok (.iload_n 0, 1) := by decide +kernel
theorem dX9_isTable_1 : decode cX9_isTable 1 = .ok (.iconst 0, 1) := by decide +kernel
theorem dX9_isTable_2 : decode cX9_isTable 2 = .ok (.iconst 1, 1) := by decide +kernel
theorem dX9_isTable_3 : decode cX9_isTable 3 = .ok (.invokestatic 62, 3) := by decide +kernel
theorem dX9_isTable_6 : decode cX9_isTable 6 = .ok (.ireturn, 1) := by decide +kernel
theorem dX9_isRow_0 : decode cX9_isRow 0 = .ok (.iload_n 1, 1) := by decide +kernel
theorem dX9_isRow_1 : decode cX9_isRow 1 = .ok (.invokestatic 66, 3) := by decide +kernel
theorem dX9_isRow_4 : decode cX9_isRow 4 = .ok (.ifCond .eq 22, 3) := by decide +kernel
theorem dX9_isRow_7 : decode cX9_isRow 7 = .ok (.iload_n 2, 1) := by decide +kernel
theorem dX9_isRow_8 : decode cX9_isRow 8 = .ok (.iconst 0, 1) := by decide +kernel
theorem dX9_isRow_9 : decode cX9_isRow 9 = .ok (.aload_n 0, 1) := by decide +kernel
theorem dX9_isRow_10 : decode cX9_isRow 10 = .ok (.iload_n 1, 1) := by decide +kernel
theorem dX9_isRow_11 : decode cX9_isRow 11 = .ok (.invokevirtual 70, 3) := by decide +kernel
theorem dX9_isRow_14 : decode cX9_isRow 14 = .ok (.iconst 1, 1) := by decide +kernel
theorem dX9_isRow_15 : decode cX9_isRow 15 = .ok (.isub, 1) := by decide +kernel
theorem dX9_isRow_16 : decode cX9_isRow 16 = .ok (.invokestatic 62, 3) := by decide +kernel
theorem dX9_isRow_19 : decode cX9_isRow 19 = .ok (.ifCond .eq 7, 3) := by decide +kernel
theorem dX9_isRow_22 : decode cX9_isRow 22 = .ok (.iconst 1, 1) := by decide +kernel
theorem dX9_isRow_23 : decode cX9_isRow 23 = .ok (.goto 4, 3) := by decide +kernel
theorem dX9_isRow_26 : decode cX9_isRow 26 = .ok (.iconst 0, 1) := by decide +kernel
theorem dX9_isRow_27 : decode cX9_isRow 27 = .ok (.ireturn, 1) := by decide +kernel
theorem dX9_isColumn_0 : decode cX9_isColumn 0 = .ok (.iload_n 0, 1) := by decide +kernel
theorem dX9_isColumn_1 : decode cX9_isColumn 1 = .ok (.iconst 0, 1) := by decide +kernel
theorem dX9_isColumn_2 : decode cX9_isColumn 2 = .ok (.iconst 3, 1) := by decide +kernel
theorem dX9_isColumn_3 : decode cX9_isColumn 3 = .ok (.invokestatic 62, 3) := by decide +kernel
theorem dX9_isColumn_6 : decode cX9_isColumn 6 = .ok (.ireturn, 1) := by decide +kernel
theorem dX9_isSlot_0 : decode cX9_isSlot 0 = .ok (.iload_n 0, 1) := by decide +kernel
theorem dX9_isSlot_1 : decode cX9_isSlot 1 = .ok (.iconst 0, 1) := by decide +kernel
theorem dX9_isSlot_2 : decode cX9_isSlot 2 = .ok (.iconst 5, 1) := by decide +kernel
theorem dX9_isSlot_3 : decode cX9_isSlot 3 = .ok (.invokestatic 62, 3) := by decide +kernel
theorem dX9_isSlot_6 : decode cX9_isSlot 6 = .ok (.ireturn, 1) := by decide +kernel
theorem dX9_isValue_0 : decode cX9_isValue 0 = .ok (.iload_n 0, 1) := by decide +kernel
theorem dX9_isValue_1 : decode cX9_isValue 1 = .ok (.iconst (-1), 1) := by decide +kernel
theorem dX9_isValue_2 : decode cX9_isValue 2 = .ok (.bipush 99, 2) := by decide +kernel
theorem dX9_isValue_4 : decode cX9_isValue 4 = .ok (.invokestatic 62, 3) := by decide +kernel
theorem dX9_isValue_7 : decode cX9_isValue 7 = .ok (.ireturn, 1) := by decide +kernel
theorem dX9_test_0 : decode cX9_test 0 = .ok (.iconst 4, 1) := by decide +kernel
theorem dX9_test_1 : decode cX9_test 1 = .ok (.sipush 1000, 3) := by decide +kernel
theorem dX9_test_4 : decode cX9_test 4 = .ok (.iconst 4, 1) := by decide +kernel
theorem dX9_test_5 : decode cX9_test 5 = .ok (.iload_n 0, 1) := by decide +kernel
theorem dX9_test_6 : decode cX9_test 6 = .ok (.imul, 1) := by decide +kernel
theorem dX9_test_7 : decode cX9_test 7 = .ok (.iload_n 1, 1) := by decide +kernel
theorem dX9_test_8 : decode cX9_test 8 = .ok (.iadd, 1) := by decide +kernel
theorem dX9_test_9 : decode cX9_test 9 = .ok (.imul, 1) := by decide +kernel
theorem dX9_test_10 : decode cX9_test 10 = .ok (.iadd, 1) := by decide +kernel
theorem dX9_test_11 : decode cX9_test 11 = .ok (.iload_n 2, 1) := by decide +kernel
theorem dX9_test_12 : decode cX9_test 12 = .ok (.iadd, 1) := by decide +kernel
theorem dX9_test_13 : decode cX9_test 13 = .ok (.ireturn, 1) := by decide +kernel
theorem dX9_columnOf_0 : decode cX9_columnOf 0 = .ok (.iload_n 0, 1) := by decide +kernel
theorem dX9_columnOf_1 : decode cX9_columnOf 1 = .ok (.iconst 4, 1) := by decide +kernel
theorem dX9_columnOf_2 : decode cX9_columnOf 2 = .ok (.isub, 1) := by decide +kernel
theorem dX9_columnOf_3 : decode cX9_columnOf 3 = .ok (.sipush 1000, 3) := by decide +kernel
theorem dX9_columnOf_6 : decode cX9_columnOf 6 = .ok (.idiv, 1) := by decide +kernel
theorem dX9_columnOf_7 : decode cX9_columnOf 7 = .ok (.iconst 4, 1) := by decide +kernel
theorem dX9_columnOf_8 : decode cX9_columnOf 8 = .ok (.idiv, 1) := by decide +kernel
theorem dX9_columnOf_9 : decode cX9_columnOf 9 = .ok (.ireturn, 1) := by decide +kernel
theorem dX9_signOf_0 : decode cX9_signOf 0 = .ok (.iload_n 0, 1) := by decide +kernel
theorem dX9_signOf_1 : decode cX9_signOf 1 = .ok (.iconst 4, 1) := by decide +kernel
theorem dX9_signOf_2 : decode cX9_signOf 2 = .ok (.isub, 1) := by decide +kernel
theorem dX9_signOf_3 : decode cX9_signOf 3 = .ok (.sipush 1000, 3) := by decide +kernel
theorem dX9_signOf_6 : decode cX9_signOf 6 = .ok (.idiv, 1) := by decide +kernel
theorem dX9_signOf_7 : decode cX9_signOf 7 = .ok (.iconst 4, 1) := by decide +kernel
theorem dX9_signOf_8 : decode cX9_signOf 8 = .ok (.irem, 1) := by decide +kernel
theorem dX9_signOf_9 : decode cX9_signOf 9 = .ok (.ireturn, 1) := by decide +kernel
theorem dX9_otherOf_0 : decode cX9_otherOf 0 = .ok (.iload_n 0, 1) := by decide +kernel
theorem dX9_otherOf_1 : decode cX9_otherOf 1 = .ok (.iconst 4, 1) := by decide +kernel
theorem dX9_otherOf_2 : decode cX9_otherOf 2 = .ok (.isub, 1) := by decide +kernel
theorem dX9_otherOf_3 : decode cX9_otherOf 3 = .ok (.sipush 1000, 3) := by decide +kernel
theorem dX9_otherOf_6 : decode cX9_otherOf 6 = .ok (.irem, 1) := by decide +kernel
theorem dX9_otherOf_7 : decode cX9_otherOf 7 = .ok (.ireturn, 1) := by decide +kernel
theorem dX9_isTest_0 : decode cX9_isTest 0 = .ok (.iload_n 0, 1) := by decide +kernel
theorem dX9_isTest_1 : decode cX9_isTest 1 = .ok (.iconst 4, 1) := by decide +kernel
theorem dX9_isTest_2 : decode cX9_isTest 2 = .ok (.if_icmp .lt 7, 3) := by decide +kernel
theorem dX9_isTest_5 : decode cX9_isTest 5 = .ok (.iconst 1, 1) := by decide +kernel
theorem dX9_isTest_6 : decode cX9_isTest 6 = .ok (.goto 4, 3) := by decide +kernel
theorem dX9_isTest_9 : decode cX9_isTest 9 = .ok (.iconst 0, 1) := by decide +kernel
theorem dX9_isTest_10 : decode cX9_isTest 10 = .ok (.ireturn, 1) := by decide +kernel
theorem dX9_takesRow_0 : decode cX9_takesRow 0 = .ok (.iconst 0, 1) := by decide +kernel
theorem dX9_takesRow_1 : decode cX9_takesRow 1 = .ok (.istore_n 3, 1) := by decide +kernel
theorem dX9_takesRow_2 : decode cX9_takesRow 2 = .ok (.iload_n 3, 1) := by decide +kernel
theorem dX9_takesRow_3 : decode cX9_takesRow 3 = .ok (.iconst 4, 1) := by decide +kernel
theorem dX9_takesRow_4 : decode cX9_takesRow 4 = .ok (.if_icmp .ge 34, 3) := by decide +kernel
theorem dX9_takesRow_7 : decode cX9_takesRow 7 = .ok (.aload_n 0, 1) := by decide +kernel
theorem dX9_takesRow_8 : decode cX9_takesRow 8 = .ok (.getfield 26, 3) := by decide +kernel
theorem dX9_takesRow_11 : decode cX9_takesRow 11 = .ok (.iload_n 3, 1) := by decide +kernel
theorem dX9_takesRow_12 : decode cX9_takesRow 12 = .ok (.aload_n 0, 1) := by decide +kernel
theorem dX9_takesRow_13 : decode cX9_takesRow 13 = .ok (.iload_n 1, 1) := by decide +kernel
theorem dX9_takesRow_14 : decode cX9_takesRow 14 = .ok (.iload_n 2, 1) := by decide +kernel
theorem dX9_takesRow_15 : decode cX9_takesRow 15 = .ok (.iload_n 3, 1) := by decide +kernel
theorem dX9_takesRow_16 : decode cX9_takesRow 16 = .ok (.invokevirtual 74, 3) := by decide +kernel
theorem dX9_takesRow_19 : decode cX9_takesRow 19 = .ok (.iastore, 1) := by decide +kernel
theorem dX9_takesRow_20 : decode cX9_takesRow 20 = .ok (.aload_n 0, 1) := by decide +kernel
theorem dX9_takesRow_21 : decode cX9_takesRow 21 = .ok (.getfield 29, 3) := by decide +kernel
theorem dX9_takesRow_24 : decode cX9_takesRow 24 = .ok (.iload_n 3, 1) := by decide +kernel
theorem dX9_takesRow_25 : decode cX9_takesRow 25 = .ok (.aload_n 0, 1) := by decide +kernel
theorem dX9_takesRow_26 : decode cX9_takesRow 26 = .ok (.getfield 26, 3) := by decide +kernel
theorem dX9_takesRow_29 : decode cX9_takesRow 29 = .ok (.iload_n 3, 1) := by decide +kernel
theorem dX9_takesRow_30 : decode cX9_takesRow 30 = .ok (.iaload, 1) := by decide +kernel
theorem dX9_takesRow_31 : decode cX9_takesRow 31 = .ok (.iastore, 1) := by decide +kernel
theorem dX9_takesRow_32 : decode cX9_takesRow 32 = .ok (.iinc 3 1, 3) := by decide +kernel
theorem dX9_takesRow_35 : decode cX9_takesRow 35 = .ok (.goto (-33), 3) := by decide +kernel
theorem dX9_takesRow_38 : decode cX9_takesRow 38 = .ok (.return_, 1) := by decide +kernel
theorem dX9_compared_0 : decode cX9_compared 0 = .ok (.iload_n 1, 1) := by decide +kernel
theorem dX9_compared_1 : decode cX9_compared 1 = .ok (.iconst (-1), 1) := by decide +kernel
theorem dX9_compared_2 : decode cX9_compared 2 = .ok (.if_icmp .eq 8, 3) := by decide +kernel
theorem dX9_compared_5 : decode cX9_compared 5 = .ok (.iload_n 2, 1) := by decide +kernel
theorem dX9_compared_6 : decode cX9_compared 6 = .ok (.iconst (-1), 1) := by decide +kernel
theorem dX9_compared_7 : decode cX9_compared 7 = .ok (.if_icmp .ne 5, 3) := by decide +kernel
theorem dX9_compared_10 : decode cX9_compared 10 = .ok (.iconst 1, 1) := by decide +kernel
theorem dX9_compared_11 : decode cX9_compared 11 = .ok (.ireturn, 1) := by decide +kernel
theorem dX9_compared_12 : decode cX9_compared 12 = .ok (.iload_n 0, 1) := by decide +kernel
theorem dX9_compared_13 : decode cX9_compared 13 = .ok (.iconst 1, 1) := by decide +kernel
theorem dX9_compared_14 : decode cX9_compared 14 = .ok (.if_icmp .ne 16, 3) := by decide +kernel
theorem dX9_compared_17 : decode cX9_compared 17 = .ok (.iload_n 1, 1) := by decide +kernel
theorem dX9_compared_18 : decode cX9_compared 18 = .ok (.iload_n 2, 1) := by decide +kernel
theorem dX9_compared_19 : decode cX9_compared 19 = .ok (.if_icmp .ne 7, 3) := by decide +kernel
theorem dX9_compared_22 : decode cX9_compared 22 = .ok (.iconst 1, 1) := by decide +kernel
theorem dX9_compared_23 : decode cX9_compared 23 = .ok (.goto 35, 3) := by decide +kernel
theorem dX9_compared_26 : decode cX9_compared 26 = .ok (.iconst 0, 1) := by decide +kernel
theorem dX9_compared_27 : decode cX9_compared 27 = .ok (.goto 31, 3) := by decide +kernel
theorem dX9_compared_30 : decode cX9_compared 30 = .ok (.iload_n 0, 1) := by decide +kernel
theorem dX9_compared_31 : decode cX9_compared 31 = .ok (.iconst 2, 1) := by decide +kernel
theorem dX9_compared_32 : decode cX9_compared 32 = .ok (.if_icmp .ne 16, 3) := by decide +kernel
theorem dX9_compared_35 : decode cX9_compared 35 = .ok (.iload_n 1, 1) := by decide +kernel
theorem dX9_compared_36 : decode cX9_compared 36 = .ok (.iload_n 2, 1) := by decide +kernel
theorem dX9_compared_37 : decode cX9_compared 37 = .ok (.if_icmp .ge 7, 3) := by decide +kernel
theorem dX9_compared_40 : decode cX9_compared 40 = .ok (.iconst 1, 1) := by decide +kernel
theorem dX9_compared_41 : decode cX9_compared 41 = .ok (.goto 17, 3) := by decide +kernel
theorem dX9_compared_44 : decode cX9_compared 44 = .ok (.iconst 0, 1) := by decide +kernel
theorem dX9_compared_45 : decode cX9_compared 45 = .ok (.goto 13, 3) := by decide +kernel
theorem dX9_compared_48 : decode cX9_compared 48 = .ok (.iload_n 1, 1) := by decide +kernel
theorem dX9_compared_49 : decode cX9_compared 49 = .ok (.iload_n 2, 1) := by decide +kernel
theorem dX9_compared_50 : decode cX9_compared 50 = .ok (.if_icmp .le 7, 3) := by decide +kernel
theorem dX9_compared_53 : decode cX9_compared 53 = .ok (.iconst 1, 1) := by decide +kernel
theorem dX9_compared_54 : decode cX9_compared 54 = .ok (.goto 4, 3) := by decide +kernel
theorem dX9_compared_57 : decode cX9_compared 57 = .ok (.iconst 0, 1) := by decide +kernel
theorem dX9_compared_58 : decode cX9_compared 58 = .ok (.istore_n 3, 1) := by decide +kernel
theorem dX9_compared_59 : decode cX9_compared 59 = .ok (.iload_n 3, 1) := by decide +kernel
theorem dX9_compared_60 : decode cX9_compared 60 = .ok (.ifCond .eq 7, 3) := by decide +kernel
theorem dX9_compared_63 : decode cX9_compared 63 = .ok (.iconst 2, 1) := by decide +kernel
theorem dX9_compared_64 : decode cX9_compared 64 = .ok (.goto 4, 3) := by decide +kernel
theorem dX9_compared_67 : decode cX9_compared 67 = .ok (.iconst 0, 1) := by decide +kernel
theorem dX9_compared_68 : decode cX9_compared 68 = .ok (.ireturn, 1) := by decide +kernel
theorem dX9_tested_0 : decode cX9_tested 0 = .ok (.iload_n 1, 1) := by decide +kernel
theorem dX9_tested_1 : decode cX9_tested 1 = .ok (.invokestatic 77, 3) := by decide +kernel
theorem dX9_tested_4 : decode cX9_tested 4 = .ok (.istore_n 2, 1) := by decide +kernel
theorem dX9_tested_5 : decode cX9_tested 5 = .ok (.iload_n 2, 1) := by decide +kernel
theorem dX9_tested_6 : decode cX9_tested 6 = .ok (.ifCond .ne 22, 3) := by decide +kernel
theorem dX9_tested_9 : decode cX9_tested 9 = .ok (.aload_n 0, 1) := by decide +kernel
theorem dX9_tested_10 : decode cX9_tested 10 = .ok (.getfield 29, 3) := by decide +kernel
theorem dX9_tested_13 : decode cX9_tested 13 = .ok (.iload_n 1, 1) := by decide +kernel
theorem dX9_tested_14 : decode cX9_tested 14 = .ok (.invokestatic 80, 3) := by decide +kernel
theorem dX9_tested_17 : decode cX9_tested 17 = .ok (.iaload, 1) := by decide +kernel
theorem dX9_tested_18 : decode cX9_tested 18 = .ok (.iconst (-1), 1) := by decide +kernel
theorem dX9_tested_19 : decode cX9_tested 19 = .ok (.if_icmp .ne 7, 3) := by decide +kernel
theorem dX9_tested_22 : decode cX9_tested 22 = .ok (.iconst 2, 1) := by decide +kernel
theorem dX9_tested_23 : decode cX9_tested 23 = .ok (.goto 4, 3) := by decide +kernel
theorem dX9_tested_26 : decode cX9_tested 26 = .ok (.iconst 0, 1) := by decide +kernel
theorem dX9_tested_27 : decode cX9_tested 27 = .ok (.ireturn, 1) := by decide +kernel
theorem dX9_tested_28 : decode cX9_tested 28 = .ok (.iload_n 1, 1) := by decide +kernel
theorem dX9_tested_29 : decode cX9_tested 29 = .ok (.invokestatic 83, 3) := by decide +kernel
theorem dX9_tested_32 : decode cX9_tested 32 = .ok (.istore_n 3, 1) := by decide +kernel
theorem dX9_tested_33 : decode cX9_tested 33 = .ok (.iload_n 2, 1) := by decide +kernel
theorem dX9_tested_34 : decode cX9_tested 34 = .ok (.aload_n 0, 1) := by decide +kernel
theorem dX9_tested_35 : decode cX9_tested 35 = .ok (.getfield 26, 3) := by decide +kernel
theorem dX9_tested_38 : decode cX9_tested 38 = .ok (.iload_n 1, 1) := by decide +kernel
theorem dX9_tested_39 : decode cX9_tested 39 = .ok (.invokestatic 80, 3) := by decide +kernel
theorem dX9_tested_42 : decode cX9_tested 42 = .ok (.iaload, 1) := by decide +kernel
theorem dX9_tested_43 : decode cX9_tested 43 = .ok (.iload_n 3, 1) := by decide +kernel
theorem dX9_tested_44 : decode cX9_tested 44 = .ok (.bipush 100, 2) := by decide +kernel
theorem dX9_tested_46 : decode cX9_tested 46 = .ok (.if_icmp .ge 7, 3) := by decide +kernel
theorem dX9_tested_49 : decode cX9_tested 49 = .ok (.iload_n 3, 1) := by decide +kernel
theorem dX9_tested_50 : decode cX9_tested 50 = .ok (.goto 12, 3) := by decide +kernel
theorem dX9_tested_53 : decode cX9_tested 53 = .ok (.aload_n 0, 1) := by decide +kernel
theorem dX9_tested_54 : decode cX9_tested 54 = .ok (.getfield 26, 3) := by decide +kernel
theorem dX9_tested_57 : decode cX9_tested 57 = .ok (.iload_n 3, 1) := by decide +kernel
theorem dX9_tested_58 : decode cX9_tested 58 = .ok (.bipush 100, 2) := by decide +kernel
theorem dX9_tested_60 : decode cX9_tested 60 = .ok (.isub, 1) := by decide +kernel
theorem dX9_tested_61 : decode cX9_tested 61 = .ok (.iaload, 1) := by decide +kernel
theorem dX9_tested_62 : decode cX9_tested 62 = .ok (.invokestatic 86, 3) := by decide +kernel
theorem dX9_tested_65 : decode cX9_tested 65 = .ok (.ireturn, 1) := by decide +kernel
theorem dX9_combines_0 : decode cX9_combines 0 = .ok (.iload_n 1, 1) := by decide +kernel
theorem dX9_combines_1 : decode cX9_combines 1 = .ok (.ifCond .ne 28, 3) := by decide +kernel
theorem dX9_combines_4 : decode cX9_combines 4 = .ok (.aload_n 0, 1) := by decide +kernel
theorem dX9_combines_5 : decode cX9_combines 5 = .ok (.getfield 32, 3) := by decide +kernel
theorem dX9_combines_8 : decode cX9_combines 8 = .ok (.aload_n 0, 1) := by decide +kernel
theorem dX9_combines_9 : decode cX9_combines 9 = .ok (.getfield 89, 3) := by decide +kernel
theorem dX9_combines_12 : decode cX9_combines 12 = .ok (.iconst 1, 1) := by decide +kernel
theorem dX9_combines_13 : decode cX9_combines 13 = .ok (.isub, 1) := by decide +kernel
theorem dX9_combines_14 : decode cX9_combines 14 = .ok (.iconst 2, 1) := by decide +kernel
theorem dX9_combines_15 : decode cX9_combines 15 = .ok (.aload_n 0, 1) := by decide +kernel
theorem dX9_combines_16 : decode cX9_combines 16 = .ok (.getfield 32, 3) := by decide +kernel
theorem dX9_combines_19 : decode cX9_combines 19 = .ok (.aload_n 0, 1) := by decide +kernel
theorem dX9_combines_20 : decode cX9_combines 20 = .ok (.getfield 89, 3) := by decide +kernel
theorem dX9_combines_23 : decode cX9_combines 23 = .ok (.iconst 1, 1) := by decide +kernel
theorem dX9_combines_24 : decode cX9_combines 24 = .ok (.isub, 1) := by decide +kernel
theorem dX9_combines_25 : decode cX9_combines 25 = .ok (.iaload, 1) := by decide +kernel
theorem dX9_combines_26 : decode cX9_combines 26 = .ok (.isub, 1) := by decide +kernel
theorem dX9_combines_27 : decode cX9_combines 27 = .ok (.iastore, 1) := by decide +kernel
theorem dX9_combines_28 : decode cX9_combines 28 = .ok (.return_, 1) := by decide +kernel
theorem dX9_combines_29 : decode cX9_combines 29 = .ok (.aload_n 0, 1) := by decide +kernel
theorem dX9_combines_30 : decode cX9_combines 30 = .ok (.getfield 32, 3) := by decide +kernel
theorem dX9_combines_33 : decode cX9_combines 33 = .ok (.aload_n 0, 1) := by decide +kernel
theorem dX9_combines_34 : decode cX9_combines 34 = .ok (.getfield 89, 3) := by decide +kernel
theorem dX9_combines_37 : decode cX9_combines 37 = .ok (.iconst 1, 1) := by decide +kernel
theorem dX9_combines_38 : decode cX9_combines 38 = .ok (.isub, 1) := by decide +kernel
theorem dX9_combines_39 : decode cX9_combines 39 = .ok (.iaload, 1) := by decide +kernel
theorem dX9_combines_40 : decode cX9_combines 40 = .ok (.istore_n 2, 1) := by decide +kernel
theorem dX9_combines_41 : decode cX9_combines 41 = .ok (.aload_n 0, 1) := by decide +kernel
theorem dX9_combines_42 : decode cX9_combines 42 = .ok (.getfield 32, 3) := by decide +kernel
theorem dX9_combines_45 : decode cX9_combines 45 = .ok (.aload_n 0, 1) := by decide +kernel
theorem dX9_combines_46 : decode cX9_combines 46 = .ok (.getfield 89, 3) := by decide +kernel
theorem dX9_combines_49 : decode cX9_combines 49 = .ok (.iconst 2, 1) := by decide +kernel
theorem dX9_combines_50 : decode cX9_combines 50 = .ok (.isub, 1) := by decide +kernel
theorem dX9_combines_51 : decode cX9_combines 51 = .ok (.iaload, 1) := by decide +kernel
theorem dX9_combines_52 : decode cX9_combines 52 = .ok (.istore_n 3, 1) := by decide +kernel
theorem dX9_combines_53 : decode cX9_combines 53 = .ok (.aload_n 0, 1) := by decide +kernel
theorem dX9_combines_54 : decode cX9_combines 54 = .ok (.dup, 1) := by decide +kernel
theorem dX9_combines_55 : decode cX9_combines 55 = .ok (.getfield 89, 3) := by decide +kernel
theorem dX9_combines_58 : decode cX9_combines 58 = .ok (.iconst 1, 1) := by decide +kernel
theorem dX9_combines_59 : decode cX9_combines 59 = .ok (.isub, 1) := by decide +kernel
theorem dX9_combines_60 : decode cX9_combines 60 = .ok (.putfield 89, 3) := by decide +kernel
theorem dX9_combines_63 : decode cX9_combines 63 = .ok (.iload_n 1, 1) := by decide +kernel
theorem dX9_combines_64 : decode cX9_combines 64 = .ok (.iconst 1, 1) := by decide +kernel
theorem dX9_combines_65 : decode cX9_combines 65 = .ok (.if_icmp .ne 16, 3) := by decide +kernel
theorem dX9_combines_68 : decode cX9_combines 68 = .ok (.iload_n 3, 1) := by decide +kernel
theorem dX9_combines_69 : decode cX9_combines 69 = .ok (.iload_n 2, 1) := by decide +kernel
theorem dX9_combines_70 : decode cX9_combines 70 = .ok (.if_icmp .ge 7, 3) := by decide +kernel
theorem dX9_combines_73 : decode cX9_combines 73 = .ok (.iconst 1, 1) := by decide +kernel
theorem dX9_combines_74 : decode cX9_combines 74 = .ok (.goto 17, 3) := by decide +kernel
theorem dX9_combines_77 : decode cX9_combines 77 = .ok (.iconst 0, 1) := by decide +kernel
theorem dX9_combines_78 : decode cX9_combines 78 = .ok (.goto 13, 3) := by decide +kernel
theorem dX9_combines_81 : decode cX9_combines 81 = .ok (.iload_n 3, 1) := by decide +kernel
theorem dX9_combines_82 : decode cX9_combines 82 = .ok (.iload_n 2, 1) := by decide +kernel
theorem dX9_combines_83 : decode cX9_combines 83 = .ok (.if_icmp .le 7, 3) := by decide +kernel
theorem dX9_combines_86 : decode cX9_combines 86 = .ok (.iconst 1, 1) := by decide +kernel
theorem dX9_combines_87 : decode cX9_combines 87 = .ok (.goto 4, 3) := by decide +kernel
theorem dX9_combines_90 : decode cX9_combines 90 = .ok (.iconst 0, 1) := by decide +kernel
theorem dX9_combines_91 : decode cX9_combines 91 = .ok (.istore 4, 2) := by decide +kernel
theorem dX9_combines_93 : decode cX9_combines 93 = .ok (.aload_n 0, 1) := by decide +kernel
theorem dX9_combines_94 : decode cX9_combines 94 = .ok (.getfield 32, 3) := by decide +kernel
theorem dX9_combines_97 : decode cX9_combines 97 = .ok (.aload_n 0, 1) := by decide +kernel
theorem dX9_combines_98 : decode cX9_combines 98 = .ok (.getfield 89, 3) := by decide +kernel
theorem dX9_combines_101 : decode cX9_combines 101 = .ok (.iconst 1, 1) := by decide +kernel
theorem dX9_combines_102 : decode cX9_combines 102 = .ok (.isub, 1) := by decide +kernel
theorem dX9_combines_103 : decode cX9_combines 103 = .ok (.iload 4, 2) := by decide +kernel
theorem dX9_combines_105 : decode cX9_combines 105 = .ok (.ifCond .eq 7, 3) := by decide +kernel
theorem dX9_combines_108 : decode cX9_combines 108 = .ok (.iload_n 3, 1) := by decide +kernel
theorem dX9_combines_109 : decode cX9_combines 109 = .ok (.goto 4, 3) := by decide +kernel
theorem dX9_combines_112 : decode cX9_combines 112 = .ok (.iload_n 2, 1) := by decide +kernel
theorem dX9_combines_113 : decode cX9_combines 113 = .ok (.iastore, 1) := by decide +kernel
theorem dX9_combines_114 : decode cX9_combines 114 = .ok (.return_, 1) := by decide +kernel
theorem dX9_truthOf_0 : decode cX9_truthOf 0 = .ok (.aload_n 0, 1) := by decide +kernel
theorem dX9_truthOf_1 : decode cX9_truthOf 1 = .ok (.iconst 0, 1) := by decide +kernel
theorem dX9_truthOf_2 : decode cX9_truthOf 2 = .ok (.putfield 89, 3) := by decide +kernel
theorem dX9_truthOf_5 : decode cX9_truthOf 5 = .ok (.iconst 0, 1) := by decide +kernel
theorem dX9_truthOf_6 : decode cX9_truthOf 6 = .ok (.istore_n 2, 1) := by decide +kernel
theorem dX9_truthOf_7 : decode cX9_truthOf 7 = .ok (.iload_n 2, 1) := by decide +kernel
theorem dX9_truthOf_8 : decode cX9_truthOf 8 = .ok (.aload_n 0, 1) := by decide +kernel
theorem dX9_truthOf_9 : decode cX9_truthOf 9 = .ok (.iload_n 1, 1) := by decide +kernel
theorem dX9_truthOf_10 : decode cX9_truthOf 10 = .ok (.invokevirtual 92, 3) := by decide +kernel
theorem dX9_truthOf_13 : decode cX9_truthOf 13 = .ok (.if_icmp .ge 55, 3) := by decide +kernel
theorem dX9_truthOf_16 : decode cX9_truthOf 16 = .ok (.aload_n 0, 1) := by decide +kernel
theorem dX9_truthOf_17 : decode cX9_truthOf 17 = .ok (.iload_n 1, 1) := by decide +kernel
theorem dX9_truthOf_18 : decode cX9_truthOf 18 = .ok (.iload_n 2, 1) := by decide +kernel
theorem dX9_truthOf_19 : decode cX9_truthOf 19 = .ok (.invokevirtual 95, 3) := by decide +kernel
theorem dX9_truthOf_22 : decode cX9_truthOf 22 = .ok (.istore_n 3, 1) := by decide +kernel
theorem dX9_truthOf_23 : decode cX9_truthOf 23 = .ok (.iload_n 3, 1) := by decide +kernel
theorem dX9_truthOf_24 : decode cX9_truthOf 24 = .ok (.invokestatic 99, 3) := by decide +kernel
theorem dX9_truthOf_27 : decode cX9_truthOf 27 = .ok (.ifCond .eq 30, 3) := by decide +kernel
theorem dX9_truthOf_30 : decode cX9_truthOf 30 = .ok (.aload_n 0, 1) := by decide +kernel
theorem dX9_truthOf_31 : decode cX9_truthOf 31 = .ok (.getfield 32, 3) := by decide +kernel
theorem dX9_truthOf_34 : decode cX9_truthOf 34 = .ok (.aload_n 0, 1) := by decide +kernel
theorem dX9_truthOf_35 : decode cX9_truthOf 35 = .ok (.getfield 89, 3) := by decide +kernel
theorem dX9_truthOf_38 : decode cX9_truthOf 38 = .ok (.aload_n 0, 1) := by decide +kernel
theorem dX9_truthOf_39 : decode cX9_truthOf 39 = .ok (.iload_n 3, 1) := by decide +kernel
theorem dX9_truthOf_40 : decode cX9_truthOf 40 = .ok (.invokevirtual 102, 3) := by decide +kernel
theorem dX9_truthOf_43 : decode cX9_truthOf 43 = .ok (.iastore, 1) := by decide +kernel
theorem dX9_truthOf_44 : decode cX9_truthOf 44 = .ok (.aload_n 0, 1) := by decide +kernel
theorem dX9_truthOf_45 : decode cX9_truthOf 45 = .ok (.dup, 1) := by decide +kernel
theorem dX9_truthOf_46 : decode cX9_truthOf 46 = .ok (.getfield 89, 3) := by decide +kernel
theorem dX9_truthOf_49 : decode cX9_truthOf 49 = .ok (.iconst 1, 1) := by decide +kernel
theorem dX9_truthOf_50 : decode cX9_truthOf 50 = .ok (.iadd, 1) := by decide +kernel
theorem dX9_truthOf_51 : decode cX9_truthOf 51 = .ok (.putfield 89, 3) := by decide +kernel
theorem dX9_truthOf_54 : decode cX9_truthOf 54 = .ok (.goto 8, 3) := by decide +kernel
theorem dX9_truthOf_57 : decode cX9_truthOf 57 = .ok (.aload_n 0, 1) := by decide +kernel
theorem dX9_truthOf_58 : decode cX9_truthOf 58 = .ok (.iload_n 3, 1) := by decide +kernel
theorem dX9_truthOf_59 : decode cX9_truthOf 59 = .ok (.invokevirtual 105, 3) := by decide +kernel
theorem dX9_truthOf_62 : decode cX9_truthOf 62 = .ok (.iinc 2 1, 3) := by decide +kernel
theorem dX9_truthOf_65 : decode cX9_truthOf 65 = .ok (.goto (-58), 3) := by decide +kernel
theorem dX9_truthOf_68 : decode cX9_truthOf 68 = .ok (.aload_n 0, 1) := by decide +kernel
theorem dX9_truthOf_69 : decode cX9_truthOf 69 = .ok (.getfield 32, 3) := by decide +kernel
theorem dX9_truthOf_72 : decode cX9_truthOf 72 = .ok (.iconst 0, 1) := by decide +kernel
theorem dX9_truthOf_73 : decode cX9_truthOf 73 = .ok (.iaload, 1) := by decide +kernel
theorem dX9_truthOf_74 : decode cX9_truthOf 74 = .ok (.ireturn, 1) := by decide +kernel
theorem dX9_truthAt_0 : decode cX9_truthAt 0 = .ok (.aload_n 0, 1) := by decide +kernel
theorem dX9_truthAt_1 : decode cX9_truthAt 1 = .ok (.iload_n 1, 1) := by decide +kernel
theorem dX9_truthAt_2 : decode cX9_truthAt 2 = .ok (.iload_n 2, 1) := by decide +kernel
theorem dX9_truthAt_3 : decode cX9_truthAt 3 = .ok (.invokevirtual 109, 3) := by decide +kernel
theorem dX9_truthAt_6 : decode cX9_truthAt 6 = .ok (.aload_n 0, 1) := by decide +kernel
theorem dX9_truthAt_7 : decode cX9_truthAt 7 = .ok (.iload_n 3, 1) := by decide +kernel
theorem dX9_truthAt_8 : decode cX9_truthAt 8 = .ok (.invokevirtual 113, 3) := by decide +kernel
theorem dX9_truthAt_11 : decode cX9_truthAt 11 = .ok (.ireturn, 1) := by decide +kernel
theorem dX9_rowsOf_0 : decode cX9_rowsOf 0 = .ok (.iconst 0, 1) := by decide +kernel
theorem dX9_rowsOf_1 : decode cX9_rowsOf 1 = .ok (.istore 4, 2) := by decide +kernel
theorem dX9_rowsOf_3 : decode cX9_rowsOf 3 = .ok (.iconst 0, 1) := by decide +kernel
theorem dX9_rowsOf_4 : decode cX9_rowsOf 4 = .ok (.istore 5, 2) := by decide +kernel
theorem dX9_rowsOf_6 : decode cX9_rowsOf 6 = .ok (.iload 5, 2) := by decide +kernel
theorem dX9_rowsOf_8 : decode cX9_rowsOf 8 = .ok (.aload_n 0, 1) := by decide +kernel
theorem dX9_rowsOf_9 : decode cX9_rowsOf 9 = .ok (.iload_n 1, 1) := by decide +kernel
theorem dX9_rowsOf_10 : decode cX9_rowsOf 10 = .ok (.invokevirtual 70, 3) := by decide +kernel
theorem dX9_rowsOf_13 : decode cX9_rowsOf 13 = .ok (.if_icmp .ge 34, 3) := by decide +kernel
theorem dX9_rowsOf_16 : decode cX9_rowsOf 16 = .ok (.iload 4, 2) := by decide +kernel
theorem dX9_rowsOf_18 : decode cX9_rowsOf 18 = .ok (.aload_n 0, 1) := by decide +kernel
theorem dX9_rowsOf_19 : decode cX9_rowsOf 19 = .ok (.iload_n 1, 1) := by decide +kernel
theorem dX9_rowsOf_20 : decode cX9_rowsOf 20 = .ok (.iload 5, 2) := by decide +kernel
theorem dX9_rowsOf_22 : decode cX9_rowsOf 22 = .ok (.iload_n 2, 1) := by decide +kernel
theorem dX9_rowsOf_23 : decode cX9_rowsOf 23 = .ok (.invokevirtual 116, 3) := by decide +kernel
theorem dX9_rowsOf_26 : decode cX9_rowsOf 26 = .ok (.iload_n 3, 1) := by decide +kernel
theorem dX9_rowsOf_27 : decode cX9_rowsOf 27 = .ok (.if_icmp .ne 10, 3) := by decide +kernel
theorem dX9_rowsOf_30 : decode cX9_rowsOf 30 = .ok (.iconst 1, 1) := by decide +kernel
theorem dX9_rowsOf_31 : decode cX9_rowsOf 31 = .ok (.iload 5, 2) := by decide +kernel
theorem dX9_rowsOf_33 : decode cX9_rowsOf 33 = .ok (.ishl, 1) := by decide +kernel
theorem dX9_rowsOf_34 : decode cX9_rowsOf 34 = .ok (.goto 4, 3) := by decide +kernel
theorem dX9_rowsOf_37 : decode cX9_rowsOf 37 = .ok (.iconst 0, 1) := by decide +kernel
theorem dX9_rowsOf_38 : decode cX9_rowsOf 38 = .ok (.ior, 1) := by decide +kernel
theorem dX9_rowsOf_39 : decode cX9_rowsOf 39 = .ok (.istore 4, 2) := by decide +kernel
theorem dX9_rowsOf_41 : decode cX9_rowsOf 41 = .ok (.iinc 5 1, 3) := by decide +kernel
theorem dX9_rowsOf_44 : decode cX9_rowsOf 44 = .ok (.goto (-38), 3) := by decide +kernel
theorem dX9_rowsOf_47 : decode cX9_rowsOf 47 = .ok (.iload 4, 2) := by decide +kernel
theorem dX9_rowsOf_49 : decode cX9_rowsOf 49 = .ok (.ireturn, 1) := by decide +kernel
theorem dX9_bits_0 : decode cX9_bits 0 = .ok (.iconst 0, 1) := by decide +kernel
theorem dX9_bits_1 : decode cX9_bits 1 = .ok (.istore_n 1, 1) := by decide +kernel
theorem dX9_bits_2 : decode cX9_bits 2 = .ok (.iconst 0, 1) := by decide +kernel
theorem dX9_bits_3 : decode cX9_bits 3 = .ok (.istore_n 2, 1) := by decide +kernel
theorem dX9_bits_4 : decode cX9_bits 4 = .ok (.iload_n 2, 1) := by decide +kernel
theorem dX9_bits_5 : decode cX9_bits 5 = .ok (.bipush 16, 2) := by decide +kernel
theorem dX9_bits_7 : decode cX9_bits 7 = .ok (.if_icmp .ge 17, 3) := by decide +kernel
theorem dX9_bits_10 : decode cX9_bits 10 = .ok (.iload_n 1, 1) := by decide +kernel
theorem dX9_bits_11 : decode cX9_bits 11 = .ok (.iload_n 0, 1) := by decide +kernel
theorem dX9_bits_12 : decode cX9_bits 12 = .ok (.iload_n 2, 1) := by decide +kernel
theorem dX9_bits_13 : decode cX9_bits 13 = .ok (.ishr, 1) := by decide +kernel
theorem dX9_bits_14 : decode cX9_bits 14 = .ok (.iconst 1, 1) := by decide +kernel
theorem dX9_bits_15 : decode cX9_bits 15 = .ok (.iand, 1) := by decide +kernel
theorem dX9_bits_16 : decode cX9_bits 16 = .ok (.iadd, 1) := by decide +kernel
theorem dX9_bits_17 : decode cX9_bits 17 = .ok (.istore_n 1, 1) := by decide +kernel
theorem dX9_bits_18 : decode cX9_bits 18 = .ok (.iinc 2 1, 3) := by decide +kernel
theorem dX9_bits_21 : decode cX9_bits 21 = .ok (.goto (-17), 3) := by decide +kernel
theorem dX9_bits_24 : decode cX9_bits 24 = .ok (.iload_n 1, 1) := by decide +kernel
theorem dX9_bits_25 : decode cX9_bits 25 = .ok (.ireturn, 1) := by decide +kernel
theorem dX9_violates_0 : decode cX9_violates 0 = .ok (.aload_n 0, 1) := by decide +kernel
theorem dX9_violates_1 : decode cX9_violates 1 = .ok (.bipush 6, 2) := by decide +kernel
theorem dX9_violates_3 : decode cX9_violates 3 = .ok (.iload_n 1, 1) := by decide +kernel
theorem dX9_violates_4 : decode cX9_violates 4 = .ok (.iadd, 1) := by decide +kernel
theorem dX9_violates_5 : decode cX9_violates 5 = .ok (.invokevirtual 92, 3) := by decide +kernel
theorem dX9_violates_8 : decode cX9_violates 8 = .ok (.ifCond .le 20, 3) := by decide +kernel
theorem dX9_violates_11 : decode cX9_violates 11 = .ok (.aload_n 0, 1) := by decide +kernel
theorem dX9_violates_12 : decode cX9_violates 12 = .ok (.iload_n 1, 1) := by decide +kernel
theorem dX9_violates_13 : decode cX9_violates 13 = .ok (.iload_n 2, 1) := by decide +kernel
theorem dX9_violates_14 : decode cX9_violates 14 = .ok (.bipush 6, 2) := by decide +kernel
theorem dX9_violates_16 : decode cX9_violates 16 = .ok (.iload_n 1, 1) := by decide +kernel
theorem dX9_violates_17 : decode cX9_violates 17 = .ok (.iadd, 1) := by decide +kernel
theorem dX9_violates_18 : decode cX9_violates 18 = .ok (.invokevirtual 116, 3) := by decide +kernel
theorem dX9_violates_21 : decode cX9_violates 21 = .ok (.ifCond .ne 7, 3) := by decide +kernel
theorem dX9_violates_24 : decode cX9_violates 24 = .ok (.iconst 1, 1) := by decide +kernel
theorem dX9_violates_25 : decode cX9_violates 25 = .ok (.goto 4, 3) := by decide +kernel
theorem dX9_violates_28 : decode cX9_violates 28 = .ok (.iconst 0, 1) := by decide +kernel
theorem dX9_violates_29 : decode cX9_violates 29 = .ok (.ireturn, 1) := by decide +kernel
theorem dX9_add_0 : decode cX9_add 0 = .ok (.aload_n 0, 1) := by decide +kernel
theorem dX9_add_1 : decode cX9_add 1 = .ok (.iconst 0, 1) := by decide +kernel
theorem dX9_add_2 : decode cX9_add 2 = .ok (.putfield 47, 3) := by decide +kernel
theorem dX9_add_5 : decode cX9_add 5 = .ok (.iload_n 1, 1) := by decide +kernel
theorem dX9_add_6 : decode cX9_add 6 = .ok (.invokestatic 66, 3) := by decide +kernel
theorem dX9_add_9 : decode cX9_add 9 = .ok (.ifCond .ne 9, 3) := by decide +kernel
theorem dX9_add_12 : decode cX9_add 12 = .ok (.aload_n 0, 1) := by decide +kernel
theorem dX9_add_13 : decode cX9_add 13 = .ok (.iconst 1, 1) := by decide +kernel
theorem dX9_add_14 : decode cX9_add 14 = .ok (.invokevirtual 119, 3) := by decide +kernel
theorem dX9_add_17 : decode cX9_add 17 = .ok (.ireturn, 1) := by decide +kernel
theorem dX9_add_18 : decode cX9_add 18 = .ok (.iload_n 2, 1) := by decide +kernel
theorem dX9_add_19 : decode cX9_add 19 = .ok (.invokestatic 122, 3) := by decide +kernel
theorem dX9_add_22 : decode cX9_add 22 = .ok (.ifCond .eq 26, 3) := by decide +kernel
theorem dX9_add_25 : decode cX9_add 25 = .ok (.iload_n 3, 1) := by decide +kernel
theorem dX9_add_26 : decode cX9_add 26 = .ok (.invokestatic 122, 3) := by decide +kernel
theorem dX9_add_29 : decode cX9_add 29 = .ok (.ifCond .eq 19, 3) := by decide +kernel
theorem dX9_add_32 : decode cX9_add 32 = .ok (.iload 4, 2) := by decide +kernel
theorem dX9_add_34 : decode cX9_add 34 = .ok (.invokestatic 122, 3) := by decide +kernel
theorem dX9_add_37 : decode cX9_add 37 = .ok (.ifCond .eq 11, 3) := by decide +kernel
theorem dX9_add_40 : decode cX9_add 40 = .ok (.iload 5, 2) := by decide +kernel
theorem dX9_add_42 : decode cX9_add 42 = .ok (.invokestatic 122, 3) := by decide +kernel
theorem dX9_add_45 : decode cX9_add 45 = .ok (.ifCond .ne 9, 3) := by decide +kernel
theorem dX9_add_48 : decode cX9_add 48 = .ok (.aload_n 0, 1) := by decide +kernel
theorem dX9_add_49 : decode cX9_add 49 = .ok (.iconst 2, 1) := by decide +kernel
theorem dX9_add_50 : decode cX9_add 50 = .ok (.invokevirtual 119, 3) := by decide +kernel
theorem dX9_add_53 : decode cX9_add 53 = .ok (.ireturn, 1) := by decide +kernel
theorem dX9_add_54 : decode cX9_add 54 = .ok (.aload_n 0, 1) := by decide +kernel
theorem dX9_add_55 : decode cX9_add 55 = .ok (.iload_n 1, 1) := by decide +kernel
theorem dX9_add_56 : decode cX9_add 56 = .ok (.invokevirtual 70, 3) := by decide +kernel
theorem dX9_add_59 : decode cX9_add 59 = .ok (.bipush 16, 2) := by decide +kernel
theorem dX9_add_61 : decode cX9_add 61 = .ok (.if_icmp .ne 9, 3) := by decide +kernel
theorem dX9_add_64 : decode cX9_add 64 = .ok (.aload_n 0, 1) := by decide +kernel
theorem dX9_add_65 : decode cX9_add 65 = .ok (.iconst 3, 1) := by decide +kernel
theorem dX9_add_66 : decode cX9_add 66 = .ok (.invokevirtual 119, 3) := by decide +kernel
theorem dX9_add_69 : decode cX9_add 69 = .ok (.ireturn, 1) := by decide +kernel
theorem dX9_add_70 : decode cX9_add 70 = .ok (.aload_n 0, 1) := by decide +kernel
theorem dX9_add_71 : decode cX9_add 71 = .ok (.invokevirtual 125, 3) := by decide +kernel
theorem dX9_add_74 : decode cX9_add 74 = .ok (.aload_n 0, 1) := by decide +kernel
theorem dX9_add_75 : decode cX9_add 75 = .ok (.iload_n 1, 1) := by decide +kernel
theorem dX9_add_76 : decode cX9_add 76 = .ok (.invokevirtual 70, 3) := by decide +kernel
theorem dX9_add_79 : decode cX9_add 79 = .ok (.istore 6, 2) := by decide +kernel
theorem dX9_add_81 : decode cX9_add 81 = .ok (.iload_n 1, 1) := by decide +kernel
theorem dX9_add_82 : decode cX9_add 82 = .ok (.iload 6, 2) := by decide +kernel
theorem dX9_add_84 : decode cX9_add 84 = .ok (.iconst 0, 1) := by decide +kernel
theorem dX9_add_85 : decode cX9_add 85 = .ok (.invokestatic 58, 3) := by decide +kernel
theorem dX9_add_88 : decode cX9_add 88 = .ok (.istore 7, 2) := by decide +kernel
theorem dX9_add_90 : decode cX9_add 90 = .ok (.aload_n 0, 1) := by decide +kernel
theorem dX9_add_91 : decode cX9_add 91 = .ok (.getfield 7, 3) := by decide +kernel
theorem dX9_add_94 : decode cX9_add 94 = .ok (.iload 7, 2) := by decide +kernel
theorem dX9_add_96 : decode cX9_add 96 = .ok (.iload_n 2, 1) := by decide +kernel
theorem dX9_add_97 : decode cX9_add 97 = .ok (.iastore, 1) := by decide +kernel
theorem dX9_add_98 : decode cX9_add 98 = .ok (.aload_n 0, 1) := by decide +kernel
theorem dX9_add_99 : decode cX9_add 99 = .ok (.getfield 7, 3) := by decide +kernel
theorem dX9_add_102 : decode cX9_add 102 = .ok (.iload 7, 2) := by decide +kernel
theorem dX9_add_104 : decode cX9_add 104 = .ok (.iconst 1, 1) := by decide +kernel
theorem dX9_add_105 : decode cX9_add 105 = .ok (.iadd, 1) := by decide +kernel
theorem dX9_add_106 : decode cX9_add 106 = .ok (.iload_n 3, 1) := by decide +kernel
theorem dX9_add_107 : decode cX9_add 107 = .ok (.iastore, 1) := by decide +kernel
theorem dX9_add_108 : decode cX9_add 108 = .ok (.aload_n 0, 1) := by decide +kernel
theorem dX9_add_109 : decode cX9_add 109 = .ok (.getfield 7, 3) := by decide +kernel
theorem dX9_add_112 : decode cX9_add 112 = .ok (.iload 7, 2) := by decide +kernel
theorem dX9_add_114 : decode cX9_add 114 = .ok (.iconst 2, 1) := by decide +kernel
theorem dX9_add_115 : decode cX9_add 115 = .ok (.iadd, 1) := by decide +kernel
theorem dX9_add_116 : decode cX9_add 116 = .ok (.iload 4, 2) := by decide +kernel
theorem dX9_add_118 : decode cX9_add 118 = .ok (.iastore, 1) := by decide +kernel
theorem dX9_add_119 : decode cX9_add 119 = .ok (.aload_n 0, 1) := by decide +kernel
theorem dX9_add_120 : decode cX9_add 120 = .ok (.getfield 7, 3) := by decide +kernel
theorem dX9_add_123 : decode cX9_add 123 = .ok (.iload 7, 2) := by decide +kernel
theorem dX9_add_125 : decode cX9_add 125 = .ok (.iconst 3, 1) := by decide +kernel
theorem dX9_add_126 : decode cX9_add 126 = .ok (.iadd, 1) := by decide +kernel
theorem dX9_add_127 : decode cX9_add 127 = .ok (.iload 5, 2) := by decide +kernel
theorem dX9_add_129 : decode cX9_add 129 = .ok (.iastore, 1) := by decide +kernel
theorem dX9_add_130 : decode cX9_add 130 = .ok (.aload_n 0, 1) := by decide +kernel
theorem dX9_add_131 : decode cX9_add 131 = .ok (.iload_n 1, 1) := by decide +kernel
theorem dX9_add_132 : decode cX9_add 132 = .ok (.iload 6, 2) := by decide +kernel
theorem dX9_add_134 : decode cX9_add 134 = .ok (.invokevirtual 128, 3) := by decide +kernel
theorem dX9_add_137 : decode cX9_add 137 = .ok (.ifCond .eq 18, 3) := by decide +kernel
theorem dX9_add_140 : decode cX9_add 140 = .ok (.aload_n 0, 1) := by decide +kernel
theorem dX9_add_141 : decode cX9_add 141 = .ok (.getfield 7, 3) := by decide +kernel
theorem dX9_add_144 : decode cX9_add 144 = .ok (.sipush 618, 3) := by decide +kernel
theorem dX9_add_147 : decode cX9_add 147 = .ok (.dup2, 1) := by decide +kernel
theorem dX9_add_148 : decode cX9_add 148 = .ok (.iaload, 1) := by decide +kernel
theorem dX9_add_149 : decode cX9_add 149 = .ok (.iconst 1, 1) := by decide +kernel
theorem dX9_add_150 : decode cX9_add 150 = .ok (.iadd, 1) := by decide +kernel
theorem dX9_add_151 : decode cX9_add 151 = .ok (.iastore, 1) := by decide +kernel
theorem dX9_add_152 : decode cX9_add 152 = .ok (.bipush (-2), 2) := by decide +kernel
theorem dX9_add_154 : decode cX9_add 154 = .ok (.ireturn, 1) := by decide +kernel
theorem dX9_add_155 : decode cX9_add 155 = .ok (.aload_n 0, 1) := by decide +kernel
theorem dX9_add_156 : decode cX9_add 156 = .ok (.getfield 7, 3) := by decide +kernel
theorem dX9_add_159 : decode cX9_add 159 = .ok (.iconst 0, 1) := by decide +kernel
theorem dX9_add_160 : decode cX9_add 160 = .ok (.iload_n 1, 1) := by decide +kernel
theorem dX9_add_161 : decode cX9_add 161 = .ok (.iadd, 1) := by decide +kernel
theorem dX9_add_162 : decode cX9_add 162 = .ok (.dup2, 1) := by decide +kernel
theorem dX9_add_163 : decode cX9_add 163 = .ok (.iaload, 1) := by decide +kernel
theorem dX9_add_164 : decode cX9_add 164 = .ok (.iconst 1, 1) := by decide +kernel
theorem dX9_add_165 : decode cX9_add 165 = .ok (.iadd, 1) := by decide +kernel
theorem dX9_add_166 : decode cX9_add 166 = .ok (.iastore, 1) := by decide +kernel
theorem dX9_add_167 : decode cX9_add 167 = .ok (.iload 6, 2) := by decide +kernel
theorem dX9_add_169 : decode cX9_add 169 = .ok (.ireturn, 1) := by decide +kernel
theorem dX9_change_0 : decode cX9_change 0 = .ok (.aload_n 0, 1) := by decide +kernel
theorem dX9_change_1 : decode cX9_change 1 = .ok (.iconst 0, 1) := by decide +kernel
theorem dX9_change_2 : decode cX9_change 2 = .ok (.putfield 47, 3) := by decide +kernel
theorem dX9_change_5 : decode cX9_change 5 = .ok (.aload_n 0, 1) := by decide +kernel
theorem dX9_change_6 : decode cX9_change 6 = .ok (.iload_n 1, 1) := by decide +kernel
theorem dX9_change_7 : decode cX9_change 7 = .ok (.iload_n 2, 1) := by decide +kernel
theorem dX9_change_8 : decode cX9_change 8 = .ok (.invokevirtual 132, 3) := by decide +kernel
theorem dX9_change_11 : decode cX9_change 11 = .ok (.ifCond .eq 10, 3) := by decide +kernel
theorem dX9_change_14 : decode cX9_change 14 = .ok (.iload_n 3, 1) := by decide +kernel
theorem dX9_change_15 : decode cX9_change 15 = .ok (.invokestatic 135, 3) := by decide +kernel
theorem dX9_change_18 : decode cX9_change 18 = .ok (.ifCond .ne 9, 3) := by decide +kernel
theorem dX9_change_21 : decode cX9_change 21 = .ok (.aload_n 0, 1) := by decide +kernel
theorem dX9_change_22 : decode cX9_change 22 = .ok (.iconst 1, 1) := by decide +kernel
theorem dX9_change_23 : decode cX9_change 23 = .ok (.invokevirtual 119, 3) := by decide +kernel
theorem dX9_change_26 : decode cX9_change 26 = .ok (.ireturn, 1) := by decide +kernel
theorem dX9_change_27 : decode cX9_change 27 = .ok (.iload 4, 2) := by decide +kernel
theorem dX9_change_29 : decode cX9_change 29 = .ok (.invokestatic 122, 3) := by decide +kernel
theorem dX9_change_32 : decode cX9_change 32 = .ok (.ifCond .ne 9, 3) := by decide +kernel
theorem dX9_change_35 : decode cX9_change 35 = .ok (.aload_n 0, 1) := by decide +kernel
theorem dX9_change_36 : decode cX9_change 36 = .ok (.iconst 2, 1) := by decide +kernel
theorem dX9_change_37 : decode cX9_change 37 = .ok (.invokevirtual 119, 3) := by decide +kernel
theorem dX9_change_40 : decode cX9_change 40 = .ok (.ireturn, 1) := by decide +kernel
theorem dX9_change_41 : decode cX9_change 41 = .ok (.aload_n 0, 1) := by decide +kernel
theorem dX9_change_42 : decode cX9_change 42 = .ok (.invokevirtual 125, 3) := by decide +kernel
theorem dX9_change_45 : decode cX9_change 45 = .ok (.aload_n 0, 1) := by decide +kernel
theorem dX9_change_46 : decode cX9_change 46 = .ok (.iload_n 1, 1) := by decide +kernel
theorem dX9_change_47 : decode cX9_change 47 = .ok (.iload_n 2, 1) := by decide +kernel
theorem dX9_change_48 : decode cX9_change 48 = .ok (.iload_n 3, 1) := by decide +kernel
theorem dX9_change_49 : decode cX9_change 49 = .ok (.invokevirtual 74, 3) := by decide +kernel
theorem dX9_change_52 : decode cX9_change 52 = .ok (.istore 5, 2) := by decide +kernel
theorem dX9_change_54 : decode cX9_change 54 = .ok (.aload_n 0, 1) := by decide +kernel
theorem dX9_change_55 : decode cX9_change 55 = .ok (.getfield 7, 3) := by decide +kernel
theorem dX9_change_58 : decode cX9_change 58 = .ok (.iload_n 1, 1) := by decide +kernel
theorem dX9_change_59 : decode cX9_change 59 = .ok (.iload_n 2, 1) := by decide +kernel
theorem dX9_change_60 : decode cX9_change 60 = .ok (.iload_n 3, 1) := by decide +kernel
theorem dX9_change_61 : decode cX9_change 61 = .ok (.invokestatic 58, 3) := by decide +kernel
theorem dX9_change_64 : decode cX9_change 64 = .ok (.iload 4, 2) := by decide +kernel
theorem dX9_change_66 : decode cX9_change 66 = .ok (.iastore, 1) := by decide +kernel
theorem dX9_change_67 : decode cX9_change 67 = .ok (.aload_n 0, 1) := by decide +kernel
theorem dX9_change_68 : decode cX9_change 68 = .ok (.iload_n 1, 1) := by decide +kernel
theorem dX9_change_69 : decode cX9_change 69 = .ok (.iload_n 2, 1) := by decide +kernel
theorem dX9_change_70 : decode cX9_change 70 = .ok (.invokevirtual 128, 3) := by decide +kernel
theorem dX9_change_73 : decode cX9_change 73 = .ok (.ifCond .eq 31, 3) := by decide +kernel
theorem dX9_change_76 : decode cX9_change 76 = .ok (.aload_n 0, 1) := by decide +kernel
theorem dX9_change_77 : decode cX9_change 77 = .ok (.getfield 7, 3) := by decide +kernel
theorem dX9_change_80 : decode cX9_change 80 = .ok (.iload_n 1, 1) := by decide +kernel
theorem dX9_change_81 : decode cX9_change 81 = .ok (.iload_n 2, 1) := by decide +kernel
theorem dX9_change_82 : decode cX9_change 82 = .ok (.iload_n 3, 1) := by decide +kernel
theorem dX9_change_83 : decode cX9_change 83 = .ok (.invokestatic 58, 3) := by decide +kernel
theorem dX9_change_86 : decode cX9_change 86 = .ok (.iload 5, 2) := by decide +kernel
theorem dX9_change_88 : decode cX9_change 88 = .ok (.iastore, 1) := by decide +kernel
theorem dX9_change_89 : decode cX9_change 89 = .ok (.aload_n 0, 1) := by decide +kernel
theorem dX9_change_90 : decode cX9_change 90 = .ok (.getfield 7, 3) := by decide +kernel
theorem dX9_change_93 : decode cX9_change 93 = .ok (.sipush 618, 3) := by decide +kernel
theorem dX9_change_96 : decode cX9_change 96 = .ok (.dup2, 1) := by decide +kernel
theorem dX9_change_97 : decode cX9_change 97 = .ok (.iaload, 1) := by decide +kernel
theorem dX9_change_98 : decode cX9_change 98 = .ok (.iconst 1, 1) := by decide +kernel
theorem dX9_change_99 : decode cX9_change 99 = .ok (.iadd, 1) := by decide +kernel
theorem dX9_change_100 : decode cX9_change 100 = .ok (.iastore, 1) := by decide +kernel
theorem dX9_change_101 : decode cX9_change 101 = .ok (.bipush (-2), 2) := by decide +kernel
theorem dX9_change_103 : decode cX9_change 103 = .ok (.ireturn, 1) := by decide +kernel
theorem dX9_change_104 : decode cX9_change 104 = .ok (.iload 5, 2) := by decide +kernel
theorem dX9_change_106 : decode cX9_change 106 = .ok (.ireturn, 1) := by decide +kernel
theorem dX9_drops_0 : decode cX9_drops 0 = .ok (.aload_n 0, 1) := by decide +kernel
theorem dX9_drops_1 : decode cX9_drops 1 = .ok (.getfield 7, 3) := by decide +kernel
theorem dX9_drops_4 : decode cX9_drops 4 = .ok (.iconst 0, 1) := by decide +kernel
theorem dX9_drops_5 : decode cX9_drops 5 = .ok (.iload_n 1, 1) := by decide +kernel
theorem dX9_drops_6 : decode cX9_drops 6 = .ok (.iadd, 1) := by decide +kernel
theorem dX9_drops_7 : decode cX9_drops 7 = .ok (.dup2, 1) := by decide +kernel
theorem dX9_drops_8 : decode cX9_drops 8 = .ok (.iaload, 1) := by decide +kernel
theorem dX9_drops_9 : decode cX9_drops 9 = .ok (.iconst 1, 1) := by decide +kernel
theorem dX9_drops_10 : decode cX9_drops 10 = .ok (.isub, 1) := by decide +kernel
theorem dX9_drops_11 : decode cX9_drops 11 = .ok (.iastore, 1) := by decide +kernel
theorem dX9_drops_12 : decode cX9_drops 12 = .ok (.iload_n 1, 1) := by decide +kernel
theorem dX9_drops_13 : decode cX9_drops 13 = .ok (.iload_n 2, 1) := by decide +kernel
theorem dX9_drops_14 : decode cX9_drops 14 = .ok (.iconst 0, 1) := by decide +kernel
theorem dX9_drops_15 : decode cX9_drops 15 = .ok (.invokestatic 58, 3) := by decide +kernel
theorem dX9_drops_18 : decode cX9_drops 18 = .ok (.istore_n 3, 1) := by decide +kernel
theorem dX9_drops_19 : decode cX9_drops 19 = .ok (.iload_n 3, 1) := by decide +kernel
theorem dX9_drops_20 : decode cX9_drops 20 = .ok (.iload_n 1, 1) := by decide +kernel
theorem dX9_drops_21 : decode cX9_drops 21 = .ok (.aload_n 0, 1) := by decide +kernel
theorem dX9_drops_22 : decode cX9_drops 22 = .ok (.iload_n 1, 1) := by decide +kernel
theorem dX9_drops_23 : decode cX9_drops 23 = .ok (.invokevirtual 70, 3) := by decide +kernel
theorem dX9_drops_26 : decode cX9_drops 26 = .ok (.iconst 0, 1) := by decide +kernel
theorem dX9_drops_27 : decode cX9_drops 27 = .ok (.invokestatic 58, 3) := by decide +kernel
theorem dX9_drops_30 : decode cX9_drops 30 = .ok (.if_icmp .ge 23, 3) := by decide +kernel
theorem dX9_drops_33 : decode cX9_drops 33 = .ok (.aload_n 0, 1) := by decide +kernel
theorem dX9_drops_34 : decode cX9_drops 34 = .ok (.getfield 7, 3) := by decide +kernel
theorem dX9_drops_37 : decode cX9_drops 37 = .ok (.iload_n 3, 1) := by decide +kernel
theorem dX9_drops_38 : decode cX9_drops 38 = .ok (.aload_n 0, 1) := by decide +kernel
theorem dX9_drops_39 : decode cX9_drops 39 = .ok (.getfield 7, 3) := by decide +kernel
theorem dX9_drops_42 : decode cX9_drops 42 = .ok (.iload_n 3, 1) := by decide +kernel
theorem dX9_drops_43 : decode cX9_drops 43 = .ok (.iconst 4, 1) := by decide +kernel
theorem dX9_drops_44 : decode cX9_drops 44 = .ok (.iadd, 1) := by decide +kernel
theorem dX9_drops_45 : decode cX9_drops 45 = .ok (.iaload, 1) := by decide +kernel
theorem dX9_drops_46 : decode cX9_drops 46 = .ok (.iastore, 1) := by decide +kernel
theorem dX9_drops_47 : decode cX9_drops 47 = .ok (.iinc 3 1, 3) := by decide +kernel
theorem dX9_drops_50 : decode cX9_drops 50 = .ok (.goto (-31), 3) := by decide +kernel
theorem dX9_drops_53 : decode cX9_drops 53 = .ok (.return_, 1) := by decide +kernel
theorem dX9_drop_0 : decode cX9_drop 0 = .ok (.aload_n 0, 1) := by decide +kernel
theorem dX9_drop_1 : decode cX9_drop 1 = .ok (.iconst 0, 1) := by decide +kernel
theorem dX9_drop_2 : decode cX9_drop 2 = .ok (.putfield 47, 3) := by decide +kernel
theorem dX9_drop_5 : decode cX9_drop 5 = .ok (.aload_n 0, 1) := by decide +kernel
theorem dX9_drop_6 : decode cX9_drop 6 = .ok (.iload_n 1, 1) := by decide +kernel
theorem dX9_drop_7 : decode cX9_drop 7 = .ok (.iload_n 2, 1) := by decide +kernel
theorem dX9_drop_8 : decode cX9_drop 8 = .ok (.invokevirtual 132, 3) := by decide +kernel
theorem dX9_drop_11 : decode cX9_drop 11 = .ok (.ifCond .ne 9, 3) := by decide +kernel
theorem dX9_drop_14 : decode cX9_drop 14 = .ok (.aload_n 0, 1) := by decide +kernel
theorem dX9_drop_15 : decode cX9_drop 15 = .ok (.iconst 1, 1) := by decide +kernel
theorem dX9_drop_16 : decode cX9_drop 16 = .ok (.invokevirtual 119, 3) := by decide +kernel
theorem dX9_drop_19 : decode cX9_drop 19 = .ok (.ireturn, 1) := by decide +kernel
theorem dX9_drop_20 : decode cX9_drop 20 = .ok (.aload_n 0, 1) := by decide +kernel
theorem dX9_drop_21 : decode cX9_drop 21 = .ok (.invokevirtual 125, 3) := by decide +kernel
theorem dX9_drop_24 : decode cX9_drop 24 = .ok (.aload_n 0, 1) := by decide +kernel
theorem dX9_drop_25 : decode cX9_drop 25 = .ok (.iload_n 1, 1) := by decide +kernel
theorem dX9_drop_26 : decode cX9_drop 26 = .ok (.iload_n 2, 1) := by decide +kernel
theorem dX9_drop_27 : decode cX9_drop 27 = .ok (.invokevirtual 138, 3) := by decide +kernel
theorem dX9_drop_30 : decode cX9_drop 30 = .ok (.aload_n 0, 1) := by decide +kernel
theorem dX9_drop_31 : decode cX9_drop 31 = .ok (.iload_n 1, 1) := by decide +kernel
theorem dX9_drop_32 : decode cX9_drop 32 = .ok (.invokevirtual 70, 3) := by decide +kernel
theorem dX9_drop_35 : decode cX9_drop 35 = .ok (.ireturn, 1) := by decide +kernel
theorem dX9_copies_0 : decode cX9_copies 0 = .ok (.iconst 0, 1) := by decide +kernel
theorem dX9_copies_1 : decode cX9_copies 1 = .ok (.istore_n 3, 1) := by decide +kernel
theorem dX9_copies_2 : decode cX9_copies 2 = .ok (.iload_n 3, 1) := by decide +kernel
theorem dX9_copies_3 : decode cX9_copies 3 = .ok (.bipush 61, 2) := by decide +kernel
theorem dX9_copies_5 : decode cX9_copies 5 = .ok (.if_icmp .ge 39, 3) := by decide +kernel
theorem dX9_copies_8 : decode cX9_copies 8 = .ok (.aload_n 0, 1) := by decide +kernel
theorem dX9_copies_9 : decode cX9_copies 9 = .ok (.getfield 7, 3) := by decide +kernel
theorem dX9_copies_12 : decode cX9_copies 12 = .ok (.sipush 130, 3) := by decide +kernel
theorem dX9_copies_15 : decode cX9_copies 15 = .ok (.bipush 61, 2) := by decide +kernel
theorem dX9_copies_17 : decode cX9_copies 17 = .ok (.iload_n 2, 1) := by decide +kernel
theorem dX9_copies_18 : decode cX9_copies 18 = .ok (.imul, 1) := by decide +kernel
theorem dX9_copies_19 : decode cX9_copies 19 = .ok (.iadd, 1) := by decide +kernel
theorem dX9_copies_20 : decode cX9_copies 20 = .ok (.iload_n 3, 1) := by decide +kernel
theorem dX9_copies_21 : decode cX9_copies 21 = .ok (.iadd, 1) := by decide +kernel
theorem dX9_copies_22 : decode cX9_copies 22 = .ok (.aload_n 0, 1) := by decide +kernel
theorem dX9_copies_23 : decode cX9_copies 23 = .ok (.getfield 7, 3) := by decide +kernel
theorem dX9_copies_26 : decode cX9_copies 26 = .ok (.sipush 130, 3) := by decide +kernel
theorem dX9_copies_29 : decode cX9_copies 29 = .ok (.bipush 61, 2) := by decide +kernel
theorem dX9_copies_31 : decode cX9_copies 31 = .ok (.iload_n 1, 1) := by decide +kernel
theorem dX9_copies_32 : decode cX9_copies 32 = .ok (.imul, 1) := by decide +kernel
theorem dX9_copies_33 : decode cX9_copies 33 = .ok (.iadd, 1) := by decide +kernel
theorem dX9_copies_34 : decode cX9_copies 34 = .ok (.iload_n 3, 1) := by decide +kernel
theorem dX9_copies_35 : decode cX9_copies 35 = .ok (.iadd, 1) := by decide +kernel
theorem dX9_copies_36 : decode cX9_copies 36 = .ok (.iaload, 1) := by decide +kernel
theorem dX9_copies_37 : decode cX9_copies 37 = .ok (.iastore, 1) := by decide +kernel
theorem dX9_copies_38 : decode cX9_copies 38 = .ok (.iinc 3 1, 3) := by decide +kernel
theorem dX9_copies_41 : decode cX9_copies 41 = .ok (.goto (-39), 3) := by decide +kernel
theorem dX9_copies_44 : decode cX9_copies 44 = .ok (.return_, 1) := by decide +kernel
theorem dX9_makes_0 : decode cX9_makes 0 = .ok (.aload_n 0, 1) := by decide +kernel
theorem dX9_makes_1 : decode cX9_makes 1 = .ok (.getfield 35, 3) := by decide +kernel
theorem dX9_makes_4 : decode cX9_makes 4 = .ok (.aload_n 0, 1) := by decide +kernel
theorem dX9_makes_5 : decode cX9_makes 5 = .ok (.getfield 141, 3) := by decide +kernel
theorem dX9_makes_8 : decode cX9_makes 8 = .ok (.iload_n 1, 1) := by decide +kernel
theorem dX9_makes_9 : decode cX9_makes 9 = .ok (.iastore, 1) := by decide +kernel
theorem dX9_makes_10 : decode cX9_makes 10 = .ok (.aload_n 0, 1) := by decide +kernel
theorem dX9_makes_11 : decode cX9_makes 11 = .ok (.dup, 1) := by decide +kernel
theorem dX9_makes_12 : decode cX9_makes 12 = .ok (.getfield 141, 3) := by decide +kernel
theorem dX9_makes_15 : decode cX9_makes 15 = .ok (.iconst 1, 1) := by decide +kernel
theorem dX9_makes_16 : decode cX9_makes 16 = .ok (.iadd, 1) := by decide +kernel
theorem dX9_makes_17 : decode cX9_makes 17 = .ok (.putfield 141, 3) := by decide +kernel
theorem dX9_makes_20 : decode cX9_makes 20 = .ok (.return_, 1) := by decide +kernel
theorem dX9_makesAll_0 : decode cX9_makesAll 0 = .ok (.iconst 0, 1) := by decide +kernel
theorem dX9_makesAll_1 : decode cX9_makesAll 1 = .ok (.istore_n 2, 1) := by decide +kernel
theorem dX9_makesAll_2 : decode cX9_makesAll 2 = .ok (.iload_n 2, 1) := by decide +kernel
theorem dX9_makesAll_3 : decode cX9_makesAll 3 = .ok (.aload_n 0, 1) := by decide +kernel
theorem dX9_makesAll_4 : decode cX9_makesAll 4 = .ok (.iload_n 1, 1) := by decide +kernel
theorem dX9_makesAll_5 : decode cX9_makesAll 5 = .ok (.invokevirtual 92, 3) := by decide +kernel
theorem dX9_makesAll_8 : decode cX9_makesAll 8 = .ok (.if_icmp .ge 19, 3) := by decide +kernel
theorem dX9_makesAll_11 : decode cX9_makesAll 11 = .ok (.aload_n 0, 1) := by decide +kernel
theorem dX9_makesAll_12 : decode cX9_makesAll 12 = .ok (.aload_n 0, 1) := by decide +kernel
theorem dX9_makesAll_13 : decode cX9_makesAll 13 = .ok (.iload_n 1, 1) := by decide +kernel
theorem dX9_makesAll_14 : decode cX9_makesAll 14 = .ok (.iload_n 2, 1) := by decide +kernel
theorem dX9_makesAll_15 : decode cX9_makesAll 15 = .ok (.invokevirtual 95, 3) := by decide +kernel
theorem dX9_makesAll_18 : decode cX9_makesAll 18 = .ok (.invokevirtual 144, 3) := by decide +kernel
theorem dX9_makesAll_21 : decode cX9_makesAll 21 = .ok (.iinc 2 1, 3) := by decide +kernel
theorem dX9_makesAll_24 : decode cX9_makesAll 24 = .ok (.goto (-22), 3) := by decide +kernel
theorem dX9_makesAll_27 : decode cX9_makesAll 27 = .ok (.return_, 1) := by decide +kernel
theorem dX9_puts_0 : decode cX9_puts 0 = .ok (.aload_n 0, 1) := by decide +kernel
theorem dX9_puts_1 : decode cX9_puts 1 = .ok (.getfield 7, 3) := by decide +kernel
theorem dX9_puts_4 : decode cX9_puts 4 = .ok (.sipush 130, 3) := by decide +kernel
theorem dX9_puts_7 : decode cX9_puts 7 = .ok (.bipush 61, 2) := by decide +kernel
theorem dX9_puts_9 : decode cX9_puts 9 = .ok (.iload_n 1, 1) := by decide +kernel
theorem dX9_puts_10 : decode cX9_puts 10 = .ok (.imul, 1) := by decide +kernel
theorem dX9_puts_11 : decode cX9_puts 11 = .ok (.iadd, 1) := by decide +kernel
theorem dX9_puts_12 : decode cX9_puts 12 = .ok (.aload_n 0, 1) := by decide +kernel
theorem dX9_puts_13 : decode cX9_puts 13 = .ok (.getfield 141, 3) := by decide +kernel
theorem dX9_puts_16 : decode cX9_puts 16 = .ok (.iastore, 1) := by decide +kernel
theorem dX9_puts_17 : decode cX9_puts 17 = .ok (.iconst 0, 1) := by decide +kernel
theorem dX9_puts_18 : decode cX9_puts 18 = .ok (.istore_n 2, 1) := by decide +kernel
theorem dX9_puts_19 : decode cX9_puts 19 = .ok (.iload_n 2, 1) := by decide +kernel
theorem dX9_puts_20 : decode cX9_puts 20 = .ok (.aload_n 0, 1) := by decide +kernel
theorem dX9_puts_21 : decode cX9_puts 21 = .ok (.getfield 141, 3) := by decide +kernel
theorem dX9_puts_24 : decode cX9_puts 24 = .ok (.if_icmp .ge 32, 3) := by decide +kernel
theorem dX9_puts_27 : decode cX9_puts 27 = .ok (.aload_n 0, 1) := by decide +kernel
theorem dX9_puts_28 : decode cX9_puts 28 = .ok (.getfield 7, 3) := by decide +kernel
theorem dX9_puts_31 : decode cX9_puts 31 = .ok (.sipush 130, 3) := by decide +kernel
theorem dX9_puts_34 : decode cX9_puts 34 = .ok (.bipush 61, 2) := by decide +kernel
theorem dX9_puts_36 : decode cX9_puts 36 = .ok (.iload_n 1, 1) := by decide +kernel
theorem dX9_puts_37 : decode cX9_puts 37 = .ok (.imul, 1) := by decide +kernel
theorem dX9_puts_38 : decode cX9_puts 38 = .ok (.iadd, 1) := by decide +kernel
theorem dX9_puts_39 : decode cX9_puts 39 = .ok (.iconst 1, 1) := by decide +kernel
theorem dX9_puts_40 : decode cX9_puts 40 = .ok (.iadd, 1) := by decide +kernel
theorem dX9_puts_41 : decode cX9_puts 41 = .ok (.iload_n 2, 1) := by decide +kernel
theorem dX9_puts_42 : decode cX9_puts 42 = .ok (.iadd, 1) := by decide +kernel
theorem dX9_puts_43 : decode cX9_puts 43 = .ok (.aload_n 0, 1) := by decide +kernel
theorem dX9_puts_44 : decode cX9_puts 44 = .ok (.getfield 35, 3) := by decide +kernel
theorem dX9_puts_47 : decode cX9_puts 47 = .ok (.iload_n 2, 1) := by decide +kernel
theorem dX9_puts_48 : decode cX9_puts 48 = .ok (.iaload, 1) := by decide +kernel
theorem dX9_puts_49 : decode cX9_puts 49 = .ok (.iastore, 1) := by decide +kernel
theorem dX9_puts_50 : decode cX9_puts 50 = .ok (.iinc 2 1, 3) := by decide +kernel
theorem dX9_puts_53 : decode cX9_puts 53 = .ok (.goto (-34), 3) := by decide +kernel
theorem dX9_puts_56 : decode cX9_puts 56 = .ok (.aload_n 0, 1) := by decide +kernel
theorem dX9_puts_57 : decode cX9_puts 57 = .ok (.getfield 141, 3) := by decide +kernel
theorem dX9_puts_60 : decode cX9_puts 60 = .ok (.ireturn, 1) := by decide +kernel
theorem dX9_define_0 : decode cX9_define 0 = .ok (.aload_n 0, 1) := by decide +kernel
theorem dX9_define_1 : decode cX9_define 1 = .ok (.iconst 0, 1) := by decide +kernel
theorem dX9_define_2 : decode cX9_define 2 = .ok (.putfield 47, 3) := by decide +kernel
theorem dX9_define_5 : decode cX9_define 5 = .ok (.iload_n 1, 1) := by decide +kernel
theorem dX9_define_6 : decode cX9_define 6 = .ok (.invokestatic 147, 3) := by decide +kernel
theorem dX9_define_9 : decode cX9_define 9 = .ok (.ifCond .ne 9, 3) := by decide +kernel
theorem dX9_define_12 : decode cX9_define 12 = .ok (.aload_n 0, 1) := by decide +kernel
theorem dX9_define_13 : decode cX9_define 13 = .ok (.iconst 1, 1) := by decide +kernel
theorem dX9_define_14 : decode cX9_define 14 = .ok (.invokevirtual 119, 3) := by decide +kernel
theorem dX9_define_17 : decode cX9_define 17 = .ok (.ireturn, 1) := by decide +kernel
theorem dX9_define_18 : decode cX9_define 18 = .ok (.aload_n 0, 1) := by decide +kernel
theorem dX9_define_19 : decode cX9_define 19 = .ok (.invokevirtual 150, 3) := by decide +kernel
theorem dX9_define_22 : decode cX9_define 22 = .ok (.ifCond .ne 9, 3) := by decide +kernel
theorem dX9_define_25 : decode cX9_define 25 = .ok (.aload_n 0, 1) := by decide +kernel
theorem dX9_define_26 : decode cX9_define 26 = .ok (.iconst 2, 1) := by decide +kernel
theorem dX9_define_27 : decode cX9_define 27 = .ok (.invokevirtual 119, 3) := by decide +kernel
theorem dX9_define_30 : decode cX9_define 30 = .ok (.ireturn, 1) := by decide +kernel
theorem dX9_define_31 : decode cX9_define 31 = .ok (.aload_n 0, 1) := by decide +kernel
theorem dX9_define_32 : decode cX9_define 32 = .ok (.invokevirtual 125, 3) := by decide +kernel
theorem dX9_define_35 : decode cX9_define 35 = .ok (.aload_n 0, 1) := by decide +kernel
theorem dX9_define_36 : decode cX9_define 36 = .ok (.iconst 0, 1) := by decide +kernel
theorem dX9_define_37 : decode cX9_define 37 = .ok (.putfield 154, 3) := by decide +kernel
theorem dX9_define_40 : decode cX9_define 40 = .ok (.aload_n 0, 1) := by decide +kernel
theorem dX9_define_41 : decode cX9_define 41 = .ok (.iload_n 1, 1) := by decide +kernel
theorem dX9_define_42 : decode cX9_define 42 = .ok (.invokevirtual 157, 3) := by decide +kernel
theorem dX9_define_45 : decode cX9_define 45 = .ok (.ireturn, 1) := by decide +kernel
theorem dX9_combine_0 : decode cX9_combine 0 = .ok (.aload_n 0, 1) := by decide +kernel
theorem dX9_combine_1 : decode cX9_combine 1 = .ok (.iconst 0, 1) := by decide +kernel
theorem dX9_combine_2 : decode cX9_combine 2 = .ok (.putfield 47, 3) := by decide +kernel
theorem dX9_combine_5 : decode cX9_combine 5 = .ok (.iload_n 1, 1) := by decide +kernel
theorem dX9_combine_6 : decode cX9_combine 6 = .ok (.invokestatic 147, 3) := by decide +kernel
theorem dX9_combine_9 : decode cX9_combine 9 = .ok (.ifCond .eq 17, 3) := by decide +kernel
theorem dX9_combine_12 : decode cX9_combine 12 = .ok (.iload_n 2, 1) := by decide +kernel
theorem dX9_combine_13 : decode cX9_combine 13 = .ok (.invokestatic 147, 3) := by decide +kernel
theorem dX9_combine_16 : decode cX9_combine 16 = .ok (.ifCond .eq 10, 3) := by decide +kernel
theorem dX9_combine_19 : decode cX9_combine 19 = .ok (.iload_n 3, 1) := by decide +kernel
theorem dX9_combine_20 : decode cX9_combine 20 = .ok (.invokestatic 147, 3) := by decide +kernel
theorem dX9_combine_23 : decode cX9_combine 23 = .ok (.ifCond .ne 9, 3) := by decide +kernel
theorem dX9_combine_26 : decode cX9_combine 26 = .ok (.aload_n 0, 1) := by decide +kernel
theorem dX9_combine_27 : decode cX9_combine 27 = .ok (.iconst 1, 1) := by decide +kernel
theorem dX9_combine_28 : decode cX9_combine 28 = .ok (.invokevirtual 119, 3) := by decide +kernel
theorem dX9_combine_31 : decode cX9_combine 31 = .ok (.ireturn, 1) := by decide +kernel
theorem dX9_combine_32 : decode cX9_combine 32 = .ok (.iload 4, 2) := by decide +kernel
theorem dX9_combine_34 : decode cX9_combine 34 = .ok (.iconst 0, 1) := by decide +kernel
theorem dX9_combine_35 : decode cX9_combine 35 = .ok (.iconst 2, 1) := by decide +kernel
theorem dX9_combine_36 : decode cX9_combine 36 = .ok (.invokestatic 62, 3) := by decide +kernel
theorem dX9_combine_39 : decode cX9_combine 39 = .ok (.ifCond .ne 9, 3) := by decide +kernel
theorem dX9_combine_42 : decode cX9_combine 42 = .ok (.aload_n 0, 1) := by decide +kernel
theorem dX9_combine_43 : decode cX9_combine 43 = .ok (.iconst 2, 1) := by decide +kernel
theorem dX9_combine_44 : decode cX9_combine 44 = .ok (.invokevirtual 119, 3) := by decide +kernel
theorem dX9_combine_47 : decode cX9_combine 47 = .ok (.ireturn, 1) := by decide +kernel
theorem dX9_combine_48 : decode cX9_combine 48 = .ok (.iconst 1, 1) := by decide +kernel
theorem dX9_combine_49 : decode cX9_combine 49 = .ok (.aload_n 0, 1) := by decide +kernel
theorem dX9_combine_50 : decode cX9_combine 50 = .ok (.iload_n 2, 1) := by decide +kernel
theorem dX9_combine_51 : decode cX9_combine 51 = .ok (.invokevirtual 92, 3) := by decide +kernel
theorem dX9_combine_54 : decode cX9_combine 54 = .ok (.iadd, 1) := by decide +kernel
theorem dX9_combine_55 : decode cX9_combine 55 = .ok (.iload 4, 2) := by decide +kernel
theorem dX9_combine_57 : decode cX9_combine 57 = .ok (.ifCond .ne 7, 3) := by decide +kernel
theorem dX9_combine_60 : decode cX9_combine 60 = .ok (.iconst 0, 1) := by decide +kernel
theorem dX9_combine_61 : decode cX9_combine 61 = .ok (.goto 8, 3) := by decide +kernel
theorem dX9_combine_64 : decode cX9_combine 64 = .ok (.aload_n 0, 1) := by decide +kernel
theorem dX9_combine_65 : decode cX9_combine 65 = .ok (.iload_n 3, 1) := by decide +kernel
theorem dX9_combine_66 : decode cX9_combine 66 = .ok (.invokevirtual 92, 3) := by decide +kernel
theorem dX9_combine_69 : decode cX9_combine 69 = .ok (.iadd, 1) := by decide +kernel
theorem dX9_combine_70 : decode cX9_combine 70 = .ok (.istore 5, 2) := by decide +kernel
theorem dX9_combine_72 : decode cX9_combine 72 = .ok (.aload_n 0, 1) := by decide +kernel
theorem dX9_combine_73 : decode cX9_combine 73 = .ok (.iload_n 2, 1) := by decide +kernel
theorem dX9_combine_74 : decode cX9_combine 74 = .ok (.invokevirtual 92, 3) := by decide +kernel
theorem dX9_combine_77 : decode cX9_combine 77 = .ok (.ifCond .eq 23, 3) := by decide +kernel
theorem dX9_combine_80 : decode cX9_combine 80 = .ok (.iload 4, 2) := by decide +kernel
theorem dX9_combine_82 : decode cX9_combine 82 = .ok (.ifCond .le 11, 3) := by decide +kernel
theorem dX9_combine_85 : decode cX9_combine 85 = .ok (.aload_n 0, 1) := by decide +kernel
theorem dX9_combine_86 : decode cX9_combine 86 = .ok (.iload_n 3, 1) := by decide +kernel
theorem dX9_combine_87 : decode cX9_combine 87 = .ok (.invokevirtual 92, 3) := by decide +kernel
theorem dX9_combine_90 : decode cX9_combine 90 = .ok (.ifCond .eq 10, 3) := by decide +kernel
theorem dX9_combine_93 : decode cX9_combine 93 = .ok (.iload 5, 2) := by decide +kernel
theorem dX9_combine_95 : decode cX9_combine 95 = .ok (.bipush 40, 2) := by decide +kernel
theorem dX9_combine_97 : decode cX9_combine 97 = .ok (.if_icmp .le 9, 3) := by decide +kernel
theorem dX9_combine_100 : decode cX9_combine 100 = .ok (.aload_n 0, 1) := by decide +kernel
theorem dX9_combine_101 : decode cX9_combine 101 = .ok (.iconst 3, 1) := by decide +kernel
theorem dX9_combine_102 : decode cX9_combine 102 = .ok (.invokevirtual 119, 3) := by decide +kernel
theorem dX9_combine_105 : decode cX9_combine 105 = .ok (.ireturn, 1) := by decide +kernel
theorem dX9_combine_106 : decode cX9_combine 106 = .ok (.aload_n 0, 1) := by decide +kernel
theorem dX9_combine_107 : decode cX9_combine 107 = .ok (.invokevirtual 125, 3) := by decide +kernel
theorem dX9_combine_110 : decode cX9_combine 110 = .ok (.aload_n 0, 1) := by decide +kernel
theorem dX9_combine_111 : decode cX9_combine 111 = .ok (.iconst 0, 1) := by decide +kernel
theorem dX9_combine_112 : decode cX9_combine 112 = .ok (.putfield 141, 3) := by decide +kernel
theorem dX9_combine_115 : decode cX9_combine 115 = .ok (.aload_n 0, 1) := by decide +kernel
theorem dX9_combine_116 : decode cX9_combine 116 = .ok (.iload_n 2, 1) := by decide +kernel
theorem dX9_combine_117 : decode cX9_combine 117 = .ok (.invokevirtual 160, 3) := by decide +kernel
theorem dX9_combine_120 : decode cX9_combine 120 = .ok (.iload 4, 2) := by decide +kernel
theorem dX9_combine_122 : decode cX9_combine 122 = .ok (.ifCond .le 8, 3) := by decide +kernel
theorem dX9_combine_125 : decode cX9_combine 125 = .ok (.aload_n 0, 1) := by decide +kernel
theorem dX9_combine_126 : decode cX9_combine 126 = .ok (.iload_n 3, 1) := by decide +kernel
theorem dX9_combine_127 : decode cX9_combine 127 = .ok (.invokevirtual 160, 3) := by decide +kernel
theorem dX9_combine_130 : decode cX9_combine 130 = .ok (.aload_n 0, 1) := by decide +kernel
theorem dX9_combine_131 : decode cX9_combine 131 = .ok (.iload 4, 2) := by decide +kernel
theorem dX9_combine_133 : decode cX9_combine 133 = .ok (.ifCond .ne 7, 3) := by decide +kernel
theorem dX9_combine_136 : decode cX9_combine 136 = .ok (.iconst 0, 1) := by decide +kernel
theorem dX9_combine_137 : decode cX9_combine 137 = .ok (.goto 14, 3) := by decide +kernel
theorem dX9_combine_140 : decode cX9_combine 140 = .ok (.iload 4, 2) := by decide +kernel
theorem dX9_combine_142 : decode cX9_combine 142 = .ok (.iconst 1, 1) := by decide +kernel
theorem dX9_combine_143 : decode cX9_combine 143 = .ok (.if_icmp .ne 7, 3) := by decide +kernel
theorem dX9_combine_146 : decode cX9_combine 146 = .ok (.iconst 1, 1) := by decide +kernel
theorem dX9_combine_147 : decode cX9_combine 147 = .ok (.goto 4, 3) := by decide +kernel
theorem dX9_combine_150 : decode cX9_combine 150 = .ok (.iconst 2, 1) := by decide +kernel
theorem dX9_combine_151 : decode cX9_combine 151 = .ok (.invokevirtual 144, 3) := by decide +kernel
theorem dX9_combine_154 : decode cX9_combine 154 = .ok (.aload_n 0, 1) := by decide +kernel
theorem dX9_combine_155 : decode cX9_combine 155 = .ok (.iload_n 1, 1) := by decide +kernel
theorem dX9_combine_156 : decode cX9_combine 156 = .ok (.invokevirtual 157, 3) := by decide +kernel
theorem dX9_combine_159 : decode cX9_combine 159 = .ok (.ireturn, 1) := by decide +kernel
theorem dX9_check_0 : decode cX9_check 0 = .ok (.aload_n 0, 1) := by decide +kernel
theorem dX9_check_1 : decode cX9_check 1 = .ok (.iconst 0, 1) := by decide +kernel
theorem dX9_check_2 : decode cX9_check 2 = .ok (.putfield 47, 3) := by decide +kernel
theorem dX9_check_5 : decode cX9_check 5 = .ok (.iload_n 1, 1) := by decide +kernel
theorem dX9_check_6 : decode cX9_check 6 = .ok (.invokestatic 66, 3) := by decide +kernel
theorem dX9_check_9 : decode cX9_check 9 = .ok (.ifCond .eq 16, 3) := by decide +kernel
theorem dX9_check_12 : decode cX9_check 12 = .ok (.iload_n 2, 1) := by decide +kernel
theorem dX9_check_13 : decode cX9_check 13 = .ok (.bipush (-2), 2) := by decide +kernel
theorem dX9_check_15 : decode cX9_check 15 = .ok (.if_icmp .eq 16, 3) := by decide +kernel
theorem dX9_check_18 : decode cX9_check 18 = .ok (.iload_n 2, 1) := by decide +kernel
theorem dX9_check_19 : decode cX9_check 19 = .ok (.invokestatic 147, 3) := by decide +kernel
theorem dX9_check_22 : decode cX9_check 22 = .ok (.ifCond .ne 9, 3) := by decide +kernel
theorem dX9_check_25 : decode cX9_check 25 = .ok (.aload_n 0, 1) := by decide +kernel
theorem dX9_check_26 : decode cX9_check 26 = .ok (.iconst 1, 1) := by decide +kernel
theorem dX9_check_27 : decode cX9_check 27 = .ok (.invokevirtual 119, 3) := by decide +kernel
theorem dX9_check_30 : decode cX9_check 30 = .ok (.ireturn, 1) := by decide +kernel
theorem dX9_check_31 : decode cX9_check 31 = .ok (.iload_n 2, 1) := by decide +kernel
theorem dX9_check_32 : decode cX9_check 32 = .ok (.bipush (-2), 2) := by decide +kernel
theorem dX9_check_34 : decode cX9_check 34 = .ok (.if_icmp .eq 17, 3) := by decide +kernel
theorem dX9_check_37 : decode cX9_check 37 = .ok (.aload_n 0, 1) := by decide +kernel
theorem dX9_check_38 : decode cX9_check 38 = .ok (.iload_n 2, 1) := by decide +kernel
theorem dX9_check_39 : decode cX9_check 39 = .ok (.invokevirtual 92, 3) := by decide +kernel
theorem dX9_check_42 : decode cX9_check 42 = .ok (.ifCond .ne 9, 3) := by decide +kernel
theorem dX9_check_45 : decode cX9_check 45 = .ok (.aload_n 0, 1) := by decide +kernel
theorem dX9_check_46 : decode cX9_check 46 = .ok (.iconst 2, 1) := by decide +kernel
theorem dX9_check_47 : decode cX9_check 47 = .ok (.invokevirtual 119, 3) := by decide +kernel
theorem dX9_check_50 : decode cX9_check 50 = .ok (.ireturn, 1) := by decide +kernel
theorem dX9_check_51 : decode cX9_check 51 = .ok (.aload_n 0, 1) := by decide +kernel
theorem dX9_check_52 : decode cX9_check 52 = .ok (.invokevirtual 125, 3) := by decide +kernel
theorem dX9_check_55 : decode cX9_check 55 = .ok (.iload_n 2, 1) := by decide +kernel
theorem dX9_check_56 : decode cX9_check 56 = .ok (.bipush (-2), 2) := by decide +kernel
theorem dX9_check_58 : decode cX9_check 58 = .ok (.if_icmp .ne 22, 3) := by decide +kernel
theorem dX9_check_61 : decode cX9_check 61 = .ok (.aload_n 0, 1) := by decide +kernel
theorem dX9_check_62 : decode cX9_check 62 = .ok (.getfield 7, 3) := by decide +kernel
theorem dX9_check_65 : decode cX9_check 65 = .ok (.sipush 130, 3) := by decide +kernel
theorem dX9_check_68 : decode cX9_check 68 = .ok (.bipush 61, 2) := by decide +kernel
theorem dX9_check_70 : decode cX9_check 70 = .ok (.bipush 6, 2) := by decide +kernel
theorem dX9_check_72 : decode cX9_check 72 = .ok (.iload_n 1, 1) := by decide +kernel
theorem dX9_check_73 : decode cX9_check 73 = .ok (.iadd, 1) := by decide +kernel
theorem dX9_check_74 : decode cX9_check 74 = .ok (.imul, 1) := by decide +kernel
theorem dX9_check_75 : decode cX9_check 75 = .ok (.iadd, 1) := by decide +kernel
theorem dX9_check_76 : decode cX9_check 76 = .ok (.iconst 0, 1) := by decide +kernel
theorem dX9_check_77 : decode cX9_check 77 = .ok (.iastore, 1) := by decide +kernel
theorem dX9_check_78 : decode cX9_check 78 = .ok (.iconst 0, 1) := by decide +kernel
theorem dX9_check_79 : decode cX9_check 79 = .ok (.ireturn, 1) := by decide +kernel
theorem dX9_check_80 : decode cX9_check 80 = .ok (.aload_n 0, 1) := by decide +kernel
theorem dX9_check_81 : decode cX9_check 81 = .ok (.iload_n 1, 1) := by decide +kernel
theorem dX9_check_82 : decode cX9_check 82 = .ok (.iload_n 2, 1) := by decide +kernel
theorem dX9_check_83 : decode cX9_check 83 = .ok (.iconst 0, 1) := by decide +kernel
theorem dX9_check_84 : decode cX9_check 84 = .ok (.invokevirtual 163, 3) := by decide +kernel
theorem dX9_check_87 : decode cX9_check 87 = .ok (.invokestatic 166, 3) := by decide +kernel
theorem dX9_check_90 : decode cX9_check 90 = .ok (.istore_n 3, 1) := by decide +kernel
theorem dX9_check_91 : decode cX9_check 91 = .ok (.iload_n 3, 1) := by decide +kernel
theorem dX9_check_92 : decode cX9_check 92 = .ok (.ifCond .le 18, 3) := by decide +kernel
theorem dX9_check_95 : decode cX9_check 95 = .ok (.aload_n 0, 1) := by decide +kernel
theorem dX9_check_96 : decode cX9_check 96 = .ok (.getfield 7, 3) := by decide +kernel
theorem dX9_check_99 : decode cX9_check 99 = .ok (.sipush 618, 3) := by decide +kernel
theorem dX9_check_102 : decode cX9_check 102 = .ok (.dup2, 1) := by decide +kernel
theorem dX9_check_103 : decode cX9_check 103 = .ok (.iaload, 1) := by decide +kernel
theorem dX9_check_104 : decode cX9_check 104 = .ok (.iconst 1, 1) := by decide +kernel
theorem dX9_check_105 : decode cX9_check 105 = .ok (.iadd, 1) := by decide +kernel
theorem dX9_check_106 : decode cX9_check 106 = .ok (.iastore, 1) := by decide +kernel
theorem dX9_check_107 : decode cX9_check 107 = .ok (.goto 12, 3) := by decide +kernel
theorem dX9_check_110 : decode cX9_check 110 = .ok (.aload_n 0, 1) := by decide +kernel
theorem dX9_check_111 : decode cX9_check 111 = .ok (.iload_n 2, 1) := by decide +kernel
theorem dX9_check_112 : decode cX9_check 112 = .ok (.bipush 6, 2) := by decide +kernel
theorem dX9_check_114 : decode cX9_check 114 = .ok (.iload_n 1, 1) := by decide +kernel
theorem dX9_check_115 : decode cX9_check 115 = .ok (.iadd, 1) := by decide +kernel
theorem dX9_check_116 : decode cX9_check 116 = .ok (.invokevirtual 169, 3) := by decide +kernel
theorem dX9_check_119 : decode cX9_check 119 = .ok (.iload_n 3, 1) := by decide +kernel
theorem dX9_check_120 : decode cX9_check 120 = .ok (.ireturn, 1) := by decide +kernel
theorem dX9_remove_0 : decode cX9_remove 0 = .ok (.aload_n 0, 1) := by decide +kernel
theorem dX9_remove_1 : decode cX9_remove 1 = .ok (.iconst 0, 1) := by decide +kernel
theorem dX9_remove_2 : decode cX9_remove 2 = .ok (.putfield 47, 3) := by decide +kernel
theorem dX9_remove_5 : decode cX9_remove 5 = .ok (.iload_n 1, 1) := by decide +kernel
theorem dX9_remove_6 : decode cX9_remove 6 = .ok (.invokestatic 66, 3) := by decide +kernel
theorem dX9_remove_9 : decode cX9_remove 9 = .ok (.ifCond .eq 10, 3) := by decide +kernel
theorem dX9_remove_12 : decode cX9_remove 12 = .ok (.iload_n 2, 1) := by decide +kernel
theorem dX9_remove_13 : decode cX9_remove 13 = .ok (.invokestatic 147, 3) := by decide +kernel
theorem dX9_remove_16 : decode cX9_remove 16 = .ok (.ifCond .ne 9, 3) := by decide +kernel
theorem dX9_remove_19 : decode cX9_remove 19 = .ok (.aload_n 0, 1) := by decide +kernel
theorem dX9_remove_20 : decode cX9_remove 20 = .ok (.iconst 1, 1) := by decide +kernel
theorem dX9_remove_21 : decode cX9_remove 21 = .ok (.invokevirtual 119, 3) := by decide +kernel
theorem dX9_remove_24 : decode cX9_remove 24 = .ok (.ireturn, 1) := by decide +kernel
theorem dX9_remove_25 : decode cX9_remove 25 = .ok (.aload_n 0, 1) := by decide +kernel
theorem dX9_remove_26 : decode cX9_remove 26 = .ok (.iload_n 2, 1) := by decide +kernel
theorem dX9_remove_27 : decode cX9_remove 27 = .ok (.invokevirtual 92, 3) := by decide +kernel
theorem dX9_remove_30 : decode cX9_remove 30 = .ok (.ifCond .ne 9, 3) := by decide +kernel
theorem dX9_remove_33 : decode cX9_remove 33 = .ok (.aload_n 0, 1) := by decide +kernel
theorem dX9_remove_34 : decode cX9_remove 34 = .ok (.iconst 2, 1) := by decide +kernel
theorem dX9_remove_35 : decode cX9_remove 35 = .ok (.invokevirtual 119, 3) := by decide +kernel
theorem dX9_remove_38 : decode cX9_remove 38 = .ok (.ireturn, 1) := by decide +kernel
theorem dX9_remove_39 : decode cX9_remove 39 = .ok (.aload_n 0, 1) := by decide +kernel
theorem dX9_remove_40 : decode cX9_remove 40 = .ok (.invokevirtual 125, 3) := by decide +kernel
theorem dX9_remove_43 : decode cX9_remove 43 = .ok (.aload_n 0, 1) := by decide +kernel
theorem dX9_remove_44 : decode cX9_remove 44 = .ok (.iload_n 1, 1) := by decide +kernel
theorem dX9_remove_45 : decode cX9_remove 45 = .ok (.iload_n 2, 1) := by decide +kernel
theorem dX9_remove_46 : decode cX9_remove 46 = .ok (.iconst 2, 1) := by decide +kernel
theorem dX9_remove_47 : decode cX9_remove 47 = .ok (.invokevirtual 163, 3) := by decide +kernel
theorem dX9_remove_50 : decode cX9_remove 50 = .ok (.istore_n 3, 1) := by decide +kernel
theorem dX9_remove_51 : decode cX9_remove 51 = .ok (.bipush 15, 2) := by decide +kernel
theorem dX9_remove_53 : decode cX9_remove 53 = .ok (.istore 4, 2) := by decide +kernel
theorem dX9_remove_55 : decode cX9_remove 55 = .ok (.iload 4, 2) := by decide +kernel
theorem dX9_remove_57 : decode cX9_remove 57 = .ok (.ifCond .lt 26, 3) := by decide +kernel
theorem dX9_remove_60 : decode cX9_remove 60 = .ok (.iload_n 3, 1) := by decide +kernel
theorem dX9_remove_61 : decode cX9_remove 61 = .ok (.iload 4, 2) := by decide +kernel
theorem dX9_remove_63 : decode cX9_remove 63 = .ok (.ishr, 1) := by decide +kernel
theorem dX9_remove_64 : decode cX9_remove 64 = .ok (.iconst 1, 1) := by decide +kernel
theorem dX9_remove_65 : decode cX9_remove 65 = .ok (.iand, 1) := by decide +kernel
theorem dX9_remove_66 : decode cX9_remove 66 = .ok (.iconst 1, 1) := by decide +kernel
theorem dX9_remove_67 : decode cX9_remove 67 = .ok (.if_icmp .ne 10, 3) := by decide +kernel
theorem dX9_remove_70 : decode cX9_remove 70 = .ok (.aload_n 0, 1) := by decide +kernel
theorem dX9_remove_71 : decode cX9_remove 71 = .ok (.iload_n 1, 1) := by decide +kernel
theorem dX9_remove_72 : decode cX9_remove 72 = .ok (.iload 4, 2) := by decide +kernel
theorem dX9_remove_74 : decode cX9_remove 74 = .ok (.invokevirtual 138, 3) := by decide +kernel
theorem dX9_remove_77 : decode cX9_remove 77 = .ok (.iinc 4 (-1), 3) := by decide +kernel
theorem dX9_remove_80 : decode cX9_remove 80 = .ok (.goto (-25), 3) := by decide +kernel
theorem dX9_remove_83 : decode cX9_remove 83 = .ok (.iload_n 3, 1) := by decide +kernel
theorem dX9_remove_84 : decode cX9_remove 84 = .ok (.invokestatic 166, 3) := by decide +kernel
theorem dX9_remove_87 : decode cX9_remove 87 = .ok (.ireturn, 1) := by decide +kernel
theorem dX9_wouldViolate_0 : decode cX9_wouldViolate 0 = .ok (.aload_n 0, 1) := by decide +kernel
theorem dX9_wouldViolate_1 : decode cX9_wouldViolate 1 = .ok (.bipush 6, 2) := by decide +kernel
theorem dX9_wouldViolate_3 : decode cX9_wouldViolate 3 = .ok (.iload_n 1, 1) := by decide +kernel
theorem dX9_wouldViolate_4 : decode cX9_wouldViolate 4 = .ok (.iadd, 1) := by decide +kernel
theorem dX9_wouldViolate_5 : decode cX9_wouldViolate 5 = .ok (.invokevirtual 92, 3) := by decide +kernel
theorem dX9_wouldViolate_8 : decode cX9_wouldViolate 8 = .ok (.ifCond .ne 5, 3) := by decide +kernel
theorem dX9_wouldViolate_11 : decode cX9_wouldViolate 11 = .ok (.iconst 0, 1) := by decide +kernel
theorem dX9_wouldViolate_12 : decode cX9_wouldViolate 12 = .ok (.ireturn, 1) := by decide +kernel
theorem dX9_wouldViolate_13 : decode cX9_wouldViolate 13 = .ok (.aload_n 0, 1) := by decide +kernel
theorem dX9_wouldViolate_14 : decode cX9_wouldViolate 14 = .ok (.iload_n 1, 1) := by decide +kernel
theorem dX9_wouldViolate_15 : decode cX9_wouldViolate 15 = .ok (.iload_n 2, 1) := by decide +kernel
theorem dX9_wouldViolate_16 : decode cX9_wouldViolate 16 = .ok (.invokevirtual 109, 3) := by decide +kernel
theorem dX9_wouldViolate_19 : decode cX9_wouldViolate 19 = .ok (.aload_n 0, 1) := by decide +kernel
theorem dX9_wouldViolate_20 : decode cX9_wouldViolate 20 = .ok (.getfield 26, 3) := by decide +kernel
theorem dX9_wouldViolate_23 : decode cX9_wouldViolate 23 = .ok (.iload_n 3, 1) := by decide +kernel
theorem dX9_wouldViolate_24 : decode cX9_wouldViolate 24 = .ok (.iload 4, 2) := by decide +kernel
theorem dX9_wouldViolate_26 : decode cX9_wouldViolate 26 = .ok (.iastore, 1) := by decide +kernel
theorem dX9_wouldViolate_27 : decode cX9_wouldViolate 27 = .ok (.aload_n 0, 1) := by decide +kernel
theorem dX9_wouldViolate_28 : decode cX9_wouldViolate 28 = .ok (.getfield 29, 3) := by decide +kernel
theorem dX9_wouldViolate_31 : decode cX9_wouldViolate 31 = .ok (.iload_n 3, 1) := by decide +kernel
theorem dX9_wouldViolate_32 : decode cX9_wouldViolate 32 = .ok (.iload 4, 2) := by decide +kernel
theorem dX9_wouldViolate_34 : decode cX9_wouldViolate 34 = .ok (.iastore, 1) := by decide +kernel
theorem dX9_wouldViolate_35 : decode cX9_wouldViolate 35 = .ok (.aload_n 0, 1) := by decide +kernel
theorem dX9_wouldViolate_36 : decode cX9_wouldViolate 36 = .ok (.bipush 6, 2) := by decide +kernel
theorem dX9_wouldViolate_38 : decode cX9_wouldViolate 38 = .ok (.iload_n 1, 1) := by decide +kernel
theorem dX9_wouldViolate_39 : decode cX9_wouldViolate 39 = .ok (.iadd, 1) := by decide +kernel
theorem dX9_wouldViolate_40 : decode cX9_wouldViolate 40 = .ok (.invokevirtual 113, 3) := by decide +kernel
theorem dX9_wouldViolate_43 : decode cX9_wouldViolate 43 = .ok (.ifCond .ne 7, 3) := by decide +kernel
theorem dX9_wouldViolate_46 : decode cX9_wouldViolate 46 = .ok (.iconst 1, 1) := by decide +kernel
theorem dX9_wouldViolate_47 : decode cX9_wouldViolate 47 = .ok (.goto 4, 3) := by decide +kernel
theorem dX9_wouldViolate_50 : decode cX9_wouldViolate 50 = .ok (.iconst 0, 1) := by decide +kernel
theorem dX9_wouldViolate_51 : decode cX9_wouldViolate 51 = .ok (.ireturn, 1) := by decide +kernel
theorem dX9_update_0 : decode cX9_update 0 = .ok (.aload_n 0, 1) := by decide +kernel
theorem dX9_update_1 : decode cX9_update 1 = .ok (.iconst 0, 1) := by decide +kernel
theorem dX9_update_2 : decode cX9_update 2 = .ok (.putfield 47, 3) := by decide +kernel
theorem dX9_update_5 : decode cX9_update 5 = .ok (.iload_n 1, 1) := by decide +kernel
theorem dX9_update_6 : decode cX9_update 6 = .ok (.invokestatic 66, 3) := by decide +kernel
theorem dX9_update_9 : decode cX9_update 9 = .ok (.ifCond .eq 17, 3) := by decide +kernel
theorem dX9_update_12 : decode cX9_update 12 = .ok (.iload_n 2, 1) := by decide +kernel
theorem dX9_update_13 : decode cX9_update 13 = .ok (.invokestatic 147, 3) := by decide +kernel
theorem dX9_update_16 : decode cX9_update 16 = .ok (.ifCond .eq 10, 3) := by decide +kernel
theorem dX9_update_19 : decode cX9_update 19 = .ok (.iload_n 3, 1) := by decide +kernel
theorem dX9_update_20 : decode cX9_update 20 = .ok (.invokestatic 135, 3) := by decide +kernel
theorem dX9_update_23 : decode cX9_update 23 = .ok (.ifCond .ne 9, 3) := by decide +kernel
theorem dX9_update_26 : decode cX9_update 26 = .ok (.aload_n 0, 1) := by decide +kernel
theorem dX9_update_27 : decode cX9_update 27 = .ok (.iconst 1, 1) := by decide +kernel
theorem dX9_update_28 : decode cX9_update 28 = .ok (.invokevirtual 119, 3) := by decide +kernel
theorem dX9_update_31 : decode cX9_update 31 = .ok (.ireturn, 1) := by decide +kernel
theorem dX9_update_32 : decode cX9_update 32 = .ok (.iload 4, 2) := by decide +kernel
theorem dX9_update_34 : decode cX9_update 34 = .ok (.invokestatic 122, 3) := by decide +kernel
theorem dX9_update_37 : decode cX9_update 37 = .ok (.ifCond .ne 9, 3) := by decide +kernel
theorem dX9_update_40 : decode cX9_update 40 = .ok (.aload_n 0, 1) := by decide +kernel
theorem dX9_update_41 : decode cX9_update 41 = .ok (.iconst 2, 1) := by decide +kernel
theorem dX9_update_42 : decode cX9_update 42 = .ok (.invokevirtual 119, 3) := by decide +kernel
theorem dX9_update_45 : decode cX9_update 45 = .ok (.ireturn, 1) := by decide +kernel
theorem dX9_update_46 : decode cX9_update 46 = .ok (.aload_n 0, 1) := by decide +kernel
theorem dX9_update_47 : decode cX9_update 47 = .ok (.iload_n 2, 1) := by decide +kernel
theorem dX9_update_48 : decode cX9_update 48 = .ok (.invokevirtual 92, 3) := by decide +kernel
theorem dX9_update_51 : decode cX9_update 51 = .ok (.ifCond .ne 9, 3) := by decide +kernel
theorem dX9_update_54 : decode cX9_update 54 = .ok (.aload_n 0, 1) := by decide +kernel
theorem dX9_update_55 : decode cX9_update 55 = .ok (.iconst 3, 1) := by decide +kernel
theorem dX9_update_56 : decode cX9_update 56 = .ok (.invokevirtual 119, 3) := by decide +kernel
theorem dX9_update_59 : decode cX9_update 59 = .ok (.ireturn, 1) := by decide +kernel
theorem dX9_update_60 : decode cX9_update 60 = .ok (.aload_n 0, 1) := by decide +kernel
theorem dX9_update_61 : decode cX9_update 61 = .ok (.invokevirtual 125, 3) := by decide +kernel
theorem dX9_update_64 : decode cX9_update 64 = .ok (.aload_n 0, 1) := by decide +kernel
theorem dX9_update_65 : decode cX9_update 65 = .ok (.iload_n 1, 1) := by decide +kernel
theorem dX9_update_66 : decode cX9_update 66 = .ok (.iload_n 2, 1) := by decide +kernel
theorem dX9_update_67 : decode cX9_update 67 = .ok (.iconst 2, 1) := by decide +kernel
theorem dX9_update_68 : decode cX9_update 68 = .ok (.invokevirtual 163, 3) := by decide +kernel
theorem dX9_update_71 : decode cX9_update 71 = .ok (.istore 5, 2) := by decide +kernel
theorem dX9_update_73 : decode cX9_update 73 = .ok (.iconst 0, 1) := by decide +kernel
theorem dX9_update_74 : decode cX9_update 74 = .ok (.istore 6, 2) := by decide +kernel
theorem dX9_update_76 : decode cX9_update 76 = .ok (.iconst 0, 1) := by decide +kernel
theorem dX9_update_77 : decode cX9_update 77 = .ok (.istore 7, 2) := by decide +kernel
theorem dX9_update_79 : decode cX9_update 79 = .ok (.iload 7, 2) := by decide +kernel
theorem dX9_update_81 : decode cX9_update 81 = .ok (.aload_n 0, 1) := by decide +kernel
theorem dX9_update_82 : decode cX9_update 82 = .ok (.iload_n 1, 1) := by decide +kernel
theorem dX9_update_83 : decode cX9_update 83 = .ok (.invokevirtual 70, 3) := by decide +kernel
theorem dX9_update_86 : decode cX9_update 86 = .ok (.if_icmp .ge 45, 3) := by decide +kernel
theorem dX9_update_89 : decode cX9_update 89 = .ok (.iload 6, 2) := by decide +kernel
theorem dX9_update_91 : decode cX9_update 91 = .ok (.ifCond .ne 27, 3) := by decide +kernel
theorem dX9_update_94 : decode cX9_update 94 = .ok (.iload 5, 2) := by decide +kernel
theorem dX9_update_96 : decode cX9_update 96 = .ok (.iload 7, 2) := by decide +kernel
theorem dX9_update_98 : decode cX9_update 98 = .ok (.ishr, 1) := by decide +kernel
theorem dX9_update_99 : decode cX9_update 99 = .ok (.iconst 1, 1) := by decide +kernel
theorem dX9_update_100 : decode cX9_update 100 = .ok (.iand, 1) := by decide +kernel
theorem dX9_update_101 : decode cX9_update 101 = .ok (.iconst 1, 1) := by decide +kernel
theorem dX9_update_102 : decode cX9_update 102 = .ok (.if_icmp .ne 20, 3) := by decide +kernel
theorem dX9_update_105 : decode cX9_update 105 = .ok (.aload_n 0, 1) := by decide +kernel
theorem dX9_update_106 : decode cX9_update 106 = .ok (.iload_n 1, 1) := by decide +kernel
theorem dX9_update_107 : decode cX9_update 107 = .ok (.iload 7, 2) := by decide +kernel
theorem dX9_update_109 : decode cX9_update 109 = .ok (.iload_n 3, 1) := by decide +kernel
theorem dX9_update_110 : decode cX9_update 110 = .ok (.iload 4, 2) := by decide +kernel
theorem dX9_update_112 : decode cX9_update 112 = .ok (.invokevirtual 172, 3) := by decide +kernel
theorem dX9_update_115 : decode cX9_update 115 = .ok (.ifCond .eq 7, 3) := by decide +kernel
theorem dX9_update_118 : decode cX9_update 118 = .ok (.iconst 1, 1) := by decide +kernel
theorem dX9_update_119 : decode cX9_update 119 = .ok (.goto 4, 3) := by decide +kernel
theorem dX9_update_122 : decode cX9_update 122 = .ok (.iconst 0, 1) := by decide +kernel
theorem dX9_update_123 : decode cX9_update 123 = .ok (.istore 6, 2) := by decide +kernel
theorem dX9_update_125 : decode cX9_update 125 = .ok (.iinc 7 1, 3) := by decide +kernel
theorem dX9_update_128 : decode cX9_update 128 = .ok (.goto (-49), 3) := by decide +kernel
theorem dX9_update_131 : decode cX9_update 131 = .ok (.iload 6, 2) := by decide +kernel
theorem dX9_update_133 : decode cX9_update 133 = .ok (.ifCond .eq 18, 3) := by decide +kernel
theorem dX9_update_136 : decode cX9_update 136 = .ok (.aload_n 0, 1) := by decide +kernel
theorem dX9_update_137 : decode cX9_update 137 = .ok (.getfield 7, 3) := by decide +kernel
theorem dX9_update_140 : decode cX9_update 140 = .ok (.sipush 618, 3) := by decide +kernel
theorem dX9_update_143 : decode cX9_update 143 = .ok (.dup2, 1) := by decide +kernel
theorem dX9_update_144 : decode cX9_update 144 = .ok (.iaload, 1) := by decide +kernel
theorem dX9_update_145 : decode cX9_update 145 = .ok (.iconst 1, 1) := by decide +kernel
theorem dX9_update_146 : decode cX9_update 146 = .ok (.iadd, 1) := by decide +kernel
theorem dX9_update_147 : decode cX9_update 147 = .ok (.iastore, 1) := by decide +kernel
theorem dX9_update_148 : decode cX9_update 148 = .ok (.bipush (-2), 2) := by decide +kernel
theorem dX9_update_150 : decode cX9_update 150 = .ok (.ireturn, 1) := by decide +kernel
theorem dX9_update_151 : decode cX9_update 151 = .ok (.iconst 0, 1) := by decide +kernel
theorem dX9_update_152 : decode cX9_update 152 = .ok (.istore 7, 2) := by decide +kernel
theorem dX9_update_154 : decode cX9_update 154 = .ok (.iload 7, 2) := by decide +kernel
theorem dX9_update_156 : decode cX9_update 156 = .ok (.aload_n 0, 1) := by decide +kernel
theorem dX9_update_157 : decode cX9_update 157 = .ok (.iload_n 1, 1) := by decide +kernel
theorem dX9_update_158 : decode cX9_update 158 = .ok (.invokevirtual 70, 3) := by decide +kernel
theorem dX9_update_161 : decode cX9_update 161 = .ok (.if_icmp .ge 45, 3) := by decide +kernel
theorem dX9_update_164 : decode cX9_update 164 = .ok (.aload_n 0, 1) := by decide +kernel
theorem dX9_update_165 : decode cX9_update 165 = .ok (.getfield 7, 3) := by decide +kernel
theorem dX9_update_168 : decode cX9_update 168 = .ok (.iload_n 1, 1) := by decide +kernel
theorem dX9_update_169 : decode cX9_update 169 = .ok (.iload 7, 2) := by decide +kernel
theorem dX9_update_171 : decode cX9_update 171 = .ok (.iload_n 3, 1) := by decide +kernel
theorem dX9_update_172 : decode cX9_update 172 = .ok (.invokestatic 58, 3) := by decide +kernel
theorem dX9_update_175 : decode cX9_update 175 = .ok (.iload 5, 2) := by decide +kernel
theorem dX9_update_177 : decode cX9_update 177 = .ok (.iload 7, 2) := by decide +kernel
theorem dX9_update_179 : decode cX9_update 179 = .ok (.ishr, 1) := by decide +kernel
theorem dX9_update_180 : decode cX9_update 180 = .ok (.iconst 1, 1) := by decide +kernel
theorem dX9_update_181 : decode cX9_update 181 = .ok (.iand, 1) := by decide +kernel
theorem dX9_update_182 : decode cX9_update 182 = .ok (.iconst 1, 1) := by decide +kernel
theorem dX9_update_183 : decode cX9_update 183 = .ok (.if_icmp .ne 8, 3) := by decide +kernel
theorem dX9_update_186 : decode cX9_update 186 = .ok (.iload 4, 2) := by decide +kernel
theorem dX9_update_188 : decode cX9_update 188 = .ok (.goto 11, 3) := by decide +kernel
theorem dX9_update_191 : decode cX9_update 191 = .ok (.aload_n 0, 1) := by decide +kernel
theorem dX9_update_192 : decode cX9_update 192 = .ok (.iload_n 1, 1) := by decide +kernel
theorem dX9_update_193 : decode cX9_update 193 = .ok (.iload 7, 2) := by decide +kernel
theorem dX9_update_195 : decode cX9_update 195 = .ok (.iload_n 3, 1) := by decide +kernel
theorem dX9_update_196 : decode cX9_update 196 = .ok (.invokevirtual 74, 3) := by decide +kernel
theorem dX9_update_199 : decode cX9_update 199 = .ok (.iastore, 1) := by decide +kernel
theorem dX9_update_200 : decode cX9_update 200 = .ok (.iinc 7 1, 3) := by decide +kernel
theorem dX9_update_203 : decode cX9_update 203 = .ok (.goto (-49), 3) := by decide +kernel
theorem dX9_update_206 : decode cX9_update 206 = .ok (.iload 5, 2) := by decide +kernel
theorem dX9_update_208 : decode cX9_update 208 = .ok (.invokestatic 166, 3) := by decide +kernel
theorem dX9_update_211 : decode cX9_update 211 = .ok (.ireturn, 1) := by decide +kernel
theorem dX9_append_0 : decode cX9_append 0 = .ok (.aload_n 0, 1) := by decide +kernel
theorem dX9_append_1 : decode cX9_append 1 = .ok (.iconst 0, 1) := by decide +kernel
theorem dX9_append_2 : decode cX9_append 2 = .ok (.putfield 47, 3) := by decide +kernel
theorem dX9_append_5 : decode cX9_append 5 = .ok (.iload_n 1, 1) := by decide +kernel
theorem dX9_append_6 : decode cX9_append 6 = .ok (.bipush 33, 2) := by decide +kernel
theorem dX9_append_8 : decode cX9_append 8 = .ok (.bipush 126, 2) := by decide +kernel
theorem dX9_append_10 : decode cX9_append 10 = .ok (.invokestatic 62, 3) := by decide +kernel
theorem dX9_append_13 : decode cX9_append 13 = .ok (.ifCond .ne 9, 3) := by decide +kernel
theorem dX9_append_16 : decode cX9_append 16 = .ok (.aload_n 0, 1) := by decide +kernel
theorem dX9_append_17 : decode cX9_append 17 = .ok (.iconst 1, 1) := by decide +kernel
theorem dX9_append_18 : decode cX9_append 18 = .ok (.invokevirtual 119, 3) := by decide +kernel
theorem dX9_append_21 : decode cX9_append 21 = .ok (.ireturn, 1) := by decide +kernel
theorem dX9_append_22 : decode cX9_append 22 = .ok (.aload_n 0, 1) := by decide +kernel
theorem dX9_append_23 : decode cX9_append 23 = .ok (.getfield 154, 3) := by decide +kernel
theorem dX9_append_26 : decode cX9_append 26 = .ok (.bipush 60, 2) := by decide +kernel
theorem dX9_append_28 : decode cX9_append 28 = .ok (.if_icmp .ne 9, 3) := by decide +kernel
theorem dX9_append_31 : decode cX9_append 31 = .ok (.aload_n 0, 1) := by decide +kernel
theorem dX9_append_32 : decode cX9_append 32 = .ok (.iconst 2, 1) := by decide +kernel
theorem dX9_append_33 : decode cX9_append 33 = .ok (.invokevirtual 119, 3) := by decide +kernel
theorem dX9_append_36 : decode cX9_append 36 = .ok (.ireturn, 1) := by decide +kernel
theorem dX9_append_37 : decode cX9_append 37 = .ok (.aload_n 0, 1) := by decide +kernel
theorem dX9_append_38 : decode cX9_append 38 = .ok (.getfield 23, 3) := by decide +kernel
theorem dX9_append_41 : decode cX9_append 41 = .ok (.aload_n 0, 1) := by decide +kernel
theorem dX9_append_42 : decode cX9_append 42 = .ok (.getfield 154, 3) := by decide +kernel
theorem dX9_append_45 : decode cX9_append 45 = .ok (.iload_n 1, 1) := by decide +kernel
theorem dX9_append_46 : decode cX9_append 46 = .ok (.iastore, 1) := by decide +kernel
theorem dX9_append_47 : decode cX9_append 47 = .ok (.aload_n 0, 1) := by decide +kernel
theorem dX9_append_48 : decode cX9_append 48 = .ok (.dup, 1) := by decide +kernel
theorem dX9_append_49 : decode cX9_append 49 = .ok (.getfield 154, 3) := by decide +kernel
theorem dX9_append_52 : decode cX9_append 52 = .ok (.iconst 1, 1) := by decide +kernel
theorem dX9_append_53 : decode cX9_append 53 = .ok (.iadd, 1) := by decide +kernel
theorem dX9_append_54 : decode cX9_append 54 = .ok (.putfield 154, 3) := by decide +kernel
theorem dX9_append_57 : decode cX9_append 57 = .ok (.aload_n 0, 1) := by decide +kernel
theorem dX9_append_58 : decode cX9_append 58 = .ok (.getfield 154, 3) := by decide +kernel
theorem dX9_append_61 : decode cX9_append 61 = .ok (.ireturn, 1) := by decide +kernel
theorem dX9_clearBuffer_0 : decode cX9_clearBuffer 0 = .ok (.aload_n 0, 1) := by decide +kernel
theorem dX9_clearBuffer_1 : decode cX9_clearBuffer 1 = .ok (.iconst 0, 1) := by decide +kernel
theorem dX9_clearBuffer_2 : decode cX9_clearBuffer 2 = .ok (.putfield 47, 3) := by decide +kernel
theorem dX9_clearBuffer_5 : decode cX9_clearBuffer 5 = .ok (.aload_n 0, 1) := by decide +kernel
theorem dX9_clearBuffer_6 : decode cX9_clearBuffer 6 = .ok (.getfield 154, 3) := by decide +kernel
theorem dX9_clearBuffer_9 : decode cX9_clearBuffer 9 = .ok (.istore_n 1, 1) := by decide +kernel
theorem dX9_clearBuffer_10 : decode cX9_clearBuffer 10 = .ok (.aload_n 0, 1) := by decide +kernel
theorem dX9_clearBuffer_11 : decode cX9_clearBuffer 11 = .ok (.iconst 0, 1) := by decide +kernel
theorem dX9_clearBuffer_12 : decode cX9_clearBuffer 12 = .ok (.putfield 154, 3) := by decide +kernel
theorem dX9_clearBuffer_15 : decode cX9_clearBuffer 15 = .ok (.iload_n 1, 1) := by decide +kernel
theorem dX9_clearBuffer_16 : decode cX9_clearBuffer 16 = .ok (.ireturn, 1) := by decide +kernel
theorem dX9_sees_0 : decode cX9_sees 0 = .ok (.aload_n 0, 1) := by decide +kernel
theorem dX9_sees_1 : decode cX9_sees 1 = .ok (.getfield 176, 3) := by decide +kernel
theorem dX9_sees_4 : decode cX9_sees 4 = .ok (.aload_n 0, 1) := by decide +kernel
theorem dX9_sees_5 : decode cX9_sees 5 = .ok (.getfield 154, 3) := by decide +kernel
theorem dX9_sees_8 : decode cX9_sees 8 = .ok (.if_icmp .ge 24, 3) := by decide +kernel
theorem dX9_sees_11 : decode cX9_sees 11 = .ok (.aload_n 0, 1) := by decide +kernel
theorem dX9_sees_12 : decode cX9_sees 12 = .ok (.getfield 23, 3) := by decide +kernel
theorem dX9_sees_15 : decode cX9_sees 15 = .ok (.aload_n 0, 1) := by decide +kernel
theorem dX9_sees_16 : decode cX9_sees 16 = .ok (.getfield 176, 3) := by decide +kernel
theorem dX9_sees_19 : decode cX9_sees 19 = .ok (.iaload, 1) := by decide +kernel
theorem dX9_sees_20 : decode cX9_sees 20 = .ok (.iload_n 1, 1) := by decide +kernel
theorem dX9_sees_21 : decode cX9_sees 21 = .ok (.iload_n 2, 1) := by decide +kernel
theorem dX9_sees_22 : decode cX9_sees 22 = .ok (.invokestatic 62, 3) := by decide +kernel
theorem dX9_sees_25 : decode cX9_sees 25 = .ok (.ifCond .eq 7, 3) := by decide +kernel
theorem dX9_sees_28 : decode cX9_sees 28 = .ok (.iconst 1, 1) := by decide +kernel
theorem dX9_sees_29 : decode cX9_sees 29 = .ok (.goto 4, 3) := by decide +kernel
theorem dX9_sees_32 : decode cX9_sees 32 = .ok (.iconst 0, 1) := by decide +kernel
theorem dX9_sees_33 : decode cX9_sees 33 = .ok (.ireturn, 1) := by decide +kernel
theorem dX9_takes_0 : decode cX9_takes 0 = .ok (.aload_n 0, 1) := by decide +kernel
theorem dX9_takes_1 : decode cX9_takes 1 = .ok (.iload_n 1, 1) := by decide +kernel
theorem dX9_takes_2 : decode cX9_takes 2 = .ok (.iload_n 1, 1) := by decide +kernel
theorem dX9_takes_3 : decode cX9_takes 3 = .ok (.invokevirtual 179, 3) := by decide +kernel
theorem dX9_takes_6 : decode cX9_takes 6 = .ok (.istore_n 2, 1) := by decide +kernel
theorem dX9_takes_7 : decode cX9_takes 7 = .ok (.aload_n 0, 1) := by decide +kernel
theorem dX9_takes_8 : decode cX9_takes 8 = .ok (.dup, 1) := by decide +kernel
theorem dX9_takes_9 : decode cX9_takes 9 = .ok (.getfield 176, 3) := by decide +kernel
theorem dX9_takes_12 : decode cX9_takes 12 = .ok (.iload_n 2, 1) := by decide +kernel
theorem dX9_takes_13 : decode cX9_takes 13 = .ok (.ifCond .eq 7, 3) := by decide +kernel
theorem dX9_takes_16 : decode cX9_takes 16 = .ok (.iconst 1, 1) := by decide +kernel
theorem dX9_takes_17 : decode cX9_takes 17 = .ok (.goto 4, 3) := by decide +kernel
theorem dX9_takes_20 : decode cX9_takes 20 = .ok (.iconst 0, 1) := by decide +kernel
theorem dX9_takes_21 : decode cX9_takes 21 = .ok (.iadd, 1) := by decide +kernel
theorem dX9_takes_22 : decode cX9_takes 22 = .ok (.putfield 176, 3) := by decide +kernel
theorem dX9_takes_25 : decode cX9_takes 25 = .ok (.iload_n 2, 1) := by decide +kernel
theorem dX9_takes_26 : decode cX9_takes 26 = .ok (.ireturn, 1) := by decide +kernel
theorem dX9_holdsBack_0 : decode cX9_holdsBack 0 = .ok (.aload_n 0, 1) := by decide +kernel
theorem dX9_holdsBack_1 : decode cX9_holdsBack 1 = .ok (.getfield 38, 3) := by decide +kernel
theorem dX9_holdsBack_4 : decode cX9_holdsBack 4 = .ok (.aload_n 0, 1) := by decide +kernel
theorem dX9_holdsBack_5 : decode cX9_holdsBack 5 = .ok (.getfield 182, 3) := by decide +kernel
theorem dX9_holdsBack_8 : decode cX9_holdsBack 8 = .ok (.iload_n 1, 1) := by decide +kernel
theorem dX9_holdsBack_9 : decode cX9_holdsBack 9 = .ok (.iastore, 1) := by decide +kernel
theorem dX9_holdsBack_10 : decode cX9_holdsBack 10 = .ok (.aload_n 0, 1) := by decide +kernel
theorem dX9_holdsBack_11 : decode cX9_holdsBack 11 = .ok (.dup, 1) := by decide +kernel
theorem dX9_holdsBack_12 : decode cX9_holdsBack 12 = .ok (.getfield 182, 3) := by decide +kernel
theorem dX9_holdsBack_15 : decode cX9_holdsBack 15 = .ok (.iconst 1, 1) := by decide +kernel
theorem dX9_holdsBack_16 : decode cX9_holdsBack 16 = .ok (.iadd, 1) := by decide +kernel
theorem dX9_holdsBack_17 : decode cX9_holdsBack 17 = .ok (.putfield 182, 3) := by decide +kernel
theorem dX9_holdsBack_20 : decode cX9_holdsBack 20 = .ok (.return_, 1) := by decide +kernel
theorem dX9_isWaiting_0 : decode cX9_isWaiting 0 = .ok (.aload_n 0, 1) := by decide +kernel
theorem dX9_isWaiting_1 : decode cX9_isWaiting 1 = .ok (.getfield 182, 3) := by decide +kernel
theorem dX9_isWaiting_4 : decode cX9_isWaiting 4 = .ok (.ifCond .le 22, 3) := by decide +kernel
theorem dX9_isWaiting_7 : decode cX9_isWaiting 7 = .ok (.aload_n 0, 1) := by decide +kernel
theorem dX9_isWaiting_8 : decode cX9_isWaiting 8 = .ok (.getfield 38, 3) := by decide +kernel
theorem dX9_isWaiting_11 : decode cX9_isWaiting 11 = .ok (.aload_n 0, 1) := by decide +kernel
theorem dX9_isWaiting_12 : decode cX9_isWaiting 12 = .ok (.getfield 182, 3) := by decide +kernel
theorem dX9_isWaiting_15 : decode cX9_isWaiting 15 = .ok (.iconst 1, 1) := by decide +kernel
theorem dX9_isWaiting_16 : decode cX9_isWaiting 16 = .ok (.isub, 1) := by decide +kernel
theorem dX9_isWaiting_17 : decode cX9_isWaiting 17 = .ok (.iaload, 1) := by decide +kernel
theorem dX9_isWaiting_18 : decode cX9_isWaiting 18 = .ok (.iload_n 1, 1) := by decide +kernel
theorem dX9_isWaiting_19 : decode cX9_isWaiting 19 = .ok (.if_icmp .ne 7, 3) := by decide +kernel
theorem dX9_isWaiting_22 : decode cX9_isWaiting 22 = .ok (.iconst 1, 1) := by decide +kernel
theorem dX9_isWaiting_23 : decode cX9_isWaiting 23 = .ok (.goto 4, 3) := by decide +kernel
theorem dX9_isWaiting_26 : decode cX9_isWaiting 26 = .ok (.iconst 0, 1) := by decide +kernel
theorem dX9_isWaiting_27 : decode cX9_isWaiting 27 = .ok (.ireturn, 1) := by decide +kernel
theorem dX9_ends_0 : decode cX9_ends 0 = .ok (.aload_n 0, 1) := by decide +kernel
theorem dX9_ends_1 : decode cX9_ends 1 = .ok (.bipush 33, 2) := by decide +kernel
theorem dX9_ends_3 : decode cX9_ends 3 = .ok (.invokevirtual 185, 3) := by decide +kernel
theorem dX9_ends_6 : decode cX9_ends 6 = .ok (.ifCond .eq 21, 3) := by decide +kernel
theorem dX9_ends_9 : decode cX9_ends 9 = .ok (.aload_n 0, 1) := by decide +kernel
theorem dX9_ends_10 : decode cX9_ends 10 = .ok (.dup, 1) := by decide +kernel
theorem dX9_ends_11 : decode cX9_ends 11 = .ok (.getfield 182, 3) := by decide +kernel
theorem dX9_ends_14 : decode cX9_ends 14 = .ok (.iconst 1, 1) := by decide +kernel
theorem dX9_ends_15 : decode cX9_ends 15 = .ok (.isub, 1) := by decide +kernel
theorem dX9_ends_16 : decode cX9_ends 16 = .ok (.putfield 182, 3) := by decide +kernel
theorem dX9_ends_19 : decode cX9_ends 19 = .ok (.aload_n 0, 1) := by decide +kernel
theorem dX9_ends_20 : decode cX9_ends 20 = .ok (.iconst 0, 1) := by decide +kernel
theorem dX9_ends_21 : decode cX9_ends 21 = .ok (.invokevirtual 144, 3) := by decide +kernel
theorem dX9_ends_24 : decode cX9_ends 24 = .ok (.goto (-24), 3) := by decide +kernel
theorem dX9_ends_27 : decode cX9_ends 27 = .ok (.return_, 1) := by decide +kernel
theorem dX9_pops_0 : decode cX9_pops 0 = .ok (.aload_n 0, 1) := by decide +kernel
theorem dX9_pops_1 : decode cX9_pops 1 = .ok (.iload_n 1, 1) := by decide +kernel
theorem dX9_pops_2 : decode cX9_pops 2 = .ok (.invokevirtual 185, 3) := by decide +kernel
theorem dX9_pops_5 : decode cX9_pops 5 = .ok (.ifCond .eq 21, 3) := by decide +kernel
theorem dX9_pops_8 : decode cX9_pops 8 = .ok (.aload_n 0, 1) := by decide +kernel
theorem dX9_pops_9 : decode cX9_pops 9 = .ok (.dup, 1) := by decide +kernel
theorem dX9_pops_10 : decode cX9_pops 10 = .ok (.getfield 182, 3) := by decide +kernel
theorem dX9_pops_13 : decode cX9_pops 13 = .ok (.iconst 1, 1) := by decide +kernel
theorem dX9_pops_14 : decode cX9_pops 14 = .ok (.isub, 1) := by decide +kernel
theorem dX9_pops_15 : decode cX9_pops 15 = .ok (.putfield 182, 3) := by decide +kernel
theorem dX9_pops_18 : decode cX9_pops 18 = .ok (.aload_n 0, 1) := by decide +kernel
theorem dX9_pops_19 : decode cX9_pops 19 = .ok (.iload_n 2, 1) := by decide +kernel
theorem dX9_pops_20 : decode cX9_pops 20 = .ok (.invokevirtual 144, 3) := by decide +kernel
theorem dX9_pops_23 : decode cX9_pops 23 = .ok (.goto (-23), 3) := by decide +kernel
theorem dX9_pops_26 : decode cX9_pops 26 = .ok (.return_, 1) := by decide +kernel
theorem dX9_isRight_0 : decode cX9_isRight 0 = .ok (.aload_n 0, 1) := by decide +kernel
theorem dX9_isRight_1 : decode cX9_isRight 1 = .ok (.bipush 97, 2) := by decide +kernel
theorem dX9_isRight_3 : decode cX9_isRight 3 = .ok (.bipush 100, 2) := by decide +kernel
theorem dX9_isRight_5 : decode cX9_isRight 5 = .ok (.invokevirtual 179, 3) := by decide +kernel
theorem dX9_isRight_8 : decode cX9_isRight 8 = .ok (.ifCond .eq 39, 3) := by decide +kernel
theorem dX9_isRight_11 : decode cX9_isRight 11 = .ok (.aload_n 0, 1) := by decide +kernel
theorem dX9_isRight_12 : decode cX9_isRight 12 = .ok (.iload_n 1, 1) := by decide +kernel
theorem dX9_isRight_13 : decode cX9_isRight 13 = .ok (.iload_n 2, 1) := by decide +kernel
theorem dX9_isRight_14 : decode cX9_isRight 14 = .ok (.bipush 100, 2) := by decide +kernel
theorem dX9_isRight_16 : decode cX9_isRight 16 = .ok (.aload_n 0, 1) := by decide +kernel
theorem dX9_isRight_17 : decode cX9_isRight 17 = .ok (.getfield 23, 3) := by decide +kernel
theorem dX9_isRight_20 : decode cX9_isRight 20 = .ok (.aload_n 0, 1) := by decide +kernel
theorem dX9_isRight_21 : decode cX9_isRight 21 = .ok (.getfield 176, 3) := by decide +kernel
theorem dX9_isRight_24 : decode cX9_isRight 24 = .ok (.iaload, 1) := by decide +kernel
theorem dX9_isRight_25 : decode cX9_isRight 25 = .ok (.iadd, 1) := by decide +kernel
theorem dX9_isRight_26 : decode cX9_isRight 26 = .ok (.bipush 97, 2) := by decide +kernel
theorem dX9_isRight_28 : decode cX9_isRight 28 = .ok (.isub, 1) := by decide +kernel
theorem dX9_isRight_29 : decode cX9_isRight 29 = .ok (.invokestatic 188, 3) := by decide +kernel
theorem dX9_isRight_32 : decode cX9_isRight 32 = .ok (.invokevirtual 144, 3) := by decide +kernel
theorem dX9_isRight_35 : decode cX9_isRight 35 = .ok (.aload_n 0, 1) := by decide +kernel
theorem dX9_isRight_36 : decode cX9_isRight 36 = .ok (.dup, 1) := by decide +kernel
theorem dX9_isRight_37 : decode cX9_isRight 37 = .ok (.getfield 176, 3) := by decide +kernel
theorem dX9_isRight_40 : decode cX9_isRight 40 = .ok (.iconst 1, 1) := by decide +kernel
theorem dX9_isRight_41 : decode cX9_isRight 41 = .ok (.iadd, 1) := by decide +kernel
theorem dX9_isRight_42 : decode cX9_isRight 42 = .ok (.putfield 176, 3) := by decide +kernel
theorem dX9_isRight_45 : decode cX9_isRight 45 = .ok (.iconst 1, 1) := by decide +kernel
theorem dX9_isRight_46 : decode cX9_isRight 46 = .ok (.ireturn, 1) := by decide +kernel
theorem dX9_isRight_47 : decode cX9_isRight 47 = .ok (.aload_n 0, 1) := by decide +kernel
theorem dX9_isRight_48 : decode cX9_isRight 48 = .ok (.bipush 48, 2) := by decide +kernel
theorem dX9_isRight_50 : decode cX9_isRight 50 = .ok (.bipush 57, 2) := by decide +kernel
theorem dX9_isRight_52 : decode cX9_isRight 52 = .ok (.invokevirtual 179, 3) := by decide +kernel
theorem dX9_isRight_55 : decode cX9_isRight 55 = .ok (.ifCond .ne 5, 3) := by decide +kernel
theorem dX9_isRight_58 : decode cX9_isRight 58 = .ok (.iconst 0, 1) := by decide +kernel
theorem dX9_isRight_59 : decode cX9_isRight 59 = .ok (.ireturn, 1) := by decide +kernel
theorem dX9_isRight_60 : decode cX9_isRight 60 = .ok (.aload_n 0, 1) := by decide +kernel
theorem dX9_isRight_61 : decode cX9_isRight 61 = .ok (.getfield 23, 3) := by decide +kernel
theorem dX9_isRight_64 : decode cX9_isRight 64 = .ok (.aload_n 0, 1) := by decide +kernel
theorem dX9_isRight_65 : decode cX9_isRight 65 = .ok (.getfield 176, 3) := by decide +kernel
theorem dX9_isRight_68 : decode cX9_isRight 68 = .ok (.iaload, 1) := by decide +kernel
theorem dX9_isRight_69 : decode cX9_isRight 69 = .ok (.bipush 48, 2) := by decide +kernel
theorem dX9_isRight_71 : decode cX9_isRight 71 = .ok (.isub, 1) := by decide +kernel
theorem dX9_isRight_72 : decode cX9_isRight 72 = .ok (.istore_n 3, 1) := by decide +kernel
theorem dX9_isRight_73 : decode cX9_isRight 73 = .ok (.aload_n 0, 1) := by decide +kernel
theorem dX9_isRight_74 : decode cX9_isRight 74 = .ok (.dup, 1) := by decide +kernel
theorem dX9_isRight_75 : decode cX9_isRight 75 = .ok (.getfield 176, 3) := by decide +kernel
theorem dX9_isRight_78 : decode cX9_isRight 78 = .ok (.iconst 1, 1) := by decide +kernel
theorem dX9_isRight_79 : decode cX9_isRight 79 = .ok (.iadd, 1) := by decide +kernel
theorem dX9_isRight_80 : decode cX9_isRight 80 = .ok (.putfield 176, 3) := by decide +kernel
theorem dX9_isRight_83 : decode cX9_isRight 83 = .ok (.iload_n 3, 1) := by decide +kernel
theorem dX9_isRight_84 : decode cX9_isRight 84 = .ok (.ifCond .le 42, 3) := by decide +kernel
theorem dX9_isRight_87 : decode cX9_isRight 87 = .ok (.aload_n 0, 1) := by decide +kernel
theorem dX9_isRight_88 : decode cX9_isRight 88 = .ok (.bipush 48, 2) := by decide +kernel
theorem dX9_isRight_90 : decode cX9_isRight 90 = .ok (.bipush 57, 2) := by decide +kernel
theorem dX9_isRight_92 : decode cX9_isRight 92 = .ok (.invokevirtual 179, 3) := by decide +kernel
theorem dX9_isRight_95 : decode cX9_isRight 95 = .ok (.ifCond .eq 31, 3) := by decide +kernel
theorem dX9_isRight_98 : decode cX9_isRight 98 = .ok (.bipush 10, 2) := by decide +kernel
theorem dX9_isRight_100 : decode cX9_isRight 100 = .ok (.iload_n 3, 1) := by decide +kernel
theorem dX9_isRight_101 : decode cX9_isRight 101 = .ok (.imul, 1) := by decide +kernel
theorem dX9_isRight_102 : decode cX9_isRight 102 = .ok (.aload_n 0, 1) := by decide +kernel
theorem dX9_isRight_103 : decode cX9_isRight 103 = .ok (.getfield 23, 3) := by decide +kernel
theorem dX9_isRight_106 : decode cX9_isRight 106 = .ok (.aload_n 0, 1) := by decide +kernel
theorem dX9_isRight_107 : decode cX9_isRight 107 = .ok (.getfield 176, 3) := by decide +kernel
theorem dX9_isRight_110 : decode cX9_isRight 110 = .ok (.iaload, 1) := by decide +kernel
theorem dX9_isRight_111 : decode cX9_isRight 111 = .ok (.iadd, 1) := by decide +kernel
theorem dX9_isRight_112 : decode cX9_isRight 112 = .ok (.bipush 48, 2) := by decide +kernel
theorem dX9_isRight_114 : decode cX9_isRight 114 = .ok (.isub, 1) := by decide +kernel
theorem dX9_isRight_115 : decode cX9_isRight 115 = .ok (.istore_n 3, 1) := by decide +kernel
theorem dX9_isRight_116 : decode cX9_isRight 116 = .ok (.aload_n 0, 1) := by decide +kernel
theorem dX9_isRight_117 : decode cX9_isRight 117 = .ok (.dup, 1) := by decide +kernel
theorem dX9_isRight_118 : decode cX9_isRight 118 = .ok (.getfield 176, 3) := by decide +kernel
theorem dX9_isRight_121 : decode cX9_isRight 121 = .ok (.iconst 1, 1) := by decide +kernel
theorem dX9_isRight_122 : decode cX9_isRight 122 = .ok (.iadd, 1) := by decide +kernel
theorem dX9_isRight_123 : decode cX9_isRight 123 = .ok (.putfield 176, 3) := by decide +kernel
theorem dX9_isRight_126 : decode cX9_isRight 126 = .ok (.aload_n 0, 1) := by decide +kernel
theorem dX9_isRight_127 : decode cX9_isRight 127 = .ok (.iload_n 1, 1) := by decide +kernel
theorem dX9_isRight_128 : decode cX9_isRight 128 = .ok (.iload_n 2, 1) := by decide +kernel
theorem dX9_isRight_129 : decode cX9_isRight 129 = .ok (.iload_n 3, 1) := by decide +kernel
theorem dX9_isRight_130 : decode cX9_isRight 130 = .ok (.invokestatic 188, 3) := by decide +kernel
theorem dX9_isRight_133 : decode cX9_isRight 133 = .ok (.invokevirtual 144, 3) := by decide +kernel
theorem dX9_isRight_136 : decode cX9_isRight 136 = .ok (.iconst 1, 1) := by decide +kernel
theorem dX9_isRight_137 : decode cX9_isRight 137 = .ok (.ireturn, 1) := by decide +kernel
theorem dX9_isTestText_0 : decode cX9_isTestText 0 = .ok (.aload_n 0, 1) := by decide +kernel
theorem dX9_isTestText_1 : decode cX9_isTestText 1 = .ok (.bipush 97, 2) := by decide +kernel
theorem dX9_isTestText_3 : decode cX9_isTestText 3 = .ok (.bipush 100, 2) := by decide +kernel
theorem dX9_isTestText_5 : decode cX9_isTestText 5 = .ok (.invokevirtual 179, 3) := by decide +kernel
theorem dX9_isTestText_8 : decode cX9_isTestText 8 = .ok (.ifCond .ne 5, 3) := by decide +kernel
theorem dX9_isTestText_11 : decode cX9_isTestText 11 = .ok (.iconst 0, 1) := by decide +kernel
theorem dX9_isTestText_12 : decode cX9_isTestText 12 = .ok (.ireturn, 1) := by decide +kernel
theorem dX9_isTestText_13 : decode cX9_isTestText 13 = .ok (.aload_n 0, 1) := by decide +kernel
theorem dX9_isTestText_14 : decode cX9_isTestText 14 = .ok (.getfield 23, 3) := by decide +kernel
theorem dX9_isTestText_17 : decode cX9_isTestText 17 = .ok (.aload_n 0, 1) := by decide +kernel
theorem dX9_isTestText_18 : decode cX9_isTestText 18 = .ok (.getfield 176, 3) := by decide +kernel
theorem dX9_isTestText_21 : decode cX9_isTestText 21 = .ok (.iaload, 1) := by decide +kernel
theorem dX9_isTestText_22 : decode cX9_isTestText 22 = .ok (.bipush 97, 2) := by decide +kernel
theorem dX9_isTestText_24 : decode cX9_isTestText 24 = .ok (.isub, 1) := by decide +kernel
theorem dX9_isTestText_25 : decode cX9_isTestText 25 = .ok (.istore_n 1, 1) := by decide +kernel
theorem dX9_isTestText_26 : decode cX9_isTestText 26 = .ok (.aload_n 0, 1) := by decide +kernel
theorem dX9_isTestText_27 : decode cX9_isTestText 27 = .ok (.dup, 1) := by decide +kernel
theorem dX9_isTestText_28 : decode cX9_isTestText 28 = .ok (.getfield 176, 3) := by decide +kernel
theorem dX9_isTestText_31 : decode cX9_isTestText 31 = .ok (.iconst 1, 1) := by decide +kernel
theorem dX9_isTestText_32 : decode cX9_isTestText 32 = .ok (.iadd, 1) := by decide +kernel
theorem dX9_isTestText_33 : decode cX9_isTestText 33 = .ok (.putfield 176, 3) := by decide +kernel
theorem dX9_isTestText_36 : decode cX9_isTestText 36 = .ok (.aload_n 0, 1) := by decide +kernel
theorem dX9_isTestText_37 : decode cX9_isTestText 37 = .ok (.bipush 63, 2) := by decide +kernel
theorem dX9_isTestText_39 : decode cX9_isTestText 39 = .ok (.invokevirtual 191, 3) := by decide +kernel
theorem dX9_isTestText_42 : decode cX9_isTestText 42 = .ok (.ifCond .eq 15, 3) := by decide +kernel
theorem dX9_isTestText_45 : decode cX9_isTestText 45 = .ok (.aload_n 0, 1) := by decide +kernel
theorem dX9_isTestText_46 : decode cX9_isTestText 46 = .ok (.iload_n 1, 1) := by decide +kernel
theorem dX9_isTestText_47 : decode cX9_isTestText 47 = .ok (.iconst 0, 1) := by decide +kernel
theorem dX9_isTestText_48 : decode cX9_isTestText 48 = .ok (.iconst 0, 1) := by decide +kernel
theorem dX9_isTestText_49 : decode cX9_isTestText 49 = .ok (.invokestatic 188, 3) := by decide +kernel
theorem dX9_isTestText_52 : decode cX9_isTestText 52 = .ok (.invokevirtual 144, 3) := by decide +kernel
theorem dX9_isTestText_55 : decode cX9_isTestText 55 = .ok (.iconst 1, 1) := by decide +kernel
theorem dX9_isTestText_56 : decode cX9_isTestText 56 = .ok (.ireturn, 1) := by decide +kernel
theorem dX9_isTestText_57 : decode cX9_isTestText 57 = .ok (.aload_n 0, 1) := by decide +kernel
theorem dX9_isTestText_58 : decode cX9_isTestText 58 = .ok (.bipush 61, 2) := by decide +kernel
theorem dX9_isTestText_60 : decode cX9_isTestText 60 = .ok (.invokevirtual 191, 3) := by decide +kernel
theorem dX9_isTestText_63 : decode cX9_isTestText 63 = .ok (.ifCond .eq 7, 3) := by decide +kernel
theorem dX9_isTestText_66 : decode cX9_isTestText 66 = .ok (.iconst 1, 1) := by decide +kernel
theorem dX9_isTestText_67 : decode cX9_isTestText 67 = .ok (.goto 30, 3) := by decide +kernel
theorem dX9_isTestText_70 : decode cX9_isTestText 70 = .ok (.aload_n 0, 1) := by decide +kernel
theorem dX9_isTestText_71 : decode cX9_isTestText 71 = .ok (.bipush 60, 2) := by decide +kernel
theorem dX9_isTestText_73 : decode cX9_isTestText 73 = .ok (.invokevirtual 191, 3) := by decide +kernel
theorem dX9_isTestText_76 : decode cX9_isTestText 76 = .ok (.ifCond .eq 7, 3) := by decide +kernel
theorem dX9_isTestText_79 : decode cX9_isTestText 79 = .ok (.iconst 2, 1) := by decide +kernel
theorem dX9_isTestText_80 : decode cX9_isTestText 80 = .ok (.goto 17, 3) := by decide +kernel
theorem dX9_isTestText_83 : decode cX9_isTestText 83 = .ok (.aload_n 0, 1) := by decide +kernel
theorem dX9_isTestText_84 : decode cX9_isTestText 84 = .ok (.bipush 62, 2) := by decide +kernel
theorem dX9_isTestText_86 : decode cX9_isTestText 86 = .ok (.invokevirtual 191, 3) := by decide +kernel
theorem dX9_isTestText_89 : decode cX9_isTestText 89 = .ok (.ifCond .eq 7, 3) := by decide +kernel
theorem dX9_isTestText_92 : decode cX9_isTestText 92 = .ok (.iconst 3, 1) := by decide +kernel
theorem dX9_isTestText_93 : decode cX9_isTestText 93 = .ok (.goto 4, 3) := by decide +kernel
theorem dX9_isTestText_96 : decode cX9_isTestText 96 = .ok (.iconst 0, 1) := by decide +kernel
theorem dX9_isTestText_97 : decode cX9_isTestText 97 = .ok (.istore_n 2, 1) := by decide +kernel
theorem dX9_isTestText_98 : decode cX9_isTestText 98 = .ok (.iload_n 2, 1) := by decide +kernel
theorem dX9_isTestText_99 : decode cX9_isTestText 99 = .ok (.ifCond .le 16, 3) := by decide +kernel
theorem dX9_isTestText_102 : decode cX9_isTestText 102 = .ok (.aload_n 0, 1) := by decide +kernel
theorem dX9_isTestText_103 : decode cX9_isTestText 103 = .ok (.iload_n 1, 1) := by decide +kernel
theorem dX9_isTestText_104 : decode cX9_isTestText 104 = .ok (.iload_n 2, 1) := by decide +kernel
theorem dX9_isTestText_105 : decode cX9_isTestText 105 = .ok (.invokevirtual 194, 3) := by decide +kernel
theorem dX9_isTestText_108 : decode cX9_isTestText 108 = .ok (.ifCond .eq 7, 3) := by decide +kernel
theorem dX9_isTestText_111 : decode cX9_isTestText 111 = .ok (.iconst 1, 1) := by decide +kernel
theorem dX9_isTestText_112 : decode cX9_isTestText 112 = .ok (.goto 4, 3) := by decide +kernel
theorem dX9_isTestText_115 : decode cX9_isTestText 115 = .ok (.iconst 0, 1) := by decide +kernel
theorem dX9_isTestText_116 : decode cX9_isTestText 116 = .ok (.ireturn, 1) := by decide +kernel
theorem dX9_isPart_0 : decode cX9_isPart 0 = .ok (.iconst 1, 1) := by decide +kernel
theorem dX9_isPart_1 : decode cX9_isPart 1 = .ok (.istore_n 1, 1) := by decide +kernel
theorem dX9_isPart_2 : decode cX9_isPart 2 = .ok (.iload_n 1, 1) := by decide +kernel
theorem dX9_isPart_3 : decode cX9_isPart 3 = .ok (.ifCond .eq 54, 3) := by decide +kernel
theorem dX9_isPart_6 : decode cX9_isPart 6 = .ok (.aload_n 0, 1) := by decide +kernel
theorem dX9_isPart_7 : decode cX9_isPart 7 = .ok (.bipush 33, 2) := by decide +kernel
theorem dX9_isPart_9 : decode cX9_isPart 9 = .ok (.invokevirtual 191, 3) := by decide +kernel
theorem dX9_isPart_12 : decode cX9_isPart 12 = .ok (.ifCond .eq 12, 3) := by decide +kernel
theorem dX9_isPart_15 : decode cX9_isPart 15 = .ok (.aload_n 0, 1) := by decide +kernel
theorem dX9_isPart_16 : decode cX9_isPart 16 = .ok (.bipush 33, 2) := by decide +kernel
theorem dX9_isPart_18 : decode cX9_isPart 18 = .ok (.invokevirtual 197, 3) := by decide +kernel
theorem dX9_isPart_21 : decode cX9_isPart 21 = .ok (.goto (-19), 3) := by decide +kernel
theorem dX9_isPart_24 : decode cX9_isPart 24 = .ok (.aload_n 0, 1) := by decide +kernel
theorem dX9_isPart_25 : decode cX9_isPart 25 = .ok (.bipush 40, 2) := by decide +kernel
theorem dX9_isPart_27 : decode cX9_isPart 27 = .ok (.invokevirtual 191, 3) := by decide +kernel
theorem dX9_isPart_30 : decode cX9_isPart 30 = .ok (.ifCond .eq 22, 3) := by decide +kernel
theorem dX9_isPart_33 : decode cX9_isPart 33 = .ok (.aload_n 0, 1) := by decide +kernel
theorem dX9_isPart_34 : decode cX9_isPart 34 = .ok (.bipush 40, 2) := by decide +kernel
theorem dX9_isPart_36 : decode cX9_isPart 36 = .ok (.invokevirtual 197, 3) := by decide +kernel
theorem dX9_isPart_39 : decode cX9_isPart 39 = .ok (.aload_n 0, 1) := by decide +kernel
theorem dX9_isPart_40 : decode cX9_isPart 40 = .ok (.dup, 1) := by decide +kernel
theorem dX9_isPart_41 : decode cX9_isPart 41 = .ok (.getfield 200, 3) := by decide +kernel
theorem dX9_isPart_44 : decode cX9_isPart 44 = .ok (.iconst 1, 1) := by decide +kernel
theorem dX9_isPart_45 : decode cX9_isPart 45 = .ok (.iadd, 1) := by decide +kernel
theorem dX9_isPart_46 : decode cX9_isPart 46 = .ok (.putfield 200, 3) := by decide +kernel
theorem dX9_isPart_49 : decode cX9_isPart 49 = .ok (.goto (-47), 3) := by decide +kernel
theorem dX9_isPart_52 : decode cX9_isPart 52 = .ok (.iconst 0, 1) := by decide +kernel
theorem dX9_isPart_53 : decode cX9_isPart 53 = .ok (.istore_n 1, 1) := by decide +kernel
theorem dX9_isPart_54 : decode cX9_isPart 54 = .ok (.goto (-52), 3) := by decide +kernel
theorem dX9_isPart_57 : decode cX9_isPart 57 = .ok (.aload_n 0, 1) := by decide +kernel
theorem dX9_isPart_58 : decode cX9_isPart 58 = .ok (.invokevirtual 203, 3) := by decide +kernel
theorem dX9_isPart_61 : decode cX9_isPart 61 = .ok (.istore_n 2, 1) := by decide +kernel
theorem dX9_isPart_62 : decode cX9_isPart 62 = .ok (.iload_n 2, 1) := by decide +kernel
theorem dX9_isPart_63 : decode cX9_isPart 63 = .ok (.ifCond .eq 7, 3) := by decide +kernel
theorem dX9_isPart_66 : decode cX9_isPart 66 = .ok (.aload_n 0, 1) := by decide +kernel
theorem dX9_isPart_67 : decode cX9_isPart 67 = .ok (.invokevirtual 206, 3) := by decide +kernel
theorem dX9_isPart_70 : decode cX9_isPart 70 = .ok (.iload_n 2, 1) := by decide +kernel
theorem dX9_isPart_71 : decode cX9_isPart 71 = .ok (.ireturn, 1) := by decide +kernel
theorem dX9_closes_0 : decode cX9_closes 0 = .ok (.aload_n 0, 1) := by decide +kernel
theorem dX9_closes_1 : decode cX9_closes 1 = .ok (.getfield 200, 3) := by decide +kernel
theorem dX9_closes_4 : decode cX9_closes 4 = .ok (.ifCond .le 53, 3) := by decide +kernel
theorem dX9_closes_7 : decode cX9_closes 7 = .ok (.aload_n 0, 1) := by decide +kernel
theorem dX9_closes_8 : decode cX9_closes 8 = .ok (.bipush 41, 2) := by decide +kernel
theorem dX9_closes_10 : decode cX9_closes 10 = .ok (.invokevirtual 191, 3) := by decide +kernel
theorem dX9_closes_13 : decode cX9_closes 13 = .ok (.ifCond .eq 44, 3) := by decide +kernel
theorem dX9_closes_16 : decode cX9_closes 16 = .ok (.aload_n 0, 1) := by decide +kernel
theorem dX9_closes_17 : decode cX9_closes 17 = .ok (.bipush 38, 2) := by decide +kernel
theorem dX9_closes_19 : decode cX9_closes 19 = .ok (.iconst 1, 1) := by decide +kernel
theorem dX9_closes_20 : decode cX9_closes 20 = .ok (.invokevirtual 209, 3) := by decide +kernel
theorem dX9_closes_23 : decode cX9_closes 23 = .ok (.aload_n 0, 1) := by decide +kernel
theorem dX9_closes_24 : decode cX9_closes 24 = .ok (.bipush 124, 2) := by decide +kernel
theorem dX9_closes_26 : decode cX9_closes 26 = .ok (.iconst 2, 1) := by decide +kernel
theorem dX9_closes_27 : decode cX9_closes 27 = .ok (.invokevirtual 209, 3) := by decide +kernel
theorem dX9_closes_30 : decode cX9_closes 30 = .ok (.aload_n 0, 1) := by decide +kernel
theorem dX9_closes_31 : decode cX9_closes 31 = .ok (.dup, 1) := by decide +kernel
theorem dX9_closes_32 : decode cX9_closes 32 = .ok (.getfield 182, 3) := by decide +kernel
theorem dX9_closes_35 : decode cX9_closes 35 = .ok (.iconst 1, 1) := by decide +kernel
theorem dX9_closes_36 : decode cX9_closes 36 = .ok (.isub, 1) := by decide +kernel
theorem dX9_closes_37 : decode cX9_closes 37 = .ok (.putfield 182, 3) := by decide +kernel
theorem dX9_closes_40 : decode cX9_closes 40 = .ok (.aload_n 0, 1) := by decide +kernel
theorem dX9_closes_41 : decode cX9_closes 41 = .ok (.dup, 1) := by decide +kernel
theorem dX9_closes_42 : decode cX9_closes 42 = .ok (.getfield 200, 3) := by decide +kernel
theorem dX9_closes_45 : decode cX9_closes 45 = .ok (.iconst 1, 1) := by decide +kernel
theorem dX9_closes_46 : decode cX9_closes 46 = .ok (.isub, 1) := by decide +kernel
theorem dX9_closes_47 : decode cX9_closes 47 = .ok (.putfield 200, 3) := by decide +kernel
theorem dX9_closes_50 : decode cX9_closes 50 = .ok (.aload_n 0, 1) := by decide +kernel
theorem dX9_closes_51 : decode cX9_closes 51 = .ok (.invokevirtual 206, 3) := by decide +kernel
theorem dX9_closes_54 : decode cX9_closes 54 = .ok (.goto (-54), 3) := by decide +kernel
theorem dX9_closes_57 : decode cX9_closes 57 = .ok (.return_, 1) := by decide +kernel
theorem dX9_isSign_0 : decode cX9_isSign 0 = .ok (.aload_n 0, 1) := by decide +kernel
theorem dX9_isSign_1 : decode cX9_isSign 1 = .ok (.bipush 38, 2) := by decide +kernel
theorem dX9_isSign_3 : decode cX9_isSign 3 = .ok (.invokevirtual 191, 3) := by decide +kernel
theorem dX9_isSign_6 : decode cX9_isSign 6 = .ok (.ifCond .eq 18, 3) := by decide +kernel
theorem dX9_isSign_9 : decode cX9_isSign 9 = .ok (.aload_n 0, 1) := by decide +kernel
theorem dX9_isSign_10 : decode cX9_isSign 10 = .ok (.bipush 38, 2) := by decide +kernel
theorem dX9_isSign_12 : decode cX9_isSign 12 = .ok (.iconst 1, 1) := by decide +kernel
theorem dX9_isSign_13 : decode cX9_isSign 13 = .ok (.invokevirtual 209, 3) := by decide +kernel
theorem dX9_isSign_16 : decode cX9_isSign 16 = .ok (.aload_n 0, 1) := by decide +kernel
theorem dX9_isSign_17 : decode cX9_isSign 17 = .ok (.bipush 38, 2) := by decide +kernel
theorem dX9_isSign_19 : decode cX9_isSign 19 = .ok (.invokevirtual 197, 3) := by decide +kernel
theorem dX9_isSign_22 : decode cX9_isSign 22 = .ok (.iconst 1, 1) := by decide +kernel
theorem dX9_isSign_23 : decode cX9_isSign 23 = .ok (.ireturn, 1) := by decide +kernel
theorem dX9_isSign_24 : decode cX9_isSign 24 = .ok (.aload_n 0, 1) := by decide +kernel
theorem dX9_isSign_25 : decode cX9_isSign 25 = .ok (.bipush 124, 2) := by decide +kernel
theorem dX9_isSign_27 : decode cX9_isSign 27 = .ok (.invokevirtual 191, 3) := by decide +kernel
theorem dX9_isSign_30 : decode cX9_isSign 30 = .ok (.ifCond .eq 25, 3) := by decide +kernel
theorem dX9_isSign_33 : decode cX9_isSign 33 = .ok (.aload_n 0, 1) := by decide +kernel
theorem dX9_isSign_34 : decode cX9_isSign 34 = .ok (.bipush 38, 2) := by decide +kernel
theorem dX9_isSign_36 : decode cX9_isSign 36 = .ok (.iconst 1, 1) := by decide +kernel
theorem dX9_isSign_37 : decode cX9_isSign 37 = .ok (.invokevirtual 209, 3) := by decide +kernel
theorem dX9_isSign_40 : decode cX9_isSign 40 = .ok (.aload_n 0, 1) := by decide +kernel
theorem dX9_isSign_41 : decode cX9_isSign 41 = .ok (.bipush 124, 2) := by decide +kernel
theorem dX9_isSign_43 : decode cX9_isSign 43 = .ok (.iconst 2, 1) := by decide +kernel
theorem dX9_isSign_44 : decode cX9_isSign 44 = .ok (.invokevirtual 209, 3) := by decide +kernel
theorem dX9_isSign_47 : decode cX9_isSign 47 = .ok (.aload_n 0, 1) := by decide +kernel
theorem dX9_isSign_48 : decode cX9_isSign 48 = .ok (.bipush 124, 2) := by decide +kernel
theorem dX9_isSign_50 : decode cX9_isSign 50 = .ok (.invokevirtual 197, 3) := by decide +kernel
theorem dX9_isSign_53 : decode cX9_isSign 53 = .ok (.iconst 1, 1) := by decide +kernel
theorem dX9_isSign_54 : decode cX9_isSign 54 = .ok (.ireturn, 1) := by decide +kernel
theorem dX9_isSign_55 : decode cX9_isSign 55 = .ok (.iconst 0, 1) := by decide +kernel
theorem dX9_isSign_56 : decode cX9_isSign 56 = .ok (.ireturn, 1) := by decide +kernel
theorem dX9_isWhole_0 : decode cX9_isWhole 0 = .ok (.aload_n 0, 1) := by decide +kernel
theorem dX9_isWhole_1 : decode cX9_isWhole 1 = .ok (.iconst 0, 1) := by decide +kernel
theorem dX9_isWhole_2 : decode cX9_isWhole 2 = .ok (.putfield 176, 3) := by decide +kernel
theorem dX9_isWhole_5 : decode cX9_isWhole 5 = .ok (.aload_n 0, 1) := by decide +kernel
theorem dX9_isWhole_6 : decode cX9_isWhole 6 = .ok (.iconst 0, 1) := by decide +kernel
theorem dX9_isWhole_7 : decode cX9_isWhole 7 = .ok (.putfield 182, 3) := by decide +kernel
theorem dX9_isWhole_10 : decode cX9_isWhole 10 = .ok (.aload_n 0, 1) := by decide +kernel
theorem dX9_isWhole_11 : decode cX9_isWhole 11 = .ok (.iconst 0, 1) := by decide +kernel
theorem dX9_isWhole_12 : decode cX9_isWhole 12 = .ok (.putfield 200, 3) := by decide +kernel
theorem dX9_isWhole_15 : decode cX9_isWhole 15 = .ok (.aload_n 0, 1) := by decide +kernel
theorem dX9_isWhole_16 : decode cX9_isWhole 16 = .ok (.iconst 0, 1) := by decide +kernel
theorem dX9_isWhole_17 : decode cX9_isWhole 17 = .ok (.putfield 141, 3) := by decide +kernel
theorem dX9_isWhole_20 : decode cX9_isWhole 20 = .ok (.iconst 1, 1) := by decide +kernel
theorem dX9_isWhole_21 : decode cX9_isWhole 21 = .ok (.istore_n 1, 1) := by decide +kernel
theorem dX9_isWhole_22 : decode cX9_isWhole 22 = .ok (.iload_n 1, 1) := by decide +kernel
theorem dX9_isWhole_23 : decode cX9_isWhole 23 = .ok (.ifCond .eq 24, 3) := by decide +kernel
theorem dX9_isWhole_26 : decode cX9_isWhole 26 = .ok (.aload_n 0, 1) := by decide +kernel
theorem dX9_isWhole_27 : decode cX9_isWhole 27 = .ok (.invokevirtual 212, 3) := by decide +kernel
theorem dX9_isWhole_30 : decode cX9_isWhole 30 = .ok (.ifCond .ne 5, 3) := by decide +kernel
theorem dX9_isWhole_33 : decode cX9_isWhole 33 = .ok (.iconst 0, 1) := by decide +kernel
theorem dX9_isWhole_34 : decode cX9_isWhole 34 = .ok (.ireturn, 1) := by decide +kernel
theorem dX9_isWhole_35 : decode cX9_isWhole 35 = .ok (.aload_n 0, 1) := by decide +kernel
theorem dX9_isWhole_36 : decode cX9_isWhole 36 = .ok (.invokevirtual 215, 3) := by decide +kernel
theorem dX9_isWhole_39 : decode cX9_isWhole 39 = .ok (.aload_n 0, 1) := by decide +kernel
theorem dX9_isWhole_40 : decode cX9_isWhole 40 = .ok (.invokevirtual 218, 3) := by decide +kernel
theorem dX9_isWhole_43 : decode cX9_isWhole 43 = .ok (.istore_n 1, 1) := by decide +kernel
theorem dX9_isWhole_44 : decode cX9_isWhole 44 = .ok (.goto (-22), 3) := by decide +kernel
theorem dX9_isWhole_47 : decode cX9_isWhole 47 = .ok (.aload_n 0, 1) := by decide +kernel
theorem dX9_isWhole_48 : decode cX9_isWhole 48 = .ok (.bipush 38, 2) := by decide +kernel
theorem dX9_isWhole_50 : decode cX9_isWhole 50 = .ok (.iconst 1, 1) := by decide +kernel
theorem dX9_isWhole_51 : decode cX9_isWhole 51 = .ok (.invokevirtual 209, 3) := by decide +kernel
theorem dX9_isWhole_54 : decode cX9_isWhole 54 = .ok (.aload_n 0, 1) := by decide +kernel
theorem dX9_isWhole_55 : decode cX9_isWhole 55 = .ok (.bipush 124, 2) := by decide +kernel
theorem dX9_isWhole_57 : decode cX9_isWhole 57 = .ok (.iconst 2, 1) := by decide +kernel
theorem dX9_isWhole_58 : decode cX9_isWhole 58 = .ok (.invokevirtual 209, 3) := by decide +kernel
theorem dX9_isWhole_61 : decode cX9_isWhole 61 = .ok (.aload_n 0, 1) := by decide +kernel
theorem dX9_isWhole_62 : decode cX9_isWhole 62 = .ok (.getfield 176, 3) := by decide +kernel
theorem dX9_isWhole_65 : decode cX9_isWhole 65 = .ok (.aload_n 0, 1) := by decide +kernel
theorem dX9_isWhole_66 : decode cX9_isWhole 66 = .ok (.getfield 154, 3) := by decide +kernel
theorem dX9_isWhole_69 : decode cX9_isWhole 69 = .ok (.if_icmp .ne 14, 3) := by decide +kernel
theorem dX9_isWhole_72 : decode cX9_isWhole 72 = .ok (.aload_n 0, 1) := by decide +kernel
theorem dX9_isWhole_73 : decode cX9_isWhole 73 = .ok (.getfield 200, 3) := by decide +kernel
theorem dX9_isWhole_76 : decode cX9_isWhole 76 = .ok (.ifCond .ne 7, 3) := by decide +kernel
theorem dX9_isWhole_79 : decode cX9_isWhole 79 = .ok (.iconst 1, 1) := by decide +kernel
theorem dX9_isWhole_80 : decode cX9_isWhole 80 = .ok (.goto 4, 3) := by decide +kernel
theorem dX9_isWhole_83 : decode cX9_isWhole 83 = .ok (.iconst 0, 1) := by decide +kernel
theorem dX9_isWhole_84 : decode cX9_isWhole 84 = .ok (.ireturn, 1) := by decide +kernel
theorem dX9_firstError_0 : decode cX9_firstError 0 = .ok (.aload_n 0, 1) := by decide +kernel
theorem dX9_firstError_1 : decode cX9_firstError 1 = .ok (.iconst 0, 1) := by decide +kernel
theorem dX9_firstError_2 : decode cX9_firstError 2 = .ok (.putfield 47, 3) := by decide +kernel
theorem dX9_firstError_5 : decode cX9_firstError 5 = .ok (.aload_n 0, 1) := by decide +kernel
theorem dX9_firstError_6 : decode cX9_firstError 6 = .ok (.invokevirtual 150, 3) := by decide +kernel
theorem dX9_firstError_9 : decode cX9_firstError 9 = .ok (.ifCond .eq 10, 3) := by decide +kernel
theorem dX9_firstError_12 : decode cX9_firstError 12 = .ok (.aload_n 0, 1) := by decide +kernel
theorem dX9_firstError_13 : decode cX9_firstError 13 = .ok (.getfield 154, 3) := by decide +kernel
theorem dX9_firstError_16 : decode cX9_firstError 16 = .ok (.goto 7, 3) := by decide +kernel
theorem dX9_firstError_19 : decode cX9_firstError 19 = .ok (.aload_n 0, 1) := by decide +kernel
theorem dX9_firstError_20 : decode cX9_firstError 20 = .ok (.getfield 176, 3) := by decide +kernel
theorem dX9_firstError_23 : decode cX9_firstError 23 = .ok (.ireturn, 1) := by decide +kernel
theorem dX9_allRows_0 : decode cX9_allRows 0 = .ok (.aload_n 0, 1) := by decide +kernel
theorem dX9_allRows_1 : decode cX9_allRows 1 = .ok (.iconst 0, 1) := by decide +kernel
theorem dX9_allRows_2 : decode cX9_allRows 2 = .ok (.invokevirtual 70, 3) := by decide +kernel
theorem dX9_allRows_5 : decode cX9_allRows 5 = .ok (.aload_n 0, 1) := by decide +kernel
theorem dX9_allRows_6 : decode cX9_allRows 6 = .ok (.iconst 1, 1) := by decide +kernel
theorem dX9_allRows_7 : decode cX9_allRows 7 = .ok (.invokevirtual 70, 3) := by decide +kernel
theorem dX9_allRows_10 : decode cX9_allRows 10 = .ok (.iadd, 1) := by decide +kernel
theorem dX9_allRows_11 : decode cX9_allRows 11 = .ok (.ireturn, 1) := by decide +kernel
theorem dX9_undo_0 : decode cX9_undo 0 = .ok (.aload_n 0, 1) := by decide +kernel
theorem dX9_undo_1 : decode cX9_undo 1 = .ok (.iconst 0, 1) := by decide +kernel
theorem dX9_undo_2 : decode cX9_undo 2 = .ok (.putfield 47, 3) := by decide +kernel
theorem dX9_undo_5 : decode cX9_undo 5 = .ok (.aload_n 0, 1) := by decide +kernel
theorem dX9_undo_6 : decode cX9_undo 6 = .ok (.getfield 51, 3) := by decide +kernel
theorem dX9_undo_9 : decode cX9_undo 9 = .ok (.ifCond .ne 9, 3) := by decide +kernel
theorem dX9_undo_12 : decode cX9_undo 12 = .ok (.aload_n 0, 1) := by decide +kernel
theorem dX9_undo_13 : decode cX9_undo 13 = .ok (.iconst 1, 1) := by decide +kernel
theorem dX9_undo_14 : decode cX9_undo 14 = .ok (.invokevirtual 119, 3) := by decide +kernel
theorem dX9_undo_17 : decode cX9_undo 17 = .ok (.ireturn, 1) := by decide +kernel
theorem dX9_undo_18 : decode cX9_undo 18 = .ok (.aload_n 0, 1) := by decide +kernel
theorem dX9_undo_19 : decode cX9_undo 19 = .ok (.dup, 1) := by decide +kernel
theorem dX9_undo_20 : decode cX9_undo 20 = .ok (.getfield 51, 3) := by decide +kernel
theorem dX9_undo_23 : decode cX9_undo 23 = .ok (.iconst 1, 1) := by decide +kernel
theorem dX9_undo_24 : decode cX9_undo 24 = .ok (.isub, 1) := by decide +kernel
theorem dX9_undo_25 : decode cX9_undo 25 = .ok (.putfield 51, 3) := by decide +kernel
theorem dX9_undo_28 : decode cX9_undo 28 = .ok (.aload_n 0, 1) := by decide +kernel
theorem dX9_undo_29 : decode cX9_undo 29 = .ok (.getfield 13, 3) := by decide +kernel
theorem dX9_undo_32 : decode cX9_undo 32 = .ok (.sipush 619, 3) := by decide +kernel
theorem dX9_undo_35 : decode cX9_undo 35 = .ok (.aload_n 0, 1) := by decide +kernel
theorem dX9_undo_36 : decode cX9_undo 36 = .ok (.getfield 51, 3) := by decide +kernel
theorem dX9_undo_39 : decode cX9_undo 39 = .ok (.imul, 1) := by decide +kernel
theorem dX9_undo_40 : decode cX9_undo 40 = .ok (.aload_n 0, 1) := by decide +kernel
theorem dX9_undo_41 : decode cX9_undo 41 = .ok (.getfield 7, 3) := by decide +kernel
theorem dX9_undo_44 : decode cX9_undo 44 = .ok (.iconst 0, 1) := by decide +kernel
theorem dX9_undo_45 : decode cX9_undo 45 = .ok (.invokestatic 54, 3) := by decide +kernel
theorem dX9_undo_48 : decode cX9_undo 48 = .ok (.aload_n 0, 1) := by decide +kernel
theorem dX9_undo_49 : decode cX9_undo 49 = .ok (.getfield 51, 3) := by decide +kernel
theorem dX9_undo_52 : decode cX9_undo 52 = .ok (.ireturn, 1) := by decide +kernel
theorem dX9_keep_0 : decode cX9_keep 0 = .ok (.aload_n 0, 1) := by decide +kernel
theorem dX9_keep_1 : decode cX9_keep 1 = .ok (.iconst 0, 1) := by decide +kernel
theorem dX9_keep_2 : decode cX9_keep 2 = .ok (.putfield 47, 3) := by decide +kernel
theorem dX9_keep_5 : decode cX9_keep 5 = .ok (.iload_n 1, 1) := by decide +kernel
theorem dX9_keep_6 : decode cX9_keep 6 = .ok (.iconst 0, 1) := by decide +kernel
theorem dX9_keep_7 : decode cX9_keep 7 = .ok (.iconst 1, 1) := by decide +kernel
theorem dX9_keep_8 : decode cX9_keep 8 = .ok (.invokestatic 62, 3) := by decide +kernel
theorem dX9_keep_11 : decode cX9_keep 11 = .ok (.ifCond .ne 9, 3) := by decide +kernel
theorem dX9_keep_14 : decode cX9_keep 14 = .ok (.aload_n 0, 1) := by decide +kernel
theorem dX9_keep_15 : decode cX9_keep 15 = .ok (.iconst 1, 1) := by decide +kernel
theorem dX9_keep_16 : decode cX9_keep 16 = .ok (.invokevirtual 119, 3) := by decide +kernel
theorem dX9_keep_19 : decode cX9_keep 19 = .ok (.ireturn, 1) := by decide +kernel
theorem dX9_keep_20 : decode cX9_keep 20 = .ok (.aload_n 0, 1) := by decide +kernel
theorem dX9_keep_21 : decode cX9_keep 21 = .ok (.getfield 7, 3) := by decide +kernel
theorem dX9_keep_24 : decode cX9_keep 24 = .ok (.iconst 0, 1) := by decide +kernel
theorem dX9_keep_25 : decode cX9_keep 25 = .ok (.aload_n 0, 1) := by decide +kernel
theorem dX9_keep_26 : decode cX9_keep 26 = .ok (.getfield 16, 3) := by decide +kernel
theorem dX9_keep_29 : decode cX9_keep 29 = .ok (.sipush 619, 3) := by decide +kernel
theorem dX9_keep_32 : decode cX9_keep 32 = .ok (.iload_n 1, 1) := by decide +kernel
theorem dX9_keep_33 : decode cX9_keep 33 = .ok (.imul, 1) := by decide +kernel
theorem dX9_keep_34 : decode cX9_keep 34 = .ok (.invokestatic 54, 3) := by decide +kernel
theorem dX9_keep_37 : decode cX9_keep 37 = .ok (.aload_n 0, 1) := by decide +kernel
theorem dX9_keep_38 : decode cX9_keep 38 = .ok (.getfield 19, 3) := by decide +kernel
theorem dX9_keep_41 : decode cX9_keep 41 = .ok (.iload_n 1, 1) := by decide +kernel
theorem dX9_keep_42 : decode cX9_keep 42 = .ok (.iconst 1, 1) := by decide +kernel
theorem dX9_keep_43 : decode cX9_keep 43 = .ok (.bastore, 1) := by decide +kernel
theorem dX9_keep_44 : decode cX9_keep 44 = .ok (.aload_n 0, 1) := by decide +kernel
theorem dX9_keep_45 : decode cX9_keep 45 = .ok (.invokevirtual 221, 3) := by decide +kernel
theorem dX9_keep_48 : decode cX9_keep 48 = .ok (.ireturn, 1) := by decide +kernel
theorem dX9_goBack_0 : decode cX9_goBack 0 = .ok (.aload_n 0, 1) := by decide +kernel
theorem dX9_goBack_1 : decode cX9_goBack 1 = .ok (.iconst 0, 1) := by decide +kernel
theorem dX9_goBack_2 : decode cX9_goBack 2 = .ok (.putfield 47, 3) := by decide +kernel
theorem dX9_goBack_5 : decode cX9_goBack 5 = .ok (.iload_n 1, 1) := by decide +kernel
theorem dX9_goBack_6 : decode cX9_goBack 6 = .ok (.iconst 0, 1) := by decide +kernel
theorem dX9_goBack_7 : decode cX9_goBack 7 = .ok (.iconst 1, 1) := by decide +kernel
theorem dX9_goBack_8 : decode cX9_goBack 8 = .ok (.invokestatic 62, 3) := by decide +kernel
theorem dX9_goBack_11 : decode cX9_goBack 11 = .ok (.ifCond .ne 9, 3) := by decide +kernel
theorem dX9_goBack_14 : decode cX9_goBack 14 = .ok (.aload_n 0, 1) := by decide +kernel
theorem dX9_goBack_15 : decode cX9_goBack 15 = .ok (.iconst 1, 1) := by decide +kernel
theorem dX9_goBack_16 : decode cX9_goBack 16 = .ok (.invokevirtual 119, 3) := by decide +kernel
theorem dX9_goBack_19 : decode cX9_goBack 19 = .ok (.ireturn, 1) := by decide +kernel
theorem dX9_goBack_20 : decode cX9_goBack 20 = .ok (.aload_n 0, 1) := by decide +kernel
theorem dX9_goBack_21 : decode cX9_goBack 21 = .ok (.getfield 19, 3) := by decide +kernel
theorem dX9_goBack_24 : decode cX9_goBack 24 = .ok (.iload_n 1, 1) := by decide +kernel
theorem dX9_goBack_25 : decode cX9_goBack 25 = .ok (.baload, 1) := by decide +kernel
theorem dX9_goBack_26 : decode cX9_goBack 26 = .ok (.ifCond .ne 9, 3) := by decide +kernel
theorem dX9_goBack_29 : decode cX9_goBack 29 = .ok (.aload_n 0, 1) := by decide +kernel
theorem dX9_goBack_30 : decode cX9_goBack 30 = .ok (.iconst 2, 1) := by decide +kernel
theorem dX9_goBack_31 : decode cX9_goBack 31 = .ok (.invokevirtual 119, 3) := by decide +kernel
theorem dX9_goBack_34 : decode cX9_goBack 34 = .ok (.ireturn, 1) := by decide +kernel
theorem dX9_goBack_35 : decode cX9_goBack 35 = .ok (.aload_n 0, 1) := by decide +kernel
theorem dX9_goBack_36 : decode cX9_goBack 36 = .ok (.invokevirtual 125, 3) := by decide +kernel
theorem dX9_goBack_39 : decode cX9_goBack 39 = .ok (.aload_n 0, 1) := by decide +kernel
theorem dX9_goBack_40 : decode cX9_goBack 40 = .ok (.getfield 16, 3) := by decide +kernel
theorem dX9_goBack_43 : decode cX9_goBack 43 = .ok (.sipush 619, 3) := by decide +kernel
theorem dX9_goBack_46 : decode cX9_goBack 46 = .ok (.iload_n 1, 1) := by decide +kernel
theorem dX9_goBack_47 : decode cX9_goBack 47 = .ok (.imul, 1) := by decide +kernel
theorem dX9_goBack_48 : decode cX9_goBack 48 = .ok (.aload_n 0, 1) := by decide +kernel
theorem dX9_goBack_49 : decode cX9_goBack 49 = .ok (.getfield 7, 3) := by decide +kernel
theorem dX9_goBack_52 : decode cX9_goBack 52 = .ok (.iconst 0, 1) := by decide +kernel
theorem dX9_goBack_53 : decode cX9_goBack 53 = .ok (.invokestatic 54, 3) := by decide +kernel
theorem dX9_goBack_56 : decode cX9_goBack 56 = .ok (.aload_n 0, 1) := by decide +kernel
theorem dX9_goBack_57 : decode cX9_goBack 57 = .ok (.invokevirtual 221, 3) := by decide +kernel
theorem dX9_goBack_60 : decode cX9_goBack 60 = .ok (.ireturn, 1) := by decide +kernel
theorem dX9_cell_0 : decode cX9_cell 0 = .ok (.aload_n 0, 1) := by decide +kernel
theorem dX9_cell_1 : decode cX9_cell 1 = .ok (.iconst 0, 1) := by decide +kernel
theorem dX9_cell_2 : decode cX9_cell 2 = .ok (.putfield 47, 3) := by decide +kernel
theorem dX9_cell_5 : decode cX9_cell 5 = .ok (.aload_n 0, 1) := by decide +kernel
theorem dX9_cell_6 : decode cX9_cell 6 = .ok (.iload_n 1, 1) := by decide +kernel
theorem dX9_cell_7 : decode cX9_cell 7 = .ok (.iload_n 2, 1) := by decide +kernel
theorem dX9_cell_8 : decode cX9_cell 8 = .ok (.invokevirtual 132, 3) := by decide +kernel
theorem dX9_cell_11 : decode cX9_cell 11 = .ok (.ifCond .eq 20, 3) := by decide +kernel
theorem dX9_cell_14 : decode cX9_cell 14 = .ok (.iload_n 3, 1) := by decide +kernel
theorem dX9_cell_15 : decode cX9_cell 15 = .ok (.invokestatic 135, 3) := by decide +kernel
theorem dX9_cell_18 : decode cX9_cell 18 = .ok (.ifCond .eq 13, 3) := by decide +kernel
theorem dX9_cell_21 : decode cX9_cell 21 = .ok (.aload_n 0, 1) := by decide +kernel
theorem dX9_cell_22 : decode cX9_cell 22 = .ok (.iload_n 1, 1) := by decide +kernel
theorem dX9_cell_23 : decode cX9_cell 23 = .ok (.iload_n 2, 1) := by decide +kernel
theorem dX9_cell_24 : decode cX9_cell 24 = .ok (.iload_n 3, 1) := by decide +kernel
theorem dX9_cell_25 : decode cX9_cell 25 = .ok (.invokevirtual 74, 3) := by decide +kernel
theorem dX9_cell_28 : decode cX9_cell 28 = .ok (.goto 8, 3) := by decide +kernel
theorem dX9_cell_31 : decode cX9_cell 31 = .ok (.aload_n 0, 1) := by decide +kernel
theorem dX9_cell_32 : decode cX9_cell 32 = .ok (.iconst 1, 1) := by decide +kernel
theorem dX9_cell_33 : decode cX9_cell 33 = .ok (.invokevirtual 119, 3) := by decide +kernel
theorem dX9_cell_36 : decode cX9_cell 36 = .ok (.ireturn, 1) := by decide +kernel
theorem dX9_known_0 : decode cX9_known 0 = .ok (.iconst 0, 1) := by decide +kernel
theorem dX9_known_1 : decode cX9_known 1 = .ok (.istore_n 3, 1) := by decide +kernel
theorem dX9_known_2 : decode cX9_known 2 = .ok (.iconst 0, 1) := by decide +kernel
theorem dX9_known_3 : decode cX9_known 3 = .ok (.istore 4, 2) := by decide +kernel
theorem dX9_known_5 : decode cX9_known 5 = .ok (.iload 4, 2) := by decide +kernel
theorem dX9_known_7 : decode cX9_known 7 = .ok (.aload_n 0, 1) := by decide +kernel
theorem dX9_known_8 : decode cX9_known 8 = .ok (.iload_n 1, 1) := by decide +kernel
theorem dX9_known_9 : decode cX9_known 9 = .ok (.invokevirtual 70, 3) := by decide +kernel
theorem dX9_known_12 : decode cX9_known 12 = .ok (.if_icmp .ge 29, 3) := by decide +kernel
theorem dX9_known_15 : decode cX9_known 15 = .ok (.iload_n 3, 1) := by decide +kernel
theorem dX9_known_16 : decode cX9_known 16 = .ok (.aload_n 0, 1) := by decide +kernel
theorem dX9_known_17 : decode cX9_known 17 = .ok (.iload_n 1, 1) := by decide +kernel
theorem dX9_known_18 : decode cX9_known 18 = .ok (.iload 4, 2) := by decide +kernel
theorem dX9_known_20 : decode cX9_known 20 = .ok (.iload_n 2, 1) := by decide +kernel
theorem dX9_known_21 : decode cX9_known 21 = .ok (.invokevirtual 74, 3) := by decide +kernel
theorem dX9_known_24 : decode cX9_known 24 = .ok (.iconst (-1), 1) := by decide +kernel
theorem dX9_known_25 : decode cX9_known 25 = .ok (.if_icmp .ne 7, 3) := by decide +kernel
theorem dX9_known_28 : decode cX9_known 28 = .ok (.iconst 0, 1) := by decide +kernel
theorem dX9_known_29 : decode cX9_known 29 = .ok (.goto 4, 3) := by decide +kernel
theorem dX9_known_32 : decode cX9_known 32 = .ok (.iconst 1, 1) := by decide +kernel
theorem dX9_known_33 : decode cX9_known 33 = .ok (.iadd, 1) := by decide +kernel
theorem dX9_known_34 : decode cX9_known 34 = .ok (.istore_n 3, 1) := by decide +kernel
theorem dX9_known_35 : decode cX9_known 35 = .ok (.iinc 4 1, 3) := by decide +kernel
theorem dX9_known_38 : decode cX9_known 38 = .ok (.goto (-33), 3) := by decide +kernel
theorem dX9_known_41 : decode cX9_known 41 = .ok (.iload_n 3, 1) := by decide +kernel
theorem dX9_known_42 : decode cX9_known 42 = .ok (.ireturn, 1) := by decide +kernel
theorem dX9_sum_0 : decode cX9_sum 0 = .ok (.iconst 0, 1) := by decide +kernel
theorem dX9_sum_1 : decode cX9_sum 1 = .ok (.istore 4, 2) := by decide +kernel
theorem dX9_sum_3 : decode cX9_sum 3 = .ok (.iconst 0, 1) := by decide +kernel
theorem dX9_sum_4 : decode cX9_sum 4 = .ok (.istore 5, 2) := by decide +kernel
theorem dX9_sum_6 : decode cX9_sum 6 = .ok (.iload 5, 2) := by decide +kernel
theorem dX9_sum_8 : decode cX9_sum 8 = .ok (.aload_n 0, 1) := by decide +kernel
theorem dX9_sum_9 : decode cX9_sum 9 = .ok (.iload_n 1, 1) := by decide +kernel
theorem dX9_sum_10 : decode cX9_sum 10 = .ok (.invokevirtual 70, 3) := by decide +kernel
theorem dX9_sum_13 : decode cX9_sum 13 = .ok (.if_icmp .ge 46, 3) := by decide +kernel
theorem dX9_sum_16 : decode cX9_sum 16 = .ok (.aload_n 0, 1) := by decide +kernel
theorem dX9_sum_17 : decode cX9_sum 17 = .ok (.iload_n 1, 1) := by decide +kernel
theorem dX9_sum_18 : decode cX9_sum 18 = .ok (.iload 5, 2) := by decide +kernel
theorem dX9_sum_20 : decode cX9_sum 20 = .ok (.iload_n 2, 1) := by decide +kernel
theorem dX9_sum_21 : decode cX9_sum 21 = .ok (.invokevirtual 74, 3) := by decide +kernel
theorem dX9_sum_24 : decode cX9_sum 24 = .ok (.istore 6, 2) := by decide +kernel
theorem dX9_sum_26 : decode cX9_sum 26 = .ok (.iload 4, 2) := by decide +kernel
theorem dX9_sum_28 : decode cX9_sum 28 = .ok (.iload_n 3, 1) := by decide +kernel
theorem dX9_sum_29 : decode cX9_sum 29 = .ok (.iload 5, 2) := by decide +kernel
theorem dX9_sum_31 : decode cX9_sum 31 = .ok (.ishr, 1) := by decide +kernel
theorem dX9_sum_32 : decode cX9_sum 32 = .ok (.iconst 1, 1) := by decide +kernel
theorem dX9_sum_33 : decode cX9_sum 33 = .ok (.iand, 1) := by decide +kernel
theorem dX9_sum_34 : decode cX9_sum 34 = .ok (.iconst 1, 1) := by decide +kernel
theorem dX9_sum_35 : decode cX9_sum 35 = .ok (.if_icmp .ne 14, 3) := by decide +kernel
theorem dX9_sum_38 : decode cX9_sum 38 = .ok (.iload 6, 2) := by decide +kernel
theorem dX9_sum_40 : decode cX9_sum 40 = .ok (.iconst (-1), 1) := by decide +kernel
theorem dX9_sum_41 : decode cX9_sum 41 = .ok (.if_icmp .eq 8, 3) := by decide +kernel
theorem dX9_sum_44 : decode cX9_sum 44 = .ok (.iload 6, 2) := by decide +kernel
theorem dX9_sum_46 : decode cX9_sum 46 = .ok (.goto 4, 3) := by decide +kernel
theorem dX9_sum_49 : decode cX9_sum 49 = .ok (.iconst 0, 1) := by decide +kernel
theorem dX9_sum_50 : decode cX9_sum 50 = .ok (.iadd, 1) := by decide +kernel
theorem dX9_sum_51 : decode cX9_sum 51 = .ok (.istore 4, 2) := by decide +kernel
theorem dX9_sum_53 : decode cX9_sum 53 = .ok (.iinc 5 1, 3) := by decide +kernel
theorem dX9_sum_56 : decode cX9_sum 56 = .ok (.goto (-50), 3) := by decide +kernel
theorem dX9_sum_59 : decode cX9_sum 59 = .ok (.iload 4, 2) := by decide +kernel
theorem dX9_sum_61 : decode cX9_sum 61 = .ok (.ireturn, 1) := by decide +kernel
theorem dX9_holds_0 : decode cX9_holds 0 = .ok (.iconst 0, 1) := by decide +kernel
theorem dX9_holds_1 : decode cX9_holds 1 = .ok (.istore 4, 2) := by decide +kernel
theorem dX9_holds_3 : decode cX9_holds 3 = .ok (.iconst 0, 1) := by decide +kernel
theorem dX9_holds_4 : decode cX9_holds 4 = .ok (.istore 5, 2) := by decide +kernel
theorem dX9_holds_6 : decode cX9_holds 6 = .ok (.iload 5, 2) := by decide +kernel
theorem dX9_holds_8 : decode cX9_holds 8 = .ok (.aload_n 0, 1) := by decide +kernel
theorem dX9_holds_9 : decode cX9_holds 9 = .ok (.iload_n 1, 1) := by decide +kernel
theorem dX9_holds_10 : decode cX9_holds 10 = .ok (.invokevirtual 70, 3) := by decide +kernel
theorem dX9_holds_13 : decode cX9_holds 13 = .ok (.if_icmp .ge 34, 3) := by decide +kernel
theorem dX9_holds_16 : decode cX9_holds 16 = .ok (.iload 4, 2) := by decide +kernel
theorem dX9_holds_18 : decode cX9_holds 18 = .ok (.aload_n 0, 1) := by decide +kernel
theorem dX9_holds_19 : decode cX9_holds 19 = .ok (.iload_n 1, 1) := by decide +kernel
theorem dX9_holds_20 : decode cX9_holds 20 = .ok (.iload 5, 2) := by decide +kernel
theorem dX9_holds_22 : decode cX9_holds 22 = .ok (.iload_n 2, 1) := by decide +kernel
theorem dX9_holds_23 : decode cX9_holds 23 = .ok (.invokevirtual 74, 3) := by decide +kernel
theorem dX9_holds_26 : decode cX9_holds 26 = .ok (.iload_n 3, 1) := by decide +kernel
theorem dX9_holds_27 : decode cX9_holds 27 = .ok (.if_icmp .ne 10, 3) := by decide +kernel
theorem dX9_holds_30 : decode cX9_holds 30 = .ok (.iconst 1, 1) := by decide +kernel
theorem dX9_holds_31 : decode cX9_holds 31 = .ok (.iload 5, 2) := by decide +kernel
theorem dX9_holds_33 : decode cX9_holds 33 = .ok (.ishl, 1) := by decide +kernel
theorem dX9_holds_34 : decode cX9_holds 34 = .ok (.goto 4, 3) := by decide +kernel
theorem dX9_holds_37 : decode cX9_holds 37 = .ok (.iconst 0, 1) := by decide +kernel
theorem dX9_holds_38 : decode cX9_holds 38 = .ok (.ior, 1) := by decide +kernel
theorem dX9_holds_39 : decode cX9_holds 39 = .ok (.istore 4, 2) := by decide +kernel
theorem dX9_holds_41 : decode cX9_holds 41 = .ok (.iinc 5 1, 3) := by decide +kernel
theorem dX9_holds_44 : decode cX9_holds 44 = .ok (.goto (-38), 3) := by decide +kernel
theorem dX9_holds_47 : decode cX9_holds 47 = .ok (.iload 4, 2) := by decide +kernel
theorem dX9_holds_49 : decode cX9_holds 49 = .ok (.ireturn, 1) := by decide +kernel
theorem dX9_above_0 : decode cX9_above 0 = .ok (.iload_n 3, 1) := by decide +kernel
theorem dX9_above_1 : decode cX9_above 1 = .ok (.iconst 1, 1) := by decide +kernel
theorem dX9_above_2 : decode cX9_above 2 = .ok (.iadd, 1) := by decide +kernel
theorem dX9_above_3 : decode cX9_above 3 = .ok (.istore 4, 2) := by decide +kernel
theorem dX9_above_5 : decode cX9_above 5 = .ok (.iload 4, 2) := by decide +kernel
theorem dX9_above_7 : decode cX9_above 7 = .ok (.bipush 99, 2) := by decide +kernel
theorem dX9_above_9 : decode cX9_above 9 = .ok (.if_icmp .gt 23, 3) := by decide +kernel
theorem dX9_above_12 : decode cX9_above 12 = .ok (.aload_n 0, 1) := by decide +kernel
theorem dX9_above_13 : decode cX9_above 13 = .ok (.iload_n 1, 1) := by decide +kernel
theorem dX9_above_14 : decode cX9_above 14 = .ok (.iload_n 2, 1) := by decide +kernel
theorem dX9_above_15 : decode cX9_above 15 = .ok (.iload 4, 2) := by decide +kernel
theorem dX9_above_17 : decode cX9_above 17 = .ok (.invokevirtual 225, 3) := by decide +kernel
theorem dX9_above_20 : decode cX9_above 20 = .ok (.ifCond .eq 6, 3) := by decide +kernel
theorem dX9_above_23 : decode cX9_above 23 = .ok (.iload 4, 2) := by decide +kernel
theorem dX9_above_25 : decode cX9_above 25 = .ok (.ireturn, 1) := by decide +kernel
theorem dX9_above_26 : decode cX9_above 26 = .ok (.iinc 4 1, 3) := by decide +kernel
theorem dX9_above_29 : decode cX9_above 29 = .ok (.goto (-24), 3) := by decide +kernel
theorem dX9_above_32 : decode cX9_above 32 = .ok (.bipush (-2), 2) := by decide +kernel
theorem dX9_above_34 : decode cX9_above 34 = .ok (.ireturn, 1) := by decide +kernel
theorem dX9_greatest_0 : decode cX9_greatest 0 = .ok (.bipush 99, 2) := by decide +kernel
theorem dX9_greatest_2 : decode cX9_greatest 2 = .ok (.istore_n 3, 1) := by decide +kernel
theorem dX9_greatest_3 : decode cX9_greatest 3 = .ok (.iload_n 3, 1) := by decide +kernel
theorem dX9_greatest_4 : decode cX9_greatest 4 = .ok (.ifCond .lt 21, 3) := by decide +kernel
theorem dX9_greatest_7 : decode cX9_greatest 7 = .ok (.aload_n 0, 1) := by decide +kernel
theorem dX9_greatest_8 : decode cX9_greatest 8 = .ok (.iload_n 1, 1) := by decide +kernel
theorem dX9_greatest_9 : decode cX9_greatest 9 = .ok (.iload_n 2, 1) := by decide +kernel
theorem dX9_greatest_10 : decode cX9_greatest 10 = .ok (.iload_n 3, 1) := by decide +kernel
theorem dX9_greatest_11 : decode cX9_greatest 11 = .ok (.invokevirtual 225, 3) := by decide +kernel
theorem dX9_greatest_14 : decode cX9_greatest 14 = .ok (.ifCond .eq 5, 3) := by decide +kernel
theorem dX9_greatest_17 : decode cX9_greatest 17 = .ok (.iload_n 3, 1) := by decide +kernel
theorem dX9_greatest_18 : decode cX9_greatest 18 = .ok (.ireturn, 1) := by decide +kernel
theorem dX9_greatest_19 : decode cX9_greatest 19 = .ok (.iinc 3 (-1), 3) := by decide +kernel
theorem dX9_greatest_22 : decode cX9_greatest 22 = .ok (.goto (-19), 3) := by decide +kernel
theorem dX9_greatest_25 : decode cX9_greatest 25 = .ok (.bipush (-2), 2) := by decide +kernel
theorem dX9_greatest_27 : decode cX9_greatest 27 = .ok (.ireturn, 1) := by decide +kernel
theorem dX9_unlike_0 : decode cX9_unlike 0 = .ok (.iconst 0, 1) := by decide +kernel
theorem dX9_unlike_1 : decode cX9_unlike 1 = .ok (.istore_n 3, 1) := by decide +kernel
theorem dX9_unlike_2 : decode cX9_unlike 2 = .ok (.aload_n 0, 1) := by decide +kernel
theorem dX9_unlike_3 : decode cX9_unlike 3 = .ok (.iload_n 1, 1) := by decide +kernel
theorem dX9_unlike_4 : decode cX9_unlike 4 = .ok (.iload_n 2, 1) := by decide +kernel
theorem dX9_unlike_5 : decode cX9_unlike 5 = .ok (.iconst (-1), 1) := by decide +kernel
theorem dX9_unlike_6 : decode cX9_unlike 6 = .ok (.invokevirtual 228, 3) := by decide +kernel
theorem dX9_unlike_9 : decode cX9_unlike 9 = .ok (.istore 4, 2) := by decide +kernel
theorem dX9_unlike_11 : decode cX9_unlike 11 = .ok (.iload 4, 2) := by decide +kernel
theorem dX9_unlike_13 : decode cX9_unlike 13 = .ok (.bipush (-2), 2) := by decide +kernel
theorem dX9_unlike_15 : decode cX9_unlike 15 = .ok (.if_icmp .eq 19, 3) := by decide +kernel
theorem dX9_unlike_18 : decode cX9_unlike 18 = .ok (.iinc 3 1, 3) := by decide +kernel
theorem dX9_unlike_21 : decode cX9_unlike 21 = .ok (.aload_n 0, 1) := by decide +kernel
theorem dX9_unlike_22 : decode cX9_unlike 22 = .ok (.iload_n 1, 1) := by decide +kernel
theorem dX9_unlike_23 : decode cX9_unlike 23 = .ok (.iload_n 2, 1) := by decide +kernel
theorem dX9_unlike_24 : decode cX9_unlike 24 = .ok (.iload 4, 2) := by decide +kernel
theorem dX9_unlike_26 : decode cX9_unlike 26 = .ok (.invokevirtual 228, 3) := by decide +kernel
theorem dX9_unlike_29 : decode cX9_unlike 29 = .ok (.istore 4, 2) := by decide +kernel
theorem dX9_unlike_31 : decode cX9_unlike 31 = .ok (.goto (-20), 3) := by decide +kernel
theorem dX9_unlike_34 : decode cX9_unlike 34 = .ok (.iload_n 3, 1) := by decide +kernel
theorem dX9_unlike_35 : decode cX9_unlike 35 = .ok (.ireturn, 1) := by decide +kernel
theorem dX9_aboutColumn_0 : decode cX9_aboutColumn 0 = .ok (.aload_n 0, 1) := by decide +kernel
theorem dX9_aboutColumn_1 : decode cX9_aboutColumn 1 = .ok (.iload_n 1, 1) := by decide +kernel
theorem dX9_aboutColumn_2 : decode cX9_aboutColumn 2 = .ok (.iload_n 2, 1) := by decide +kernel
theorem dX9_aboutColumn_3 : decode cX9_aboutColumn 3 = .ok (.invokevirtual 231, 3) := by decide +kernel
theorem dX9_aboutColumn_6 : decode cX9_aboutColumn 6 = .ok (.istore 4, 2) := by decide +kernel
theorem dX9_aboutColumn_8 : decode cX9_aboutColumn 8 = .ok (.iload_n 3, 1) := by decide +kernel
theorem dX9_aboutColumn_9 : decode cX9_aboutColumn 9 = .ok (.tableswitch 81 0 5 #[39, 42, 51, 59, 67, 74], 39) := by decide +kernel
theorem dX9_aboutColumn_48 : decode cX9_aboutColumn 48 = .ok (.iload 4, 2) := by decide +kernel
theorem dX9_aboutColumn_50 : decode cX9_aboutColumn 50 = .ok (.ireturn, 1) := by decide +kernel
theorem dX9_aboutColumn_51 : decode cX9_aboutColumn 51 = .ok (.aload_n 0, 1) := by decide +kernel
theorem dX9_aboutColumn_52 : decode cX9_aboutColumn 52 = .ok (.iload_n 1, 1) := by decide +kernel
theorem dX9_aboutColumn_53 : decode cX9_aboutColumn 53 = .ok (.invokevirtual 70, 3) := by decide +kernel
theorem dX9_aboutColumn_56 : decode cX9_aboutColumn 56 = .ok (.iload 4, 2) := by decide +kernel
theorem dX9_aboutColumn_58 : decode cX9_aboutColumn 58 = .ok (.isub, 1) := by decide +kernel
theorem dX9_aboutColumn_59 : decode cX9_aboutColumn 59 = .ok (.ireturn, 1) := by decide +kernel
theorem dX9_aboutColumn_60 : decode cX9_aboutColumn 60 = .ok (.aload_n 0, 1) := by decide +kernel
theorem dX9_aboutColumn_61 : decode cX9_aboutColumn 61 = .ok (.iload_n 1, 1) := by decide +kernel
theorem dX9_aboutColumn_62 : decode cX9_aboutColumn 62 = .ok (.iload_n 2, 1) := by decide +kernel
theorem dX9_aboutColumn_63 : decode cX9_aboutColumn 63 = .ok (.iconst (-1), 1) := by decide +kernel
theorem dX9_aboutColumn_64 : decode cX9_aboutColumn 64 = .ok (.invokevirtual 234, 3) := by decide +kernel
theorem dX9_aboutColumn_67 : decode cX9_aboutColumn 67 = .ok (.ireturn, 1) := by decide +kernel
theorem dX9_aboutColumn_68 : decode cX9_aboutColumn 68 = .ok (.aload_n 0, 1) := by decide +kernel
theorem dX9_aboutColumn_69 : decode cX9_aboutColumn 69 = .ok (.iload_n 1, 1) := by decide +kernel
theorem dX9_aboutColumn_70 : decode cX9_aboutColumn 70 = .ok (.iload_n 2, 1) := by decide +kernel
theorem dX9_aboutColumn_71 : decode cX9_aboutColumn 71 = .ok (.iconst (-1), 1) := by decide +kernel
theorem dX9_aboutColumn_72 : decode cX9_aboutColumn 72 = .ok (.invokevirtual 228, 3) := by decide +kernel
theorem dX9_aboutColumn_75 : decode cX9_aboutColumn 75 = .ok (.ireturn, 1) := by decide +kernel
theorem dX9_aboutColumn_76 : decode cX9_aboutColumn 76 = .ok (.aload_n 0, 1) := by decide +kernel
theorem dX9_aboutColumn_77 : decode cX9_aboutColumn 77 = .ok (.iload_n 1, 1) := by decide +kernel
theorem dX9_aboutColumn_78 : decode cX9_aboutColumn 78 = .ok (.iload_n 2, 1) := by decide +kernel
theorem dX9_aboutColumn_79 : decode cX9_aboutColumn 79 = .ok (.invokevirtual 237, 3) := by decide +kernel
theorem dX9_aboutColumn_82 : decode cX9_aboutColumn 82 = .ok (.ireturn, 1) := by decide +kernel
theorem dX9_aboutColumn_83 : decode cX9_aboutColumn 83 = .ok (.aload_n 0, 1) := by decide +kernel
theorem dX9_aboutColumn_84 : decode cX9_aboutColumn 84 = .ok (.iload_n 1, 1) := by decide +kernel
theorem dX9_aboutColumn_85 : decode cX9_aboutColumn 85 = .ok (.iload_n 2, 1) := by decide +kernel
theorem dX9_aboutColumn_86 : decode cX9_aboutColumn 86 = .ok (.invokevirtual 240, 3) := by decide +kernel
theorem dX9_aboutColumn_89 : decode cX9_aboutColumn 89 = .ok (.ireturn, 1) := by decide +kernel
theorem dX9_aboutColumn_90 : decode cX9_aboutColumn 90 = .ok (.iload 4, 2) := by decide +kernel
theorem dX9_aboutColumn_92 : decode cX9_aboutColumn 92 = .ok (.ifCond .ne 8, 3) := by decide +kernel
theorem dX9_aboutColumn_95 : decode cX9_aboutColumn 95 = .ok (.bipush (-2), 2) := by decide +kernel
theorem dX9_aboutColumn_97 : decode cX9_aboutColumn 97 = .ok (.goto 13, 3) := by decide +kernel
theorem dX9_aboutColumn_100 : decode cX9_aboutColumn 100 = .ok (.aload_n 0, 1) := by decide +kernel
theorem dX9_aboutColumn_101 : decode cX9_aboutColumn 101 = .ok (.iload_n 1, 1) := by decide +kernel
theorem dX9_aboutColumn_102 : decode cX9_aboutColumn 102 = .ok (.iload_n 2, 1) := by decide +kernel
theorem dX9_aboutColumn_103 : decode cX9_aboutColumn 103 = .ok (.iconst (-1), 1) := by decide +kernel
theorem dX9_aboutColumn_104 : decode cX9_aboutColumn 104 = .ok (.invokevirtual 234, 3) := by decide +kernel
theorem dX9_aboutColumn_107 : decode cX9_aboutColumn 107 = .ok (.iload 4, 2) := by decide +kernel
theorem dX9_aboutColumn_109 : decode cX9_aboutColumn 109 = .ok (.idiv, 1) := by decide +kernel
theorem dX9_aboutColumn_110 : decode cX9_aboutColumn 110 = .ok (.ireturn, 1) := by decide +kernel
theorem dX9_column_0 : decode cX9_column 0 = .ok (.aload_n 0, 1) := by decide +kernel
theorem dX9_column_1 : decode cX9_column 1 = .ok (.iconst 0, 1) := by decide +kernel
theorem dX9_column_2 : decode cX9_column 2 = .ok (.putfield 47, 3) := by decide +kernel
theorem dX9_column_5 : decode cX9_column 5 = .ok (.iload_n 1, 1) := by decide +kernel
theorem dX9_column_6 : decode cX9_column 6 = .ok (.invokestatic 66, 3) := by decide +kernel
theorem dX9_column_9 : decode cX9_column 9 = .ok (.ifCond .eq 10, 3) := by decide +kernel
theorem dX9_column_12 : decode cX9_column 12 = .ok (.iload_n 2, 1) := by decide +kernel
theorem dX9_column_13 : decode cX9_column 13 = .ok (.invokestatic 135, 3) := by decide +kernel
theorem dX9_column_16 : decode cX9_column 16 = .ok (.ifCond .ne 9, 3) := by decide +kernel
theorem dX9_column_19 : decode cX9_column 19 = .ok (.aload_n 0, 1) := by decide +kernel
theorem dX9_column_20 : decode cX9_column 20 = .ok (.iconst 1, 1) := by decide +kernel
theorem dX9_column_21 : decode cX9_column 21 = .ok (.invokevirtual 119, 3) := by decide +kernel
theorem dX9_column_24 : decode cX9_column 24 = .ok (.ireturn, 1) := by decide +kernel
theorem dX9_column_25 : decode cX9_column 25 = .ok (.iload_n 3, 1) := by decide +kernel
theorem dX9_column_26 : decode cX9_column 26 = .ok (.iconst 0, 1) := by decide +kernel
theorem dX9_column_27 : decode cX9_column 27 = .ok (.bipush 6, 2) := by decide +kernel
theorem dX9_column_29 : decode cX9_column 29 = .ok (.invokestatic 62, 3) := by decide +kernel
theorem dX9_column_32 : decode cX9_column 32 = .ok (.ifCond .eq 13, 3) := by decide +kernel
theorem dX9_column_35 : decode cX9_column 35 = .ok (.aload_n 0, 1) := by decide +kernel
theorem dX9_column_36 : decode cX9_column 36 = .ok (.iload_n 1, 1) := by decide +kernel
theorem dX9_column_37 : decode cX9_column 37 = .ok (.iload_n 2, 1) := by decide +kernel
theorem dX9_column_38 : decode cX9_column 38 = .ok (.iload_n 3, 1) := by decide +kernel
theorem dX9_column_39 : decode cX9_column 39 = .ok (.invokevirtual 243, 3) := by decide +kernel
theorem dX9_column_42 : decode cX9_column 42 = .ok (.goto 8, 3) := by decide +kernel
theorem dX9_column_45 : decode cX9_column 45 = .ok (.aload_n 0, 1) := by decide +kernel
theorem dX9_column_46 : decode cX9_column 46 = .ok (.iconst 2, 1) := by decide +kernel
theorem dX9_column_47 : decode cX9_column 47 = .ok (.invokevirtual 119, 3) := by decide +kernel
theorem dX9_column_50 : decode cX9_column 50 = .ok (.ireturn, 1) := by decide +kernel
theorem dX9_groupValue_0 : decode cX9_groupValue 0 = .ok (.iconst (-1), 1) := by decide +kernel
theorem dX9_groupValue_1 : decode cX9_groupValue 1 = .ok (.istore 4, 2) := by decide +kernel
theorem dX9_groupValue_3 : decode cX9_groupValue 3 = .ok (.iload_n 3, 1) := by decide +kernel
theorem dX9_groupValue_4 : decode cX9_groupValue 4 = .ok (.istore 5, 2) := by decide +kernel
theorem dX9_groupValue_6 : decode cX9_groupValue 6 = .ok (.aload_n 0, 1) := by decide +kernel
theorem dX9_groupValue_7 : decode cX9_groupValue 7 = .ok (.iload_n 1, 1) := by decide +kernel
theorem dX9_groupValue_8 : decode cX9_groupValue 8 = .ok (.iload_n 2, 1) := by decide +kernel
theorem dX9_groupValue_9 : decode cX9_groupValue 9 = .ok (.iload 4, 2) := by decide +kernel
theorem dX9_groupValue_11 : decode cX9_groupValue 11 = .ok (.invokevirtual 225, 3) := by decide +kernel
theorem dX9_groupValue_14 : decode cX9_groupValue 14 = .ok (.ifCond .ne 13, 3) := by decide +kernel
theorem dX9_groupValue_17 : decode cX9_groupValue 17 = .ok (.aload_n 0, 1) := by decide +kernel
theorem dX9_groupValue_18 : decode cX9_groupValue 18 = .ok (.iload_n 1, 1) := by decide +kernel
theorem dX9_groupValue_19 : decode cX9_groupValue 19 = .ok (.iload_n 2, 1) := by decide +kernel
theorem dX9_groupValue_20 : decode cX9_groupValue 20 = .ok (.iload 4, 2) := by decide +kernel
theorem dX9_groupValue_22 : decode cX9_groupValue 22 = .ok (.invokevirtual 228, 3) := by decide +kernel
theorem dX9_groupValue_25 : decode cX9_groupValue 25 = .ok (.istore 4, 2) := by decide +kernel
theorem dX9_groupValue_27 : decode cX9_groupValue 27 = .ok (.iload 4, 2) := by decide +kernel
theorem dX9_groupValue_29 : decode cX9_groupValue 29 = .ok (.bipush (-2), 2) := by decide +kernel
theorem dX9_groupValue_31 : decode cX9_groupValue 31 = .ok (.if_icmp .eq 24, 3) := by decide +kernel
theorem dX9_groupValue_34 : decode cX9_groupValue 34 = .ok (.iload 5, 2) := by decide +kernel
theorem dX9_groupValue_36 : decode cX9_groupValue 36 = .ok (.ifCond .le 19, 3) := by decide +kernel
theorem dX9_groupValue_39 : decode cX9_groupValue 39 = .ok (.aload_n 0, 1) := by decide +kernel
theorem dX9_groupValue_40 : decode cX9_groupValue 40 = .ok (.iload_n 1, 1) := by decide +kernel
theorem dX9_groupValue_41 : decode cX9_groupValue 41 = .ok (.iload_n 2, 1) := by decide +kernel
theorem dX9_groupValue_42 : decode cX9_groupValue 42 = .ok (.iload 4, 2) := by decide +kernel
theorem dX9_groupValue_44 : decode cX9_groupValue 44 = .ok (.invokevirtual 228, 3) := by decide +kernel
theorem dX9_groupValue_47 : decode cX9_groupValue 47 = .ok (.istore 4, 2) := by decide +kernel
theorem dX9_groupValue_49 : decode cX9_groupValue 49 = .ok (.iinc 5 (-1), 3) := by decide +kernel
theorem dX9_groupValue_52 : decode cX9_groupValue 52 = .ok (.goto (-25), 3) := by decide +kernel
theorem dX9_groupValue_55 : decode cX9_groupValue 55 = .ok (.iload 4, 2) := by decide +kernel
theorem dX9_groupValue_57 : decode cX9_groupValue 57 = .ok (.ireturn, 1) := by decide +kernel
theorem dX9_unknownIn_0 : decode cX9_unknownIn 0 = .ok (.iconst 0, 1) := by decide +kernel
theorem dX9_unknownIn_1 : decode cX9_unknownIn 1 = .ok (.istore_n 3, 1) := by decide +kernel
theorem dX9_unknownIn_2 : decode cX9_unknownIn 2 = .ok (.iconst 0, 1) := by decide +kernel
theorem dX9_unknownIn_3 : decode cX9_unknownIn 3 = .ok (.istore 4, 2) := by decide +kernel
theorem dX9_unknownIn_5 : decode cX9_unknownIn 5 = .ok (.iload 4, 2) := by decide +kernel
theorem dX9_unknownIn_7 : decode cX9_unknownIn 7 = .ok (.iconst 4, 1) := by decide +kernel
theorem dX9_unknownIn_8 : decode cX9_unknownIn 8 = .ok (.aload_n 0, 1) := by decide +kernel
theorem dX9_unknownIn_9 : decode cX9_unknownIn 9 = .ok (.iload_n 1, 1) := by decide +kernel
theorem dX9_unknownIn_10 : decode cX9_unknownIn 10 = .ok (.invokevirtual 70, 3) := by decide +kernel
theorem dX9_unknownIn_13 : decode cX9_unknownIn 13 = .ok (.imul, 1) := by decide +kernel
theorem dX9_unknownIn_14 : decode cX9_unknownIn 14 = .ok (.if_icmp .ge 46, 3) := by decide +kernel
theorem dX9_unknownIn_17 : decode cX9_unknownIn 17 = .ok (.iload_n 3, 1) := by decide +kernel
theorem dX9_unknownIn_18 : decode cX9_unknownIn 18 = .ok (.iload_n 2, 1) := by decide +kernel
theorem dX9_unknownIn_19 : decode cX9_unknownIn 19 = .ok (.iload 4, 2) := by decide +kernel
theorem dX9_unknownIn_21 : decode cX9_unknownIn 21 = .ok (.iconst 4, 1) := by decide +kernel
theorem dX9_unknownIn_22 : decode cX9_unknownIn 22 = .ok (.idiv, 1) := by decide +kernel
theorem dX9_unknownIn_23 : decode cX9_unknownIn 23 = .ok (.ishr, 1) := by decide +kernel
theorem dX9_unknownIn_24 : decode cX9_unknownIn 24 = .ok (.iconst 1, 1) := by decide +kernel
theorem dX9_unknownIn_25 : decode cX9_unknownIn 25 = .ok (.iand, 1) := by decide +kernel
theorem dX9_unknownIn_26 : decode cX9_unknownIn 26 = .ok (.iconst 1, 1) := by decide +kernel
theorem dX9_unknownIn_27 : decode cX9_unknownIn 27 = .ok (.if_icmp .ne 24, 3) := by decide +kernel
theorem dX9_unknownIn_30 : decode cX9_unknownIn 30 = .ok (.aload_n 0, 1) := by decide +kernel
theorem dX9_unknownIn_31 : decode cX9_unknownIn 31 = .ok (.iload_n 1, 1) := by decide +kernel
theorem dX9_unknownIn_32 : decode cX9_unknownIn 32 = .ok (.iload 4, 2) := by decide +kernel
theorem dX9_unknownIn_34 : decode cX9_unknownIn 34 = .ok (.iconst 4, 1) := by decide +kernel
theorem dX9_unknownIn_35 : decode cX9_unknownIn 35 = .ok (.idiv, 1) := by decide +kernel
theorem dX9_unknownIn_36 : decode cX9_unknownIn 36 = .ok (.iload 4, 2) := by decide +kernel
theorem dX9_unknownIn_38 : decode cX9_unknownIn 38 = .ok (.iconst 4, 1) := by decide +kernel
theorem dX9_unknownIn_39 : decode cX9_unknownIn 39 = .ok (.irem, 1) := by decide +kernel
theorem dX9_unknownIn_40 : decode cX9_unknownIn 40 = .ok (.invokevirtual 74, 3) := by decide +kernel
theorem dX9_unknownIn_43 : decode cX9_unknownIn 43 = .ok (.iconst (-1), 1) := by decide +kernel
theorem dX9_unknownIn_44 : decode cX9_unknownIn 44 = .ok (.if_icmp .ne 7, 3) := by decide +kernel
theorem dX9_unknownIn_47 : decode cX9_unknownIn 47 = .ok (.iconst 1, 1) := by decide +kernel
theorem dX9_unknownIn_48 : decode cX9_unknownIn 48 = .ok (.goto 4, 3) := by decide +kernel
theorem dX9_unknownIn_51 : decode cX9_unknownIn 51 = .ok (.iconst 0, 1) := by decide +kernel
theorem dX9_unknownIn_52 : decode cX9_unknownIn 52 = .ok (.iadd, 1) := by decide +kernel
theorem dX9_unknownIn_53 : decode cX9_unknownIn 53 = .ok (.istore_n 3, 1) := by decide +kernel
theorem dX9_unknownIn_54 : decode cX9_unknownIn 54 = .ok (.iinc 4 1, 3) := by decide +kernel
theorem dX9_unknownIn_57 : decode cX9_unknownIn 57 = .ok (.goto (-52), 3) := by decide +kernel
theorem dX9_unknownIn_60 : decode cX9_unknownIn 60 = .ok (.iload_n 3, 1) := by decide +kernel
theorem dX9_unknownIn_61 : decode cX9_unknownIn 61 = .ok (.ireturn, 1) := by decide +kernel
theorem dX9_aboutGroup_0 : decode cX9_aboutGroup 0 = .ok (.aload_n 0, 1) := by decide +kernel
theorem dX9_aboutGroup_1 : decode cX9_aboutGroup 1 = .ok (.iload_n 1, 1) := by decide +kernel
theorem dX9_aboutGroup_2 : decode cX9_aboutGroup 2 = .ok (.iload_n 2, 1) := by decide +kernel
theorem dX9_aboutGroup_3 : decode cX9_aboutGroup 3 = .ok (.iload_n 3, 1) := by decide +kernel
theorem dX9_aboutGroup_4 : decode cX9_aboutGroup 4 = .ok (.invokevirtual 246, 3) := by decide +kernel
theorem dX9_aboutGroup_7 : decode cX9_aboutGroup 7 = .ok (.istore 5, 2) := by decide +kernel
theorem dX9_aboutGroup_9 : decode cX9_aboutGroup 9 = .ok (.iload 5, 2) := by decide +kernel
theorem dX9_aboutGroup_11 : decode cX9_aboutGroup 11 = .ok (.bipush (-2), 2) := by decide +kernel
theorem dX9_aboutGroup_13 : decode cX9_aboutGroup 13 = .ok (.if_icmp .eq 8, 3) := by decide +kernel
theorem dX9_aboutGroup_16 : decode cX9_aboutGroup 16 = .ok (.iload 4, 2) := by decide +kernel
theorem dX9_aboutGroup_18 : decode cX9_aboutGroup 18 = .ok (.ifCond .ne 6, 3) := by decide +kernel
theorem dX9_aboutGroup_21 : decode cX9_aboutGroup 21 = .ok (.iload 5, 2) := by decide +kernel
theorem dX9_aboutGroup_23 : decode cX9_aboutGroup 23 = .ok (.ireturn, 1) := by decide +kernel
theorem dX9_aboutGroup_24 : decode cX9_aboutGroup 24 = .ok (.aload_n 0, 1) := by decide +kernel
theorem dX9_aboutGroup_25 : decode cX9_aboutGroup 25 = .ok (.iload_n 1, 1) := by decide +kernel
theorem dX9_aboutGroup_26 : decode cX9_aboutGroup 26 = .ok (.iload_n 2, 1) := by decide +kernel
theorem dX9_aboutGroup_27 : decode cX9_aboutGroup 27 = .ok (.iload 5, 2) := by decide +kernel
theorem dX9_aboutGroup_29 : decode cX9_aboutGroup 29 = .ok (.invokevirtual 225, 3) := by decide +kernel
theorem dX9_aboutGroup_32 : decode cX9_aboutGroup 32 = .ok (.istore 6, 2) := by decide +kernel
theorem dX9_aboutGroup_34 : decode cX9_aboutGroup 34 = .ok (.iload 4, 2) := by decide +kernel
theorem dX9_aboutGroup_36 : decode cX9_aboutGroup 36 = .ok (.iconst 1, 1) := by decide +kernel
theorem dX9_aboutGroup_37 : decode cX9_aboutGroup 37 = .ok (.if_icmp .ne 8, 3) := by decide +kernel
theorem dX9_aboutGroup_40 : decode cX9_aboutGroup 40 = .ok (.iload 6, 2) := by decide +kernel
theorem dX9_aboutGroup_42 : decode cX9_aboutGroup 42 = .ok (.goto 46, 3) := by decide +kernel
theorem dX9_aboutGroup_45 : decode cX9_aboutGroup 45 = .ok (.iload 4, 2) := by decide +kernel
theorem dX9_aboutGroup_47 : decode cX9_aboutGroup 47 = .ok (.bipush 6, 2) := by decide +kernel
theorem dX9_aboutGroup_49 : decode cX9_aboutGroup 49 = .ok (.if_icmp .ge 17, 3) := by decide +kernel
theorem dX9_aboutGroup_52 : decode cX9_aboutGroup 52 = .ok (.aload_n 0, 1) := by decide +kernel
theorem dX9_aboutGroup_53 : decode cX9_aboutGroup 53 = .ok (.iload_n 1, 1) := by decide +kernel
theorem dX9_aboutGroup_54 : decode cX9_aboutGroup 54 = .ok (.iload 4, 2) := by decide +kernel
theorem dX9_aboutGroup_56 : decode cX9_aboutGroup 56 = .ok (.iconst 2, 1) := by decide +kernel
theorem dX9_aboutGroup_57 : decode cX9_aboutGroup 57 = .ok (.isub, 1) := by decide +kernel
theorem dX9_aboutGroup_58 : decode cX9_aboutGroup 58 = .ok (.iload 6, 2) := by decide +kernel
theorem dX9_aboutGroup_60 : decode cX9_aboutGroup 60 = .ok (.invokevirtual 234, 3) := by decide +kernel
theorem dX9_aboutGroup_63 : decode cX9_aboutGroup 63 = .ok (.goto 25, 3) := by decide +kernel
theorem dX9_aboutGroup_66 : decode cX9_aboutGroup 66 = .ok (.iload 4, 2) := by decide +kernel
theorem dX9_aboutGroup_68 : decode cX9_aboutGroup 68 = .ok (.bipush 6, 2) := by decide +kernel
theorem dX9_aboutGroup_70 : decode cX9_aboutGroup 70 = .ok (.if_icmp .ne 11, 3) := by decide +kernel
theorem dX9_aboutGroup_73 : decode cX9_aboutGroup 73 = .ok (.iload 6, 2) := by decide +kernel
theorem dX9_aboutGroup_75 : decode cX9_aboutGroup 75 = .ok (.invokestatic 166, 3) := by decide +kernel
theorem dX9_aboutGroup_78 : decode cX9_aboutGroup 78 = .ok (.goto 10, 3) := by decide +kernel
theorem dX9_aboutGroup_81 : decode cX9_aboutGroup 81 = .ok (.aload_n 0, 1) := by decide +kernel
theorem dX9_aboutGroup_82 : decode cX9_aboutGroup 82 = .ok (.iload_n 1, 1) := by decide +kernel
theorem dX9_aboutGroup_83 : decode cX9_aboutGroup 83 = .ok (.iload 6, 2) := by decide +kernel
theorem dX9_aboutGroup_85 : decode cX9_aboutGroup 85 = .ok (.invokevirtual 249, 3) := by decide +kernel
theorem dX9_aboutGroup_88 : decode cX9_aboutGroup 88 = .ok (.ireturn, 1) := by decide +kernel
theorem dX9_group_0 : decode cX9_group 0 = .ok (.aload_n 0, 1) := by decide +kernel
theorem dX9_group_1 : decode cX9_group 1 = .ok (.iconst 0, 1) := by decide +kernel
theorem dX9_group_2 : decode cX9_group 2 = .ok (.putfield 47, 3) := by decide +kernel
theorem dX9_group_5 : decode cX9_group 5 = .ok (.iload_n 1, 1) := by decide +kernel
theorem dX9_group_6 : decode cX9_group 6 = .ok (.invokestatic 66, 3) := by decide +kernel
theorem dX9_group_9 : decode cX9_group 9 = .ok (.ifCond .eq 10, 3) := by decide +kernel
theorem dX9_group_12 : decode cX9_group 12 = .ok (.iload_n 2, 1) := by decide +kernel
theorem dX9_group_13 : decode cX9_group 13 = .ok (.invokestatic 135, 3) := by decide +kernel
theorem dX9_group_16 : decode cX9_group 16 = .ok (.ifCond .ne 9, 3) := by decide +kernel
theorem dX9_group_19 : decode cX9_group 19 = .ok (.aload_n 0, 1) := by decide +kernel
theorem dX9_group_20 : decode cX9_group 20 = .ok (.iconst 1, 1) := by decide +kernel
theorem dX9_group_21 : decode cX9_group 21 = .ok (.invokevirtual 119, 3) := by decide +kernel
theorem dX9_group_24 : decode cX9_group 24 = .ok (.ireturn, 1) := by decide +kernel
theorem dX9_group_25 : decode cX9_group 25 = .ok (.iload_n 3, 1) := by decide +kernel
theorem dX9_group_26 : decode cX9_group 26 = .ok (.ifCond .lt 26, 3) := by decide +kernel
theorem dX9_group_29 : decode cX9_group 29 = .ok (.iload 4, 2) := by decide +kernel
theorem dX9_group_31 : decode cX9_group 31 = .ok (.iconst 0, 1) := by decide +kernel
theorem dX9_group_32 : decode cX9_group 32 = .ok (.bipush 7, 2) := by decide +kernel
theorem dX9_group_34 : decode cX9_group 34 = .ok (.invokestatic 62, 3) := by decide +kernel
theorem dX9_group_37 : decode cX9_group 37 = .ok (.ifCond .eq 15, 3) := by decide +kernel
theorem dX9_group_40 : decode cX9_group 40 = .ok (.aload_n 0, 1) := by decide +kernel
theorem dX9_group_41 : decode cX9_group 41 = .ok (.iload_n 1, 1) := by decide +kernel
theorem dX9_group_42 : decode cX9_group 42 = .ok (.iload_n 2, 1) := by decide +kernel
theorem dX9_group_43 : decode cX9_group 43 = .ok (.iload_n 3, 1) := by decide +kernel
theorem dX9_group_44 : decode cX9_group 44 = .ok (.iload 4, 2) := by decide +kernel
theorem dX9_group_46 : decode cX9_group 46 = .ok (.invokevirtual 252, 3) := by decide +kernel
theorem dX9_group_49 : decode cX9_group 49 = .ok (.goto 8, 3) := by decide +kernel
theorem dX9_group_52 : decode cX9_group 52 = .ok (.aload_n 0, 1) := by decide +kernel
theorem dX9_group_53 : decode cX9_group 53 = .ok (.iconst 2, 1) := by decide +kernel
theorem dX9_group_54 : decode cX9_group 54 = .ok (.invokevirtual 119, 3) := by decide +kernel
theorem dX9_group_57 : decode cX9_group 57 = .ok (.ireturn, 1) := by decide +kernel
theorem dX9_truth_0 : decode cX9_truth 0 = .ok (.aload_n 0, 1) := by decide +kernel
theorem dX9_truth_1 : decode cX9_truth 1 = .ok (.iconst 0, 1) := by decide +kernel
theorem dX9_truth_2 : decode cX9_truth 2 = .ok (.putfield 47, 3) := by decide +kernel
theorem dX9_truth_5 : decode cX9_truth 5 = .ok (.aload_n 0, 1) := by decide +kernel
theorem dX9_truth_6 : decode cX9_truth 6 = .ok (.iload_n 1, 1) := by decide +kernel
theorem dX9_truth_7 : decode cX9_truth 7 = .ok (.iload_n 2, 1) := by decide +kernel
theorem dX9_truth_8 : decode cX9_truth 8 = .ok (.invokevirtual 132, 3) := by decide +kernel
theorem dX9_truth_11 : decode cX9_truth 11 = .ok (.ifCond .eq 10, 3) := by decide +kernel
theorem dX9_truth_14 : decode cX9_truth 14 = .ok (.iload_n 3, 1) := by decide +kernel
theorem dX9_truth_15 : decode cX9_truth 15 = .ok (.invokestatic 147, 3) := by decide +kernel
theorem dX9_truth_18 : decode cX9_truth 18 = .ok (.ifCond .ne 9, 3) := by decide +kernel
theorem dX9_truth_21 : decode cX9_truth 21 = .ok (.aload_n 0, 1) := by decide +kernel
theorem dX9_truth_22 : decode cX9_truth 22 = .ok (.iconst 1, 1) := by decide +kernel
theorem dX9_truth_23 : decode cX9_truth 23 = .ok (.invokevirtual 119, 3) := by decide +kernel
theorem dX9_truth_26 : decode cX9_truth 26 = .ok (.ireturn, 1) := by decide +kernel
theorem dX9_truth_27 : decode cX9_truth 27 = .ok (.aload_n 0, 1) := by decide +kernel
theorem dX9_truth_28 : decode cX9_truth 28 = .ok (.iload_n 3, 1) := by decide +kernel
theorem dX9_truth_29 : decode cX9_truth 29 = .ok (.invokevirtual 92, 3) := by decide +kernel
theorem dX9_truth_32 : decode cX9_truth 32 = .ok (.ifCond .ne 8, 3) := by decide +kernel
theorem dX9_truth_35 : decode cX9_truth 35 = .ok (.bipush (-2), 2) := by decide +kernel
theorem dX9_truth_37 : decode cX9_truth 37 = .ok (.goto 10, 3) := by decide +kernel
theorem dX9_truth_40 : decode cX9_truth 40 = .ok (.aload_n 0, 1) := by decide +kernel
theorem dX9_truth_41 : decode cX9_truth 41 = .ok (.iload_n 1, 1) := by decide +kernel
theorem dX9_truth_42 : decode cX9_truth 42 = .ok (.iload_n 2, 1) := by decide +kernel
theorem dX9_truth_43 : decode cX9_truth 43 = .ok (.iload_n 3, 1) := by decide +kernel
theorem dX9_truth_44 : decode cX9_truth 44 = .ok (.invokevirtual 116, 3) := by decide +kernel
theorem dX9_truth_47 : decode cX9_truth 47 = .ok (.ireturn, 1) := by decide +kernel
theorem dX9_rows_0 : decode cX9_rows 0 = .ok (.aload_n 0, 1) := by decide +kernel
theorem dX9_rows_1 : decode cX9_rows 1 = .ok (.iconst 0, 1) := by decide +kernel
theorem dX9_rows_2 : decode cX9_rows 2 = .ok (.putfield 47, 3) := by decide +kernel
theorem dX9_rows_5 : decode cX9_rows 5 = .ok (.iload_n 1, 1) := by decide +kernel
theorem dX9_rows_6 : decode cX9_rows 6 = .ok (.invokestatic 66, 3) := by decide +kernel
theorem dX9_rows_9 : decode cX9_rows 9 = .ok (.ifCond .eq 10, 3) := by decide +kernel
theorem dX9_rows_12 : decode cX9_rows 12 = .ok (.iload_n 2, 1) := by decide +kernel
theorem dX9_rows_13 : decode cX9_rows 13 = .ok (.invokestatic 147, 3) := by decide +kernel
theorem dX9_rows_16 : decode cX9_rows 16 = .ok (.ifCond .ne 9, 3) := by decide +kernel
theorem dX9_rows_19 : decode cX9_rows 19 = .ok (.aload_n 0, 1) := by decide +kernel
theorem dX9_rows_20 : decode cX9_rows 20 = .ok (.iconst 1, 1) := by decide +kernel
theorem dX9_rows_21 : decode cX9_rows 21 = .ok (.invokevirtual 119, 3) := by decide +kernel
theorem dX9_rows_24 : decode cX9_rows 24 = .ok (.ireturn, 1) := by decide +kernel
theorem dX9_rows_25 : decode cX9_rows 25 = .ok (.iload_n 3, 1) := by decide +kernel
theorem dX9_rows_26 : decode cX9_rows 26 = .ok (.iconst 0, 1) := by decide +kernel
theorem dX9_rows_27 : decode cX9_rows 27 = .ok (.iconst 2, 1) := by decide +kernel
theorem dX9_rows_28 : decode cX9_rows 28 = .ok (.invokestatic 62, 3) := by decide +kernel
theorem dX9_rows_31 : decode cX9_rows 31 = .ok (.ifCond .eq 13, 3) := by decide +kernel
theorem dX9_rows_34 : decode cX9_rows 34 = .ok (.iload 4, 2) := by decide +kernel
theorem dX9_rows_36 : decode cX9_rows 36 = .ok (.iconst 0, 1) := by decide +kernel
theorem dX9_rows_37 : decode cX9_rows 37 = .ok (.iconst 1, 1) := by decide +kernel
theorem dX9_rows_38 : decode cX9_rows 38 = .ok (.invokestatic 62, 3) := by decide +kernel
theorem dX9_rows_41 : decode cX9_rows 41 = .ok (.ifCond .ne 9, 3) := by decide +kernel
theorem dX9_rows_44 : decode cX9_rows 44 = .ok (.aload_n 0, 1) := by decide +kernel
theorem dX9_rows_45 : decode cX9_rows 45 = .ok (.iconst 2, 1) := by decide +kernel
theorem dX9_rows_46 : decode cX9_rows 46 = .ok (.invokevirtual 119, 3) := by decide +kernel
theorem dX9_rows_49 : decode cX9_rows 49 = .ok (.ireturn, 1) := by decide +kernel
theorem dX9_rows_50 : decode cX9_rows 50 = .ok (.aload_n 0, 1) := by decide +kernel
theorem dX9_rows_51 : decode cX9_rows 51 = .ok (.iload_n 2, 1) := by decide +kernel
theorem dX9_rows_52 : decode cX9_rows 52 = .ok (.invokevirtual 92, 3) := by decide +kernel
theorem dX9_rows_55 : decode cX9_rows 55 = .ok (.ifCond .ne 8, 3) := by decide +kernel
theorem dX9_rows_58 : decode cX9_rows 58 = .ok (.bipush (-2), 2) := by decide +kernel
theorem dX9_rows_60 : decode cX9_rows 60 = .ok (.goto 10, 3) := by decide +kernel
theorem dX9_rows_63 : decode cX9_rows 63 = .ok (.aload_n 0, 1) := by decide +kernel
theorem dX9_rows_64 : decode cX9_rows 64 = .ok (.iload_n 1, 1) := by decide +kernel
theorem dX9_rows_65 : decode cX9_rows 65 = .ok (.iload_n 2, 1) := by decide +kernel
theorem dX9_rows_66 : decode cX9_rows 66 = .ok (.iload_n 3, 1) := by decide +kernel
theorem dX9_rows_67 : decode cX9_rows 67 = .ok (.invokevirtual 163, 3) := by decide +kernel
theorem dX9_rows_70 : decode cX9_rows 70 = .ok (.ireturn, 1) := by decide +kernel
theorem dX9_depth_0 : decode cX9_depth 0 = .ok (.aload_n 0, 1) := by decide +kernel
theorem dX9_depth_1 : decode cX9_depth 1 = .ok (.iconst 0, 1) := by decide +kernel
theorem dX9_depth_2 : decode cX9_depth 2 = .ok (.putfield 89, 3) := by decide +kernel
theorem dX9_depth_5 : decode cX9_depth 5 = .ok (.iconst 0, 1) := by decide +kernel
theorem dX9_depth_6 : decode cX9_depth 6 = .ok (.istore_n 2, 1) := by decide +kernel
theorem dX9_depth_7 : decode cX9_depth 7 = .ok (.iload_n 2, 1) := by decide +kernel
theorem dX9_depth_8 : decode cX9_depth 8 = .ok (.aload_n 0, 1) := by decide +kernel
theorem dX9_depth_9 : decode cX9_depth 9 = .ok (.iload_n 1, 1) := by decide +kernel
theorem dX9_depth_10 : decode cX9_depth 10 = .ok (.invokevirtual 92, 3) := by decide +kernel
theorem dX9_depth_13 : decode cX9_depth 13 = .ok (.if_icmp .ge 117, 3) := by decide +kernel
theorem dX9_depth_16 : decode cX9_depth 16 = .ok (.aload_n 0, 1) := by decide +kernel
theorem dX9_depth_17 : decode cX9_depth 17 = .ok (.iload_n 1, 1) := by decide +kernel
theorem dX9_depth_18 : decode cX9_depth 18 = .ok (.iload_n 2, 1) := by decide +kernel
theorem dX9_depth_19 : decode cX9_depth 19 = .ok (.invokevirtual 95, 3) := by decide +kernel
theorem dX9_depth_22 : decode cX9_depth 22 = .ok (.istore_n 3, 1) := by decide +kernel
theorem dX9_depth_23 : decode cX9_depth 23 = .ok (.iload_n 3, 1) := by decide +kernel
theorem dX9_depth_24 : decode cX9_depth 24 = .ok (.invokestatic 99, 3) := by decide +kernel
theorem dX9_depth_27 : decode cX9_depth 27 = .ok (.ifCond .eq 26, 3) := by decide +kernel
theorem dX9_depth_30 : decode cX9_depth 30 = .ok (.aload_n 0, 1) := by decide +kernel
theorem dX9_depth_31 : decode cX9_depth 31 = .ok (.getfield 32, 3) := by decide +kernel
theorem dX9_depth_34 : decode cX9_depth 34 = .ok (.aload_n 0, 1) := by decide +kernel
theorem dX9_depth_35 : decode cX9_depth 35 = .ok (.getfield 89, 3) := by decide +kernel
theorem dX9_depth_38 : decode cX9_depth 38 = .ok (.iconst 1, 1) := by decide +kernel
theorem dX9_depth_39 : decode cX9_depth 39 = .ok (.iastore, 1) := by decide +kernel
theorem dX9_depth_40 : decode cX9_depth 40 = .ok (.aload_n 0, 1) := by decide +kernel
theorem dX9_depth_41 : decode cX9_depth 41 = .ok (.dup, 1) := by decide +kernel
theorem dX9_depth_42 : decode cX9_depth 42 = .ok (.getfield 89, 3) := by decide +kernel
theorem dX9_depth_45 : decode cX9_depth 45 = .ok (.iconst 1, 1) := by decide +kernel
theorem dX9_depth_46 : decode cX9_depth 46 = .ok (.iadd, 1) := by decide +kernel
theorem dX9_depth_47 : decode cX9_depth 47 = .ok (.putfield 89, 3) := by decide +kernel
theorem dX9_depth_50 : decode cX9_depth 50 = .ok (.goto 74, 3) := by decide +kernel
theorem dX9_depth_53 : decode cX9_depth 53 = .ok (.aload_n 0, 1) := by decide +kernel
theorem dX9_depth_54 : decode cX9_depth 54 = .ok (.getfield 32, 3) := by decide +kernel
theorem dX9_depth_57 : decode cX9_depth 57 = .ok (.aload_n 0, 1) := by decide +kernel
theorem dX9_depth_58 : decode cX9_depth 58 = .ok (.getfield 89, 3) := by decide +kernel
theorem dX9_depth_61 : decode cX9_depth 61 = .ok (.iconst 1, 1) := by decide +kernel
theorem dX9_depth_62 : decode cX9_depth 62 = .ok (.isub, 1) := by decide +kernel
theorem dX9_depth_63 : decode cX9_depth 63 = .ok (.iaload, 1) := by decide +kernel
theorem dX9_depth_64 : decode cX9_depth 64 = .ok (.istore 4, 2) := by decide +kernel
theorem dX9_depth_66 : decode cX9_depth 66 = .ok (.aload_n 0, 1) := by decide +kernel
theorem dX9_depth_67 : decode cX9_depth 67 = .ok (.dup, 1) := by decide +kernel
theorem dX9_depth_68 : decode cX9_depth 68 = .ok (.getfield 89, 3) := by decide +kernel
theorem dX9_depth_71 : decode cX9_depth 71 = .ok (.iload_n 3, 1) := by decide +kernel
theorem dX9_depth_72 : decode cX9_depth 72 = .ok (.ifCond .ne 7, 3) := by decide +kernel
theorem dX9_depth_75 : decode cX9_depth 75 = .ok (.iconst 0, 1) := by decide +kernel
theorem dX9_depth_76 : decode cX9_depth 76 = .ok (.goto 4, 3) := by decide +kernel
theorem dX9_depth_79 : decode cX9_depth 79 = .ok (.iconst 1, 1) := by decide +kernel
theorem dX9_depth_80 : decode cX9_depth 80 = .ok (.isub, 1) := by decide +kernel
theorem dX9_depth_81 : decode cX9_depth 81 = .ok (.putfield 89, 3) := by decide +kernel
theorem dX9_depth_84 : decode cX9_depth 84 = .ok (.aload_n 0, 1) := by decide +kernel
theorem dX9_depth_85 : decode cX9_depth 85 = .ok (.getfield 32, 3) := by decide +kernel
theorem dX9_depth_88 : decode cX9_depth 88 = .ok (.aload_n 0, 1) := by decide +kernel
theorem dX9_depth_89 : decode cX9_depth 89 = .ok (.getfield 89, 3) := by decide +kernel
theorem dX9_depth_92 : decode cX9_depth 92 = .ok (.iconst 1, 1) := by decide +kernel
theorem dX9_depth_93 : decode cX9_depth 93 = .ok (.isub, 1) := by decide +kernel
theorem dX9_depth_94 : decode cX9_depth 94 = .ok (.iaload, 1) := by decide +kernel
theorem dX9_depth_95 : decode cX9_depth 95 = .ok (.istore 5, 2) := by decide +kernel
theorem dX9_depth_97 : decode cX9_depth 97 = .ok (.aload_n 0, 1) := by decide +kernel
theorem dX9_depth_98 : decode cX9_depth 98 = .ok (.getfield 32, 3) := by decide +kernel
theorem dX9_depth_101 : decode cX9_depth 101 = .ok (.aload_n 0, 1) := by decide +kernel
theorem dX9_depth_102 : decode cX9_depth 102 = .ok (.getfield 89, 3) := by decide +kernel
theorem dX9_depth_105 : decode cX9_depth 105 = .ok (.iconst 1, 1) := by decide +kernel
theorem dX9_depth_106 : decode cX9_depth 106 = .ok (.isub, 1) := by decide +kernel
theorem dX9_depth_107 : decode cX9_depth 107 = .ok (.iconst 1, 1) := by decide +kernel
theorem dX9_depth_108 : decode cX9_depth 108 = .ok (.iload 5, 2) := by decide +kernel
theorem dX9_depth_110 : decode cX9_depth 110 = .ok (.iload 4, 2) := by decide +kernel
theorem dX9_depth_112 : decode cX9_depth 112 = .ok (.if_icmp .le 8, 3) := by decide +kernel
theorem dX9_depth_115 : decode cX9_depth 115 = .ok (.iload 5, 2) := by decide +kernel
theorem dX9_depth_117 : decode cX9_depth 117 = .ok (.goto 5, 3) := by decide +kernel
theorem dX9_depth_120 : decode cX9_depth 120 = .ok (.iload 4, 2) := by decide +kernel
theorem dX9_depth_122 : decode cX9_depth 122 = .ok (.iadd, 1) := by decide +kernel
theorem dX9_depth_123 : decode cX9_depth 123 = .ok (.iastore, 1) := by decide +kernel
theorem dX9_depth_124 : decode cX9_depth 124 = .ok (.iinc 2 1, 3) := by decide +kernel
theorem dX9_depth_127 : decode cX9_depth 127 = .ok (.goto (-120), 3) := by decide +kernel
theorem dX9_depth_130 : decode cX9_depth 130 = .ok (.aload_n 0, 1) := by decide +kernel
theorem dX9_depth_131 : decode cX9_depth 131 = .ok (.getfield 32, 3) := by decide +kernel
theorem dX9_depth_134 : decode cX9_depth 134 = .ok (.iconst 0, 1) := by decide +kernel
theorem dX9_depth_135 : decode cX9_depth 135 = .ok (.iaload, 1) := by decide +kernel
theorem dX9_depth_136 : decode cX9_depth 136 = .ok (.ireturn, 1) := by decide +kernel
theorem dX9_tests_0 : decode cX9_tests 0 = .ok (.iconst 0, 1) := by decide +kernel
theorem dX9_tests_1 : decode cX9_tests 1 = .ok (.istore_n 2, 1) := by decide +kernel
theorem dX9_tests_2 : decode cX9_tests 2 = .ok (.iconst 0, 1) := by decide +kernel
theorem dX9_tests_3 : decode cX9_tests 3 = .ok (.istore_n 3, 1) := by decide +kernel
theorem dX9_tests_4 : decode cX9_tests 4 = .ok (.iload_n 3, 1) := by decide +kernel
theorem dX9_tests_5 : decode cX9_tests 5 = .ok (.aload_n 0, 1) := by decide +kernel
theorem dX9_tests_6 : decode cX9_tests 6 = .ok (.iload_n 1, 1) := by decide +kernel
theorem dX9_tests_7 : decode cX9_tests 7 = .ok (.invokevirtual 92, 3) := by decide +kernel
theorem dX9_tests_10 : decode cX9_tests 10 = .ok (.if_icmp .ge 29, 3) := by decide +kernel
theorem dX9_tests_13 : decode cX9_tests 13 = .ok (.iload_n 2, 1) := by decide +kernel
theorem dX9_tests_14 : decode cX9_tests 14 = .ok (.aload_n 0, 1) := by decide +kernel
theorem dX9_tests_15 : decode cX9_tests 15 = .ok (.iload_n 1, 1) := by decide +kernel
theorem dX9_tests_16 : decode cX9_tests 16 = .ok (.iload_n 3, 1) := by decide +kernel
theorem dX9_tests_17 : decode cX9_tests 17 = .ok (.invokevirtual 95, 3) := by decide +kernel
theorem dX9_tests_20 : decode cX9_tests 20 = .ok (.invokestatic 99, 3) := by decide +kernel
theorem dX9_tests_23 : decode cX9_tests 23 = .ok (.ifCond .eq 7, 3) := by decide +kernel
theorem dX9_tests_26 : decode cX9_tests 26 = .ok (.iconst 1, 1) := by decide +kernel
theorem dX9_tests_27 : decode cX9_tests 27 = .ok (.goto 4, 3) := by decide +kernel
theorem dX9_tests_30 : decode cX9_tests 30 = .ok (.iconst 0, 1) := by decide +kernel
theorem dX9_tests_31 : decode cX9_tests 31 = .ok (.iadd, 1) := by decide +kernel
theorem dX9_tests_32 : decode cX9_tests 32 = .ok (.istore_n 2, 1) := by decide +kernel
theorem dX9_tests_33 : decode cX9_tests 33 = .ok (.iinc 3 1, 3) := by decide +kernel
theorem dX9_tests_36 : decode cX9_tests 36 = .ok (.goto (-32), 3) := by decide +kernel
theorem dX9_tests_39 : decode cX9_tests 39 = .ok (.iload_n 2, 1) := by decide +kernel
theorem dX9_tests_40 : decode cX9_tests 40 = .ok (.ireturn, 1) := by decide +kernel
theorem dX9_columns_0 : decode cX9_columns 0 = .ok (.iconst 0, 1) := by decide +kernel
theorem dX9_columns_1 : decode cX9_columns 1 = .ok (.istore_n 2, 1) := by decide +kernel
theorem dX9_columns_2 : decode cX9_columns 2 = .ok (.iconst 0, 1) := by decide +kernel
theorem dX9_columns_3 : decode cX9_columns 3 = .ok (.istore_n 3, 1) := by decide +kernel
theorem dX9_columns_4 : decode cX9_columns 4 = .ok (.iload_n 3, 1) := by decide +kernel
theorem dX9_columns_5 : decode cX9_columns 5 = .ok (.aload_n 0, 1) := by decide +kernel
theorem dX9_columns_6 : decode cX9_columns 6 = .ok (.iload_n 1, 1) := by decide +kernel
theorem dX9_columns_7 : decode cX9_columns 7 = .ok (.invokevirtual 92, 3) := by decide +kernel
theorem dX9_columns_10 : decode cX9_columns 10 = .ok (.if_icmp .ge 62, 3) := by decide +kernel
theorem dX9_columns_13 : decode cX9_columns 13 = .ok (.aload_n 0, 1) := by decide +kernel
theorem dX9_columns_14 : decode cX9_columns 14 = .ok (.iload_n 1, 1) := by decide +kernel
theorem dX9_columns_15 : decode cX9_columns 15 = .ok (.iload_n 3, 1) := by decide +kernel
theorem dX9_columns_16 : decode cX9_columns 16 = .ok (.invokevirtual 95, 3) := by decide +kernel
theorem dX9_columns_19 : decode cX9_columns 19 = .ok (.istore 4, 2) := by decide +kernel
theorem dX9_columns_21 : decode cX9_columns 21 = .ok (.iload 4, 2) := by decide +kernel
theorem dX9_columns_23 : decode cX9_columns 23 = .ok (.invokestatic 99, 3) := by decide +kernel
theorem dX9_columns_26 : decode cX9_columns 26 = .ok (.ifCond .eq 40, 3) := by decide +kernel
theorem dX9_columns_29 : decode cX9_columns 29 = .ok (.iload_n 2, 1) := by decide +kernel
theorem dX9_columns_30 : decode cX9_columns 30 = .ok (.iconst 1, 1) := by decide +kernel
theorem dX9_columns_31 : decode cX9_columns 31 = .ok (.iload 4, 2) := by decide +kernel
theorem dX9_columns_33 : decode cX9_columns 33 = .ok (.invokestatic 80, 3) := by decide +kernel
theorem dX9_columns_36 : decode cX9_columns 36 = .ok (.ishl, 1) := by decide +kernel
theorem dX9_columns_37 : decode cX9_columns 37 = .ok (.ior, 1) := by decide +kernel
theorem dX9_columns_38 : decode cX9_columns 38 = .ok (.istore_n 2, 1) := by decide +kernel
theorem dX9_columns_39 : decode cX9_columns 39 = .ok (.iload_n 2, 1) := by decide +kernel
theorem dX9_columns_40 : decode cX9_columns 40 = .ok (.iload 4, 2) := by decide +kernel
theorem dX9_columns_42 : decode cX9_columns 42 = .ok (.invokestatic 83, 3) := by decide +kernel
theorem dX9_columns_45 : decode cX9_columns 45 = .ok (.bipush 100, 2) := by decide +kernel
theorem dX9_columns_47 : decode cX9_columns 47 = .ok (.if_icmp .lt 16, 3) := by decide +kernel
theorem dX9_columns_50 : decode cX9_columns 50 = .ok (.iconst 1, 1) := by decide +kernel
theorem dX9_columns_51 : decode cX9_columns 51 = .ok (.iload 4, 2) := by decide +kernel
theorem dX9_columns_53 : decode cX9_columns 53 = .ok (.invokestatic 83, 3) := by decide +kernel
theorem dX9_columns_56 : decode cX9_columns 56 = .ok (.bipush 100, 2) := by decide +kernel
theorem dX9_columns_58 : decode cX9_columns 58 = .ok (.isub, 1) := by decide +kernel
theorem dX9_columns_59 : decode cX9_columns 59 = .ok (.ishl, 1) := by decide +kernel
theorem dX9_columns_60 : decode cX9_columns 60 = .ok (.goto 4, 3) := by decide +kernel
theorem dX9_columns_63 : decode cX9_columns 63 = .ok (.iconst 0, 1) := by decide +kernel
theorem dX9_columns_64 : decode cX9_columns 64 = .ok (.ior, 1) := by decide +kernel
theorem dX9_columns_65 : decode cX9_columns 65 = .ok (.istore_n 2, 1) := by decide +kernel
theorem dX9_columns_66 : decode cX9_columns 66 = .ok (.iinc 3 1, 3) := by decide +kernel
theorem dX9_columns_69 : decode cX9_columns 69 = .ok (.goto (-65), 3) := by decide +kernel
theorem dX9_columns_72 : decode cX9_columns 72 = .ok (.iload_n 2, 1) := by decide +kernel
theorem dX9_columns_73 : decode cX9_columns 73 = .ok (.ireturn, 1) := by decide +kernel
theorem dX9_writes_0 : decode cX9_writes 0 = .ok (.aload_n 0, 1) := by decide +kernel
theorem dX9_writes_1 : decode cX9_writes 1 = .ok (.getfield 41, 3) := by decide +kernel
theorem dX9_writes_4 : decode cX9_writes 4 = .ok (.aload_n 0, 1) := by decide +kernel
theorem dX9_writes_5 : decode cX9_writes 5 = .ok (.getfield 256, 3) := by decide +kernel
theorem dX9_writes_8 : decode cX9_writes 8 = .ok (.iload_n 1, 1) := by decide +kernel
theorem dX9_writes_9 : decode cX9_writes 9 = .ok (.iastore, 1) := by decide +kernel
theorem dX9_writes_10 : decode cX9_writes 10 = .ok (.aload_n 0, 1) := by decide +kernel
theorem dX9_writes_11 : decode cX9_writes 11 = .ok (.dup, 1) := by decide +kernel
theorem dX9_writes_12 : decode cX9_writes 12 = .ok (.getfield 256, 3) := by decide +kernel
theorem dX9_writes_15 : decode cX9_writes 15 = .ok (.iconst 1, 1) := by decide +kernel
theorem dX9_writes_16 : decode cX9_writes 16 = .ok (.iadd, 1) := by decide +kernel
theorem dX9_writes_17 : decode cX9_writes 17 = .ok (.putfield 256, 3) := by decide +kernel
theorem dX9_writes_20 : decode cX9_writes 20 = .ok (.return_, 1) := by decide +kernel
theorem dX9_writesTest_0 : decode cX9_writesTest 0 = .ok (.aload_n 0, 1) := by decide +kernel
theorem dX9_writesTest_1 : decode cX9_writesTest 1 = .ok (.bipush 97, 2) := by decide +kernel
theorem dX9_writesTest_3 : decode cX9_writesTest 3 = .ok (.iload_n 1, 1) := by decide +kernel
theorem dX9_writesTest_4 : decode cX9_writesTest 4 = .ok (.invokestatic 80, 3) := by decide +kernel
theorem dX9_writesTest_7 : decode cX9_writesTest 7 = .ok (.iadd, 1) := by decide +kernel
theorem dX9_writesTest_8 : decode cX9_writesTest 8 = .ok (.invokevirtual 259, 3) := by decide +kernel
theorem dX9_writesTest_11 : decode cX9_writesTest 11 = .ok (.iload_n 1, 1) := by decide +kernel
theorem dX9_writesTest_12 : decode cX9_writesTest 12 = .ok (.invokestatic 77, 3) := by decide +kernel
theorem dX9_writesTest_15 : decode cX9_writesTest 15 = .ok (.istore_n 2, 1) := by decide +kernel
theorem dX9_writesTest_16 : decode cX9_writesTest 16 = .ok (.aload_n 0, 1) := by decide +kernel
theorem dX9_writesTest_17 : decode cX9_writesTest 17 = .ok (.iload_n 2, 1) := by decide +kernel
theorem dX9_writesTest_18 : decode cX9_writesTest 18 = .ok (.ifCond .ne 8, 3) := by decide +kernel
theorem dX9_writesTest_21 : decode cX9_writesTest 21 = .ok (.bipush 63, 2) := by decide +kernel
theorem dX9_writesTest_23 : decode cX9_writesTest 23 = .ok (.goto 25, 3) := by decide +kernel
theorem dX9_writesTest_26 : decode cX9_writesTest 26 = .ok (.iload_n 2, 1) := by decide +kernel
theorem dX9_writesTest_27 : decode cX9_writesTest 27 = .ok (.iconst 1, 1) := by decide +kernel
theorem dX9_writesTest_28 : decode cX9_writesTest 28 = .ok (.if_icmp .ne 8, 3) := by decide +kernel
theorem dX9_writesTest_31 : decode cX9_writesTest 31 = .ok (.bipush 61, 2) := by decide +kernel
theorem dX9_writesTest_33 : decode cX9_writesTest 33 = .ok (.goto 15, 3) := by decide +kernel
theorem dX9_writesTest_36 : decode cX9_writesTest 36 = .ok (.iload_n 2, 1) := by decide +kernel
theorem dX9_writesTest_37 : decode cX9_writesTest 37 = .ok (.iconst 2, 1) := by decide +kernel
theorem dX9_writesTest_38 : decode cX9_writesTest 38 = .ok (.if_icmp .ne 8, 3) := by decide +kernel
theorem dX9_writesTest_41 : decode cX9_writesTest 41 = .ok (.bipush 60, 2) := by decide +kernel
theorem dX9_writesTest_43 : decode cX9_writesTest 43 = .ok (.goto 5, 3) := by decide +kernel
theorem dX9_writesTest_46 : decode cX9_writesTest 46 = .ok (.bipush 62, 2) := by decide +kernel
theorem dX9_writesTest_48 : decode cX9_writesTest 48 = .ok (.invokevirtual 259, 3) := by decide +kernel
theorem dX9_writesTest_51 : decode cX9_writesTest 51 = .ok (.iload_n 1, 1) := by decide +kernel
theorem dX9_writesTest_52 : decode cX9_writesTest 52 = .ok (.invokestatic 83, 3) := by decide +kernel
theorem dX9_writesTest_55 : decode cX9_writesTest 55 = .ok (.istore_n 3, 1) := by decide +kernel
theorem dX9_writesTest_56 : decode cX9_writesTest 56 = .ok (.iload_n 2, 1) := by decide +kernel
theorem dX9_writesTest_57 : decode cX9_writesTest 57 = .ok (.ifCond .le 23, 3) := by decide +kernel
theorem dX9_writesTest_60 : decode cX9_writesTest 60 = .ok (.iload_n 3, 1) := by decide +kernel
theorem dX9_writesTest_61 : decode cX9_writesTest 61 = .ok (.bipush 100, 2) := by decide +kernel
theorem dX9_writesTest_63 : decode cX9_writesTest 63 = .ok (.if_icmp .lt 17, 3) := by decide +kernel
theorem dX9_writesTest_66 : decode cX9_writesTest 66 = .ok (.aload_n 0, 1) := by decide +kernel
theorem dX9_writesTest_67 : decode cX9_writesTest 67 = .ok (.bipush 97, 2) := by decide +kernel
theorem dX9_writesTest_69 : decode cX9_writesTest 69 = .ok (.iload_n 3, 1) := by decide +kernel
theorem dX9_writesTest_70 : decode cX9_writesTest 70 = .ok (.iadd, 1) := by decide +kernel
theorem dX9_writesTest_71 : decode cX9_writesTest 71 = .ok (.bipush 100, 2) := by decide +kernel
theorem dX9_writesTest_73 : decode cX9_writesTest 73 = .ok (.isub, 1) := by decide +kernel
theorem dX9_writesTest_74 : decode cX9_writesTest 74 = .ok (.invokevirtual 259, 3) := by decide +kernel
theorem dX9_writesTest_77 : decode cX9_writesTest 77 = .ok (.goto 35, 3) := by decide +kernel
theorem dX9_writesTest_80 : decode cX9_writesTest 80 = .ok (.iload_n 2, 1) := by decide +kernel
theorem dX9_writesTest_81 : decode cX9_writesTest 81 = .ok (.ifCond .le 31, 3) := by decide +kernel
theorem dX9_writesTest_84 : decode cX9_writesTest 84 = .ok (.iload_n 3, 1) := by decide +kernel
theorem dX9_writesTest_85 : decode cX9_writesTest 85 = .ok (.bipush 9, 2) := by decide +kernel
theorem dX9_writesTest_87 : decode cX9_writesTest 87 = .ok (.if_icmp .le 14, 3) := by decide +kernel
theorem dX9_writesTest_90 : decode cX9_writesTest 90 = .ok (.aload_n 0, 1) := by decide +kernel
theorem dX9_writesTest_91 : decode cX9_writesTest 91 = .ok (.bipush 48, 2) := by decide +kernel
theorem dX9_writesTest_93 : decode cX9_writesTest 93 = .ok (.iload_n 3, 1) := by decide +kernel
theorem dX9_writesTest_94 : decode cX9_writesTest 94 = .ok (.bipush 10, 2) := by decide +kernel
theorem dX9_writesTest_96 : decode cX9_writesTest 96 = .ok (.idiv, 1) := by decide +kernel
theorem dX9_writesTest_97 : decode cX9_writesTest 97 = .ok (.iadd, 1) := by decide +kernel
theorem dX9_writesTest_98 : decode cX9_writesTest 98 = .ok (.invokevirtual 259, 3) := by decide +kernel
theorem dX9_writesTest_101 : decode cX9_writesTest 101 = .ok (.aload_n 0, 1) := by decide +kernel
theorem dX9_writesTest_102 : decode cX9_writesTest 102 = .ok (.bipush 48, 2) := by decide +kernel
theorem dX9_writesTest_104 : decode cX9_writesTest 104 = .ok (.iload_n 3, 1) := by decide +kernel
theorem dX9_writesTest_105 : decode cX9_writesTest 105 = .ok (.bipush 10, 2) := by decide +kernel
theorem dX9_writesTest_107 : decode cX9_writesTest 107 = .ok (.irem, 1) := by decide +kernel
theorem dX9_writesTest_108 : decode cX9_writesTest 108 = .ok (.iadd, 1) := by decide +kernel
theorem dX9_writesTest_109 : decode cX9_writesTest 109 = .ok (.invokevirtual 259, 3) := by decide +kernel
theorem dX9_writesTest_112 : decode cX9_writesTest 112 = .ok (.return_, 1) := by decide +kernel
theorem dX9_inserts_0 : decode cX9_inserts 0 = .ok (.aload_n 0, 1) := by decide +kernel
theorem dX9_inserts_1 : decode cX9_inserts 1 = .ok (.getfield 256, 3) := by decide +kernel
theorem dX9_inserts_4 : decode cX9_inserts 4 = .ok (.istore_n 3, 1) := by decide +kernel
theorem dX9_inserts_5 : decode cX9_inserts 5 = .ok (.iload_n 3, 1) := by decide +kernel
theorem dX9_inserts_6 : decode cX9_inserts 6 = .ok (.iload_n 1, 1) := by decide +kernel
theorem dX9_inserts_7 : decode cX9_inserts 7 = .ok (.if_icmp .le 23, 3) := by decide +kernel
theorem dX9_inserts_10 : decode cX9_inserts 10 = .ok (.aload_n 0, 1) := by decide +kernel
theorem dX9_inserts_11 : decode cX9_inserts 11 = .ok (.getfield 41, 3) := by decide +kernel
theorem dX9_inserts_14 : decode cX9_inserts 14 = .ok (.iload_n 3, 1) := by decide +kernel
theorem dX9_inserts_15 : decode cX9_inserts 15 = .ok (.aload_n 0, 1) := by decide +kernel
theorem dX9_inserts_16 : decode cX9_inserts 16 = .ok (.getfield 41, 3) := by decide +kernel
theorem dX9_inserts_19 : decode cX9_inserts 19 = .ok (.iload_n 3, 1) := by decide +kernel
theorem dX9_inserts_20 : decode cX9_inserts 20 = .ok (.iconst 1, 1) := by decide +kernel
theorem dX9_inserts_21 : decode cX9_inserts 21 = .ok (.isub, 1) := by decide +kernel
theorem dX9_inserts_22 : decode cX9_inserts 22 = .ok (.iaload, 1) := by decide +kernel
theorem dX9_inserts_23 : decode cX9_inserts 23 = .ok (.iastore, 1) := by decide +kernel
theorem dX9_inserts_24 : decode cX9_inserts 24 = .ok (.iinc 3 (-1), 3) := by decide +kernel
theorem dX9_inserts_27 : decode cX9_inserts 27 = .ok (.goto (-22), 3) := by decide +kernel
theorem dX9_inserts_30 : decode cX9_inserts 30 = .ok (.aload_n 0, 1) := by decide +kernel
theorem dX9_inserts_31 : decode cX9_inserts 31 = .ok (.getfield 41, 3) := by decide +kernel
theorem dX9_inserts_34 : decode cX9_inserts 34 = .ok (.iload_n 1, 1) := by decide +kernel
theorem dX9_inserts_35 : decode cX9_inserts 35 = .ok (.iload_n 2, 1) := by decide +kernel
theorem dX9_inserts_36 : decode cX9_inserts 36 = .ok (.iastore, 1) := by decide +kernel
theorem dX9_inserts_37 : decode cX9_inserts 37 = .ok (.aload_n 0, 1) := by decide +kernel
theorem dX9_inserts_38 : decode cX9_inserts 38 = .ok (.dup, 1) := by decide +kernel
theorem dX9_inserts_39 : decode cX9_inserts 39 = .ok (.getfield 256, 3) := by decide +kernel
theorem dX9_inserts_42 : decode cX9_inserts 42 = .ok (.iconst 1, 1) := by decide +kernel
theorem dX9_inserts_43 : decode cX9_inserts 43 = .ok (.iadd, 1) := by decide +kernel
theorem dX9_inserts_44 : decode cX9_inserts 44 = .ok (.putfield 256, 3) := by decide +kernel
theorem dX9_inserts_47 : decode cX9_inserts 47 = .ok (.return_, 1) := by decide +kernel
theorem dX9_encloses_0 : decode cX9_encloses 0 = .ok (.aload_n 0, 1) := by decide +kernel
theorem dX9_encloses_1 : decode cX9_encloses 1 = .ok (.iload_n 2, 1) := by decide +kernel
theorem dX9_encloses_2 : decode cX9_encloses 2 = .ok (.bipush 41, 2) := by decide +kernel
theorem dX9_encloses_4 : decode cX9_encloses 4 = .ok (.invokevirtual 262, 3) := by decide +kernel
theorem dX9_encloses_7 : decode cX9_encloses 7 = .ok (.aload_n 0, 1) := by decide +kernel
theorem dX9_encloses_8 : decode cX9_encloses 8 = .ok (.iload_n 1, 1) := by decide +kernel
theorem dX9_encloses_9 : decode cX9_encloses 9 = .ok (.bipush 40, 2) := by decide +kernel
theorem dX9_encloses_11 : decode cX9_encloses 11 = .ok (.invokevirtual 262, 3) := by decide +kernel
theorem dX9_encloses_14 : decode cX9_encloses 14 = .ok (.return_, 1) := by decide +kernel
theorem dX9_writesNot_0 : decode cX9_writesNot 0 = .ok (.aload_n 0, 1) := by decide +kernel
theorem dX9_writesNot_1 : decode cX9_writesNot 1 = .ok (.getfield 44, 3) := by decide +kernel
theorem dX9_writesNot_4 : decode cX9_writesNot 4 = .ok (.aload_n 0, 1) := by decide +kernel
theorem dX9_writesNot_5 : decode cX9_writesNot 5 = .ok (.getfield 89, 3) := by decide +kernel
theorem dX9_writesNot_8 : decode cX9_writesNot 8 = .ok (.iconst 1, 1) := by decide +kernel
theorem dX9_writesNot_9 : decode cX9_writesNot 9 = .ok (.isub, 1) := by decide +kernel
theorem dX9_writesNot_10 : decode cX9_writesNot 10 = .ok (.iaload, 1) := by decide +kernel
theorem dX9_writesNot_11 : decode cX9_writesNot 11 = .ok (.istore_n 1, 1) := by decide +kernel
theorem dX9_writesNot_12 : decode cX9_writesNot 12 = .ok (.aload_n 0, 1) := by decide +kernel
theorem dX9_writesNot_13 : decode cX9_writesNot 13 = .ok (.getfield 32, 3) := by decide +kernel
theorem dX9_writesNot_16 : decode cX9_writesNot 16 = .ok (.aload_n 0, 1) := by decide +kernel
theorem dX9_writesNot_17 : decode cX9_writesNot 17 = .ok (.getfield 89, 3) := by decide +kernel
theorem dX9_writesNot_20 : decode cX9_writesNot 20 = .ok (.iconst 1, 1) := by decide +kernel
theorem dX9_writesNot_21 : decode cX9_writesNot 21 = .ok (.isub, 1) := by decide +kernel
theorem dX9_writesNot_22 : decode cX9_writesNot 22 = .ok (.iaload, 1) := by decide +kernel
theorem dX9_writesNot_23 : decode cX9_writesNot 23 = .ok (.iconst 1, 1) := by decide +kernel
theorem dX9_writesNot_24 : decode cX9_writesNot 24 = .ok (.if_icmp .eq 18, 3) := by decide +kernel
theorem dX9_writesNot_27 : decode cX9_writesNot 27 = .ok (.aload_n 0, 1) := by decide +kernel
theorem dX9_writesNot_28 : decode cX9_writesNot 28 = .ok (.getfield 32, 3) := by decide +kernel
theorem dX9_writesNot_31 : decode cX9_writesNot 31 = .ok (.aload_n 0, 1) := by decide +kernel
theorem dX9_writesNot_32 : decode cX9_writesNot 32 = .ok (.getfield 89, 3) := by decide +kernel
theorem dX9_writesNot_35 : decode cX9_writesNot 35 = .ok (.iconst 1, 1) := by decide +kernel
theorem dX9_writesNot_36 : decode cX9_writesNot 36 = .ok (.isub, 1) := by decide +kernel
theorem dX9_writesNot_37 : decode cX9_writesNot 37 = .ok (.iaload, 1) := by decide +kernel
theorem dX9_writesNot_38 : decode cX9_writesNot 38 = .ok (.iconst 2, 1) := by decide +kernel
theorem dX9_writesNot_39 : decode cX9_writesNot 39 = .ok (.if_icmp .ne 12, 3) := by decide +kernel
theorem dX9_writesNot_42 : decode cX9_writesNot 42 = .ok (.aload_n 0, 1) := by decide +kernel
theorem dX9_writesNot_43 : decode cX9_writesNot 43 = .ok (.iload_n 1, 1) := by decide +kernel
theorem dX9_writesNot_44 : decode cX9_writesNot 44 = .ok (.aload_n 0, 1) := by decide +kernel
theorem dX9_writesNot_45 : decode cX9_writesNot 45 = .ok (.getfield 256, 3) := by decide +kernel
theorem dX9_writesNot_48 : decode cX9_writesNot 48 = .ok (.invokevirtual 265, 3) := by decide +kernel
theorem dX9_writesNot_51 : decode cX9_writesNot 51 = .ok (.aload_n 0, 1) := by decide +kernel
theorem dX9_writesNot_52 : decode cX9_writesNot 52 = .ok (.iload_n 1, 1) := by decide +kernel
theorem dX9_writesNot_53 : decode cX9_writesNot 53 = .ok (.bipush 33, 2) := by decide +kernel
theorem dX9_writesNot_55 : decode cX9_writesNot 55 = .ok (.invokevirtual 262, 3) := by decide +kernel
theorem dX9_writesNot_58 : decode cX9_writesNot 58 = .ok (.aload_n 0, 1) := by decide +kernel
theorem dX9_writesNot_59 : decode cX9_writesNot 59 = .ok (.getfield 32, 3) := by decide +kernel
theorem dX9_writesNot_62 : decode cX9_writesNot 62 = .ok (.aload_n 0, 1) := by decide +kernel
theorem dX9_writesNot_63 : decode cX9_writesNot 63 = .ok (.getfield 89, 3) := by decide +kernel
theorem dX9_writesNot_66 : decode cX9_writesNot 66 = .ok (.iconst 1, 1) := by decide +kernel
theorem dX9_writesNot_67 : decode cX9_writesNot 67 = .ok (.isub, 1) := by decide +kernel
theorem dX9_writesNot_68 : decode cX9_writesNot 68 = .ok (.iconst 0, 1) := by decide +kernel
theorem dX9_writesNot_69 : decode cX9_writesNot 69 = .ok (.iastore, 1) := by decide +kernel
theorem dX9_writesNot_70 : decode cX9_writesNot 70 = .ok (.return_, 1) := by decide +kernel
theorem dX9_writesPair_0 : decode cX9_writesPair 0 = .ok (.aload_n 0, 1) := by decide +kernel
theorem dX9_writesPair_1 : decode cX9_writesPair 1 = .ok (.getfield 44, 3) := by decide +kernel
theorem dX9_writesPair_4 : decode cX9_writesPair 4 = .ok (.aload_n 0, 1) := by decide +kernel
theorem dX9_writesPair_5 : decode cX9_writesPair 5 = .ok (.getfield 89, 3) := by decide +kernel
theorem dX9_writesPair_8 : decode cX9_writesPair 8 = .ok (.iconst 1, 1) := by decide +kernel
theorem dX9_writesPair_9 : decode cX9_writesPair 9 = .ok (.isub, 1) := by decide +kernel
theorem dX9_writesPair_10 : decode cX9_writesPair 10 = .ok (.iaload, 1) := by decide +kernel
theorem dX9_writesPair_11 : decode cX9_writesPair 11 = .ok (.istore_n 2, 1) := by decide +kernel
theorem dX9_writesPair_12 : decode cX9_writesPair 12 = .ok (.aload_n 0, 1) := by decide +kernel
theorem dX9_writesPair_13 : decode cX9_writesPair 13 = .ok (.getfield 44, 3) := by decide +kernel
theorem dX9_writesPair_16 : decode cX9_writesPair 16 = .ok (.aload_n 0, 1) := by decide +kernel
theorem dX9_writesPair_17 : decode cX9_writesPair 17 = .ok (.getfield 89, 3) := by decide +kernel
theorem dX9_writesPair_20 : decode cX9_writesPair 20 = .ok (.iconst 2, 1) := by decide +kernel
theorem dX9_writesPair_21 : decode cX9_writesPair 21 = .ok (.isub, 1) := by decide +kernel
theorem dX9_writesPair_22 : decode cX9_writesPair 22 = .ok (.iaload, 1) := by decide +kernel
theorem dX9_writesPair_23 : decode cX9_writesPair 23 = .ok (.istore_n 3, 1) := by decide +kernel
theorem dX9_writesPair_24 : decode cX9_writesPair 24 = .ok (.aload_n 0, 1) := by decide +kernel
theorem dX9_writesPair_25 : decode cX9_writesPair 25 = .ok (.getfield 32, 3) := by decide +kernel
theorem dX9_writesPair_28 : decode cX9_writesPair 28 = .ok (.aload_n 0, 1) := by decide +kernel
theorem dX9_writesPair_29 : decode cX9_writesPair 29 = .ok (.getfield 89, 3) := by decide +kernel
theorem dX9_writesPair_32 : decode cX9_writesPair 32 = .ok (.iconst 1, 1) := by decide +kernel
theorem dX9_writesPair_33 : decode cX9_writesPair 33 = .ok (.isub, 1) := by decide +kernel
theorem dX9_writesPair_34 : decode cX9_writesPair 34 = .ok (.iaload, 1) := by decide +kernel
theorem dX9_writesPair_35 : decode cX9_writesPair 35 = .ok (.iload_n 1, 1) := by decide +kernel
theorem dX9_writesPair_36 : decode cX9_writesPair 36 = .ok (.if_icmp .eq 23, 3) := by decide +kernel
theorem dX9_writesPair_39 : decode cX9_writesPair 39 = .ok (.iload_n 1, 1) := by decide +kernel
theorem dX9_writesPair_40 : decode cX9_writesPair 40 = .ok (.iconst 1, 1) := by decide +kernel
theorem dX9_writesPair_41 : decode cX9_writesPair 41 = .ok (.if_icmp .ne 22, 3) := by decide +kernel
theorem dX9_writesPair_44 : decode cX9_writesPair 44 = .ok (.aload_n 0, 1) := by decide +kernel
theorem dX9_writesPair_45 : decode cX9_writesPair 45 = .ok (.getfield 32, 3) := by decide +kernel
theorem dX9_writesPair_48 : decode cX9_writesPair 48 = .ok (.aload_n 0, 1) := by decide +kernel
theorem dX9_writesPair_49 : decode cX9_writesPair 49 = .ok (.getfield 89, 3) := by decide +kernel
theorem dX9_writesPair_52 : decode cX9_writesPair 52 = .ok (.iconst 1, 1) := by decide +kernel
theorem dX9_writesPair_53 : decode cX9_writesPair 53 = .ok (.isub, 1) := by decide +kernel
theorem dX9_writesPair_54 : decode cX9_writesPair 54 = .ok (.iaload, 1) := by decide +kernel
theorem dX9_writesPair_55 : decode cX9_writesPair 55 = .ok (.iconst 2, 1) := by decide +kernel
theorem dX9_writesPair_56 : decode cX9_writesPair 56 = .ok (.if_icmp .ne 7, 3) := by decide +kernel
theorem dX9_writesPair_59 : decode cX9_writesPair 59 = .ok (.iconst 1, 1) := by decide +kernel
theorem dX9_writesPair_60 : decode cX9_writesPair 60 = .ok (.goto 4, 3) := by decide +kernel
theorem dX9_writesPair_63 : decode cX9_writesPair 63 = .ok (.iconst 0, 1) := by decide +kernel
theorem dX9_writesPair_64 : decode cX9_writesPair 64 = .ok (.istore 4, 2) := by decide +kernel
theorem dX9_writesPair_66 : decode cX9_writesPair 66 = .ok (.iload_n 1, 1) := by decide +kernel
theorem dX9_writesPair_67 : decode cX9_writesPair 67 = .ok (.iconst 1, 1) := by decide +kernel
theorem dX9_writesPair_68 : decode cX9_writesPair 68 = .ok (.if_icmp .ne 22, 3) := by decide +kernel
theorem dX9_writesPair_71 : decode cX9_writesPair 71 = .ok (.aload_n 0, 1) := by decide +kernel
theorem dX9_writesPair_72 : decode cX9_writesPair 72 = .ok (.getfield 32, 3) := by decide +kernel
theorem dX9_writesPair_75 : decode cX9_writesPair 75 = .ok (.aload_n 0, 1) := by decide +kernel
theorem dX9_writesPair_76 : decode cX9_writesPair 76 = .ok (.getfield 89, 3) := by decide +kernel
theorem dX9_writesPair_79 : decode cX9_writesPair 79 = .ok (.iconst 2, 1) := by decide +kernel
theorem dX9_writesPair_80 : decode cX9_writesPair 80 = .ok (.isub, 1) := by decide +kernel
theorem dX9_writesPair_81 : decode cX9_writesPair 81 = .ok (.iaload, 1) := by decide +kernel
theorem dX9_writesPair_82 : decode cX9_writesPair 82 = .ok (.iconst 2, 1) := by decide +kernel
theorem dX9_writesPair_83 : decode cX9_writesPair 83 = .ok (.if_icmp .ne 7, 3) := by decide +kernel
theorem dX9_writesPair_86 : decode cX9_writesPair 86 = .ok (.iconst 1, 1) := by decide +kernel
theorem dX9_writesPair_87 : decode cX9_writesPair 87 = .ok (.goto 4, 3) := by decide +kernel
theorem dX9_writesPair_90 : decode cX9_writesPair 90 = .ok (.iconst 0, 1) := by decide +kernel
theorem dX9_writesPair_91 : decode cX9_writesPair 91 = .ok (.istore 5, 2) := by decide +kernel
theorem dX9_writesPair_93 : decode cX9_writesPair 93 = .ok (.iload 4, 2) := by decide +kernel
theorem dX9_writesPair_95 : decode cX9_writesPair 95 = .ok (.ifCond .eq 12, 3) := by decide +kernel
theorem dX9_writesPair_98 : decode cX9_writesPair 98 = .ok (.aload_n 0, 1) := by decide +kernel
theorem dX9_writesPair_99 : decode cX9_writesPair 99 = .ok (.iload_n 2, 1) := by decide +kernel
theorem dX9_writesPair_100 : decode cX9_writesPair 100 = .ok (.aload_n 0, 1) := by decide +kernel
theorem dX9_writesPair_101 : decode cX9_writesPair 101 = .ok (.getfield 256, 3) := by decide +kernel
theorem dX9_writesPair_104 : decode cX9_writesPair 104 = .ok (.invokevirtual 265, 3) := by decide +kernel
theorem dX9_writesPair_107 : decode cX9_writesPair 107 = .ok (.aload_n 0, 1) := by decide +kernel
theorem dX9_writesPair_108 : decode cX9_writesPair 108 = .ok (.iload_n 2, 1) := by decide +kernel
theorem dX9_writesPair_109 : decode cX9_writesPair 109 = .ok (.iload_n 1, 1) := by decide +kernel
theorem dX9_writesPair_110 : decode cX9_writesPair 110 = .ok (.iconst 1, 1) := by decide +kernel
theorem dX9_writesPair_111 : decode cX9_writesPair 111 = .ok (.if_icmp .ne 8, 3) := by decide +kernel
theorem dX9_writesPair_114 : decode cX9_writesPair 114 = .ok (.bipush 38, 2) := by decide +kernel
theorem dX9_writesPair_116 : decode cX9_writesPair 116 = .ok (.goto 5, 3) := by decide +kernel
theorem dX9_writesPair_119 : decode cX9_writesPair 119 = .ok (.bipush 124, 2) := by decide +kernel
theorem dX9_writesPair_121 : decode cX9_writesPair 121 = .ok (.invokevirtual 262, 3) := by decide +kernel
theorem dX9_writesPair_124 : decode cX9_writesPair 124 = .ok (.iload 5, 2) := by decide +kernel
theorem dX9_writesPair_126 : decode cX9_writesPair 126 = .ok (.ifCond .eq 9, 3) := by decide +kernel
theorem dX9_writesPair_129 : decode cX9_writesPair 129 = .ok (.aload_n 0, 1) := by decide +kernel
theorem dX9_writesPair_130 : decode cX9_writesPair 130 = .ok (.iload_n 3, 1) := by decide +kernel
theorem dX9_writesPair_131 : decode cX9_writesPair 131 = .ok (.iload_n 2, 1) := by decide +kernel
theorem dX9_writesPair_132 : decode cX9_writesPair 132 = .ok (.invokevirtual 265, 3) := by decide +kernel
theorem dX9_writesPair_135 : decode cX9_writesPair 135 = .ok (.aload_n 0, 1) := by decide +kernel
theorem dX9_writesPair_136 : decode cX9_writesPair 136 = .ok (.dup, 1) := by decide +kernel
theorem dX9_writesPair_137 : decode cX9_writesPair 137 = .ok (.getfield 89, 3) := by decide +kernel
theorem dX9_writesPair_140 : decode cX9_writesPair 140 = .ok (.iconst 1, 1) := by decide +kernel
theorem dX9_writesPair_141 : decode cX9_writesPair 141 = .ok (.isub, 1) := by decide +kernel
theorem dX9_writesPair_142 : decode cX9_writesPair 142 = .ok (.putfield 89, 3) := by decide +kernel
theorem dX9_writesPair_145 : decode cX9_writesPair 145 = .ok (.aload_n 0, 1) := by decide +kernel
theorem dX9_writesPair_146 : decode cX9_writesPair 146 = .ok (.getfield 32, 3) := by decide +kernel
theorem dX9_writesPair_149 : decode cX9_writesPair 149 = .ok (.aload_n 0, 1) := by decide +kernel
theorem dX9_writesPair_150 : decode cX9_writesPair 150 = .ok (.getfield 89, 3) := by decide +kernel
theorem dX9_writesPair_153 : decode cX9_writesPair 153 = .ok (.iconst 1, 1) := by decide +kernel
theorem dX9_writesPair_154 : decode cX9_writesPair 154 = .ok (.isub, 1) := by decide +kernel
theorem dX9_writesPair_155 : decode cX9_writesPair 155 = .ok (.iload_n 1, 1) := by decide +kernel
theorem dX9_writesPair_156 : decode cX9_writesPair 156 = .ok (.iastore, 1) := by decide +kernel
theorem dX9_writesPair_157 : decode cX9_writesPair 157 = .ok (.return_, 1) := by decide +kernel
theorem dX9_writesAll_0 : decode cX9_writesAll 0 = .ok (.aload_n 0, 1) := by decide +kernel
theorem dX9_writesAll_1 : decode cX9_writesAll 1 = .ok (.iconst 0, 1) := by decide +kernel
theorem dX9_writesAll_2 : decode cX9_writesAll 2 = .ok (.putfield 256, 3) := by decide +kernel
theorem dX9_writesAll_5 : decode cX9_writesAll 5 = .ok (.aload_n 0, 1) := by decide +kernel
theorem dX9_writesAll_6 : decode cX9_writesAll 6 = .ok (.iconst 0, 1) := by decide +kernel
theorem dX9_writesAll_7 : decode cX9_writesAll 7 = .ok (.putfield 89, 3) := by decide +kernel
theorem dX9_writesAll_10 : decode cX9_writesAll 10 = .ok (.iconst 0, 1) := by decide +kernel
theorem dX9_writesAll_11 : decode cX9_writesAll 11 = .ok (.istore_n 2, 1) := by decide +kernel
theorem dX9_writesAll_12 : decode cX9_writesAll 12 = .ok (.iload_n 2, 1) := by decide +kernel
theorem dX9_writesAll_13 : decode cX9_writesAll 13 = .ok (.aload_n 0, 1) := by decide +kernel
theorem dX9_writesAll_14 : decode cX9_writesAll 14 = .ok (.iload_n 1, 1) := by decide +kernel
theorem dX9_writesAll_15 : decode cX9_writesAll 15 = .ok (.invokevirtual 92, 3) := by decide +kernel
theorem dX9_writesAll_18 : decode cX9_writesAll 18 = .ok (.if_icmp .ge 80, 3) := by decide +kernel
theorem dX9_writesAll_21 : decode cX9_writesAll 21 = .ok (.aload_n 0, 1) := by decide +kernel
theorem dX9_writesAll_22 : decode cX9_writesAll 22 = .ok (.iload_n 1, 1) := by decide +kernel
theorem dX9_writesAll_23 : decode cX9_writesAll 23 = .ok (.iload_n 2, 1) := by decide +kernel
theorem dX9_writesAll_24 : decode cX9_writesAll 24 = .ok (.invokevirtual 95, 3) := by decide +kernel
theorem dX9_writesAll_27 : decode cX9_writesAll 27 = .ok (.istore_n 3, 1) := by decide +kernel
theorem dX9_writesAll_28 : decode cX9_writesAll 28 = .ok (.iload_n 3, 1) := by decide +kernel
theorem dX9_writesAll_29 : decode cX9_writesAll 29 = .ok (.invokestatic 99, 3) := by decide +kernel
theorem dX9_writesAll_32 : decode cX9_writesAll 32 = .ok (.ifCond .eq 44, 3) := by decide +kernel
theorem dX9_writesAll_35 : decode cX9_writesAll 35 = .ok (.aload_n 0, 1) := by decide +kernel
theorem dX9_writesAll_36 : decode cX9_writesAll 36 = .ok (.getfield 32, 3) := by decide +kernel
theorem dX9_writesAll_39 : decode cX9_writesAll 39 = .ok (.aload_n 0, 1) := by decide +kernel
theorem dX9_writesAll_40 : decode cX9_writesAll 40 = .ok (.getfield 89, 3) := by decide +kernel
theorem dX9_writesAll_43 : decode cX9_writesAll 43 = .ok (.iconst 4, 1) := by decide +kernel
theorem dX9_writesAll_44 : decode cX9_writesAll 44 = .ok (.iastore, 1) := by decide +kernel
theorem dX9_writesAll_45 : decode cX9_writesAll 45 = .ok (.aload_n 0, 1) := by decide +kernel
theorem dX9_writesAll_46 : decode cX9_writesAll 46 = .ok (.getfield 44, 3) := by decide +kernel
theorem dX9_writesAll_49 : decode cX9_writesAll 49 = .ok (.aload_n 0, 1) := by decide +kernel
theorem dX9_writesAll_50 : decode cX9_writesAll 50 = .ok (.getfield 89, 3) := by decide +kernel
theorem dX9_writesAll_53 : decode cX9_writesAll 53 = .ok (.aload_n 0, 1) := by decide +kernel
theorem dX9_writesAll_54 : decode cX9_writesAll 54 = .ok (.getfield 256, 3) := by decide +kernel
theorem dX9_writesAll_57 : decode cX9_writesAll 57 = .ok (.iastore, 1) := by decide +kernel
theorem dX9_writesAll_58 : decode cX9_writesAll 58 = .ok (.aload_n 0, 1) := by decide +kernel
theorem dX9_writesAll_59 : decode cX9_writesAll 59 = .ok (.dup, 1) := by decide +kernel
theorem dX9_writesAll_60 : decode cX9_writesAll 60 = .ok (.getfield 89, 3) := by decide +kernel
theorem dX9_writesAll_63 : decode cX9_writesAll 63 = .ok (.iconst 1, 1) := by decide +kernel
theorem dX9_writesAll_64 : decode cX9_writesAll 64 = .ok (.iadd, 1) := by decide +kernel
theorem dX9_writesAll_65 : decode cX9_writesAll 65 = .ok (.putfield 89, 3) := by decide +kernel
theorem dX9_writesAll_68 : decode cX9_writesAll 68 = .ok (.aload_n 0, 1) := by decide +kernel
theorem dX9_writesAll_69 : decode cX9_writesAll 69 = .ok (.iload_n 3, 1) := by decide +kernel
theorem dX9_writesAll_70 : decode cX9_writesAll 70 = .ok (.invokevirtual 268, 3) := by decide +kernel
theorem dX9_writesAll_73 : decode cX9_writesAll 73 = .ok (.goto 19, 3) := by decide +kernel
theorem dX9_writesAll_76 : decode cX9_writesAll 76 = .ok (.iload_n 3, 1) := by decide +kernel
theorem dX9_writesAll_77 : decode cX9_writesAll 77 = .ok (.ifCond .ne 10, 3) := by decide +kernel
theorem dX9_writesAll_80 : decode cX9_writesAll 80 = .ok (.aload_n 0, 1) := by decide +kernel
theorem dX9_writesAll_81 : decode cX9_writesAll 81 = .ok (.invokevirtual 271, 3) := by decide +kernel
theorem dX9_writesAll_84 : decode cX9_writesAll 84 = .ok (.goto 8, 3) := by decide +kernel
theorem dX9_writesAll_87 : decode cX9_writesAll 87 = .ok (.aload_n 0, 1) := by decide +kernel
theorem dX9_writesAll_88 : decode cX9_writesAll 88 = .ok (.iload_n 3, 1) := by decide +kernel
theorem dX9_writesAll_89 : decode cX9_writesAll 89 = .ok (.invokevirtual 274, 3) := by decide +kernel
theorem dX9_writesAll_92 : decode cX9_writesAll 92 = .ok (.iinc 2 1, 3) := by decide +kernel
theorem dX9_writesAll_95 : decode cX9_writesAll 95 = .ok (.goto (-83), 3) := by decide +kernel
theorem dX9_writesAll_98 : decode cX9_writesAll 98 = .ok (.aload_n 0, 1) := by decide +kernel
theorem dX9_writesAll_99 : decode cX9_writesAll 99 = .ok (.getfield 256, 3) := by decide +kernel
theorem dX9_writesAll_102 : decode cX9_writesAll 102 = .ok (.ireturn, 1) := by decide +kernel
theorem dX9_aboutFilter_0 : decode cX9_aboutFilter 0 = .ok (.iload_n 2, 1) := by decide +kernel
theorem dX9_aboutFilter_1 : decode cX9_aboutFilter 1 = .ok (.tableswitch 55 0 3 #[31, 37, 43, 49], 31) := by decide +kernel
theorem dX9_aboutFilter_32 : decode cX9_aboutFilter 32 = .ok (.aload_n 0, 1) := by decide +kernel
theorem dX9_aboutFilter_33 : decode cX9_aboutFilter 33 = .ok (.iload_n 1, 1) := by decide +kernel
theorem dX9_aboutFilter_34 : decode cX9_aboutFilter 34 = .ok (.invokevirtual 92, 3) := by decide +kernel
theorem dX9_aboutFilter_37 : decode cX9_aboutFilter 37 = .ok (.ireturn, 1) := by decide +kernel
theorem dX9_aboutFilter_38 : decode cX9_aboutFilter 38 = .ok (.aload_n 0, 1) := by decide +kernel
theorem dX9_aboutFilter_39 : decode cX9_aboutFilter 39 = .ok (.iload_n 1, 1) := by decide +kernel
theorem dX9_aboutFilter_40 : decode cX9_aboutFilter 40 = .ok (.invokevirtual 277, 3) := by decide +kernel
theorem dX9_aboutFilter_43 : decode cX9_aboutFilter 43 = .ok (.ireturn, 1) := by decide +kernel
theorem dX9_aboutFilter_44 : decode cX9_aboutFilter 44 = .ok (.aload_n 0, 1) := by decide +kernel
theorem dX9_aboutFilter_45 : decode cX9_aboutFilter 45 = .ok (.iload_n 1, 1) := by decide +kernel
theorem dX9_aboutFilter_46 : decode cX9_aboutFilter 46 = .ok (.invokevirtual 280, 3) := by decide +kernel
theorem dX9_aboutFilter_49 : decode cX9_aboutFilter 49 = .ok (.ireturn, 1) := by decide +kernel
theorem dX9_aboutFilter_50 : decode cX9_aboutFilter 50 = .ok (.aload_n 0, 1) := by decide +kernel
theorem dX9_aboutFilter_51 : decode cX9_aboutFilter 51 = .ok (.iload_n 1, 1) := by decide +kernel
theorem dX9_aboutFilter_52 : decode cX9_aboutFilter 52 = .ok (.invokevirtual 283, 3) := by decide +kernel
theorem dX9_aboutFilter_55 : decode cX9_aboutFilter 55 = .ok (.ireturn, 1) := by decide +kernel
theorem dX9_aboutFilter_56 : decode cX9_aboutFilter 56 = .ok (.aload_n 0, 1) := by decide +kernel
theorem dX9_aboutFilter_57 : decode cX9_aboutFilter 57 = .ok (.iload_n 1, 1) := by decide +kernel
theorem dX9_aboutFilter_58 : decode cX9_aboutFilter 58 = .ok (.invokevirtual 286, 3) := by decide +kernel
theorem dX9_aboutFilter_61 : decode cX9_aboutFilter 61 = .ok (.ireturn, 1) := by decide +kernel
theorem dX9_filter_0 : decode cX9_filter 0 = .ok (.aload_n 0, 1) := by decide +kernel
theorem dX9_filter_1 : decode cX9_filter 1 = .ok (.iconst 0, 1) := by decide +kernel
theorem dX9_filter_2 : decode cX9_filter 2 = .ok (.putfield 47, 3) := by decide +kernel
theorem dX9_filter_5 : decode cX9_filter 5 = .ok (.iload_n 1, 1) := by decide +kernel
theorem dX9_filter_6 : decode cX9_filter 6 = .ok (.invokestatic 147, 3) := by decide +kernel
theorem dX9_filter_9 : decode cX9_filter 9 = .ok (.ifCond .ne 9, 3) := by decide +kernel
theorem dX9_filter_12 : decode cX9_filter 12 = .ok (.aload_n 0, 1) := by decide +kernel
theorem dX9_filter_13 : decode cX9_filter 13 = .ok (.iconst 1, 1) := by decide +kernel
theorem dX9_filter_14 : decode cX9_filter 14 = .ok (.invokevirtual 119, 3) := by decide +kernel
theorem dX9_filter_17 : decode cX9_filter 17 = .ok (.ireturn, 1) := by decide +kernel
theorem dX9_filter_18 : decode cX9_filter 18 = .ok (.iload_n 2, 1) := by decide +kernel
theorem dX9_filter_19 : decode cX9_filter 19 = .ok (.iconst 0, 1) := by decide +kernel
theorem dX9_filter_20 : decode cX9_filter 20 = .ok (.iconst 4, 1) := by decide +kernel
theorem dX9_filter_21 : decode cX9_filter 21 = .ok (.invokestatic 62, 3) := by decide +kernel
theorem dX9_filter_24 : decode cX9_filter 24 = .ok (.ifCond .ne 9, 3) := by decide +kernel
theorem dX9_filter_27 : decode cX9_filter 27 = .ok (.aload_n 0, 1) := by decide +kernel
theorem dX9_filter_28 : decode cX9_filter 28 = .ok (.iconst 2, 1) := by decide +kernel
theorem dX9_filter_29 : decode cX9_filter 29 = .ok (.invokevirtual 119, 3) := by decide +kernel
theorem dX9_filter_32 : decode cX9_filter 32 = .ok (.ireturn, 1) := by decide +kernel
theorem dX9_filter_33 : decode cX9_filter 33 = .ok (.aload_n 0, 1) := by decide +kernel
theorem dX9_filter_34 : decode cX9_filter 34 = .ok (.iload_n 1, 1) := by decide +kernel
theorem dX9_filter_35 : decode cX9_filter 35 = .ok (.invokevirtual 92, 3) := by decide +kernel
theorem dX9_filter_38 : decode cX9_filter 38 = .ok (.ifCond .ne 8, 3) := by decide +kernel
theorem dX9_filter_41 : decode cX9_filter 41 = .ok (.bipush (-2), 2) := by decide +kernel
theorem dX9_filter_43 : decode cX9_filter 43 = .ok (.goto 9, 3) := by decide +kernel
theorem dX9_filter_46 : decode cX9_filter 46 = .ok (.aload_n 0, 1) := by decide +kernel
theorem dX9_filter_47 : decode cX9_filter 47 = .ok (.iload_n 1, 1) := by decide +kernel
theorem dX9_filter_48 : decode cX9_filter 48 = .ok (.iload_n 2, 1) := by decide +kernel
theorem dX9_filter_49 : decode cX9_filter 49 = .ok (.invokevirtual 289, 3) := by decide +kernel
theorem dX9_filter_52 : decode cX9_filter 52 = .ok (.ireturn, 1) := by decide +kernel
theorem dX9_letter_0 : decode cX9_letter 0 = .ok (.aload_n 0, 1) := by decide +kernel
theorem dX9_letter_1 : decode cX9_letter 1 = .ok (.iconst 0, 1) := by decide +kernel
theorem dX9_letter_2 : decode cX9_letter 2 = .ok (.putfield 47, 3) := by decide +kernel
theorem dX9_letter_5 : decode cX9_letter 5 = .ok (.iload_n 1, 1) := by decide +kernel
theorem dX9_letter_6 : decode cX9_letter 6 = .ok (.invokestatic 147, 3) := by decide +kernel
theorem dX9_letter_9 : decode cX9_letter 9 = .ok (.ifCond .ne 9, 3) := by decide +kernel
theorem dX9_letter_12 : decode cX9_letter 12 = .ok (.aload_n 0, 1) := by decide +kernel
theorem dX9_letter_13 : decode cX9_letter 13 = .ok (.iconst 1, 1) := by decide +kernel
theorem dX9_letter_14 : decode cX9_letter 14 = .ok (.invokevirtual 119, 3) := by decide +kernel
theorem dX9_letter_17 : decode cX9_letter 17 = .ok (.ireturn, 1) := by decide +kernel
theorem dX9_letter_18 : decode cX9_letter 18 = .ok (.iload_n 2, 1) := by decide +kernel
theorem dX9_letter_19 : decode cX9_letter 19 = .ok (.ifCond .ge 9, 3) := by decide +kernel
theorem dX9_letter_22 : decode cX9_letter 22 = .ok (.aload_n 0, 1) := by decide +kernel
theorem dX9_letter_23 : decode cX9_letter 23 = .ok (.iconst 2, 1) := by decide +kernel
theorem dX9_letter_24 : decode cX9_letter 24 = .ok (.invokevirtual 119, 3) := by decide +kernel
theorem dX9_letter_27 : decode cX9_letter 27 = .ok (.ireturn, 1) := by decide +kernel
theorem dX9_letter_28 : decode cX9_letter 28 = .ok (.iload_n 2, 1) := by decide +kernel
theorem dX9_letter_29 : decode cX9_letter 29 = .ok (.aload_n 0, 1) := by decide +kernel
theorem dX9_letter_30 : decode cX9_letter 30 = .ok (.iload_n 1, 1) := by decide +kernel
theorem dX9_letter_31 : decode cX9_letter 31 = .ok (.invokevirtual 286, 3) := by decide +kernel
theorem dX9_letter_34 : decode cX9_letter 34 = .ok (.if_icmp .ge 12, 3) := by decide +kernel
theorem dX9_letter_37 : decode cX9_letter 37 = .ok (.aload_n 0, 1) := by decide +kernel
theorem dX9_letter_38 : decode cX9_letter 38 = .ok (.getfield 41, 3) := by decide +kernel
theorem dX9_letter_41 : decode cX9_letter 41 = .ok (.iload_n 2, 1) := by decide +kernel
theorem dX9_letter_42 : decode cX9_letter 42 = .ok (.iaload, 1) := by decide +kernel
theorem dX9_letter_43 : decode cX9_letter 43 = .ok (.goto 5, 3) := by decide +kernel
theorem dX9_letter_46 : decode cX9_letter 46 = .ok (.bipush (-2), 2) := by decide +kernel
theorem dX9_letter_48 : decode cX9_letter 48 = .ok (.ireturn, 1) := by decide +kernel
theorem dX9_compare_0 : decode cX9_compare 0 = .ok (.aload_n 0, 1) := by decide +kernel
theorem dX9_compare_1 : decode cX9_compare 1 = .ok (.iconst 0, 1) := by decide +kernel
theorem dX9_compare_2 : decode cX9_compare 2 = .ok (.putfield 47, 3) := by decide +kernel
theorem dX9_compare_5 : decode cX9_compare 5 = .ok (.iload_n 1, 1) := by decide +kernel
theorem dX9_compare_6 : decode cX9_compare 6 = .ok (.invokestatic 66, 3) := by decide +kernel
theorem dX9_compare_9 : decode cX9_compare 9 = .ok (.ifCond .eq 17, 3) := by decide +kernel
theorem dX9_compare_12 : decode cX9_compare 12 = .ok (.iload_n 2, 1) := by decide +kernel
theorem dX9_compare_13 : decode cX9_compare 13 = .ok (.invokestatic 147, 3) := by decide +kernel
theorem dX9_compare_16 : decode cX9_compare 16 = .ok (.ifCond .eq 10, 3) := by decide +kernel
theorem dX9_compare_19 : decode cX9_compare 19 = .ok (.iload_n 3, 1) := by decide +kernel
theorem dX9_compare_20 : decode cX9_compare 20 = .ok (.invokestatic 147, 3) := by decide +kernel
theorem dX9_compare_23 : decode cX9_compare 23 = .ok (.ifCond .ne 9, 3) := by decide +kernel
theorem dX9_compare_26 : decode cX9_compare 26 = .ok (.aload_n 0, 1) := by decide +kernel
theorem dX9_compare_27 : decode cX9_compare 27 = .ok (.iconst 1, 1) := by decide +kernel
theorem dX9_compare_28 : decode cX9_compare 28 = .ok (.invokevirtual 119, 3) := by decide +kernel
theorem dX9_compare_31 : decode cX9_compare 31 = .ok (.ireturn, 1) := by decide +kernel
theorem dX9_compare_32 : decode cX9_compare 32 = .ok (.iload 4, 2) := by decide +kernel
theorem dX9_compare_34 : decode cX9_compare 34 = .ok (.iconst 0, 1) := by decide +kernel
theorem dX9_compare_35 : decode cX9_compare 35 = .ok (.iconst 2, 1) := by decide +kernel
theorem dX9_compare_36 : decode cX9_compare 36 = .ok (.invokestatic 62, 3) := by decide +kernel
theorem dX9_compare_39 : decode cX9_compare 39 = .ok (.ifCond .ne 9, 3) := by decide +kernel
theorem dX9_compare_42 : decode cX9_compare 42 = .ok (.aload_n 0, 1) := by decide +kernel
theorem dX9_compare_43 : decode cX9_compare 43 = .ok (.iconst 2, 1) := by decide +kernel
theorem dX9_compare_44 : decode cX9_compare 44 = .ok (.invokevirtual 119, 3) := by decide +kernel
theorem dX9_compare_47 : decode cX9_compare 47 = .ok (.ireturn, 1) := by decide +kernel
theorem dX9_compare_48 : decode cX9_compare 48 = .ok (.aload_n 0, 1) := by decide +kernel
theorem dX9_compare_49 : decode cX9_compare 49 = .ok (.iload_n 2, 1) := by decide +kernel
theorem dX9_compare_50 : decode cX9_compare 50 = .ok (.invokevirtual 92, 3) := by decide +kernel
theorem dX9_compare_53 : decode cX9_compare 53 = .ok (.ifCond .eq 11, 3) := by decide +kernel
theorem dX9_compare_56 : decode cX9_compare 56 = .ok (.aload_n 0, 1) := by decide +kernel
theorem dX9_compare_57 : decode cX9_compare 57 = .ok (.iload_n 3, 1) := by decide +kernel
theorem dX9_compare_58 : decode cX9_compare 58 = .ok (.invokevirtual 92, 3) := by decide +kernel
theorem dX9_compare_61 : decode cX9_compare 61 = .ok (.ifCond .ne 6, 3) := by decide +kernel
theorem dX9_compare_64 : decode cX9_compare 64 = .ok (.bipush (-2), 2) := by decide +kernel
theorem dX9_compare_66 : decode cX9_compare 66 = .ok (.ireturn, 1) := by decide +kernel
theorem dX9_compare_67 : decode cX9_compare 67 = .ok (.iconst 0, 1) := by decide +kernel
theorem dX9_compare_68 : decode cX9_compare 68 = .ok (.istore 5, 2) := by decide +kernel
theorem dX9_compare_70 : decode cX9_compare 70 = .ok (.iconst 0, 1) := by decide +kernel
theorem dX9_compare_71 : decode cX9_compare 71 = .ok (.istore 6, 2) := by decide +kernel
theorem dX9_compare_73 : decode cX9_compare 73 = .ok (.iload 6, 2) := by decide +kernel
theorem dX9_compare_75 : decode cX9_compare 75 = .ok (.aload_n 0, 1) := by decide +kernel
theorem dX9_compare_76 : decode cX9_compare 76 = .ok (.iload_n 1, 1) := by decide +kernel
theorem dX9_compare_77 : decode cX9_compare 77 = .ok (.invokevirtual 70, 3) := by decide +kernel
theorem dX9_compare_80 : decode cX9_compare 80 = .ok (.if_icmp .ge 104, 3) := by decide +kernel
theorem dX9_compare_83 : decode cX9_compare 83 = .ok (.aload_n 0, 1) := by decide +kernel
theorem dX9_compare_84 : decode cX9_compare 84 = .ok (.iload_n 1, 1) := by decide +kernel
theorem dX9_compare_85 : decode cX9_compare 85 = .ok (.iload 6, 2) := by decide +kernel
theorem dX9_compare_87 : decode cX9_compare 87 = .ok (.iload_n 2, 1) := by decide +kernel
theorem dX9_compare_88 : decode cX9_compare 88 = .ok (.invokevirtual 116, 3) := by decide +kernel
theorem dX9_compare_91 : decode cX9_compare 91 = .ok (.istore 7, 2) := by decide +kernel
theorem dX9_compare_93 : decode cX9_compare 93 = .ok (.aload_n 0, 1) := by decide +kernel
theorem dX9_compare_94 : decode cX9_compare 94 = .ok (.iload_n 1, 1) := by decide +kernel
theorem dX9_compare_95 : decode cX9_compare 95 = .ok (.iload 6, 2) := by decide +kernel
theorem dX9_compare_97 : decode cX9_compare 97 = .ok (.iload_n 3, 1) := by decide +kernel
theorem dX9_compare_98 : decode cX9_compare 98 = .ok (.invokevirtual 116, 3) := by decide +kernel
theorem dX9_compare_101 : decode cX9_compare 101 = .ok (.istore 8, 2) := by decide +kernel
theorem dX9_compare_103 : decode cX9_compare 103 = .ok (.iload 4, 2) := by decide +kernel
theorem dX9_compare_105 : decode cX9_compare 105 = .ok (.ifCond .ne 18, 3) := by decide +kernel
theorem dX9_compare_108 : decode cX9_compare 108 = .ok (.iload 7, 2) := by decide +kernel
theorem dX9_compare_110 : decode cX9_compare 110 = .ok (.iload 8, 2) := by decide +kernel
theorem dX9_compare_112 : decode cX9_compare 112 = .ok (.if_icmp .ne 7, 3) := by decide +kernel
theorem dX9_compare_115 : decode cX9_compare 115 = .ok (.iconst 1, 1) := by decide +kernel
theorem dX9_compare_116 : decode cX9_compare 116 = .ok (.goto 45, 3) := by decide +kernel
theorem dX9_compare_119 : decode cX9_compare 119 = .ok (.iconst 0, 1) := by decide +kernel
theorem dX9_compare_120 : decode cX9_compare 120 = .ok (.goto 41, 3) := by decide +kernel
theorem dX9_compare_123 : decode cX9_compare 123 = .ok (.iload 4, 2) := by decide +kernel
theorem dX9_compare_125 : decode cX9_compare 125 = .ok (.iconst 1, 1) := by decide +kernel
theorem dX9_compare_126 : decode cX9_compare 126 = .ok (.if_icmp .ne 23, 3) := by decide +kernel
theorem dX9_compare_129 : decode cX9_compare 129 = .ok (.iload 7, 2) := by decide +kernel
theorem dX9_compare_131 : decode cX9_compare 131 = .ok (.iconst 2, 1) := by decide +kernel
theorem dX9_compare_132 : decode cX9_compare 132 = .ok (.if_icmp .ne 13, 3) := by decide +kernel
theorem dX9_compare_135 : decode cX9_compare 135 = .ok (.iload 8, 2) := by decide +kernel
theorem dX9_compare_137 : decode cX9_compare 137 = .ok (.iconst 2, 1) := by decide +kernel
theorem dX9_compare_138 : decode cX9_compare 138 = .ok (.if_icmp .eq 7, 3) := by decide +kernel
theorem dX9_compare_141 : decode cX9_compare 141 = .ok (.iconst 1, 1) := by decide +kernel
theorem dX9_compare_142 : decode cX9_compare 142 = .ok (.goto 19, 3) := by decide +kernel
theorem dX9_compare_145 : decode cX9_compare 145 = .ok (.iconst 0, 1) := by decide +kernel
theorem dX9_compare_146 : decode cX9_compare 146 = .ok (.goto 15, 3) := by decide +kernel
theorem dX9_compare_149 : decode cX9_compare 149 = .ok (.iload 7, 2) := by decide +kernel
theorem dX9_compare_151 : decode cX9_compare 151 = .ok (.iload 8, 2) := by decide +kernel
theorem dX9_compare_153 : decode cX9_compare 153 = .ok (.if_icmp .ge 7, 3) := by decide +kernel
theorem dX9_compare_156 : decode cX9_compare 156 = .ok (.iconst 1, 1) := by decide +kernel
theorem dX9_compare_157 : decode cX9_compare 157 = .ok (.goto 4, 3) := by decide +kernel
theorem dX9_compare_160 : decode cX9_compare 160 = .ok (.iconst 0, 1) := by decide +kernel
theorem dX9_compare_161 : decode cX9_compare 161 = .ok (.istore 9, 2) := by decide +kernel
theorem dX9_compare_163 : decode cX9_compare 163 = .ok (.iload 5, 2) := by decide +kernel
theorem dX9_compare_165 : decode cX9_compare 165 = .ok (.iload 9, 2) := by decide +kernel
theorem dX9_compare_167 : decode cX9_compare 167 = .ok (.ifCond .eq 7, 3) := by decide +kernel
theorem dX9_compare_170 : decode cX9_compare 170 = .ok (.iconst 1, 1) := by decide +kernel
theorem dX9_compare_171 : decode cX9_compare 171 = .ok (.goto 4, 3) := by decide +kernel
theorem dX9_compare_174 : decode cX9_compare 174 = .ok (.iconst 0, 1) := by decide +kernel
theorem dX9_compare_175 : decode cX9_compare 175 = .ok (.iadd, 1) := by decide +kernel
theorem dX9_compare_176 : decode cX9_compare 176 = .ok (.istore 5, 2) := by decide +kernel
theorem dX9_compare_178 : decode cX9_compare 178 = .ok (.iinc 6 1, 3) := by decide +kernel
theorem dX9_compare_181 : decode cX9_compare 181 = .ok (.goto (-108), 3) := by decide +kernel
theorem dX9_compare_184 : decode cX9_compare 184 = .ok (.iload 5, 2) := by decide +kernel
theorem dX9_compare_186 : decode cX9_compare 186 = .ok (.ireturn, 1) := by decide +kernel
theorem dX9_forAll_0 : decode cX9_forAll 0 = .ok (.iconst 0, 1) := by decide +kernel
theorem dX9_forAll_1 : decode cX9_forAll 1 = .ok (.istore 4, 2) := by decide +kernel
theorem dX9_forAll_3 : decode cX9_forAll 3 = .ok (.iconst 0, 1) := by decide +kernel
theorem dX9_forAll_4 : decode cX9_forAll 4 = .ok (.istore 5, 2) := by decide +kernel
theorem dX9_forAll_6 : decode cX9_forAll 6 = .ok (.iconst 0, 1) := by decide +kernel
theorem dX9_forAll_7 : decode cX9_forAll 7 = .ok (.istore 6, 2) := by decide +kernel
theorem dX9_forAll_9 : decode cX9_forAll 9 = .ok (.iload 6, 2) := by decide +kernel
theorem dX9_forAll_11 : decode cX9_forAll 11 = .ok (.sipush 10000, 3) := by decide +kernel
theorem dX9_forAll_14 : decode cX9_forAll 14 = .ok (.if_icmp .ge 127, 3) := by decide +kernel
theorem dX9_forAll_17 : decode cX9_forAll 17 = .ok (.iload_n 2, 1) := by decide +kernel
theorem dX9_forAll_18 : decode cX9_forAll 18 = .ok (.ifCond .lt 14, 3) := by decide +kernel
theorem dX9_forAll_21 : decode cX9_forAll 21 = .ok (.aload_n 0, 1) := by decide +kernel
theorem dX9_forAll_22 : decode cX9_forAll 22 = .ok (.getfield 26, 3) := by decide +kernel
theorem dX9_forAll_25 : decode cX9_forAll 25 = .ok (.iload_n 2, 1) := by decide +kernel
theorem dX9_forAll_26 : decode cX9_forAll 26 = .ok (.iload 6, 2) := by decide +kernel
theorem dX9_forAll_28 : decode cX9_forAll 28 = .ok (.bipush 100, 2) := by decide +kernel
theorem dX9_forAll_30 : decode cX9_forAll 30 = .ok (.irem, 1) := by decide +kernel
theorem dX9_forAll_31 : decode cX9_forAll 31 = .ok (.iastore, 1) := by decide +kernel
theorem dX9_forAll_32 : decode cX9_forAll 32 = .ok (.iload_n 3, 1) := by decide +kernel
theorem dX9_forAll_33 : decode cX9_forAll 33 = .ok (.ifCond .lt 14, 3) := by decide +kernel
theorem dX9_forAll_36 : decode cX9_forAll 36 = .ok (.aload_n 0, 1) := by decide +kernel
theorem dX9_forAll_37 : decode cX9_forAll 37 = .ok (.getfield 26, 3) := by decide +kernel
theorem dX9_forAll_40 : decode cX9_forAll 40 = .ok (.iload_n 3, 1) := by decide +kernel
theorem dX9_forAll_41 : decode cX9_forAll 41 = .ok (.iload 6, 2) := by decide +kernel
theorem dX9_forAll_43 : decode cX9_forAll 43 = .ok (.bipush 100, 2) := by decide +kernel
theorem dX9_forAll_45 : decode cX9_forAll 45 = .ok (.idiv, 1) := by decide +kernel
theorem dX9_forAll_46 : decode cX9_forAll 46 = .ok (.iastore, 1) := by decide +kernel
theorem dX9_forAll_47 : decode cX9_forAll 47 = .ok (.iload_n 2, 1) := by decide +kernel
theorem dX9_forAll_48 : decode cX9_forAll 48 = .ok (.ifCond .ge 11, 3) := by decide +kernel
theorem dX9_forAll_51 : decode cX9_forAll 51 = .ok (.iload 6, 2) := by decide +kernel
theorem dX9_forAll_53 : decode cX9_forAll 53 = .ok (.bipush 100, 2) := by decide +kernel
theorem dX9_forAll_55 : decode cX9_forAll 55 = .ok (.irem, 1) := by decide +kernel
theorem dX9_forAll_56 : decode cX9_forAll 56 = .ok (.ifCond .ne 19, 3) := by decide +kernel
theorem dX9_forAll_59 : decode cX9_forAll 59 = .ok (.iload_n 3, 1) := by decide +kernel
theorem dX9_forAll_60 : decode cX9_forAll 60 = .ok (.ifCond .ge 11, 3) := by decide +kernel
theorem dX9_forAll_63 : decode cX9_forAll 63 = .ok (.iload 6, 2) := by decide +kernel
theorem dX9_forAll_65 : decode cX9_forAll 65 = .ok (.bipush 100, 2) := by decide +kernel
theorem dX9_forAll_67 : decode cX9_forAll 67 = .ok (.idiv, 1) := by decide +kernel
theorem dX9_forAll_68 : decode cX9_forAll 68 = .ok (.ifCond .ne 7, 3) := by decide +kernel
theorem dX9_forAll_71 : decode cX9_forAll 71 = .ok (.iconst 1, 1) := by decide +kernel
theorem dX9_forAll_72 : decode cX9_forAll 72 = .ok (.goto 4, 3) := by decide +kernel
theorem dX9_forAll_75 : decode cX9_forAll 75 = .ok (.iconst 0, 1) := by decide +kernel
theorem dX9_forAll_76 : decode cX9_forAll 76 = .ok (.istore 7, 2) := by decide +kernel
theorem dX9_forAll_78 : decode cX9_forAll 78 = .ok (.iload 7, 2) := by decide +kernel
theorem dX9_forAll_80 : decode cX9_forAll 80 = .ok (.ifCond .eq 11, 3) := by decide +kernel
theorem dX9_forAll_83 : decode cX9_forAll 83 = .ok (.aload_n 0, 1) := by decide +kernel
theorem dX9_forAll_84 : decode cX9_forAll 84 = .ok (.iload_n 1, 1) := by decide +kernel
theorem dX9_forAll_85 : decode cX9_forAll 85 = .ok (.invokevirtual 113, 3) := by decide +kernel
theorem dX9_forAll_88 : decode cX9_forAll 88 = .ok (.goto 4, 3) := by decide +kernel
theorem dX9_forAll_91 : decode cX9_forAll 91 = .ok (.iconst 1, 1) := by decide +kernel
theorem dX9_forAll_92 : decode cX9_forAll 92 = .ok (.istore 8, 2) := by decide +kernel
theorem dX9_forAll_94 : decode cX9_forAll 94 = .ok (.iload 4, 2) := by decide +kernel
theorem dX9_forAll_96 : decode cX9_forAll 96 = .ok (.iload 7, 2) := by decide +kernel
theorem dX9_forAll_98 : decode cX9_forAll 98 = .ok (.ifCond .eq 13, 3) := by decide +kernel
theorem dX9_forAll_101 : decode cX9_forAll 101 = .ok (.iload 8, 2) := by decide +kernel
theorem dX9_forAll_103 : decode cX9_forAll 103 = .ok (.iconst 2, 1) := by decide +kernel
theorem dX9_forAll_104 : decode cX9_forAll 104 = .ok (.if_icmp .ne 7, 3) := by decide +kernel
theorem dX9_forAll_107 : decode cX9_forAll 107 = .ok (.iconst 1, 1) := by decide +kernel
theorem dX9_forAll_108 : decode cX9_forAll 108 = .ok (.goto 4, 3) := by decide +kernel
theorem dX9_forAll_111 : decode cX9_forAll 111 = .ok (.iconst 0, 1) := by decide +kernel
theorem dX9_forAll_112 : decode cX9_forAll 112 = .ok (.ior, 1) := by decide +kernel
theorem dX9_forAll_113 : decode cX9_forAll 113 = .ok (.istore 4, 2) := by decide +kernel
theorem dX9_forAll_115 : decode cX9_forAll 115 = .ok (.iload 5, 2) := by decide +kernel
theorem dX9_forAll_117 : decode cX9_forAll 117 = .ok (.iload 7, 2) := by decide +kernel
theorem dX9_forAll_119 : decode cX9_forAll 119 = .ok (.ifCond .eq 12, 3) := by decide +kernel
theorem dX9_forAll_122 : decode cX9_forAll 122 = .ok (.iload 8, 2) := by decide +kernel
theorem dX9_forAll_124 : decode cX9_forAll 124 = .ok (.ifCond .ne 7, 3) := by decide +kernel
theorem dX9_forAll_127 : decode cX9_forAll 127 = .ok (.iconst 1, 1) := by decide +kernel
theorem dX9_forAll_128 : decode cX9_forAll 128 = .ok (.goto 4, 3) := by decide +kernel
theorem dX9_forAll_131 : decode cX9_forAll 131 = .ok (.iconst 0, 1) := by decide +kernel
theorem dX9_forAll_132 : decode cX9_forAll 132 = .ok (.ior, 1) := by decide +kernel
theorem dX9_forAll_133 : decode cX9_forAll 133 = .ok (.istore 5, 2) := by decide +kernel
theorem dX9_forAll_135 : decode cX9_forAll 135 = .ok (.iinc 6 1, 3) := by decide +kernel
theorem dX9_forAll_138 : decode cX9_forAll 138 = .ok (.goto (-129), 3) := by decide +kernel
theorem dX9_forAll_141 : decode cX9_forAll 141 = .ok (.iload 4, 2) := by decide +kernel
theorem dX9_forAll_143 : decode cX9_forAll 143 = .ok (.iload 5, 2) := by decide +kernel
theorem dX9_forAll_145 : decode cX9_forAll 145 = .ok (.iadd, 1) := by decide +kernel
theorem dX9_forAll_146 : decode cX9_forAll 146 = .ok (.iconst 2, 1) := by decide +kernel
theorem dX9_forAll_147 : decode cX9_forAll 147 = .ok (.if_icmp .ne 7, 3) := by decide +kernel
theorem dX9_forAll_150 : decode cX9_forAll 150 = .ok (.iconst 1, 1) := by decide +kernel
theorem dX9_forAll_151 : decode cX9_forAll 151 = .ok (.goto 14, 3) := by decide +kernel
theorem dX9_forAll_154 : decode cX9_forAll 154 = .ok (.iload 4, 2) := by decide +kernel
theorem dX9_forAll_156 : decode cX9_forAll 156 = .ok (.iconst 1, 1) := by decide +kernel
theorem dX9_forAll_157 : decode cX9_forAll 157 = .ok (.if_icmp .ne 7, 3) := by decide +kernel
theorem dX9_forAll_160 : decode cX9_forAll 160 = .ok (.iconst 2, 1) := by decide +kernel
theorem dX9_forAll_161 : decode cX9_forAll 161 = .ok (.goto 4, 3) := by decide +kernel
theorem dX9_forAll_164 : decode cX9_forAll 164 = .ok (.iconst 0, 1) := by decide +kernel
theorem dX9_forAll_165 : decode cX9_forAll 165 = .ok (.ireturn, 1) := by decide +kernel
theorem dX9_certainAt_0 : decode cX9_certainAt 0 = .ok (.aload_n 0, 1) := by decide +kernel
theorem dX9_certainAt_1 : decode cX9_certainAt 1 = .ok (.iload_n 1, 1) := by decide +kernel
theorem dX9_certainAt_2 : decode cX9_certainAt 2 = .ok (.iload_n 2, 1) := by decide +kernel
theorem dX9_certainAt_3 : decode cX9_certainAt 3 = .ok (.invokevirtual 109, 3) := by decide +kernel
theorem dX9_certainAt_6 : decode cX9_certainAt 6 = .ok (.aload_n 0, 1) := by decide +kernel
theorem dX9_certainAt_7 : decode cX9_certainAt 7 = .ok (.iload_n 3, 1) := by decide +kernel
theorem dX9_certainAt_8 : decode cX9_certainAt 8 = .ok (.invokevirtual 283, 3) := by decide +kernel
theorem dX9_certainAt_11 : decode cX9_certainAt 11 = .ok (.istore 4, 2) := by decide +kernel
theorem dX9_certainAt_13 : decode cX9_certainAt 13 = .ok (.bipush (-2), 2) := by decide +kernel
theorem dX9_certainAt_15 : decode cX9_certainAt 15 = .ok (.istore 5, 2) := by decide +kernel
theorem dX9_certainAt_17 : decode cX9_certainAt 17 = .ok (.bipush (-2), 2) := by decide +kernel
theorem dX9_certainAt_19 : decode cX9_certainAt 19 = .ok (.istore 6, 2) := by decide +kernel
theorem dX9_certainAt_21 : decode cX9_certainAt 21 = .ok (.iconst 0, 1) := by decide +kernel
theorem dX9_certainAt_22 : decode cX9_certainAt 22 = .ok (.istore 7, 2) := by decide +kernel
theorem dX9_certainAt_24 : decode cX9_certainAt 24 = .ok (.iconst 0, 1) := by decide +kernel
theorem dX9_certainAt_25 : decode cX9_certainAt 25 = .ok (.istore 8, 2) := by decide +kernel
theorem dX9_certainAt_27 : decode cX9_certainAt 27 = .ok (.iload 8, 2) := by decide +kernel
theorem dX9_certainAt_29 : decode cX9_certainAt 29 = .ok (.iconst 4, 1) := by decide +kernel
theorem dX9_certainAt_30 : decode cX9_certainAt 30 = .ok (.if_icmp .ge 63, 3) := by decide +kernel
theorem dX9_certainAt_33 : decode cX9_certainAt 33 = .ok (.iload 4, 2) := by decide +kernel
theorem dX9_certainAt_35 : decode cX9_certainAt 35 = .ok (.iload 8, 2) := by decide +kernel
theorem dX9_certainAt_37 : decode cX9_certainAt 37 = .ok (.ishr, 1) := by decide +kernel
theorem dX9_certainAt_38 : decode cX9_certainAt 38 = .ok (.iconst 1, 1) := by decide +kernel
theorem dX9_certainAt_39 : decode cX9_certainAt 39 = .ok (.iand, 1) := by decide +kernel
theorem dX9_certainAt_40 : decode cX9_certainAt 40 = .ok (.iconst 1, 1) := by decide +kernel
theorem dX9_certainAt_41 : decode cX9_certainAt 41 = .ok (.if_icmp .ne 46, 3) := by decide +kernel
theorem dX9_certainAt_44 : decode cX9_certainAt 44 = .ok (.aload_n 0, 1) := by decide +kernel
theorem dX9_certainAt_45 : decode cX9_certainAt 45 = .ok (.getfield 26, 3) := by decide +kernel
theorem dX9_certainAt_48 : decode cX9_certainAt 48 = .ok (.iload 8, 2) := by decide +kernel
theorem dX9_certainAt_50 : decode cX9_certainAt 50 = .ok (.iaload, 1) := by decide +kernel
theorem dX9_certainAt_51 : decode cX9_certainAt 51 = .ok (.iconst (-1), 1) := by decide +kernel
theorem dX9_certainAt_52 : decode cX9_certainAt 52 = .ok (.if_icmp .ne 35, 3) := by decide +kernel
theorem dX9_certainAt_55 : decode cX9_certainAt 55 = .ok (.iload 7, 2) := by decide +kernel
theorem dX9_certainAt_57 : decode cX9_certainAt 57 = .ok (.iconst 1, 1) := by decide +kernel
theorem dX9_certainAt_58 : decode cX9_certainAt 58 = .ok (.if_icmp .ne 8, 3) := by decide +kernel
theorem dX9_certainAt_61 : decode cX9_certainAt 61 = .ok (.iload 8, 2) := by decide +kernel
theorem dX9_certainAt_63 : decode cX9_certainAt 63 = .ok (.goto 5, 3) := by decide +kernel
theorem dX9_certainAt_66 : decode cX9_certainAt 66 = .ok (.iload 6, 2) := by decide +kernel
theorem dX9_certainAt_68 : decode cX9_certainAt 68 = .ok (.istore 6, 2) := by decide +kernel
theorem dX9_certainAt_70 : decode cX9_certainAt 70 = .ok (.iload 7, 2) := by decide +kernel
theorem dX9_certainAt_72 : decode cX9_certainAt 72 = .ok (.ifCond .ne 8, 3) := by decide +kernel
theorem dX9_certainAt_75 : decode cX9_certainAt 75 = .ok (.iload 8, 2) := by decide +kernel
theorem dX9_certainAt_77 : decode cX9_certainAt 77 = .ok (.goto 5, 3) := by decide +kernel
theorem dX9_certainAt_80 : decode cX9_certainAt 80 = .ok (.iload 5, 2) := by decide +kernel
theorem dX9_certainAt_82 : decode cX9_certainAt 82 = .ok (.istore 5, 2) := by decide +kernel
theorem dX9_certainAt_84 : decode cX9_certainAt 84 = .ok (.iinc 7 1, 3) := by decide +kernel
theorem dX9_certainAt_87 : decode cX9_certainAt 87 = .ok (.iinc 8 1, 3) := by decide +kernel
theorem dX9_certainAt_90 : decode cX9_certainAt 90 = .ok (.goto (-63), 3) := by decide +kernel
theorem dX9_certainAt_93 : decode cX9_certainAt 93 = .ok (.iload 7, 2) := by decide +kernel
theorem dX9_certainAt_95 : decode cX9_certainAt 95 = .ok (.iconst 2, 1) := by decide +kernel
theorem dX9_certainAt_96 : decode cX9_certainAt 96 = .ok (.if_icmp .le 8, 3) := by decide +kernel
theorem dX9_certainAt_99 : decode cX9_certainAt 99 = .ok (.bipush (-2), 2) := by decide +kernel
theorem dX9_certainAt_101 : decode cX9_certainAt 101 = .ok (.goto 12, 3) := by decide +kernel
theorem dX9_certainAt_104 : decode cX9_certainAt 104 = .ok (.aload_n 0, 1) := by decide +kernel
theorem dX9_certainAt_105 : decode cX9_certainAt 105 = .ok (.iload_n 3, 1) := by decide +kernel
theorem dX9_certainAt_106 : decode cX9_certainAt 106 = .ok (.iload 5, 2) := by decide +kernel
theorem dX9_certainAt_108 : decode cX9_certainAt 108 = .ok (.iload 6, 2) := by decide +kernel
theorem dX9_certainAt_110 : decode cX9_certainAt 110 = .ok (.invokevirtual 292, 3) := by decide +kernel
theorem dX9_certainAt_113 : decode cX9_certainAt 113 = .ok (.ireturn, 1) := by decide +kernel
theorem dX9_certain_0 : decode cX9_certain 0 = .ok (.aload_n 0, 1) := by decide +kernel
theorem dX9_certain_1 : decode cX9_certain 1 = .ok (.iconst 0, 1) := by decide +kernel
theorem dX9_certain_2 : decode cX9_certain 2 = .ok (.putfield 47, 3) := by decide +kernel
theorem dX9_certain_5 : decode cX9_certain 5 = .ok (.aload_n 0, 1) := by decide +kernel
theorem dX9_certain_6 : decode cX9_certain 6 = .ok (.iload_n 1, 1) := by decide +kernel
theorem dX9_certain_7 : decode cX9_certain 7 = .ok (.iload_n 2, 1) := by decide +kernel
theorem dX9_certain_8 : decode cX9_certain 8 = .ok (.invokevirtual 132, 3) := by decide +kernel
theorem dX9_certain_11 : decode cX9_certain 11 = .ok (.ifCond .eq 10, 3) := by decide +kernel
theorem dX9_certain_14 : decode cX9_certain 14 = .ok (.iload_n 3, 1) := by decide +kernel
theorem dX9_certain_15 : decode cX9_certain 15 = .ok (.invokestatic 147, 3) := by decide +kernel
theorem dX9_certain_18 : decode cX9_certain 18 = .ok (.ifCond .ne 9, 3) := by decide +kernel
theorem dX9_certain_21 : decode cX9_certain 21 = .ok (.aload_n 0, 1) := by decide +kernel
theorem dX9_certain_22 : decode cX9_certain 22 = .ok (.iconst 1, 1) := by decide +kernel
theorem dX9_certain_23 : decode cX9_certain 23 = .ok (.invokevirtual 119, 3) := by decide +kernel
theorem dX9_certain_26 : decode cX9_certain 26 = .ok (.ireturn, 1) := by decide +kernel
theorem dX9_certain_27 : decode cX9_certain 27 = .ok (.aload_n 0, 1) := by decide +kernel
theorem dX9_certain_28 : decode cX9_certain 28 = .ok (.iload_n 3, 1) := by decide +kernel
theorem dX9_certain_29 : decode cX9_certain 29 = .ok (.invokevirtual 92, 3) := by decide +kernel
theorem dX9_certain_32 : decode cX9_certain 32 = .ok (.ifCond .ne 8, 3) := by decide +kernel
theorem dX9_certain_35 : decode cX9_certain 35 = .ok (.bipush (-2), 2) := by decide +kernel
theorem dX9_certain_37 : decode cX9_certain 37 = .ok (.goto 10, 3) := by decide +kernel
theorem dX9_certain_40 : decode cX9_certain 40 = .ok (.aload_n 0, 1) := by decide +kernel
theorem dX9_certain_41 : decode cX9_certain 41 = .ok (.iload_n 1, 1) := by decide +kernel
theorem dX9_certain_42 : decode cX9_certain 42 = .ok (.iload_n 2, 1) := by decide +kernel
theorem dX9_certain_43 : decode cX9_certain 43 = .ok (.iload_n 3, 1) := by decide +kernel
theorem dX9_certain_44 : decode cX9_certain 44 = .ok (.invokevirtual 295, 3) := by decide +kernel
theorem dX9_certain_47 : decode cX9_certain 47 = .ok (.ireturn, 1) := by decide +kernel
theorem dX9_arePartners_0 : decode cX9_arePartners 0 = .ok (.aload_n 0, 1) := by decide +kernel
theorem dX9_arePartners_1 : decode cX9_arePartners 1 = .ok (.iconst 0, 1) := by decide +kernel
theorem dX9_arePartners_2 : decode cX9_arePartners 2 = .ok (.iload_n 1, 1) := by decide +kernel
theorem dX9_arePartners_3 : decode cX9_arePartners 3 = .ok (.iload_n 3, 1) := by decide +kernel
theorem dX9_arePartners_4 : decode cX9_arePartners 4 = .ok (.invokevirtual 74, 3) := by decide +kernel
theorem dX9_arePartners_7 : decode cX9_arePartners 7 = .ok (.istore 5, 2) := by decide +kernel
theorem dX9_arePartners_9 : decode cX9_arePartners 9 = .ok (.iload 5, 2) := by decide +kernel
theorem dX9_arePartners_11 : decode cX9_arePartners 11 = .ok (.iconst (-1), 1) := by decide +kernel
theorem dX9_arePartners_12 : decode cX9_arePartners 12 = .ok (.if_icmp .eq 20, 3) := by decide +kernel
theorem dX9_arePartners_15 : decode cX9_arePartners 15 = .ok (.iload 5, 2) := by decide +kernel
theorem dX9_arePartners_17 : decode cX9_arePartners 17 = .ok (.aload_n 0, 1) := by decide +kernel
theorem dX9_arePartners_18 : decode cX9_arePartners 18 = .ok (.iconst 1, 1) := by decide +kernel
theorem dX9_arePartners_19 : decode cX9_arePartners 19 = .ok (.iload_n 2, 1) := by decide +kernel
theorem dX9_arePartners_20 : decode cX9_arePartners 20 = .ok (.iload 4, 2) := by decide +kernel
theorem dX9_arePartners_22 : decode cX9_arePartners 22 = .ok (.invokevirtual 74, 3) := by decide +kernel
theorem dX9_arePartners_25 : decode cX9_arePartners 25 = .ok (.if_icmp .ne 7, 3) := by decide +kernel
theorem dX9_arePartners_28 : decode cX9_arePartners 28 = .ok (.iconst 1, 1) := by decide +kernel
theorem dX9_arePartners_29 : decode cX9_arePartners 29 = .ok (.goto 4, 3) := by decide +kernel
theorem dX9_arePartners_32 : decode cX9_arePartners 32 = .ok (.iconst 0, 1) := by decide +kernel
theorem dX9_arePartners_33 : decode cX9_arePartners 33 = .ok (.ireturn, 1) := by decide +kernel
theorem dX9_pair_0 : decode cX9_pair 0 = .ok (.iconst 0, 1) := by decide +kernel
theorem dX9_pair_1 : decode cX9_pair 1 = .ok (.istore 4, 2) := by decide +kernel
theorem dX9_pair_3 : decode cX9_pair 3 = .ok (.iconst 0, 1) := by decide +kernel
theorem dX9_pair_4 : decode cX9_pair 4 = .ok (.istore 5, 2) := by decide +kernel
theorem dX9_pair_6 : decode cX9_pair 6 = .ok (.iload 5, 2) := by decide +kernel
theorem dX9_pair_8 : decode cX9_pair 8 = .ok (.aload_n 0, 1) := by decide +kernel
theorem dX9_pair_9 : decode cX9_pair 9 = .ok (.iconst 0, 1) := by decide +kernel
theorem dX9_pair_10 : decode cX9_pair 10 = .ok (.invokevirtual 70, 3) := by decide +kernel
theorem dX9_pair_13 : decode cX9_pair 13 = .ok (.aload_n 0, 1) := by decide +kernel
theorem dX9_pair_14 : decode cX9_pair 14 = .ok (.iconst 1, 1) := by decide +kernel
theorem dX9_pair_15 : decode cX9_pair 15 = .ok (.invokevirtual 70, 3) := by decide +kernel
theorem dX9_pair_18 : decode cX9_pair 18 = .ok (.imul, 1) := by decide +kernel
theorem dX9_pair_19 : decode cX9_pair 19 = .ok (.if_icmp .ge 60, 3) := by decide +kernel
theorem dX9_pair_22 : decode cX9_pair 22 = .ok (.iload 5, 2) := by decide +kernel
theorem dX9_pair_24 : decode cX9_pair 24 = .ok (.aload_n 0, 1) := by decide +kernel
theorem dX9_pair_25 : decode cX9_pair 25 = .ok (.iconst 1, 1) := by decide +kernel
theorem dX9_pair_26 : decode cX9_pair 26 = .ok (.invokevirtual 70, 3) := by decide +kernel
theorem dX9_pair_29 : decode cX9_pair 29 = .ok (.idiv, 1) := by decide +kernel
theorem dX9_pair_30 : decode cX9_pair 30 = .ok (.istore 6, 2) := by decide +kernel
theorem dX9_pair_32 : decode cX9_pair 32 = .ok (.iload 5, 2) := by decide +kernel
theorem dX9_pair_34 : decode cX9_pair 34 = .ok (.aload_n 0, 1) := by decide +kernel
theorem dX9_pair_35 : decode cX9_pair 35 = .ok (.iconst 1, 1) := by decide +kernel
theorem dX9_pair_36 : decode cX9_pair 36 = .ok (.invokevirtual 70, 3) := by decide +kernel
theorem dX9_pair_39 : decode cX9_pair 39 = .ok (.irem, 1) := by decide +kernel
theorem dX9_pair_40 : decode cX9_pair 40 = .ok (.istore 7, 2) := by decide +kernel
theorem dX9_pair_42 : decode cX9_pair 42 = .ok (.aload_n 0, 1) := by decide +kernel
theorem dX9_pair_43 : decode cX9_pair 43 = .ok (.iload 6, 2) := by decide +kernel
theorem dX9_pair_45 : decode cX9_pair 45 = .ok (.iload 7, 2) := by decide +kernel
theorem dX9_pair_47 : decode cX9_pair 47 = .ok (.iload_n 1, 1) := by decide +kernel
theorem dX9_pair_48 : decode cX9_pair 48 = .ok (.iload_n 2, 1) := by decide +kernel
theorem dX9_pair_49 : decode cX9_pair 49 = .ok (.invokevirtual 298, 3) := by decide +kernel
theorem dX9_pair_52 : decode cX9_pair 52 = .ok (.ifCond .eq 21, 3) := by decide +kernel
theorem dX9_pair_55 : decode cX9_pair 55 = .ok (.iload 4, 2) := by decide +kernel
theorem dX9_pair_57 : decode cX9_pair 57 = .ok (.iload_n 3, 1) := by decide +kernel
theorem dX9_pair_58 : decode cX9_pair 58 = .ok (.if_icmp .ne 12, 3) := by decide +kernel
theorem dX9_pair_61 : decode cX9_pair 61 = .ok (.bipush 100, 2) := by decide +kernel
theorem dX9_pair_63 : decode cX9_pair 63 = .ok (.iload 6, 2) := by decide +kernel
theorem dX9_pair_65 : decode cX9_pair 65 = .ok (.imul, 1) := by decide +kernel
theorem dX9_pair_66 : decode cX9_pair 66 = .ok (.iload 7, 2) := by decide +kernel
theorem dX9_pair_68 : decode cX9_pair 68 = .ok (.iadd, 1) := by decide +kernel
theorem dX9_pair_69 : decode cX9_pair 69 = .ok (.ireturn, 1) := by decide +kernel
theorem dX9_pair_70 : decode cX9_pair 70 = .ok (.iinc 4 1, 3) := by decide +kernel
theorem dX9_pair_73 : decode cX9_pair 73 = .ok (.iinc 5 1, 3) := by decide +kernel
theorem dX9_pair_76 : decode cX9_pair 76 = .ok (.goto (-70), 3) := by decide +kernel
theorem dX9_pair_79 : decode cX9_pair 79 = .ok (.bipush (-2), 2) := by decide +kernel
theorem dX9_pair_81 : decode cX9_pair 81 = .ok (.ireturn, 1) := by decide +kernel
theorem dX9_pairs_0 : decode cX9_pairs 0 = .ok (.iconst 0, 1) := by decide +kernel
theorem dX9_pairs_1 : decode cX9_pairs 1 = .ok (.istore_n 3, 1) := by decide +kernel
theorem dX9_pairs_2 : decode cX9_pairs 2 = .ok (.aload_n 0, 1) := by decide +kernel
theorem dX9_pairs_3 : decode cX9_pairs 3 = .ok (.iload_n 1, 1) := by decide +kernel
theorem dX9_pairs_4 : decode cX9_pairs 4 = .ok (.iload_n 2, 1) := by decide +kernel
theorem dX9_pairs_5 : decode cX9_pairs 5 = .ok (.iload_n 3, 1) := by decide +kernel
theorem dX9_pairs_6 : decode cX9_pairs 6 = .ok (.invokevirtual 301, 3) := by decide +kernel
theorem dX9_pairs_9 : decode cX9_pairs 9 = .ok (.bipush (-2), 2) := by decide +kernel
theorem dX9_pairs_11 : decode cX9_pairs 11 = .ok (.if_icmp .eq 9, 3) := by decide +kernel
theorem dX9_pairs_14 : decode cX9_pairs 14 = .ok (.iinc 3 1, 3) := by decide +kernel
theorem dX9_pairs_17 : decode cX9_pairs 17 = .ok (.goto (-15), 3) := by decide +kernel
theorem dX9_pairs_20 : decode cX9_pairs 20 = .ok (.iload_n 3, 1) := by decide +kernel
theorem dX9_pairs_21 : decode cX9_pairs 21 = .ok (.ireturn, 1) := by decide +kernel
theorem dX9_alone_0 : decode cX9_alone 0 = .ok (.iconst 0, 1) := by decide +kernel
theorem dX9_alone_1 : decode cX9_alone 1 = .ok (.istore 4, 2) := by decide +kernel
theorem dX9_alone_3 : decode cX9_alone 3 = .ok (.iconst 0, 1) := by decide +kernel
theorem dX9_alone_4 : decode cX9_alone 4 = .ok (.istore 5, 2) := by decide +kernel
theorem dX9_alone_6 : decode cX9_alone 6 = .ok (.iload 5, 2) := by decide +kernel
theorem dX9_alone_8 : decode cX9_alone 8 = .ok (.aload_n 0, 1) := by decide +kernel
theorem dX9_alone_9 : decode cX9_alone 9 = .ok (.iload_n 1, 1) := by decide +kernel
theorem dX9_alone_10 : decode cX9_alone 10 = .ok (.invokevirtual 70, 3) := by decide +kernel
theorem dX9_alone_13 : decode cX9_alone 13 = .ok (.if_icmp .ge 96, 3) := by decide +kernel
theorem dX9_alone_16 : decode cX9_alone 16 = .ok (.iconst 1, 1) := by decide +kernel
theorem dX9_alone_17 : decode cX9_alone 17 = .ok (.istore 6, 2) := by decide +kernel
theorem dX9_alone_19 : decode cX9_alone 19 = .ok (.iconst 0, 1) := by decide +kernel
theorem dX9_alone_20 : decode cX9_alone 20 = .ok (.istore 7, 2) := by decide +kernel
theorem dX9_alone_22 : decode cX9_alone 22 = .ok (.iload 7, 2) := by decide +kernel
theorem dX9_alone_24 : decode cX9_alone 24 = .ok (.aload_n 0, 1) := by decide +kernel
theorem dX9_alone_25 : decode cX9_alone 25 = .ok (.iconst 1, 1) := by decide +kernel
theorem dX9_alone_26 : decode cX9_alone 26 = .ok (.iload_n 1, 1) := by decide +kernel
theorem dX9_alone_27 : decode cX9_alone 27 = .ok (.isub, 1) := by decide +kernel
theorem dX9_alone_28 : decode cX9_alone 28 = .ok (.invokevirtual 70, 3) := by decide +kernel
theorem dX9_alone_31 : decode cX9_alone 31 = .ok (.if_icmp .ge 54, 3) := by decide +kernel
theorem dX9_alone_34 : decode cX9_alone 34 = .ok (.iload 6, 2) := by decide +kernel
theorem dX9_alone_36 : decode cX9_alone 36 = .ok (.ifCond .eq 40, 3) := by decide +kernel
theorem dX9_alone_39 : decode cX9_alone 39 = .ok (.iload_n 1, 1) := by decide +kernel
theorem dX9_alone_40 : decode cX9_alone 40 = .ok (.ifCond .ne 19, 3) := by decide +kernel
theorem dX9_alone_43 : decode cX9_alone 43 = .ok (.aload_n 0, 1) := by decide +kernel
theorem dX9_alone_44 : decode cX9_alone 44 = .ok (.iload 5, 2) := by decide +kernel
theorem dX9_alone_46 : decode cX9_alone 46 = .ok (.iload 7, 2) := by decide +kernel
theorem dX9_alone_48 : decode cX9_alone 48 = .ok (.iload_n 2, 1) := by decide +kernel
theorem dX9_alone_49 : decode cX9_alone 49 = .ok (.iload_n 3, 1) := by decide +kernel
theorem dX9_alone_50 : decode cX9_alone 50 = .ok (.invokevirtual 298, 3) := by decide +kernel
theorem dX9_alone_53 : decode cX9_alone 53 = .ok (.ifCond .eq 19, 3) := by decide +kernel
theorem dX9_alone_56 : decode cX9_alone 56 = .ok (.goto 20, 3) := by decide +kernel
theorem dX9_alone_59 : decode cX9_alone 59 = .ok (.aload_n 0, 1) := by decide +kernel
theorem dX9_alone_60 : decode cX9_alone 60 = .ok (.iload 7, 2) := by decide +kernel
theorem dX9_alone_62 : decode cX9_alone 62 = .ok (.iload 5, 2) := by decide +kernel
theorem dX9_alone_64 : decode cX9_alone 64 = .ok (.iload_n 2, 1) := by decide +kernel
theorem dX9_alone_65 : decode cX9_alone 65 = .ok (.iload_n 3, 1) := by decide +kernel
theorem dX9_alone_66 : decode cX9_alone 66 = .ok (.invokevirtual 298, 3) := by decide +kernel
theorem dX9_alone_69 : decode cX9_alone 69 = .ok (.ifCond .ne 7, 3) := by decide +kernel
theorem dX9_alone_72 : decode cX9_alone 72 = .ok (.iconst 1, 1) := by decide +kernel
theorem dX9_alone_73 : decode cX9_alone 73 = .ok (.goto 4, 3) := by decide +kernel
theorem dX9_alone_76 : decode cX9_alone 76 = .ok (.iconst 0, 1) := by decide +kernel
theorem dX9_alone_77 : decode cX9_alone 77 = .ok (.istore 6, 2) := by decide +kernel
theorem dX9_alone_79 : decode cX9_alone 79 = .ok (.iinc 7 1, 3) := by decide +kernel
theorem dX9_alone_82 : decode cX9_alone 82 = .ok (.goto (-60), 3) := by decide +kernel
theorem dX9_alone_85 : decode cX9_alone 85 = .ok (.iload 4, 2) := by decide +kernel
theorem dX9_alone_87 : decode cX9_alone 87 = .ok (.iload 6, 2) := by decide +kernel
theorem dX9_alone_89 : decode cX9_alone 89 = .ok (.ifCond .eq 10, 3) := by decide +kernel
theorem dX9_alone_92 : decode cX9_alone 92 = .ok (.iconst 1, 1) := by decide +kernel
theorem dX9_alone_93 : decode cX9_alone 93 = .ok (.iload 5, 2) := by decide +kernel
theorem dX9_alone_95 : decode cX9_alone 95 = .ok (.ishl, 1) := by decide +kernel
theorem dX9_alone_96 : decode cX9_alone 96 = .ok (.goto 4, 3) := by decide +kernel
theorem dX9_alone_99 : decode cX9_alone 99 = .ok (.iconst 0, 1) := by decide +kernel
theorem dX9_alone_100 : decode cX9_alone 100 = .ok (.ior, 1) := by decide +kernel
theorem dX9_alone_101 : decode cX9_alone 101 = .ok (.istore 4, 2) := by decide +kernel
theorem dX9_alone_103 : decode cX9_alone 103 = .ok (.iinc 5 1, 3) := by decide +kernel
theorem dX9_alone_106 : decode cX9_alone 106 = .ok (.goto (-100), 3) := by decide +kernel
theorem dX9_alone_109 : decode cX9_alone 109 = .ok (.iload 4, 2) := by decide +kernel
theorem dX9_alone_111 : decode cX9_alone 111 = .ok (.ireturn, 1) := by decide +kernel
theorem dX9_join_0 : decode cX9_join 0 = .ok (.aload_n 0, 1) := by decide +kernel
theorem dX9_join_1 : decode cX9_join 1 = .ok (.iconst 0, 1) := by decide +kernel
theorem dX9_join_2 : decode cX9_join 2 = .ok (.putfield 47, 3) := by decide +kernel
theorem dX9_join_5 : decode cX9_join 5 = .ok (.iload_n 1, 1) := by decide +kernel
theorem dX9_join_6 : decode cX9_join 6 = .ok (.invokestatic 135, 3) := by decide +kernel
theorem dX9_join_9 : decode cX9_join 9 = .ok (.ifCond .eq 10, 3) := by decide +kernel
theorem dX9_join_12 : decode cX9_join 12 = .ok (.iload_n 2, 1) := by decide +kernel
theorem dX9_join_13 : decode cX9_join 13 = .ok (.invokestatic 135, 3) := by decide +kernel
theorem dX9_join_16 : decode cX9_join 16 = .ok (.ifCond .ne 9, 3) := by decide +kernel
theorem dX9_join_19 : decode cX9_join 19 = .ok (.aload_n 0, 1) := by decide +kernel
theorem dX9_join_20 : decode cX9_join 20 = .ok (.iconst 1, 1) := by decide +kernel
theorem dX9_join_21 : decode cX9_join 21 = .ok (.invokevirtual 119, 3) := by decide +kernel
theorem dX9_join_24 : decode cX9_join 24 = .ok (.ireturn, 1) := by decide +kernel
theorem dX9_join_25 : decode cX9_join 25 = .ok (.iload_n 3, 1) := by decide +kernel
theorem dX9_join_26 : decode cX9_join 26 = .ok (.ifCond .ge 9, 3) := by decide +kernel
theorem dX9_join_29 : decode cX9_join 29 = .ok (.aload_n 0, 1) := by decide +kernel
theorem dX9_join_30 : decode cX9_join 30 = .ok (.iconst 2, 1) := by decide +kernel
theorem dX9_join_31 : decode cX9_join 31 = .ok (.invokevirtual 119, 3) := by decide +kernel
theorem dX9_join_34 : decode cX9_join 34 = .ok (.ireturn, 1) := by decide +kernel
theorem dX9_join_35 : decode cX9_join 35 = .ok (.iload_n 3, 1) := by decide +kernel
theorem dX9_join_36 : decode cX9_join 36 = .ok (.ifCond .ne 12, 3) := by decide +kernel
theorem dX9_join_39 : decode cX9_join 39 = .ok (.aload_n 0, 1) := by decide +kernel
theorem dX9_join_40 : decode cX9_join 40 = .ok (.iload_n 1, 1) := by decide +kernel
theorem dX9_join_41 : decode cX9_join 41 = .ok (.iload_n 2, 1) := by decide +kernel
theorem dX9_join_42 : decode cX9_join 42 = .ok (.invokevirtual 304, 3) := by decide +kernel
theorem dX9_join_45 : decode cX9_join 45 = .ok (.goto 29, 3) := by decide +kernel
theorem dX9_join_48 : decode cX9_join 48 = .ok (.iload_n 3, 1) := by decide +kernel
theorem dX9_join_49 : decode cX9_join 49 = .ok (.iconst 3, 1) := by decide +kernel
theorem dX9_join_50 : decode cX9_join 50 = .ok (.if_icmp .ge 15, 3) := by decide +kernel
theorem dX9_join_53 : decode cX9_join 53 = .ok (.aload_n 0, 1) := by decide +kernel
theorem dX9_join_54 : decode cX9_join 54 = .ok (.iload_n 3, 1) := by decide +kernel
theorem dX9_join_55 : decode cX9_join 55 = .ok (.iconst 1, 1) := by decide +kernel
theorem dX9_join_56 : decode cX9_join 56 = .ok (.isub, 1) := by decide +kernel
theorem dX9_join_57 : decode cX9_join 57 = .ok (.iload_n 1, 1) := by decide +kernel
theorem dX9_join_58 : decode cX9_join 58 = .ok (.iload_n 2, 1) := by decide +kernel
theorem dX9_join_59 : decode cX9_join 59 = .ok (.invokevirtual 307, 3) := by decide +kernel
theorem dX9_join_62 : decode cX9_join 62 = .ok (.goto 12, 3) := by decide +kernel
theorem dX9_join_65 : decode cX9_join 65 = .ok (.aload_n 0, 1) := by decide +kernel
theorem dX9_join_66 : decode cX9_join 66 = .ok (.iload_n 1, 1) := by decide +kernel
theorem dX9_join_67 : decode cX9_join 67 = .ok (.iload_n 2, 1) := by decide +kernel
theorem dX9_join_68 : decode cX9_join 68 = .ok (.iload_n 3, 1) := by decide +kernel
theorem dX9_join_69 : decode cX9_join 69 = .ok (.iconst 3, 1) := by decide +kernel
theorem dX9_join_70 : decode cX9_join 70 = .ok (.isub, 1) := by decide +kernel
theorem dX9_join_71 : decode cX9_join 71 = .ok (.invokevirtual 301, 3) := by decide +kernel
theorem dX9_join_74 : decode cX9_join 74 = .ok (.ireturn, 1) := by decide +kernel
theorem dX9_among_0 : decode cX9_among 0 = .ok (.aload_n 0, 1) := by decide +kernel
theorem dX9_among_1 : decode cX9_among 1 = .ok (.iconst 0, 1) := by decide +kernel
theorem dX9_among_2 : decode cX9_among 2 = .ok (.putfield 47, 3) := by decide +kernel
theorem dX9_among_5 : decode cX9_among 5 = .ok (.aload_n 0, 1) := by decide +kernel
theorem dX9_among_6 : decode cX9_among 6 = .ok (.iconst 0, 1) := by decide +kernel
theorem dX9_among_7 : decode cX9_among 7 = .ok (.iload_n 1, 1) := by decide +kernel
theorem dX9_among_8 : decode cX9_among 8 = .ok (.invokevirtual 132, 3) := by decide +kernel
theorem dX9_among_11 : decode cX9_among 11 = .ok (.ifCond .eq 17, 3) := by decide +kernel
theorem dX9_among_14 : decode cX9_among 14 = .ok (.iload_n 2, 1) := by decide +kernel
theorem dX9_among_15 : decode cX9_among 15 = .ok (.invokestatic 135, 3) := by decide +kernel
theorem dX9_among_18 : decode cX9_among 18 = .ok (.ifCond .eq 10, 3) := by decide +kernel
theorem dX9_among_21 : decode cX9_among 21 = .ok (.iload_n 3, 1) := by decide +kernel
theorem dX9_among_22 : decode cX9_among 22 = .ok (.invokestatic 135, 3) := by decide +kernel
theorem dX9_among_25 : decode cX9_among 25 = .ok (.ifCond .ne 9, 3) := by decide +kernel
theorem dX9_among_28 : decode cX9_among 28 = .ok (.aload_n 0, 1) := by decide +kernel
theorem dX9_among_29 : decode cX9_among 29 = .ok (.iconst 1, 1) := by decide +kernel
theorem dX9_among_30 : decode cX9_among 30 = .ok (.invokevirtual 119, 3) := by decide +kernel
theorem dX9_among_33 : decode cX9_among 33 = .ok (.ireturn, 1) := by decide +kernel
theorem dX9_among_34 : decode cX9_among 34 = .ok (.iconst 0, 1) := by decide +kernel
theorem dX9_among_35 : decode cX9_among 35 = .ok (.istore 4, 2) := by decide +kernel
theorem dX9_among_37 : decode cX9_among 37 = .ok (.iconst 0, 1) := by decide +kernel
theorem dX9_among_38 : decode cX9_among 38 = .ok (.istore 5, 2) := by decide +kernel
theorem dX9_among_40 : decode cX9_among 40 = .ok (.iload 5, 2) := by decide +kernel
theorem dX9_among_42 : decode cX9_among 42 = .ok (.aload_n 0, 1) := by decide +kernel
theorem dX9_among_43 : decode cX9_among 43 = .ok (.iconst 1, 1) := by decide +kernel
theorem dX9_among_44 : decode cX9_among 44 = .ok (.invokevirtual 70, 3) := by decide +kernel
theorem dX9_among_47 : decode cX9_among 47 = .ok (.if_icmp .ge 46, 3) := by decide +kernel
theorem dX9_among_50 : decode cX9_among 50 = .ok (.iconst 1, 1) := by decide +kernel
theorem dX9_among_51 : decode cX9_among 51 = .ok (.aload_n 0, 1) := by decide +kernel
theorem dX9_among_52 : decode cX9_among 52 = .ok (.iconst 0, 1) := by decide +kernel
theorem dX9_among_53 : decode cX9_among 53 = .ok (.iload_n 1, 1) := by decide +kernel
theorem dX9_among_54 : decode cX9_among 54 = .ok (.iload_n 2, 1) := by decide +kernel
theorem dX9_among_55 : decode cX9_among 55 = .ok (.invokevirtual 74, 3) := by decide +kernel
theorem dX9_among_58 : decode cX9_among 58 = .ok (.aload_n 0, 1) := by decide +kernel
theorem dX9_among_59 : decode cX9_among 59 = .ok (.iconst 1, 1) := by decide +kernel
theorem dX9_among_60 : decode cX9_among 60 = .ok (.iload 5, 2) := by decide +kernel
theorem dX9_among_62 : decode cX9_among 62 = .ok (.iload_n 3, 1) := by decide +kernel
theorem dX9_among_63 : decode cX9_among 63 = .ok (.invokevirtual 74, 3) := by decide +kernel
theorem dX9_among_66 : decode cX9_among 66 = .ok (.invokestatic 86, 3) := by decide +kernel
theorem dX9_among_69 : decode cX9_among 69 = .ok (.istore 6, 2) := by decide +kernel
theorem dX9_among_71 : decode cX9_among 71 = .ok (.iload 6, 2) := by decide +kernel
theorem dX9_among_73 : decode cX9_among 73 = .ok (.iload 4, 2) := by decide +kernel
theorem dX9_among_75 : decode cX9_among 75 = .ok (.if_icmp .le 8, 3) := by decide +kernel
theorem dX9_among_78 : decode cX9_among 78 = .ok (.iload 6, 2) := by decide +kernel
theorem dX9_among_80 : decode cX9_among 80 = .ok (.goto 5, 3) := by decide +kernel
theorem dX9_among_83 : decode cX9_among 83 = .ok (.iload 4, 2) := by decide +kernel
theorem dX9_among_85 : decode cX9_among 85 = .ok (.istore 4, 2) := by decide +kernel
theorem dX9_among_87 : decode cX9_among 87 = .ok (.iinc 5 1, 3) := by decide +kernel
theorem dX9_among_90 : decode cX9_among 90 = .ok (.goto (-50), 3) := by decide +kernel
theorem dX9_among_93 : decode cX9_among 93 = .ok (.iload 4, 2) := by decide +kernel
theorem dX9_among_95 : decode cX9_among 95 = .ok (.ireturn, 1) := by decide +kernel
theorem dX9_filters_0 : decode cX9_filters 0 = .ok (.iconst 0, 1) := by decide +kernel
theorem dX9_filters_1 : decode cX9_filters 1 = .ok (.istore_n 1, 1) := by decide +kernel
theorem dX9_filters_2 : decode cX9_filters 2 = .ok (.iconst 0, 1) := by decide +kernel
theorem dX9_filters_3 : decode cX9_filters 3 = .ok (.istore_n 2, 1) := by decide +kernel
theorem dX9_filters_4 : decode cX9_filters 4 = .ok (.iload_n 2, 1) := by decide +kernel
theorem dX9_filters_5 : decode cX9_filters 5 = .ok (.bipush 6, 2) := by decide +kernel
theorem dX9_filters_7 : decode cX9_filters 7 = .ok (.if_icmp .ge 25, 3) := by decide +kernel
theorem dX9_filters_10 : decode cX9_filters 10 = .ok (.iload_n 1, 1) := by decide +kernel
theorem dX9_filters_11 : decode cX9_filters 11 = .ok (.aload_n 0, 1) := by decide +kernel
theorem dX9_filters_12 : decode cX9_filters 12 = .ok (.iload_n 2, 1) := by decide +kernel
theorem dX9_filters_13 : decode cX9_filters 13 = .ok (.invokevirtual 92, 3) := by decide +kernel
theorem dX9_filters_16 : decode cX9_filters 16 = .ok (.ifCond .le 7, 3) := by decide +kernel
theorem dX9_filters_19 : decode cX9_filters 19 = .ok (.iconst 1, 1) := by decide +kernel
theorem dX9_filters_20 : decode cX9_filters 20 = .ok (.goto 4, 3) := by decide +kernel
theorem dX9_filters_23 : decode cX9_filters 23 = .ok (.iconst 0, 1) := by decide +kernel
theorem dX9_filters_24 : decode cX9_filters 24 = .ok (.iadd, 1) := by decide +kernel
theorem dX9_filters_25 : decode cX9_filters 25 = .ok (.istore_n 1, 1) := by decide +kernel
theorem dX9_filters_26 : decode cX9_filters 26 = .ok (.iinc 2 1, 3) := by decide +kernel
theorem dX9_filters_29 : decode cX9_filters 29 = .ok (.goto (-25), 3) := by decide +kernel
theorem dX9_filters_32 : decode cX9_filters 32 = .ok (.iload_n 1, 1) := by decide +kernel
theorem dX9_filters_33 : decode cX9_filters 33 = .ok (.ireturn, 1) := by decide +kernel
theorem dX9_doubted_0 : decode cX9_doubted 0 = .ok (.aload_n 0, 1) := by decide +kernel
theorem dX9_doubted_1 : decode cX9_doubted 1 = .ok (.bipush 6, 2) := by decide +kernel
theorem dX9_doubted_3 : decode cX9_doubted 3 = .ok (.iload_n 1, 1) := by decide +kernel
theorem dX9_doubted_4 : decode cX9_doubted 4 = .ok (.iadd, 1) := by decide +kernel
theorem dX9_doubted_5 : decode cX9_doubted 5 = .ok (.invokevirtual 92, 3) := by decide +kernel
theorem dX9_doubted_8 : decode cX9_doubted 8 = .ok (.ifCond .ne 7, 3) := by decide +kernel
theorem dX9_doubted_11 : decode cX9_doubted 11 = .ok (.iconst 0, 1) := by decide +kernel
theorem dX9_doubted_12 : decode cX9_doubted 12 = .ok (.goto 16, 3) := by decide +kernel
theorem dX9_doubted_15 : decode cX9_doubted 15 = .ok (.aload_n 0, 1) := by decide +kernel
theorem dX9_doubted_16 : decode cX9_doubted 16 = .ok (.iload_n 1, 1) := by decide +kernel
theorem dX9_doubted_17 : decode cX9_doubted 17 = .ok (.bipush 6, 2) := by decide +kernel
theorem dX9_doubted_19 : decode cX9_doubted 19 = .ok (.iload_n 1, 1) := by decide +kernel
theorem dX9_doubted_20 : decode cX9_doubted 20 = .ok (.iadd, 1) := by decide +kernel
theorem dX9_doubted_21 : decode cX9_doubted 21 = .ok (.iconst 1, 1) := by decide +kernel
theorem dX9_doubted_22 : decode cX9_doubted 22 = .ok (.invokevirtual 163, 3) := by decide +kernel
theorem dX9_doubted_25 : decode cX9_doubted 25 = .ok (.invokestatic 166, 3) := by decide +kernel
theorem dX9_doubted_28 : decode cX9_doubted 28 = .ok (.ireturn, 1) := by decide +kernel
theorem dX9_count_0 : decode cX9_count 0 = .ok (.aload_n 0, 1) := by decide +kernel
theorem dX9_count_1 : decode cX9_count 1 = .ok (.iconst 0, 1) := by decide +kernel
theorem dX9_count_2 : decode cX9_count 2 = .ok (.putfield 47, 3) := by decide +kernel
theorem dX9_count_5 : decode cX9_count 5 = .ok (.iload_n 1, 1) := by decide +kernel
theorem dX9_count_6 : decode cX9_count 6 = .ok (.tableswitch 84 0 7 #[46, 46, 52, 57, 57, 65, 74, 79], 46) := by decide +kernel
theorem dX9_count_52 : decode cX9_count 52 = .ok (.aload_n 0, 1) := by decide +kernel
theorem dX9_count_53 : decode cX9_count 53 = .ok (.iload_n 1, 1) := by decide +kernel
theorem dX9_count_54 : decode cX9_count 54 = .ok (.invokevirtual 70, 3) := by decide +kernel
theorem dX9_count_57 : decode cX9_count 57 = .ok (.ireturn, 1) := by decide +kernel
theorem dX9_count_58 : decode cX9_count 58 = .ok (.aload_n 0, 1) := by decide +kernel
theorem dX9_count_59 : decode cX9_count 59 = .ok (.invokevirtual 310, 3) := by decide +kernel
theorem dX9_count_62 : decode cX9_count 62 = .ok (.ireturn, 1) := by decide +kernel
theorem dX9_count_63 : decode cX9_count 63 = .ok (.aload_n 0, 1) := by decide +kernel
theorem dX9_count_64 : decode cX9_count 64 = .ok (.iload_n 1, 1) := by decide +kernel
theorem dX9_count_65 : decode cX9_count 65 = .ok (.iconst 3, 1) := by decide +kernel
theorem dX9_count_66 : decode cX9_count 66 = .ok (.isub, 1) := by decide +kernel
theorem dX9_count_67 : decode cX9_count 67 = .ok (.invokevirtual 313, 3) := by decide +kernel
theorem dX9_count_70 : decode cX9_count 70 = .ok (.ireturn, 1) := by decide +kernel
theorem dX9_count_71 : decode cX9_count 71 = .ok (.aload_n 0, 1) := by decide +kernel
theorem dX9_count_72 : decode cX9_count 72 = .ok (.getfield 7, 3) := by decide +kernel
theorem dX9_count_75 : decode cX9_count 75 = .ok (.sipush 618, 3) := by decide +kernel
theorem dX9_count_78 : decode cX9_count 78 = .ok (.iaload, 1) := by decide +kernel
theorem dX9_count_79 : decode cX9_count 79 = .ok (.ireturn, 1) := by decide +kernel
theorem dX9_count_80 : decode cX9_count 80 = .ok (.aload_n 0, 1) := by decide +kernel
theorem dX9_count_81 : decode cX9_count 81 = .ok (.getfield 51, 3) := by decide +kernel
theorem dX9_count_84 : decode cX9_count 84 = .ok (.ireturn, 1) := by decide +kernel
theorem dX9_count_85 : decode cX9_count 85 = .ok (.aload_n 0, 1) := by decide +kernel
theorem dX9_count_86 : decode cX9_count 86 = .ok (.getfield 154, 3) := by decide +kernel
theorem dX9_count_89 : decode cX9_count 89 = .ok (.ireturn, 1) := by decide +kernel
theorem dX9_count_90 : decode cX9_count 90 = .ok (.aload_n 0, 1) := by decide +kernel
theorem dX9_count_91 : decode cX9_count 91 = .ok (.iconst 1, 1) := by decide +kernel
theorem dX9_count_92 : decode cX9_count 92 = .ok (.invokevirtual 119, 3) := by decide +kernel
theorem dX9_count_95 : decode cX9_count 95 = .ok (.ireturn, 1) := by decide +kernel
theorem dX9_share_0 : decode cX9_share 0 = .ok (.aload_n 0, 1) := by decide +kernel
theorem dX9_share_1 : decode cX9_share 1 = .ok (.iconst 0, 1) := by decide +kernel
theorem dX9_share_2 : decode cX9_share 2 = .ok (.putfield 47, 3) := by decide +kernel
theorem dX9_share_5 : decode cX9_share 5 = .ok (.iload_n 1, 1) := by decide +kernel
theorem dX9_share_6 : decode cX9_share 6 = .ok (.invokestatic 66, 3) := by decide +kernel
theorem dX9_share_9 : decode cX9_share 9 = .ok (.ifCond .eq 10, 3) := by decide +kernel
theorem dX9_share_12 : decode cX9_share 12 = .ok (.iload_n 2, 1) := by decide +kernel
theorem dX9_share_13 : decode cX9_share 13 = .ok (.invokestatic 147, 3) := by decide +kernel
theorem dX9_share_16 : decode cX9_share 16 = .ok (.ifCond .ne 10, 3) := by decide +kernel
theorem dX9_share_19 : decode cX9_share 19 = .ok (.aload_n 0, 1) := by decide +kernel
theorem dX9_share_20 : decode cX9_share 20 = .ok (.iconst 1, 1) := by decide +kernel
theorem dX9_share_21 : decode cX9_share 21 = .ok (.putfield 47, 3) := by decide +kernel
theorem dX9_share_24 : decode cX9_share 24 = .ok (.dconst 0, 1) := by decide +kernel
theorem dX9_share_25 : decode cX9_share 25 = .ok (.dreturn, 1) := by decide +kernel
theorem dX9_share_26 : decode cX9_share 26 = .ok (.aload_n 0, 1) := by decide +kernel
theorem dX9_share_27 : decode cX9_share 27 = .ok (.iload_n 2, 1) := by decide +kernel
theorem dX9_share_28 : decode cX9_share 28 = .ok (.invokevirtual 92, 3) := by decide +kernel
theorem dX9_share_31 : decode cX9_share 31 = .ok (.ifCond .ne 7, 3) := by decide +kernel
theorem dX9_share_34 : decode cX9_share 34 = .ok (.dconst 0, 1) := by decide +kernel
theorem dX9_share_35 : decode cX9_share 35 = .ok (.goto 14, 3) := by decide +kernel
theorem dX9_share_38 : decode cX9_share 38 = .ok (.aload_n 0, 1) := by decide +kernel
theorem dX9_share_39 : decode cX9_share 39 = .ok (.iload_n 1, 1) := by decide +kernel
theorem dX9_share_40 : decode cX9_share 40 = .ok (.iload_n 2, 1) := by decide +kernel
theorem dX9_share_41 : decode cX9_share 41 = .ok (.iconst 2, 1) := by decide +kernel
theorem dX9_share_42 : decode cX9_share 42 = .ok (.invokevirtual 163, 3) := by decide +kernel
theorem dX9_share_45 : decode cX9_share 45 = .ok (.invokestatic 166, 3) := by decide +kernel
theorem dX9_share_48 : decode cX9_share 48 = .ok (.i2d, 1) := by decide +kernel
theorem dX9_share_49 : decode cX9_share 49 = .ok (.dstore_n 3, 1) := by decide +kernel
theorem dX9_share_50 : decode cX9_share 50 = .ok (.aload_n 0, 1) := by decide +kernel
theorem dX9_share_51 : decode cX9_share 51 = .ok (.iload_n 1, 1) := by decide +kernel
theorem dX9_share_52 : decode cX9_share 52 = .ok (.invokevirtual 70, 3) := by decide +kernel
theorem dX9_share_55 : decode cX9_share 55 = .ok (.i2d, 1) := by decide +kernel
theorem dX9_share_56 : decode cX9_share 56 = .ok (.dstore 5, 2) := by decide +kernel
theorem dX9_share_58 : decode cX9_share 58 = .ok (.dload 5, 2) := by decide +kernel
theorem dX9_share_60 : decode cX9_share 60 = .ok (.dconst 0, 1) := by decide +kernel
theorem dX9_share_61 : decode cX9_share 61 = .ok (.dcmp .l, 1) := by decide +kernel
theorem dX9_share_62 : decode cX9_share 62 = .ok (.ifCond .ne 7, 3) := by decide +kernel
theorem dX9_share_65 : decode cX9_share 65 = .ok (.dconst 0, 1) := by decide +kernel
theorem dX9_share_66 : decode cX9_share 66 = .ok (.goto 7, 3) := by decide +kernel
theorem dX9_share_69 : decode cX9_share 69 = .ok (.dload_n 3, 1) := by decide +kernel
theorem dX9_share_70 : decode cX9_share 70 = .ok (.dload 5, 2) := by decide +kernel
theorem dX9_share_72 : decode cX9_share 72 = .ok (.ddiv, 1) := by decide +kernel
theorem dX9_share_73 : decode cX9_share 73 = .ok (.dreturn, 1) := by decide +kernel
theorem dJ6_bitCount_0f7a4_0 : decode cJ6_bitCount_0f7a4 0 = .ok (.iload_n 0, 1) := by decide +kernel
theorem dJ6_bitCount_0f7a4_1 : decode cJ6_bitCount_0f7a4 1 = .ok (.iload_n 0, 1) := by decide +kernel
theorem dJ6_bitCount_0f7a4_2 : decode cJ6_bitCount_0f7a4 2 = .ok (.iconst 1, 1) := by decide +kernel
theorem dJ6_bitCount_0f7a4_3 : decode cJ6_bitCount_0f7a4 3 = .ok (.iushr, 1) := by decide +kernel
theorem dJ6_bitCount_0f7a4_4 : decode cJ6_bitCount_0f7a4 4 = .ok (.ldc_w 265, 3) := by decide +kernel
theorem dJ6_bitCount_0f7a4_7 : decode cJ6_bitCount_0f7a4 7 = .ok (.iand, 1) := by decide +kernel
theorem dJ6_bitCount_0f7a4_8 : decode cJ6_bitCount_0f7a4 8 = .ok (.isub, 1) := by decide +kernel
theorem dJ6_bitCount_0f7a4_9 : decode cJ6_bitCount_0f7a4 9 = .ok (.istore_n 0, 1) := by decide +kernel
theorem dJ6_bitCount_0f7a4_10 : decode cJ6_bitCount_0f7a4 10 = .ok (.iload_n 0, 1) := by decide +kernel
theorem dJ6_bitCount_0f7a4_11 : decode cJ6_bitCount_0f7a4 11 = .ok (.ldc_w 266, 3) := by decide +kernel
theorem dJ6_bitCount_0f7a4_14 : decode cJ6_bitCount_0f7a4 14 = .ok (.iand, 1) := by decide +kernel
theorem dJ6_bitCount_0f7a4_15 : decode cJ6_bitCount_0f7a4 15 = .ok (.iload_n 0, 1) := by decide +kernel
theorem dJ6_bitCount_0f7a4_16 : decode cJ6_bitCount_0f7a4 16 = .ok (.iconst 2, 1) := by decide +kernel
theorem dJ6_bitCount_0f7a4_17 : decode cJ6_bitCount_0f7a4 17 = .ok (.iushr, 1) := by decide +kernel
theorem dJ6_bitCount_0f7a4_18 : decode cJ6_bitCount_0f7a4 18 = .ok (.ldc_w 266, 3) := by decide +kernel
theorem dJ6_bitCount_0f7a4_21 : decode cJ6_bitCount_0f7a4 21 = .ok (.iand, 1) := by decide +kernel
theorem dJ6_bitCount_0f7a4_22 : decode cJ6_bitCount_0f7a4 22 = .ok (.iadd, 1) := by decide +kernel
theorem dJ6_bitCount_0f7a4_23 : decode cJ6_bitCount_0f7a4 23 = .ok (.istore_n 0, 1) := by decide +kernel
theorem dJ6_bitCount_0f7a4_24 : decode cJ6_bitCount_0f7a4 24 = .ok (.iload_n 0, 1) := by decide +kernel
theorem dJ6_bitCount_0f7a4_25 : decode cJ6_bitCount_0f7a4 25 = .ok (.iload_n 0, 1) := by decide +kernel
theorem dJ6_bitCount_0f7a4_26 : decode cJ6_bitCount_0f7a4 26 = .ok (.iconst 4, 1) := by decide +kernel
theorem dJ6_bitCount_0f7a4_27 : decode cJ6_bitCount_0f7a4 27 = .ok (.iushr, 1) := by decide +kernel
theorem dJ6_bitCount_0f7a4_28 : decode cJ6_bitCount_0f7a4 28 = .ok (.iadd, 1) := by decide +kernel
theorem dJ6_bitCount_0f7a4_29 : decode cJ6_bitCount_0f7a4 29 = .ok (.ldc_w 267, 3) := by decide +kernel
theorem dJ6_bitCount_0f7a4_32 : decode cJ6_bitCount_0f7a4 32 = .ok (.iand, 1) := by decide +kernel
theorem dJ6_bitCount_0f7a4_33 : decode cJ6_bitCount_0f7a4 33 = .ok (.istore_n 0, 1) := by decide +kernel
theorem dJ6_bitCount_0f7a4_34 : decode cJ6_bitCount_0f7a4 34 = .ok (.iload_n 0, 1) := by decide +kernel
theorem dJ6_bitCount_0f7a4_35 : decode cJ6_bitCount_0f7a4 35 = .ok (.iload_n 0, 1) := by decide +kernel
theorem dJ6_bitCount_0f7a4_36 : decode cJ6_bitCount_0f7a4 36 = .ok (.bipush 8, 2) := by decide +kernel
theorem dJ6_bitCount_0f7a4_38 : decode cJ6_bitCount_0f7a4 38 = .ok (.iushr, 1) := by decide +kernel
theorem dJ6_bitCount_0f7a4_39 : decode cJ6_bitCount_0f7a4 39 = .ok (.iadd, 1) := by decide +kernel
theorem dJ6_bitCount_0f7a4_40 : decode cJ6_bitCount_0f7a4 40 = .ok (.istore_n 0, 1) := by decide +kernel
theorem dJ6_bitCount_0f7a4_41 : decode cJ6_bitCount_0f7a4 41 = .ok (.iload_n 0, 1) := by decide +kernel
theorem dJ6_bitCount_0f7a4_42 : decode cJ6_bitCount_0f7a4 42 = .ok (.iload_n 0, 1) := by decide +kernel
theorem dJ6_bitCount_0f7a4_43 : decode cJ6_bitCount_0f7a4 43 = .ok (.bipush 16, 2) := by decide +kernel
theorem dJ6_bitCount_0f7a4_45 : decode cJ6_bitCount_0f7a4 45 = .ok (.iushr, 1) := by decide +kernel
theorem dJ6_bitCount_0f7a4_46 : decode cJ6_bitCount_0f7a4 46 = .ok (.iadd, 1) := by decide +kernel
theorem dJ6_bitCount_0f7a4_47 : decode cJ6_bitCount_0f7a4 47 = .ok (.istore_n 0, 1) := by decide +kernel
theorem dJ6_bitCount_0f7a4_48 : decode cJ6_bitCount_0f7a4 48 = .ok (.iload_n 0, 1) := by decide +kernel
theorem dJ6_bitCount_0f7a4_49 : decode cJ6_bitCount_0f7a4 49 = .ok (.bipush 63, 2) := by decide +kernel
theorem dJ6_bitCount_0f7a4_51 : decode cJ6_bitCount_0f7a4 51 = .ok (.iand, 1) := by decide +kernel
theorem dJ6_bitCount_0f7a4_52 : decode cJ6_bitCount_0f7a4 52 = .ok (.ireturn, 1) := by decide +kernel
theorem dJ9_max_7cf53_0 : decode cJ9_max_7cf53 0 = .ok (.iload_n 0, 1) := by decide +kernel
theorem dJ9_max_7cf53_1 : decode cJ9_max_7cf53 1 = .ok (.iload_n 1, 1) := by decide +kernel
theorem dJ9_max_7cf53_2 : decode cJ9_max_7cf53 2 = .ok (.if_icmp .lt 7, 3) := by decide +kernel
theorem dJ9_max_7cf53_5 : decode cJ9_max_7cf53 5 = .ok (.iload_n 0, 1) := by decide +kernel
theorem dJ9_max_7cf53_6 : decode cJ9_max_7cf53 6 = .ok (.goto 4, 3) := by decide +kernel
theorem dJ9_max_7cf53_9 : decode cJ9_max_7cf53 9 = .ok (.iload_n 1, 1) := by decide +kernel
theorem dJ9_max_7cf53_10 : decode cJ9_max_7cf53 10 = .ok (.ireturn, 1) := by decide +kernel
theorem dJ9_min_7cf53_0 : decode cJ9_min_7cf53 0 = .ok (.iload_n 0, 1) := by decide +kernel
theorem dJ9_min_7cf53_1 : decode cJ9_min_7cf53 1 = .ok (.iload_n 1, 1) := by decide +kernel
theorem dJ9_min_7cf53_2 : decode cJ9_min_7cf53 2 = .ok (.if_icmp .gt 7, 3) := by decide +kernel
theorem dJ9_min_7cf53_5 : decode cJ9_min_7cf53 5 = .ok (.iload_n 0, 1) := by decide +kernel
theorem dJ9_min_7cf53_6 : decode cJ9_min_7cf53 6 = .ok (.goto 4, 3) := by decide +kernel
theorem dJ9_min_7cf53_9 : decode cJ9_min_7cf53 9 = .ok (.iload_n 1, 1) := by decide +kernel
theorem dJ9_min_7cf53_10 : decode cJ9_min_7cf53 10 = .ok (.ireturn, 1) := by decide +kernel
