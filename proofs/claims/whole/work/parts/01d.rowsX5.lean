theorem dX5_init_0 : decode cX5_init 0 = .ok (.aload_n 0, 1) := by decide +kernel
theorem dX5_init_1 : decode cX5_init 1 = .ok (.invokespecial 1, 3) := by decide +kernel
theorem dX5_init_4 : decode cX5_init 4 = .ok (.aload_n 0, 1) := by decide +kernel
theorem dX5_init_5 : decode cX5_init 5 = .ok (.sipush 281, 3) := by decide +kernel
theorem dX5_init_8 : decode cX5_init 8 = .ok (.newarray .int, 2) := by decide +kernel
theorem dX5_init_10 : decode cX5_init 10 = .ok (.putfield 7, 3) := by decide +kernel
theorem dX5_init_13 : decode cX5_init 13 = .ok (.aload_n 0, 1) := by decide +kernel
theorem dX5_init_14 : decode cX5_init 14 = .ok (.sipush 1686, 3) := by decide +kernel
theorem dX5_init_17 : decode cX5_init 17 = .ok (.newarray .int, 2) := by decide +kernel
theorem dX5_init_19 : decode cX5_init 19 = .ok (.putfield 13, 3) := by decide +kernel
theorem dX5_init_22 : decode cX5_init 22 = .ok (.aload_n 0, 1) := by decide +kernel
theorem dX5_init_23 : decode cX5_init 23 = .ok (.sipush 562, 3) := by decide +kernel
theorem dX5_init_26 : decode cX5_init 26 = .ok (.newarray .int, 2) := by decide +kernel
theorem dX5_init_28 : decode cX5_init 28 = .ok (.putfield 16, 3) := by decide +kernel
theorem dX5_init_31 : decode cX5_init 31 = .ok (.aload_n 0, 1) := by decide +kernel
theorem dX5_init_32 : decode cX5_init 32 = .ok (.sipush 281, 3) := by decide +kernel
theorem dX5_init_35 : decode cX5_init 35 = .ok (.newarray .int, 2) := by decide +kernel
theorem dX5_init_37 : decode cX5_init 37 = .ok (.putfield 19, 3) := by decide +kernel
theorem dX5_init_40 : decode cX5_init 40 = .ok (.aload_n 0, 1) := by decide +kernel
theorem dX5_init_41 : decode cX5_init 41 = .ok (.bipush 100, 2) := by decide +kernel
theorem dX5_init_43 : decode cX5_init 43 = .ok (.newarray .byte, 2) := by decide +kernel
theorem dX5_init_45 : decode cX5_init 45 = .ok (.putfield 22, 3) := by decide +kernel
theorem dX5_init_48 : decode cX5_init 48 = .ok (.aload_n 0, 1) := by decide +kernel
theorem dX5_init_49 : decode cX5_init 49 = .ok (.bipush 60, 2) := by decide +kernel
theorem dX5_init_51 : decode cX5_init 51 = .ok (.newarray .int, 2) := by decide +kernel
theorem dX5_init_53 : decode cX5_init 53 = .ok (.putfield 26, 3) := by decide +kernel
theorem dX5_init_56 : decode cX5_init 56 = .ok (.aload_n 0, 1) := by decide +kernel
theorem dX5_init_57 : decode cX5_init 57 = .ok (.bipush 60, 2) := by decide +kernel
theorem dX5_init_59 : decode cX5_init 59 = .ok (.newarray .int, 2) := by decide +kernel
theorem dX5_init_61 : decode cX5_init 61 = .ok (.putfield 29, 3) := by decide +kernel
theorem dX5_init_64 : decode cX5_init 64 = .ok (.aload_n 0, 1) := by decide +kernel
theorem dX5_init_65 : decode cX5_init 65 = .ok (.getfield 7, 3) := by decide +kernel
theorem dX5_init_68 : decode cX5_init 68 = .ok (.iconst 0, 1) := by decide +kernel
theorem dX5_init_69 : decode cX5_init 69 = .ok (.bipush 40, 2) := by decide +kernel
theorem dX5_init_71 : decode cX5_init 71 = .ok (.iastore, 1) := by decide +kernel
theorem dX5_init_72 : decode cX5_init 72 = .ok (.aload_n 0, 1) := by decide +kernel
theorem dX5_init_73 : decode cX5_init 73 = .ok (.getfield 7, 3) := by decide +kernel
theorem dX5_init_76 : decode cX5_init 76 = .ok (.iconst 1, 1) := by decide +kernel
theorem dX5_init_77 : decode cX5_init 77 = .ok (.iconst 4, 1) := by decide +kernel
theorem dX5_init_78 : decode cX5_init 78 = .ok (.iastore, 1) := by decide +kernel
theorem dX5_init_79 : decode cX5_init 79 = .ok (.aload_n 0, 1) := by decide +kernel
theorem dX5_init_80 : decode cX5_init 80 = .ok (.getfield 7, 3) := by decide +kernel
theorem dX5_init_83 : decode cX5_init 83 = .ok (.iconst 2, 1) := by decide +kernel
theorem dX5_init_84 : decode cX5_init 84 = .ok (.bipush 10, 2) := by decide +kernel
theorem dX5_init_86 : decode cX5_init 86 = .ok (.iastore, 1) := by decide +kernel
theorem dX5_init_87 : decode cX5_init 87 = .ok (.aload_n 0, 1) := by decide +kernel
theorem dX5_init_88 : decode cX5_init 88 = .ok (.getfield 7, 3) := by decide +kernel
theorem dX5_init_91 : decode cX5_init 91 = .ok (.iconst 3, 1) := by decide +kernel
theorem dX5_init_92 : decode cX5_init 92 = .ok (.iconst 3, 1) := by decide +kernel
theorem dX5_init_93 : decode cX5_init 93 = .ok (.iastore, 1) := by decide +kernel
theorem dX5_init_94 : decode cX5_init 94 = .ok (.aload_n 0, 1) := by decide +kernel
theorem dX5_init_95 : decode cX5_init 95 = .ok (.getfield 7, 3) := by decide +kernel
theorem dX5_init_98 : decode cX5_init 98 = .ok (.iconst 4, 1) := by decide +kernel
theorem dX5_init_99 : decode cX5_init 99 = .ok (.bipush 20, 2) := by decide +kernel
theorem dX5_init_101 : decode cX5_init 101 = .ok (.iastore, 1) := by decide +kernel
theorem dX5_init_102 : decode cX5_init 102 = .ok (.aload_n 0, 1) := by decide +kernel
theorem dX5_init_103 : decode cX5_init 103 = .ok (.getfield 7, 3) := by decide +kernel
theorem dX5_init_106 : decode cX5_init 106 = .ok (.iconst 5, 1) := by decide +kernel
theorem dX5_init_107 : decode cX5_init 107 = .ok (.bipush 40, 2) := by decide +kernel
theorem dX5_init_109 : decode cX5_init 109 = .ok (.iastore, 1) := by decide +kernel
theorem dX5_init_110 : decode cX5_init 110 = .ok (.aload_n 0, 1) := by decide +kernel
theorem dX5_init_111 : decode cX5_init 111 = .ok (.getfield 7, 3) := by decide +kernel
theorem dX5_init_114 : decode cX5_init 114 = .ok (.bipush 6, 2) := by decide +kernel
theorem dX5_init_116 : decode cX5_init 116 = .ok (.bipush 80, 2) := by decide +kernel
theorem dX5_init_118 : decode cX5_init 118 = .ok (.iastore, 1) := by decide +kernel
theorem dX5_init_119 : decode cX5_init 119 = .ok (.aload_n 0, 1) := by decide +kernel
theorem dX5_init_120 : decode cX5_init 120 = .ok (.getfield 7, 3) := by decide +kernel
theorem dX5_init_123 : decode cX5_init 123 = .ok (.bipush 7, 2) := by decide +kernel
theorem dX5_init_125 : decode cX5_init 125 = .ok (.sipush 200, 3) := by decide +kernel
theorem dX5_init_128 : decode cX5_init 128 = .ok (.iastore, 1) := by decide +kernel
theorem dX5_init_129 : decode cX5_init 129 = .ok (.aload_n 0, 1) := by decide +kernel
theorem dX5_init_130 : decode cX5_init 130 = .ok (.getfield 7, 3) := by decide +kernel
theorem dX5_init_133 : decode cX5_init 133 = .ok (.bipush 8, 2) := by decide +kernel
theorem dX5_init_135 : decode cX5_init 135 = .ok (.iconst 5, 1) := by decide +kernel
theorem dX5_init_136 : decode cX5_init 136 = .ok (.iastore, 1) := by decide +kernel
theorem dX5_init_137 : decode cX5_init 137 = .ok (.return_, 1) := by decide +kernel
theorem dX5_in_0 : decode cX5_in 0 = .ok (.iload_n 0, 1) := by decide +kernel
theorem dX5_in_1 : decode cX5_in 1 = .ok (.iload_n 1, 1) := by decide +kernel
theorem dX5_in_2 : decode cX5_in 2 = .ok (.if_icmp .lt 12, 3) := by decide +kernel
theorem dX5_in_5 : decode cX5_in 5 = .ok (.iload_n 0, 1) := by decide +kernel
theorem dX5_in_6 : decode cX5_in 6 = .ok (.iload_n 2, 1) := by decide +kernel
theorem dX5_in_7 : decode cX5_in 7 = .ok (.if_icmp .gt 7, 3) := by decide +kernel
theorem dX5_in_10 : decode cX5_in 10 = .ok (.iconst 1, 1) := by decide +kernel
theorem dX5_in_11 : decode cX5_in 11 = .ok (.goto 4, 3) := by decide +kernel
theorem dX5_in_14 : decode cX5_in 14 = .ok (.iconst 0, 1) := by decide +kernel
theorem dX5_in_15 : decode cX5_in 15 = .ok (.ireturn, 1) := by decide +kernel
theorem dX5_lesser_0 : decode cX5_lesser 0 = .ok (.iload_n 0, 1) := by decide +kernel
theorem dX5_lesser_1 : decode cX5_lesser 1 = .ok (.iload_n 1, 1) := by decide +kernel
theorem dX5_lesser_2 : decode cX5_lesser 2 = .ok (.if_icmp .ge 7, 3) := by decide +kernel
theorem dX5_lesser_5 : decode cX5_lesser 5 = .ok (.iload_n 0, 1) := by decide +kernel
theorem dX5_lesser_6 : decode cX5_lesser 6 = .ok (.goto 4, 3) := by decide +kernel
theorem dX5_lesser_9 : decode cX5_lesser 9 = .ok (.iload_n 1, 1) := by decide +kernel
theorem dX5_lesser_10 : decode cX5_lesser 10 = .ok (.ireturn, 1) := by decide +kernel
theorem dX5_greater_0 : decode cX5_greater 0 = .ok (.iload_n 0, 1) := by decide +kernel
theorem dX5_greater_1 : decode cX5_greater 1 = .ok (.iload_n 1, 1) := by decide +kernel
theorem dX5_greater_2 : decode cX5_greater 2 = .ok (.if_icmp .le 7, 3) := by decide +kernel
theorem dX5_greater_5 : decode cX5_greater 5 = .ok (.iload_n 0, 1) := by decide +kernel
theorem dX5_greater_6 : decode cX5_greater 6 = .ok (.goto 4, 3) := by decide +kernel
theorem dX5_greater_9 : decode cX5_greater 9 = .ok (.iload_n 1, 1) := by decide +kernel
theorem dX5_greater_10 : decode cX5_greater 10 = .ok (.ireturn, 1) := by decide +kernel
theorem dX5_size_0 : decode cX5_size 0 = .ok (.iload_n 0, 1) := by decide +kernel
theorem dX5_size_1 : decode cX5_size 1 = .ok (.ifCond .ge 8, 3) := by decide +kernel
theorem dX5_size_4 : decode cX5_size 4 = .ok (.iload_n 0, 1) := by decide +kernel
theorem dX5_size_5 : decode cX5_size 5 = .ok (.ineg, 1) := by decide +kernel
theorem dX5_size_6 : decode cX5_size 6 = .ok (.goto 4, 3) := by decide +kernel
theorem dX5_size_9 : decode cX5_size 9 = .ok (.iload_n 0, 1) := by decide +kernel
theorem dX5_size_10 : decode cX5_size 10 = .ok (.ireturn, 1) := by decide +kernel
theorem dX5_notes_0 : decode cX5_notes 0 = .ok (.aload_n 0, 1) := by decide +kernel
theorem dX5_notes_1 : decode cX5_notes 1 = .ok (.getfield 32, 3) := by decide +kernel
theorem dX5_notes_4 : decode cX5_notes 4 = .ok (.bipush 6, 2) := by decide +kernel
theorem dX5_notes_6 : decode cX5_notes 6 = .ok (.if_icmp .ne 44, 3) := by decide +kernel
theorem dX5_notes_9 : decode cX5_notes 9 = .ok (.iconst 0, 1) := by decide +kernel
theorem dX5_notes_10 : decode cX5_notes 10 = .ok (.istore_n 1, 1) := by decide +kernel
theorem dX5_notes_11 : decode cX5_notes 11 = .ok (.iload_n 1, 1) := by decide +kernel
theorem dX5_notes_12 : decode cX5_notes 12 = .ok (.sipush 1405, 3) := by decide +kernel
theorem dX5_notes_15 : decode cX5_notes 15 = .ok (.if_icmp .ge 25, 3) := by decide +kernel
theorem dX5_notes_18 : decode cX5_notes 18 = .ok (.aload_n 0, 1) := by decide +kernel
theorem dX5_notes_19 : decode cX5_notes 19 = .ok (.getfield 13, 3) := by decide +kernel
theorem dX5_notes_22 : decode cX5_notes 22 = .ok (.iload_n 1, 1) := by decide +kernel
theorem dX5_notes_23 : decode cX5_notes 23 = .ok (.aload_n 0, 1) := by decide +kernel
theorem dX5_notes_24 : decode cX5_notes 24 = .ok (.getfield 13, 3) := by decide +kernel
theorem dX5_notes_27 : decode cX5_notes 27 = .ok (.iload_n 1, 1) := by decide +kernel
theorem dX5_notes_28 : decode cX5_notes 28 = .ok (.sipush 281, 3) := by decide +kernel
theorem dX5_notes_31 : decode cX5_notes 31 = .ok (.iadd, 1) := by decide +kernel
theorem dX5_notes_32 : decode cX5_notes 32 = .ok (.iaload, 1) := by decide +kernel
theorem dX5_notes_33 : decode cX5_notes 33 = .ok (.iastore, 1) := by decide +kernel
theorem dX5_notes_34 : decode cX5_notes 34 = .ok (.iinc 1 1, 3) := by decide +kernel
theorem dX5_notes_37 : decode cX5_notes 37 = .ok (.goto (-26), 3) := by decide +kernel
theorem dX5_notes_40 : decode cX5_notes 40 = .ok (.aload_n 0, 1) := by decide +kernel
theorem dX5_notes_41 : decode cX5_notes 41 = .ok (.dup, 1) := by decide +kernel
theorem dX5_notes_42 : decode cX5_notes 42 = .ok (.getfield 32, 3) := by decide +kernel
theorem dX5_notes_45 : decode cX5_notes 45 = .ok (.iconst 1, 1) := by decide +kernel
theorem dX5_notes_46 : decode cX5_notes 46 = .ok (.isub, 1) := by decide +kernel
theorem dX5_notes_47 : decode cX5_notes 47 = .ok (.putfield 32, 3) := by decide +kernel
theorem dX5_notes_50 : decode cX5_notes 50 = .ok (.iconst 0, 1) := by decide +kernel
theorem dX5_notes_51 : decode cX5_notes 51 = .ok (.istore_n 1, 1) := by decide +kernel
theorem dX5_notes_52 : decode cX5_notes 52 = .ok (.iload_n 1, 1) := by decide +kernel
theorem dX5_notes_53 : decode cX5_notes 53 = .ok (.sipush 281, 3) := by decide +kernel
theorem dX5_notes_56 : decode cX5_notes 56 = .ok (.if_icmp .ge 30, 3) := by decide +kernel
theorem dX5_notes_59 : decode cX5_notes 59 = .ok (.aload_n 0, 1) := by decide +kernel
theorem dX5_notes_60 : decode cX5_notes 60 = .ok (.getfield 13, 3) := by decide +kernel
theorem dX5_notes_63 : decode cX5_notes 63 = .ok (.sipush 281, 3) := by decide +kernel
theorem dX5_notes_66 : decode cX5_notes 66 = .ok (.aload_n 0, 1) := by decide +kernel
theorem dX5_notes_67 : decode cX5_notes 67 = .ok (.getfield 32, 3) := by decide +kernel
theorem dX5_notes_70 : decode cX5_notes 70 = .ok (.imul, 1) := by decide +kernel
theorem dX5_notes_71 : decode cX5_notes 71 = .ok (.iload_n 1, 1) := by decide +kernel
theorem dX5_notes_72 : decode cX5_notes 72 = .ok (.iadd, 1) := by decide +kernel
theorem dX5_notes_73 : decode cX5_notes 73 = .ok (.aload_n 0, 1) := by decide +kernel
theorem dX5_notes_74 : decode cX5_notes 74 = .ok (.getfield 7, 3) := by decide +kernel
theorem dX5_notes_77 : decode cX5_notes 77 = .ok (.iload_n 1, 1) := by decide +kernel
theorem dX5_notes_78 : decode cX5_notes 78 = .ok (.iaload, 1) := by decide +kernel
theorem dX5_notes_79 : decode cX5_notes 79 = .ok (.iastore, 1) := by decide +kernel
theorem dX5_notes_80 : decode cX5_notes 80 = .ok (.iinc 1 1, 3) := by decide +kernel
theorem dX5_notes_83 : decode cX5_notes 83 = .ok (.goto (-31), 3) := by decide +kernel
theorem dX5_notes_86 : decode cX5_notes 86 = .ok (.aload_n 0, 1) := by decide +kernel
theorem dX5_notes_87 : decode cX5_notes 87 = .ok (.dup, 1) := by decide +kernel
theorem dX5_notes_88 : decode cX5_notes 88 = .ok (.getfield 32, 3) := by decide +kernel
theorem dX5_notes_91 : decode cX5_notes 91 = .ok (.iconst 1, 1) := by decide +kernel
theorem dX5_notes_92 : decode cX5_notes 92 = .ok (.iadd, 1) := by decide +kernel
theorem dX5_notes_93 : decode cX5_notes 93 = .ok (.putfield 32, 3) := by decide +kernel
theorem dX5_notes_96 : decode cX5_notes 96 = .ok (.return_, 1) := by decide +kernel
theorem dX5_undo_0 : decode cX5_undo 0 = .ok (.aload_n 0, 1) := by decide +kernel
theorem dX5_undo_1 : decode cX5_undo 1 = .ok (.getfield 32, 3) := by decide +kernel
theorem dX5_undo_4 : decode cX5_undo 4 = .ok (.ifCond .ne 6, 3) := by decide +kernel
theorem dX5_undo_7 : decode cX5_undo 7 = .ok (.ldc 36, 2) := by decide +kernel
theorem dX5_undo_9 : decode cX5_undo 9 = .ok (.ireturn, 1) := by decide +kernel
theorem dX5_undo_10 : decode cX5_undo 10 = .ok (.aload_n 0, 1) := by decide +kernel
theorem dX5_undo_11 : decode cX5_undo 11 = .ok (.dup, 1) := by decide +kernel
theorem dX5_undo_12 : decode cX5_undo 12 = .ok (.getfield 32, 3) := by decide +kernel
theorem dX5_undo_15 : decode cX5_undo 15 = .ok (.iconst 1, 1) := by decide +kernel
theorem dX5_undo_16 : decode cX5_undo 16 = .ok (.isub, 1) := by decide +kernel
theorem dX5_undo_17 : decode cX5_undo 17 = .ok (.putfield 32, 3) := by decide +kernel
theorem dX5_undo_20 : decode cX5_undo 20 = .ok (.iconst 0, 1) := by decide +kernel
theorem dX5_undo_21 : decode cX5_undo 21 = .ok (.istore_n 1, 1) := by decide +kernel
theorem dX5_undo_22 : decode cX5_undo 22 = .ok (.iload_n 1, 1) := by decide +kernel
theorem dX5_undo_23 : decode cX5_undo 23 = .ok (.sipush 281, 3) := by decide +kernel
theorem dX5_undo_26 : decode cX5_undo 26 = .ok (.if_icmp .ge 30, 3) := by decide +kernel
theorem dX5_undo_29 : decode cX5_undo 29 = .ok (.aload_n 0, 1) := by decide +kernel
theorem dX5_undo_30 : decode cX5_undo 30 = .ok (.getfield 7, 3) := by decide +kernel
theorem dX5_undo_33 : decode cX5_undo 33 = .ok (.iload_n 1, 1) := by decide +kernel
theorem dX5_undo_34 : decode cX5_undo 34 = .ok (.aload_n 0, 1) := by decide +kernel
theorem dX5_undo_35 : decode cX5_undo 35 = .ok (.getfield 13, 3) := by decide +kernel
theorem dX5_undo_38 : decode cX5_undo 38 = .ok (.sipush 281, 3) := by decide +kernel
theorem dX5_undo_41 : decode cX5_undo 41 = .ok (.aload_n 0, 1) := by decide +kernel
theorem dX5_undo_42 : decode cX5_undo 42 = .ok (.getfield 32, 3) := by decide +kernel
theorem dX5_undo_45 : decode cX5_undo 45 = .ok (.imul, 1) := by decide +kernel
theorem dX5_undo_46 : decode cX5_undo 46 = .ok (.iload_n 1, 1) := by decide +kernel
theorem dX5_undo_47 : decode cX5_undo 47 = .ok (.iadd, 1) := by decide +kernel
theorem dX5_undo_48 : decode cX5_undo 48 = .ok (.iaload, 1) := by decide +kernel
theorem dX5_undo_49 : decode cX5_undo 49 = .ok (.iastore, 1) := by decide +kernel
theorem dX5_undo_50 : decode cX5_undo 50 = .ok (.iinc 1 1, 3) := by decide +kernel
theorem dX5_undo_53 : decode cX5_undo 53 = .ok (.goto (-31), 3) := by decide +kernel
theorem dX5_undo_56 : decode cX5_undo 56 = .ok (.aload_n 0, 1) := by decide +kernel
theorem dX5_undo_57 : decode cX5_undo 57 = .ok (.getfield 32, 3) := by decide +kernel
theorem dX5_undo_60 : decode cX5_undo 60 = .ok (.ireturn, 1) := by decide +kernel
theorem dX5_putAside_0 : decode cX5_putAside 0 = .ok (.iconst 0, 1) := by decide +kernel
theorem dX5_putAside_1 : decode cX5_putAside 1 = .ok (.istore_n 1, 1) := by decide +kernel
theorem dX5_putAside_2 : decode cX5_putAside 2 = .ok (.iload_n 1, 1) := by decide +kernel
theorem dX5_putAside_3 : decode cX5_putAside 3 = .ok (.sipush 281, 3) := by decide +kernel
theorem dX5_putAside_6 : decode cX5_putAside 6 = .ok (.if_icmp .ge 21, 3) := by decide +kernel
theorem dX5_putAside_9 : decode cX5_putAside 9 = .ok (.aload_n 0, 1) := by decide +kernel
theorem dX5_putAside_10 : decode cX5_putAside 10 = .ok (.getfield 19, 3) := by decide +kernel
theorem dX5_putAside_13 : decode cX5_putAside 13 = .ok (.iload_n 1, 1) := by decide +kernel
theorem dX5_putAside_14 : decode cX5_putAside 14 = .ok (.aload_n 0, 1) := by decide +kernel
theorem dX5_putAside_15 : decode cX5_putAside 15 = .ok (.getfield 7, 3) := by decide +kernel
theorem dX5_putAside_18 : decode cX5_putAside 18 = .ok (.iload_n 1, 1) := by decide +kernel
theorem dX5_putAside_19 : decode cX5_putAside 19 = .ok (.iaload, 1) := by decide +kernel
theorem dX5_putAside_20 : decode cX5_putAside 20 = .ok (.iastore, 1) := by decide +kernel
theorem dX5_putAside_21 : decode cX5_putAside 21 = .ok (.iinc 1 1, 3) := by decide +kernel
theorem dX5_putAside_24 : decode cX5_putAside 24 = .ok (.goto (-22), 3) := by decide +kernel
theorem dX5_putAside_27 : decode cX5_putAside 27 = .ok (.return_, 1) := by decide +kernel
theorem dX5_putBack_0 : decode cX5_putBack 0 = .ok (.iconst 0, 1) := by decide +kernel
theorem dX5_putBack_1 : decode cX5_putBack 1 = .ok (.istore_n 1, 1) := by decide +kernel
theorem dX5_putBack_2 : decode cX5_putBack 2 = .ok (.iload_n 1, 1) := by decide +kernel
theorem dX5_putBack_3 : decode cX5_putBack 3 = .ok (.sipush 281, 3) := by decide +kernel
theorem dX5_putBack_6 : decode cX5_putBack 6 = .ok (.if_icmp .ge 21, 3) := by decide +kernel
theorem dX5_putBack_9 : decode cX5_putBack 9 = .ok (.aload_n 0, 1) := by decide +kernel
theorem dX5_putBack_10 : decode cX5_putBack 10 = .ok (.getfield 7, 3) := by decide +kernel
theorem dX5_putBack_13 : decode cX5_putBack 13 = .ok (.iload_n 1, 1) := by decide +kernel
theorem dX5_putBack_14 : decode cX5_putBack 14 = .ok (.aload_n 0, 1) := by decide +kernel
theorem dX5_putBack_15 : decode cX5_putBack 15 = .ok (.getfield 19, 3) := by decide +kernel
theorem dX5_putBack_18 : decode cX5_putBack 18 = .ok (.iload_n 1, 1) := by decide +kernel
theorem dX5_putBack_19 : decode cX5_putBack 19 = .ok (.iaload, 1) := by decide +kernel
theorem dX5_putBack_20 : decode cX5_putBack 20 = .ok (.iastore, 1) := by decide +kernel
theorem dX5_putBack_21 : decode cX5_putBack 21 = .ok (.iinc 1 1, 3) := by decide +kernel
theorem dX5_putBack_24 : decode cX5_putBack 24 = .ok (.goto (-22), 3) := by decide +kernel
theorem dX5_putBack_27 : decode cX5_putBack 27 = .ok (.return_, 1) := by decide +kernel
set_option maxRecDepth 20000 in
theorem ggX5_isSleeper_X5_in : GoodIn wsX5_isSleeper wsX5_in := goodIn_r _ [5] (by decide +kernel) (by decide +kernel)
set_option maxRecDepth 20000 in
theorem gX5_isSleeper_X5_in : GoodIn wsX5_isSleeper (va_wsS RX5 37 yX5_in wsX5_in) := goodIn_app (goodIn_of _ (by decide +kernel)) ggX5_isSleeper_X5_in
theorem dX5_isSleeper_0 : decode cX5_isSleeper 0 = .ok (.iload_n 1, 1) := by decide +kernel
theorem dX5_isSleeper_1 : decode cX5_isSleeper 1 = .ok (.iconst 0, 1) := by decide +kernel
theorem dX5_isSleeper_2 : decode cX5_isSleeper 2 = .ok (.aload_n 0, 1) := by decide +kernel
theorem dX5_isSleeper_3 : decode cX5_isSleeper 3 = .ok (.getfield 7, 3) := by decide +kernel
theorem dX5_isSleeper_6 : decode cX5_isSleeper 6 = .ok (.iconst 0, 1) := by decide +kernel
theorem dX5_isSleeper_7 : decode cX5_isSleeper 7 = .ok (.iaload, 1) := by decide +kernel
theorem dX5_isSleeper_8 : decode cX5_isSleeper 8 = .ok (.iconst 1, 1) := by decide +kernel
theorem dX5_isSleeper_9 : decode cX5_isSleeper 9 = .ok (.isub, 1) := by decide +kernel
theorem dX5_isSleeper_10 : decode cX5_isSleeper 10 = .ok (.invokestatic 37, 3) := by decide +kernel
theorem dX5_isSleeper_13 : decode cX5_isSleeper 13 = .ok (.ireturn, 1) := by decide +kernel
set_option maxRecDepth 20000 in
theorem ggX5_isLevel_X5_in : GoodIn wsX5_isLevel wsX5_in := goodIn_r _ [4] (by decide +kernel) (by decide +kernel)
set_option maxRecDepth 20000 in
theorem gX5_isLevel_X5_in : GoodIn wsX5_isLevel (va_wsS RX5 37 yX5_in wsX5_in) := goodIn_app (goodIn_of _ (by decide +kernel)) ggX5_isLevel_X5_in
theorem dX5_isLevel_0 : decode cX5_isLevel 0 = .ok (.iload_n 0, 1) := by decide +kernel
theorem dX5_isLevel_1 : decode cX5_isLevel 1 = .ok (.sipush (-9999), 3) := by decide +kernel
theorem dX5_isLevel_4 : decode cX5_isLevel 4 = .ok (.sipush 9999, 3) := by decide +kernel
theorem dX5_isLevel_7 : decode cX5_isLevel 7 = .ok (.invokestatic 37, 3) := by decide +kernel
theorem dX5_isLevel_10 : decode cX5_isLevel 10 = .ok (.ireturn, 1) := by decide +kernel
set_option maxRecDepth 20000 in
theorem ggX5_laysRail_X5_size : GoodIn wsX5_laysRail wsX5_size := goodIn_r _ [6] (by decide +kernel) (by decide +kernel)
set_option maxRecDepth 20000 in
theorem gX5_laysRail_X5_size : GoodIn wsX5_laysRail (va_wsS RX5 41 yX5_size wsX5_size) := goodIn_app (goodIn_of _ (by decide +kernel)) ggX5_laysRail_X5_size
set_option maxRecDepth 20000 in
theorem ggX5_laysRail_X5_greater : GoodIn wsX5_laysRail wsX5_greater := goodIn_r _ [9] (by decide +kernel) (by decide +kernel)
set_option maxRecDepth 20000 in
theorem gX5_laysRail_X5_greater : GoodIn wsX5_laysRail (va_wsS RX5 45 yX5_greater wsX5_greater) := goodIn_app (goodIn_of _ (by decide +kernel)) ggX5_laysRail_X5_greater
theorem dX5_laysRail_0 : decode cX5_laysRail 0 = .ok (.iconst 0, 1) := by decide +kernel
theorem dX5_laysRail_1 : decode cX5_laysRail 1 = .ok (.istore_n 1, 1) := by decide +kernel
theorem dX5_laysRail_2 : decode cX5_laysRail 2 = .ok (.iload_n 1, 1) := by decide +kernel
theorem dX5_laysRail_3 : decode cX5_laysRail 3 = .ok (.aload_n 0, 1) := by decide +kernel
theorem dX5_laysRail_4 : decode cX5_laysRail 4 = .ok (.getfield 7, 3) := by decide +kernel
theorem dX5_laysRail_7 : decode cX5_laysRail 7 = .ok (.iconst 0, 1) := by decide +kernel
theorem dX5_laysRail_8 : decode cX5_laysRail 8 = .ok (.iaload, 1) := by decide +kernel
theorem dX5_laysRail_9 : decode cX5_laysRail 9 = .ok (.if_icmp .ge 80, 3) := by decide +kernel
theorem dX5_laysRail_12 : decode cX5_laysRail 12 = .ok (.aload_n 0, 1) := by decide +kernel
theorem dX5_laysRail_13 : decode cX5_laysRail 13 = .ok (.getfield 26, 3) := by decide +kernel
theorem dX5_laysRail_16 : decode cX5_laysRail 16 = .ok (.iload_n 1, 1) := by decide +kernel
theorem dX5_laysRail_17 : decode cX5_laysRail 17 = .ok (.aload_n 0, 1) := by decide +kernel
theorem dX5_laysRail_18 : decode cX5_laysRail 18 = .ok (.getfield 7, 3) := by decide +kernel
theorem dX5_laysRail_21 : decode cX5_laysRail 21 = .ok (.bipush 41, 2) := by decide +kernel
theorem dX5_laysRail_23 : decode cX5_laysRail 23 = .ok (.iload_n 1, 1) := by decide +kernel
theorem dX5_laysRail_24 : decode cX5_laysRail 24 = .ok (.iadd, 1) := by decide +kernel
theorem dX5_laysRail_25 : decode cX5_laysRail 25 = .ok (.iaload, 1) := by decide +kernel
theorem dX5_laysRail_26 : decode cX5_laysRail 26 = .ok (.iastore, 1) := by decide +kernel
theorem dX5_laysRail_27 : decode cX5_laysRail 27 = .ok (.iconst 0, 1) := by decide +kernel
theorem dX5_laysRail_28 : decode cX5_laysRail 28 = .ok (.istore_n 2, 1) := by decide +kernel
theorem dX5_laysRail_29 : decode cX5_laysRail 29 = .ok (.iload_n 2, 1) := by decide +kernel
theorem dX5_laysRail_30 : decode cX5_laysRail 30 = .ok (.aload_n 0, 1) := by decide +kernel
theorem dX5_laysRail_31 : decode cX5_laysRail 31 = .ok (.getfield 7, 3) := by decide +kernel
theorem dX5_laysRail_34 : decode cX5_laysRail 34 = .ok (.iconst 0, 1) := by decide +kernel
theorem dX5_laysRail_35 : decode cX5_laysRail 35 = .ok (.iaload, 1) := by decide +kernel
theorem dX5_laysRail_36 : decode cX5_laysRail 36 = .ok (.if_icmp .ge 47, 3) := by decide +kernel
theorem dX5_laysRail_39 : decode cX5_laysRail 39 = .ok (.aload_n 0, 1) := by decide +kernel
theorem dX5_laysRail_40 : decode cX5_laysRail 40 = .ok (.getfield 26, 3) := by decide +kernel
theorem dX5_laysRail_43 : decode cX5_laysRail 43 = .ok (.iload_n 1, 1) := by decide +kernel
theorem dX5_laysRail_44 : decode cX5_laysRail 44 = .ok (.aload_n 0, 1) := by decide +kernel
theorem dX5_laysRail_45 : decode cX5_laysRail 45 = .ok (.getfield 26, 3) := by decide +kernel
theorem dX5_laysRail_48 : decode cX5_laysRail 48 = .ok (.iload_n 1, 1) := by decide +kernel
theorem dX5_laysRail_49 : decode cX5_laysRail 49 = .ok (.iaload, 1) := by decide +kernel
theorem dX5_laysRail_50 : decode cX5_laysRail 50 = .ok (.aload_n 0, 1) := by decide +kernel
theorem dX5_laysRail_51 : decode cX5_laysRail 51 = .ok (.getfield 7, 3) := by decide +kernel
theorem dX5_laysRail_54 : decode cX5_laysRail 54 = .ok (.bipush 41, 2) := by decide +kernel
theorem dX5_laysRail_56 : decode cX5_laysRail 56 = .ok (.iload_n 2, 1) := by decide +kernel
theorem dX5_laysRail_57 : decode cX5_laysRail 57 = .ok (.iadd, 1) := by decide +kernel
theorem dX5_laysRail_58 : decode cX5_laysRail 58 = .ok (.iaload, 1) := by decide +kernel
theorem dX5_laysRail_59 : decode cX5_laysRail 59 = .ok (.aload_n 0, 1) := by decide +kernel
theorem dX5_laysRail_60 : decode cX5_laysRail 60 = .ok (.getfield 7, 3) := by decide +kernel
theorem dX5_laysRail_63 : decode cX5_laysRail 63 = .ok (.iconst 1, 1) := by decide +kernel
theorem dX5_laysRail_64 : decode cX5_laysRail 64 = .ok (.iaload, 1) := by decide +kernel
theorem dX5_laysRail_65 : decode cX5_laysRail 65 = .ok (.iload_n 1, 1) := by decide +kernel
theorem dX5_laysRail_66 : decode cX5_laysRail 66 = .ok (.iload_n 2, 1) := by decide +kernel
theorem dX5_laysRail_67 : decode cX5_laysRail 67 = .ok (.isub, 1) := by decide +kernel
theorem dX5_laysRail_68 : decode cX5_laysRail 68 = .ok (.invokestatic 41, 3) := by decide +kernel
theorem dX5_laysRail_71 : decode cX5_laysRail 71 = .ok (.imul, 1) := by decide +kernel
theorem dX5_laysRail_72 : decode cX5_laysRail 72 = .ok (.isub, 1) := by decide +kernel
theorem dX5_laysRail_73 : decode cX5_laysRail 73 = .ok (.invokestatic 45, 3) := by decide +kernel
theorem dX5_laysRail_76 : decode cX5_laysRail 76 = .ok (.iastore, 1) := by decide +kernel
theorem dX5_laysRail_77 : decode cX5_laysRail 77 = .ok (.iinc 2 1, 3) := by decide +kernel
theorem dX5_laysRail_80 : decode cX5_laysRail 80 = .ok (.goto (-51), 3) := by decide +kernel
theorem dX5_laysRail_83 : decode cX5_laysRail 83 = .ok (.iinc 1 1, 3) := by decide +kernel
theorem dX5_laysRail_86 : decode cX5_laysRail 86 = .ok (.goto (-84), 3) := by decide +kernel
theorem dX5_laysRail_89 : decode cX5_laysRail 89 = .ok (.return_, 1) := by decide +kernel
theorem dX5_voidAt_0 : decode cX5_voidAt 0 = .ok (.aload_n 0, 1) := by decide +kernel
theorem dX5_voidAt_1 : decode cX5_voidAt 1 = .ok (.getfield 26, 3) := by decide +kernel
theorem dX5_voidAt_4 : decode cX5_voidAt 4 = .ok (.iload_n 1, 1) := by decide +kernel
theorem dX5_voidAt_5 : decode cX5_voidAt 5 = .ok (.iaload, 1) := by decide +kernel
theorem dX5_voidAt_6 : decode cX5_voidAt 6 = .ok (.aload_n 0, 1) := by decide +kernel
theorem dX5_voidAt_7 : decode cX5_voidAt 7 = .ok (.getfield 7, 3) := by decide +kernel
theorem dX5_voidAt_10 : decode cX5_voidAt 10 = .ok (.bipush 41, 2) := by decide +kernel
theorem dX5_voidAt_12 : decode cX5_voidAt 12 = .ok (.iload_n 1, 1) := by decide +kernel
theorem dX5_voidAt_13 : decode cX5_voidAt 13 = .ok (.iadd, 1) := by decide +kernel
theorem dX5_voidAt_14 : decode cX5_voidAt 14 = .ok (.iaload, 1) := by decide +kernel
theorem dX5_voidAt_15 : decode cX5_voidAt 15 = .ok (.isub, 1) := by decide +kernel
theorem dX5_voidAt_16 : decode cX5_voidAt 16 = .ok (.ireturn, 1) := by decide +kernel
set_option maxRecDepth 20000 in
theorem ggX5_hangs_X5_voidAt : GoodIn wsX5_hangs wsX5_voidAt := goodIn_r _ [6, 7, 1, 8, 9, 10, 11, 12, 13, 14, 15, 16, 17, 18, 19] (by decide +kernel) (by decide +kernel)
set_option maxRecDepth 20000 in
theorem gX5_hangs_X5_voidAt : GoodIn wsX5_hangs (wsV RX5 49 RX5 yX5_voidAt wsX5_voidAt) := goodIn_app (goodIn_of _ (by decide +kernel)) ggX5_hangs_X5_voidAt
theorem dX5_hangs_0 : decode cX5_hangs 0 = .ok (.aload_n 0, 1) := by decide +kernel
theorem dX5_hangs_1 : decode cX5_hangs 1 = .ok (.iload_n 1, 1) := by decide +kernel
theorem dX5_hangs_2 : decode cX5_hangs 2 = .ok (.invokevirtual 49, 3) := by decide +kernel
theorem dX5_hangs_5 : decode cX5_hangs 5 = .ok (.aload_n 0, 1) := by decide +kernel
theorem dX5_hangs_6 : decode cX5_hangs 6 = .ok (.getfield 7, 3) := by decide +kernel
theorem dX5_hangs_9 : decode cX5_hangs 9 = .ok (.iconst 2, 1) := by decide +kernel
theorem dX5_hangs_10 : decode cX5_hangs 10 = .ok (.iaload, 1) := by decide +kernel
theorem dX5_hangs_11 : decode cX5_hangs 11 = .ok (.if_icmp .le 7, 3) := by decide +kernel
theorem dX5_hangs_14 : decode cX5_hangs 14 = .ok (.iconst 1, 1) := by decide +kernel
theorem dX5_hangs_15 : decode cX5_hangs 15 = .ok (.goto 4, 3) := by decide +kernel
theorem dX5_hangs_18 : decode cX5_hangs 18 = .ok (.iconst 0, 1) := by decide +kernel
theorem dX5_hangs_19 : decode cX5_hangs 19 = .ok (.ireturn, 1) := by decide +kernel
theorem dX5_defect_0 : decode cX5_defect 0 = .ok (.aload_n 0, 1) := by decide +kernel
theorem dX5_defect_1 : decode cX5_defect 1 = .ok (.getfield 7, 3) := by decide +kernel
theorem dX5_defect_4 : decode cX5_defect 4 = .ok (.iconst 3, 1) := by decide +kernel
theorem dX5_defect_5 : decode cX5_defect 5 = .ok (.iaload, 1) := by decide +kernel
theorem dX5_defect_6 : decode cX5_defect 6 = .ok (.istore_n 2, 1) := by decide +kernel
theorem dX5_defect_7 : decode cX5_defect 7 = .ok (.iload_n 1, 1) := by decide +kernel
theorem dX5_defect_8 : decode cX5_defect 8 = .ok (.iload_n 2, 1) := by decide +kernel
theorem dX5_defect_9 : decode cX5_defect 9 = .ok (.if_icmp .lt 15, 3) := by decide +kernel
theorem dX5_defect_12 : decode cX5_defect 12 = .ok (.iload_n 1, 1) := by decide +kernel
theorem dX5_defect_13 : decode cX5_defect 13 = .ok (.aload_n 0, 1) := by decide +kernel
theorem dX5_defect_14 : decode cX5_defect 14 = .ok (.getfield 7, 3) := by decide +kernel
theorem dX5_defect_17 : decode cX5_defect 17 = .ok (.iconst 0, 1) := by decide +kernel
theorem dX5_defect_18 : decode cX5_defect 18 = .ok (.iaload, 1) := by decide +kernel
theorem dX5_defect_19 : decode cX5_defect 19 = .ok (.iload_n 2, 1) := by decide +kernel
theorem dX5_defect_20 : decode cX5_defect 20 = .ok (.isub, 1) := by decide +kernel
theorem dX5_defect_21 : decode cX5_defect 21 = .ok (.if_icmp .lt 5, 3) := by decide +kernel
theorem dX5_defect_24 : decode cX5_defect 24 = .ok (.iconst 0, 1) := by decide +kernel
theorem dX5_defect_25 : decode cX5_defect 25 = .ok (.ireturn, 1) := by decide +kernel
theorem dX5_defect_26 : decode cX5_defect 26 = .ok (.iconst 2, 1) := by decide +kernel
theorem dX5_defect_27 : decode cX5_defect 27 = .ok (.aload_n 0, 1) := by decide +kernel
theorem dX5_defect_28 : decode cX5_defect 28 = .ok (.getfield 26, 3) := by decide +kernel
theorem dX5_defect_31 : decode cX5_defect 31 = .ok (.iload_n 1, 1) := by decide +kernel
theorem dX5_defect_32 : decode cX5_defect 32 = .ok (.iaload, 1) := by decide +kernel
theorem dX5_defect_33 : decode cX5_defect 33 = .ok (.imul, 1) := by decide +kernel
theorem dX5_defect_34 : decode cX5_defect 34 = .ok (.aload_n 0, 1) := by decide +kernel
theorem dX5_defect_35 : decode cX5_defect 35 = .ok (.getfield 26, 3) := by decide +kernel
theorem dX5_defect_38 : decode cX5_defect 38 = .ok (.iload_n 1, 1) := by decide +kernel
theorem dX5_defect_39 : decode cX5_defect 39 = .ok (.iload_n 2, 1) := by decide +kernel
theorem dX5_defect_40 : decode cX5_defect 40 = .ok (.isub, 1) := by decide +kernel
theorem dX5_defect_41 : decode cX5_defect 41 = .ok (.iaload, 1) := by decide +kernel
theorem dX5_defect_42 : decode cX5_defect 42 = .ok (.isub, 1) := by decide +kernel
theorem dX5_defect_43 : decode cX5_defect 43 = .ok (.aload_n 0, 1) := by decide +kernel
theorem dX5_defect_44 : decode cX5_defect 44 = .ok (.getfield 26, 3) := by decide +kernel
theorem dX5_defect_47 : decode cX5_defect 47 = .ok (.iload_n 1, 1) := by decide +kernel
theorem dX5_defect_48 : decode cX5_defect 48 = .ok (.iload_n 2, 1) := by decide +kernel
theorem dX5_defect_49 : decode cX5_defect 49 = .ok (.iadd, 1) := by decide +kernel
theorem dX5_defect_50 : decode cX5_defect 50 = .ok (.iaload, 1) := by decide +kernel
theorem dX5_defect_51 : decode cX5_defect 51 = .ok (.isub, 1) := by decide +kernel
theorem dX5_defect_52 : decode cX5_defect 52 = .ok (.ireturn, 1) := by decide +kernel
set_option maxRecDepth 20000 in
theorem ggX5_orderAt_X5_defect : GoodIn wsX5_orderAt wsX5_defect := goodIn_r _ [6, 1, 7, 11, 12, 13, 14, 15, 16, 17, 18, 19, 20, 21, 22] (by decide +kernel) (by decide +kernel)
set_option maxRecDepth 20000 in
theorem gX5_orderAt_X5_defect : GoodIn wsX5_orderAt (wsV RX5 52 RX5 yX5_defect wsX5_defect) := goodIn_app (goodIn_of _ (by decide +kernel)) ggX5_orderAt_X5_defect
set_option maxRecDepth 20000 in
theorem ggX5_orderAt_X5_size : GoodIn wsX5_orderAt wsX5_size := goodIn_r _ [10] (by decide +kernel) (by decide +kernel)
set_option maxRecDepth 20000 in
theorem gX5_orderAt_X5_size : GoodIn wsX5_orderAt (va_wsS RX5 41 yX5_size wsX5_size) := goodIn_app (goodIn_of _ (by decide +kernel)) ggX5_orderAt_X5_size
theorem dX5_orderAt_0 : decode cX5_orderAt 0 = .ok (.aload_n 0, 1) := by decide +kernel
theorem dX5_orderAt_1 : decode cX5_orderAt 1 = .ok (.iload_n 1, 1) := by decide +kernel
theorem dX5_orderAt_2 : decode cX5_orderAt 2 = .ok (.invokevirtual 52, 3) := by decide +kernel
theorem dX5_orderAt_5 : decode cX5_orderAt 5 = .ok (.invokestatic 41, 3) := by decide +kernel
theorem dX5_orderAt_8 : decode cX5_orderAt 8 = .ok (.istore_n 2, 1) := by decide +kernel
theorem dX5_orderAt_9 : decode cX5_orderAt 9 = .ok (.iconst 0, 1) := by decide +kernel
theorem dX5_orderAt_10 : decode cX5_orderAt 10 = .ok (.istore_n 3, 1) := by decide +kernel
theorem dX5_orderAt_11 : decode cX5_orderAt 11 = .ok (.iconst 0, 1) := by decide +kernel
theorem dX5_orderAt_12 : decode cX5_orderAt 12 = .ok (.istore 4, 2) := by decide +kernel
theorem dX5_orderAt_14 : decode cX5_orderAt 14 = .ok (.iload 4, 2) := by decide +kernel
theorem dX5_orderAt_16 : decode cX5_orderAt 16 = .ok (.iconst 3, 1) := by decide +kernel
theorem dX5_orderAt_17 : decode cX5_orderAt 17 = .ok (.if_icmp .ge 30, 3) := by decide +kernel
theorem dX5_orderAt_20 : decode cX5_orderAt 20 = .ok (.iload_n 3, 1) := by decide +kernel
theorem dX5_orderAt_21 : decode cX5_orderAt 21 = .ok (.iload_n 2, 1) := by decide +kernel
theorem dX5_orderAt_22 : decode cX5_orderAt 22 = .ok (.aload_n 0, 1) := by decide +kernel
theorem dX5_orderAt_23 : decode cX5_orderAt 23 = .ok (.getfield 7, 3) := by decide +kernel
theorem dX5_orderAt_26 : decode cX5_orderAt 26 = .ok (.iconst 4, 1) := by decide +kernel
theorem dX5_orderAt_27 : decode cX5_orderAt 27 = .ok (.iload 4, 2) := by decide +kernel
theorem dX5_orderAt_29 : decode cX5_orderAt 29 = .ok (.iadd, 1) := by decide +kernel
theorem dX5_orderAt_30 : decode cX5_orderAt 30 = .ok (.iaload, 1) := by decide +kernel
theorem dX5_orderAt_31 : decode cX5_orderAt 31 = .ok (.if_icmp .le 7, 3) := by decide +kernel
theorem dX5_orderAt_34 : decode cX5_orderAt 34 = .ok (.iconst 1, 1) := by decide +kernel
theorem dX5_orderAt_35 : decode cX5_orderAt 35 = .ok (.goto 4, 3) := by decide +kernel
theorem dX5_orderAt_38 : decode cX5_orderAt 38 = .ok (.iconst 0, 1) := by decide +kernel
theorem dX5_orderAt_39 : decode cX5_orderAt 39 = .ok (.iadd, 1) := by decide +kernel
theorem dX5_orderAt_40 : decode cX5_orderAt 40 = .ok (.istore_n 3, 1) := by decide +kernel
theorem dX5_orderAt_41 : decode cX5_orderAt 41 = .ok (.iinc 4 1, 3) := by decide +kernel
theorem dX5_orderAt_44 : decode cX5_orderAt 44 = .ok (.goto (-30), 3) := by decide +kernel
theorem dX5_orderAt_47 : decode cX5_orderAt 47 = .ok (.iload_n 3, 1) := by decide +kernel
theorem dX5_orderAt_48 : decode cX5_orderAt 48 = .ok (.ireturn, 1) := by decide +kernel
set_option maxRecDepth 20000 in
theorem ggX5_order_X5_orderAt : GoodIn wsX5_order wsX5_orderAt := goodIn_r _ [6, 1, 7, 8, 9, 5, 10, 11, 12, 13, 14, 18, 19, 20, 21, 22, 23, 24, 25, 26, 27, 28, 29] (by decide +kernel) (by decide +kernel)
set_option maxRecDepth 20000 in
theorem gX5_order_X5_orderAt : GoodIn wsX5_order (wsV RX5 55 RX5 yX5_orderAt wsX5_orderAt) := goodIn_app (goodIn_of _ (by decide +kernel)) ggX5_order_X5_orderAt
set_option maxRecDepth 20000 in
theorem ggX5_order_X5_greater : GoodIn wsX5_order wsX5_greater := goodIn_r _ [17] (by decide +kernel) (by decide +kernel)
set_option maxRecDepth 20000 in
theorem gX5_order_X5_greater : GoodIn wsX5_order (va_wsS RX5 45 yX5_greater wsX5_greater) := goodIn_app (goodIn_of _ (by decide +kernel)) ggX5_order_X5_greater
theorem dX5_order_0 : decode cX5_order 0 = .ok (.iconst 0, 1) := by decide +kernel
theorem dX5_order_1 : decode cX5_order 1 = .ok (.istore_n 1, 1) := by decide +kernel
theorem dX5_order_2 : decode cX5_order 2 = .ok (.iconst 0, 1) := by decide +kernel
theorem dX5_order_3 : decode cX5_order 3 = .ok (.istore_n 2, 1) := by decide +kernel
theorem dX5_order_4 : decode cX5_order 4 = .ok (.iload_n 2, 1) := by decide +kernel
theorem dX5_order_5 : decode cX5_order 5 = .ok (.aload_n 0, 1) := by decide +kernel
theorem dX5_order_6 : decode cX5_order 6 = .ok (.getfield 7, 3) := by decide +kernel
theorem dX5_order_9 : decode cX5_order 9 = .ok (.iconst 0, 1) := by decide +kernel
theorem dX5_order_10 : decode cX5_order 10 = .ok (.iaload, 1) := by decide +kernel
theorem dX5_order_11 : decode cX5_order 11 = .ok (.if_icmp .ge 19, 3) := by decide +kernel
theorem dX5_order_14 : decode cX5_order 14 = .ok (.iload_n 1, 1) := by decide +kernel
theorem dX5_order_15 : decode cX5_order 15 = .ok (.aload_n 0, 1) := by decide +kernel
theorem dX5_order_16 : decode cX5_order 16 = .ok (.iload_n 2, 1) := by decide +kernel
theorem dX5_order_17 : decode cX5_order 17 = .ok (.invokevirtual 55, 3) := by decide +kernel
theorem dX5_order_20 : decode cX5_order 20 = .ok (.invokestatic 45, 3) := by decide +kernel
theorem dX5_order_23 : decode cX5_order 23 = .ok (.istore_n 1, 1) := by decide +kernel
theorem dX5_order_24 : decode cX5_order 24 = .ok (.iinc 2 1, 3) := by decide +kernel
theorem dX5_order_27 : decode cX5_order 27 = .ok (.goto (-23), 3) := by decide +kernel
theorem dX5_order_30 : decode cX5_order 30 = .ok (.iload_n 1, 1) := by decide +kernel
theorem dX5_order_31 : decode cX5_order 31 = .ok (.ireturn, 1) := by decide +kernel
set_option maxRecDepth 20000 in
theorem ggX5_nearest_X5_isSleeper : GoodIn wsX5_nearest wsX5_isSleeper := goodIn_r _ [5, 6, 7, 8, 4, 9, 19, 20, 21, 22, 23, 24, 25, 26, 27, 28, 29, 30] (by decide +kernel) (by decide +kernel)
set_option maxRecDepth 20000 in
theorem gX5_nearest_X5_isSleeper : GoodIn wsX5_nearest (wsV RX5 58 RX5 yX5_isSleeper wsX5_isSleeper) := goodIn_app (goodIn_of _ (by decide +kernel)) ggX5_nearest_X5_isSleeper
set_option maxRecDepth 20000 in
theorem ggX5_nearest_X5_hangs : GoodIn wsX5_nearest wsX5_hangs := goodIn_r _ [13, 6, 14, 15, 16, 4, 17, 18, 19, 20, 21, 22, 23, 24, 25, 26, 27, 28, 29, 30] (by decide +kernel) (by decide +kernel)
set_option maxRecDepth 20000 in
theorem gX5_nearest_X5_hangs : GoodIn wsX5_nearest (wsV RX5 62 RX5 yX5_hangs wsX5_hangs) := goodIn_app (goodIn_of _ (by decide +kernel)) ggX5_nearest_X5_hangs
theorem dX5_nearest_0 : decode cX5_nearest 0 = .ok (.iload_n 1, 1) := by decide +kernel
theorem dX5_nearest_1 : decode cX5_nearest 1 = .ok (.iload_n 2, 1) := by decide +kernel
theorem dX5_nearest_2 : decode cX5_nearest 2 = .ok (.iadd, 1) := by decide +kernel
theorem dX5_nearest_3 : decode cX5_nearest 3 = .ok (.istore_n 3, 1) := by decide +kernel
theorem dX5_nearest_4 : decode cX5_nearest 4 = .ok (.aload_n 0, 1) := by decide +kernel
theorem dX5_nearest_5 : decode cX5_nearest 5 = .ok (.iload_n 3, 1) := by decide +kernel
theorem dX5_nearest_6 : decode cX5_nearest 6 = .ok (.invokevirtual 58, 3) := by decide +kernel
theorem dX5_nearest_9 : decode cX5_nearest 9 = .ok (.ifCond .eq 18, 3) := by decide +kernel
theorem dX5_nearest_12 : decode cX5_nearest 12 = .ok (.aload_n 0, 1) := by decide +kernel
theorem dX5_nearest_13 : decode cX5_nearest 13 = .ok (.iload_n 3, 1) := by decide +kernel
theorem dX5_nearest_14 : decode cX5_nearest 14 = .ok (.invokevirtual 62, 3) := by decide +kernel
theorem dX5_nearest_17 : decode cX5_nearest 17 = .ok (.ifCond .eq 10, 3) := by decide +kernel
theorem dX5_nearest_20 : decode cX5_nearest 20 = .ok (.iload_n 3, 1) := by decide +kernel
theorem dX5_nearest_21 : decode cX5_nearest 21 = .ok (.iload_n 2, 1) := by decide +kernel
theorem dX5_nearest_22 : decode cX5_nearest 22 = .ok (.iadd, 1) := by decide +kernel
theorem dX5_nearest_23 : decode cX5_nearest 23 = .ok (.istore_n 3, 1) := by decide +kernel
theorem dX5_nearest_24 : decode cX5_nearest 24 = .ok (.goto (-20), 3) := by decide +kernel
theorem dX5_nearest_27 : decode cX5_nearest 27 = .ok (.aload_n 0, 1) := by decide +kernel
theorem dX5_nearest_28 : decode cX5_nearest 28 = .ok (.iload_n 3, 1) := by decide +kernel
theorem dX5_nearest_29 : decode cX5_nearest 29 = .ok (.invokevirtual 58, 3) := by decide +kernel
theorem dX5_nearest_32 : decode cX5_nearest 32 = .ok (.ifCond .eq 7, 3) := by decide +kernel
theorem dX5_nearest_35 : decode cX5_nearest 35 = .ok (.iload_n 3, 1) := by decide +kernel
theorem dX5_nearest_36 : decode cX5_nearest 36 = .ok (.goto 4, 3) := by decide +kernel
theorem dX5_nearest_39 : decode cX5_nearest 39 = .ok (.iconst (-1), 1) := by decide +kernel
theorem dX5_nearest_40 : decode cX5_nearest 40 = .ok (.ireturn, 1) := by decide +kernel
set_option maxRecDepth 20000 in
theorem ggX5_laysLoads_X5_hangs : GoodIn wsX5_laysLoads wsX5_hangs := goodIn_r _ [7, 1, 8, 9, 10, 6, 11, 12, 24, 25, 26, 27, 28, 29, 30, 31, 32, 33, 34, 35] (by decide +kernel) (by decide +kernel)
set_option maxRecDepth 20000 in
theorem gX5_laysLoads_X5_hangs : GoodIn wsX5_laysLoads (wsV RX5 62 RX5 yX5_hangs wsX5_hangs) := goodIn_app (goodIn_of _ (by decide +kernel)) ggX5_laysLoads_X5_hangs
set_option maxRecDepth 20000 in
theorem ggX5_laysLoads_X5_nearest : GoodIn wsX5_laysLoads wsX5_nearest := goodIn_r _ [16, 17, 18, 19, 6, 20, 1, 21, 22, 23, 3, 4, 5, 7, 8, 9, 10, 11, 12, 24, 25, 26, 27, 28, 29, 30, 31, 32, 33, 34, 35] (by decide +kernel) (by decide +kernel)
set_option maxRecDepth 20000 in
theorem gX5_laysLoads_X5_nearest : GoodIn wsX5_laysLoads (wsV RX5 65 RX5 yX5_nearest wsX5_nearest) := goodIn_app (goodIn_of _ (by decide +kernel)) ggX5_laysLoads_X5_nearest
theorem dX5_laysLoads_0 : decode cX5_laysLoads 0 = .ok (.iconst 0, 1) := by decide +kernel
theorem dX5_laysLoads_1 : decode cX5_laysLoads 1 = .ok (.istore_n 1, 1) := by decide +kernel
theorem dX5_laysLoads_2 : decode cX5_laysLoads 2 = .ok (.iload_n 1, 1) := by decide +kernel
theorem dX5_laysLoads_3 : decode cX5_laysLoads 3 = .ok (.aload_n 0, 1) := by decide +kernel
theorem dX5_laysLoads_4 : decode cX5_laysLoads 4 = .ok (.getfield 7, 3) := by decide +kernel
theorem dX5_laysLoads_7 : decode cX5_laysLoads 7 = .ok (.iconst 0, 1) := by decide +kernel
theorem dX5_laysLoads_8 : decode cX5_laysLoads 8 = .ok (.iaload, 1) := by decide +kernel
theorem dX5_laysLoads_9 : decode cX5_laysLoads 9 = .ok (.if_icmp .ge 28, 3) := by decide +kernel
theorem dX5_laysLoads_12 : decode cX5_laysLoads 12 = .ok (.aload_n 0, 1) := by decide +kernel
theorem dX5_laysLoads_13 : decode cX5_laysLoads 13 = .ok (.getfield 29, 3) := by decide +kernel
theorem dX5_laysLoads_16 : decode cX5_laysLoads 16 = .ok (.iload_n 1, 1) := by decide +kernel
theorem dX5_laysLoads_17 : decode cX5_laysLoads 17 = .ok (.aload_n 0, 1) := by decide +kernel
theorem dX5_laysLoads_18 : decode cX5_laysLoads 18 = .ok (.iload_n 1, 1) := by decide +kernel
theorem dX5_laysLoads_19 : decode cX5_laysLoads 19 = .ok (.invokevirtual 62, 3) := by decide +kernel
theorem dX5_laysLoads_22 : decode cX5_laysLoads 22 = .ok (.ifCond .eq 7, 3) := by decide +kernel
theorem dX5_laysLoads_25 : decode cX5_laysLoads 25 = .ok (.iconst 0, 1) := by decide +kernel
theorem dX5_laysLoads_26 : decode cX5_laysLoads 26 = .ok (.goto 4, 3) := by decide +kernel
theorem dX5_laysLoads_29 : decode cX5_laysLoads 29 = .ok (.iconst 2, 1) := by decide +kernel
theorem dX5_laysLoads_30 : decode cX5_laysLoads 30 = .ok (.iastore, 1) := by decide +kernel
theorem dX5_laysLoads_31 : decode cX5_laysLoads 31 = .ok (.iinc 1 1, 3) := by decide +kernel
theorem dX5_laysLoads_34 : decode cX5_laysLoads 34 = .ok (.goto (-32), 3) := by decide +kernel
theorem dX5_laysLoads_37 : decode cX5_laysLoads 37 = .ok (.iconst 0, 1) := by decide +kernel
theorem dX5_laysLoads_38 : decode cX5_laysLoads 38 = .ok (.istore_n 1, 1) := by decide +kernel
theorem dX5_laysLoads_39 : decode cX5_laysLoads 39 = .ok (.iload_n 1, 1) := by decide +kernel
theorem dX5_laysLoads_40 : decode cX5_laysLoads 40 = .ok (.aload_n 0, 1) := by decide +kernel
theorem dX5_laysLoads_41 : decode cX5_laysLoads 41 = .ok (.getfield 7, 3) := by decide +kernel
theorem dX5_laysLoads_44 : decode cX5_laysLoads 44 = .ok (.iconst 0, 1) := by decide +kernel
theorem dX5_laysLoads_45 : decode cX5_laysLoads 45 = .ok (.iaload, 1) := by decide +kernel
theorem dX5_laysLoads_46 : decode cX5_laysLoads 46 = .ok (.if_icmp .ge 67, 3) := by decide +kernel
theorem dX5_laysLoads_49 : decode cX5_laysLoads 49 = .ok (.aload_n 0, 1) := by decide +kernel
theorem dX5_laysLoads_50 : decode cX5_laysLoads 50 = .ok (.iload_n 1, 1) := by decide +kernel
theorem dX5_laysLoads_51 : decode cX5_laysLoads 51 = .ok (.invokevirtual 62, 3) := by decide +kernel
theorem dX5_laysLoads_54 : decode cX5_laysLoads 54 = .ok (.ifCond .eq 53, 3) := by decide +kernel
theorem dX5_laysLoads_57 : decode cX5_laysLoads 57 = .ok (.aload_n 0, 1) := by decide +kernel
theorem dX5_laysLoads_58 : decode cX5_laysLoads 58 = .ok (.iload_n 1, 1) := by decide +kernel
theorem dX5_laysLoads_59 : decode cX5_laysLoads 59 = .ok (.iconst (-1), 1) := by decide +kernel
theorem dX5_laysLoads_60 : decode cX5_laysLoads 60 = .ok (.invokevirtual 65, 3) := by decide +kernel
theorem dX5_laysLoads_63 : decode cX5_laysLoads 63 = .ok (.istore_n 2, 1) := by decide +kernel
theorem dX5_laysLoads_64 : decode cX5_laysLoads 64 = .ok (.aload_n 0, 1) := by decide +kernel
theorem dX5_laysLoads_65 : decode cX5_laysLoads 65 = .ok (.iload_n 1, 1) := by decide +kernel
theorem dX5_laysLoads_66 : decode cX5_laysLoads 66 = .ok (.iconst 1, 1) := by decide +kernel
theorem dX5_laysLoads_67 : decode cX5_laysLoads 67 = .ok (.invokevirtual 65, 3) := by decide +kernel
theorem dX5_laysLoads_70 : decode cX5_laysLoads 70 = .ok (.istore_n 3, 1) := by decide +kernel
theorem dX5_laysLoads_71 : decode cX5_laysLoads 71 = .ok (.aload_n 0, 1) := by decide +kernel
theorem dX5_laysLoads_72 : decode cX5_laysLoads 72 = .ok (.getfield 29, 3) := by decide +kernel
theorem dX5_laysLoads_75 : decode cX5_laysLoads 75 = .ok (.iload_n 2, 1) := by decide +kernel
theorem dX5_laysLoads_76 : decode cX5_laysLoads 76 = .ok (.ifCond .ge 7, 3) := by decide +kernel
theorem dX5_laysLoads_79 : decode cX5_laysLoads 79 = .ok (.iload_n 3, 1) := by decide +kernel
theorem dX5_laysLoads_80 : decode cX5_laysLoads 80 = .ok (.goto 4, 3) := by decide +kernel
theorem dX5_laysLoads_83 : decode cX5_laysLoads 83 = .ok (.iload_n 2, 1) := by decide +kernel
theorem dX5_laysLoads_84 : decode cX5_laysLoads 84 = .ok (.dup2, 1) := by decide +kernel
theorem dX5_laysLoads_85 : decode cX5_laysLoads 85 = .ok (.iaload, 1) := by decide +kernel
theorem dX5_laysLoads_86 : decode cX5_laysLoads 86 = .ok (.iconst 1, 1) := by decide +kernel
theorem dX5_laysLoads_87 : decode cX5_laysLoads 87 = .ok (.iadd, 1) := by decide +kernel
theorem dX5_laysLoads_88 : decode cX5_laysLoads 88 = .ok (.iastore, 1) := by decide +kernel
theorem dX5_laysLoads_89 : decode cX5_laysLoads 89 = .ok (.aload_n 0, 1) := by decide +kernel
theorem dX5_laysLoads_90 : decode cX5_laysLoads 90 = .ok (.getfield 29, 3) := by decide +kernel
theorem dX5_laysLoads_93 : decode cX5_laysLoads 93 = .ok (.iload_n 3, 1) := by decide +kernel
theorem dX5_laysLoads_94 : decode cX5_laysLoads 94 = .ok (.ifCond .ge 7, 3) := by decide +kernel
theorem dX5_laysLoads_97 : decode cX5_laysLoads 97 = .ok (.iload_n 2, 1) := by decide +kernel
theorem dX5_laysLoads_98 : decode cX5_laysLoads 98 = .ok (.goto 4, 3) := by decide +kernel
theorem dX5_laysLoads_101 : decode cX5_laysLoads 101 = .ok (.iload_n 3, 1) := by decide +kernel
theorem dX5_laysLoads_102 : decode cX5_laysLoads 102 = .ok (.dup2, 1) := by decide +kernel
theorem dX5_laysLoads_103 : decode cX5_laysLoads 103 = .ok (.iaload, 1) := by decide +kernel
theorem dX5_laysLoads_104 : decode cX5_laysLoads 104 = .ok (.iconst 1, 1) := by decide +kernel
theorem dX5_laysLoads_105 : decode cX5_laysLoads 105 = .ok (.iadd, 1) := by decide +kernel
theorem dX5_laysLoads_106 : decode cX5_laysLoads 106 = .ok (.iastore, 1) := by decide +kernel
theorem dX5_laysLoads_107 : decode cX5_laysLoads 107 = .ok (.iinc 1 1, 3) := by decide +kernel
theorem dX5_laysLoads_110 : decode cX5_laysLoads 110 = .ok (.goto (-71), 3) := by decide +kernel
theorem dX5_laysLoads_113 : decode cX5_laysLoads 113 = .ok (.return_, 1) := by decide +kernel
set_option maxRecDepth 20000 in
theorem ggX5_begin_X5_in : GoodIn wsX5_begin wsX5_in := goodIn_r _ [6] (by decide +kernel) (by decide +kernel)
set_option maxRecDepth 20000 in
theorem gX5_begin_X5_in : GoodIn wsX5_begin (va_wsS RX5 37 yX5_in wsX5_in) := goodIn_app (goodIn_of _ (by decide +kernel)) ggX5_begin_X5_in
set_option maxRecDepth 20000 in
theorem ggX5_begin_X5_notes : GoodIn wsX5_begin wsX5_notes := goodIn_r _ [10, 11, 12, 2, 13, 14, 15, 16, 17, 18, 19, 20, 21, 22, 23, 24] (by decide +kernel) (by decide +kernel)
set_option maxRecDepth 20000 in
theorem gX5_begin_X5_notes : GoodIn wsX5_begin (wsV RX5 69 RX5 yX5_notes wsX5_notes) := goodIn_app (goodIn_of _ (by decide +kernel)) ggX5_begin_X5_notes
theorem dX5_begin_0 : decode cX5_begin 0 = .ok (.iload_n 1, 1) := by decide +kernel
theorem dX5_begin_1 : decode cX5_begin 1 = .ok (.bipush 10, 2) := by decide +kernel
theorem dX5_begin_3 : decode cX5_begin 3 = .ok (.bipush 60, 2) := by decide +kernel
theorem dX5_begin_5 : decode cX5_begin 5 = .ok (.invokestatic 37, 3) := by decide +kernel
theorem dX5_begin_8 : decode cX5_begin 8 = .ok (.ifCond .ne 6, 3) := by decide +kernel
theorem dX5_begin_11 : decode cX5_begin 11 = .ok (.ldc 68, 2) := by decide +kernel
theorem dX5_begin_13 : decode cX5_begin 13 = .ok (.ireturn, 1) := by decide +kernel
theorem dX5_begin_14 : decode cX5_begin 14 = .ok (.aload_n 0, 1) := by decide +kernel
theorem dX5_begin_15 : decode cX5_begin 15 = .ok (.invokevirtual 69, 3) := by decide +kernel
theorem dX5_begin_18 : decode cX5_begin 18 = .ok (.aload_n 0, 1) := by decide +kernel
theorem dX5_begin_19 : decode cX5_begin 19 = .ok (.getfield 7, 3) := by decide +kernel
theorem dX5_begin_22 : decode cX5_begin 22 = .ok (.iconst 0, 1) := by decide +kernel
theorem dX5_begin_23 : decode cX5_begin 23 = .ok (.iaload, 1) := by decide +kernel
theorem dX5_begin_24 : decode cX5_begin 24 = .ok (.istore_n 2, 1) := by decide +kernel
theorem dX5_begin_25 : decode cX5_begin 25 = .ok (.aload_n 0, 1) := by decide +kernel
theorem dX5_begin_26 : decode cX5_begin 26 = .ok (.getfield 7, 3) := by decide +kernel
theorem dX5_begin_29 : decode cX5_begin 29 = .ok (.iconst 0, 1) := by decide +kernel
theorem dX5_begin_30 : decode cX5_begin 30 = .ok (.iload_n 1, 1) := by decide +kernel
theorem dX5_begin_31 : decode cX5_begin 31 = .ok (.iastore, 1) := by decide +kernel
theorem dX5_begin_32 : decode cX5_begin 32 = .ok (.bipush 9, 2) := by decide +kernel
theorem dX5_begin_34 : decode cX5_begin 34 = .ok (.istore_n 3, 1) := by decide +kernel
theorem dX5_begin_35 : decode cX5_begin 35 = .ok (.iload_n 3, 1) := by decide +kernel
theorem dX5_begin_36 : decode cX5_begin 36 = .ok (.sipush 281, 3) := by decide +kernel
theorem dX5_begin_39 : decode cX5_begin 39 = .ok (.if_icmp .ge 16, 3) := by decide +kernel
theorem dX5_begin_42 : decode cX5_begin 42 = .ok (.aload_n 0, 1) := by decide +kernel
theorem dX5_begin_43 : decode cX5_begin 43 = .ok (.getfield 7, 3) := by decide +kernel
theorem dX5_begin_46 : decode cX5_begin 46 = .ok (.iload_n 3, 1) := by decide +kernel
theorem dX5_begin_47 : decode cX5_begin 47 = .ok (.iconst 0, 1) := by decide +kernel
theorem dX5_begin_48 : decode cX5_begin 48 = .ok (.iastore, 1) := by decide +kernel
theorem dX5_begin_49 : decode cX5_begin 49 = .ok (.iinc 3 1, 3) := by decide +kernel
theorem dX5_begin_52 : decode cX5_begin 52 = .ok (.goto (-17), 3) := by decide +kernel
theorem dX5_begin_55 : decode cX5_begin 55 = .ok (.iload_n 2, 1) := by decide +kernel
theorem dX5_begin_56 : decode cX5_begin 56 = .ok (.ireturn, 1) := by decide +kernel
set_option maxRecDepth 20000 in
theorem ggX5_isNumber_X5_in : GoodIn wsX5_isNumber wsX5_in := goodIn_r _ [5] (by decide +kernel) (by decide +kernel)
set_option maxRecDepth 20000 in
theorem gX5_isNumber_X5_in : GoodIn wsX5_isNumber (va_wsS RX5 37 yX5_in wsX5_in) := goodIn_app (goodIn_of _ (by decide +kernel)) ggX5_isNumber_X5_in
theorem dX5_isNumber_0 : decode cX5_isNumber 0 = .ok (.iload_n 1, 1) := by decide +kernel
theorem dX5_isNumber_1 : decode cX5_isNumber 1 = .ok (.tableswitch 140 0 7 #[47, 55, 63, 70, 84, 106, 122, 132], 47) := by decide +kernel
theorem dX5_isNumber_48 : decode cX5_isNumber 48 = .ok (.iload_n 2, 1) := by decide +kernel
theorem dX5_isNumber_49 : decode cX5_isNumber 49 = .ok (.iconst 1, 1) := by decide +kernel
theorem dX5_isNumber_50 : decode cX5_isNumber 50 = .ok (.bipush 20, 2) := by decide +kernel
theorem dX5_isNumber_52 : decode cX5_isNumber 52 = .ok (.invokestatic 37, 3) := by decide +kernel
theorem dX5_isNumber_55 : decode cX5_isNumber 55 = .ok (.ireturn, 1) := by decide +kernel
theorem dX5_isNumber_56 : decode cX5_isNumber 56 = .ok (.iload_n 2, 1) := by decide +kernel
theorem dX5_isNumber_57 : decode cX5_isNumber 57 = .ok (.iconst 0, 1) := by decide +kernel
theorem dX5_isNumber_58 : decode cX5_isNumber 58 = .ok (.bipush 99, 2) := by decide +kernel
theorem dX5_isNumber_60 : decode cX5_isNumber 60 = .ok (.invokestatic 37, 3) := by decide +kernel
theorem dX5_isNumber_63 : decode cX5_isNumber 63 = .ok (.ireturn, 1) := by decide +kernel
theorem dX5_isNumber_64 : decode cX5_isNumber 64 = .ok (.iload_n 2, 1) := by decide +kernel
theorem dX5_isNumber_65 : decode cX5_isNumber 65 = .ok (.iconst 1, 1) := by decide +kernel
theorem dX5_isNumber_66 : decode cX5_isNumber 66 = .ok (.iconst 5, 1) := by decide +kernel
theorem dX5_isNumber_67 : decode cX5_isNumber 67 = .ok (.invokestatic 37, 3) := by decide +kernel
theorem dX5_isNumber_70 : decode cX5_isNumber 70 = .ok (.ireturn, 1) := by decide +kernel
theorem dX5_isNumber_71 : decode cX5_isNumber 71 = .ok (.iload_n 2, 1) := by decide +kernel
theorem dX5_isNumber_72 : decode cX5_isNumber 72 = .ok (.iconst 1, 1) := by decide +kernel
theorem dX5_isNumber_73 : decode cX5_isNumber 73 = .ok (.aload_n 0, 1) := by decide +kernel
theorem dX5_isNumber_74 : decode cX5_isNumber 74 = .ok (.getfield 7, 3) := by decide +kernel
theorem dX5_isNumber_77 : decode cX5_isNumber 77 = .ok (.iconst 5, 1) := by decide +kernel
theorem dX5_isNumber_78 : decode cX5_isNumber 78 = .ok (.iaload, 1) := by decide +kernel
theorem dX5_isNumber_79 : decode cX5_isNumber 79 = .ok (.iconst 1, 1) := by decide +kernel
theorem dX5_isNumber_80 : decode cX5_isNumber 80 = .ok (.isub, 1) := by decide +kernel
theorem dX5_isNumber_81 : decode cX5_isNumber 81 = .ok (.invokestatic 37, 3) := by decide +kernel
theorem dX5_isNumber_84 : decode cX5_isNumber 84 = .ok (.ireturn, 1) := by decide +kernel
theorem dX5_isNumber_85 : decode cX5_isNumber 85 = .ok (.iload_n 2, 1) := by decide +kernel
theorem dX5_isNumber_86 : decode cX5_isNumber 86 = .ok (.aload_n 0, 1) := by decide +kernel
theorem dX5_isNumber_87 : decode cX5_isNumber 87 = .ok (.getfield 7, 3) := by decide +kernel
theorem dX5_isNumber_90 : decode cX5_isNumber 90 = .ok (.iconst 4, 1) := by decide +kernel
theorem dX5_isNumber_91 : decode cX5_isNumber 91 = .ok (.iaload, 1) := by decide +kernel
theorem dX5_isNumber_92 : decode cX5_isNumber 92 = .ok (.iconst 1, 1) := by decide +kernel
theorem dX5_isNumber_93 : decode cX5_isNumber 93 = .ok (.iadd, 1) := by decide +kernel
theorem dX5_isNumber_94 : decode cX5_isNumber 94 = .ok (.aload_n 0, 1) := by decide +kernel
theorem dX5_isNumber_95 : decode cX5_isNumber 95 = .ok (.getfield 7, 3) := by decide +kernel
theorem dX5_isNumber_98 : decode cX5_isNumber 98 = .ok (.bipush 6, 2) := by decide +kernel
theorem dX5_isNumber_100 : decode cX5_isNumber 100 = .ok (.iaload, 1) := by decide +kernel
theorem dX5_isNumber_101 : decode cX5_isNumber 101 = .ok (.iconst 1, 1) := by decide +kernel
theorem dX5_isNumber_102 : decode cX5_isNumber 102 = .ok (.isub, 1) := by decide +kernel
theorem dX5_isNumber_103 : decode cX5_isNumber 103 = .ok (.invokestatic 37, 3) := by decide +kernel
theorem dX5_isNumber_106 : decode cX5_isNumber 106 = .ok (.ireturn, 1) := by decide +kernel
theorem dX5_isNumber_107 : decode cX5_isNumber 107 = .ok (.iload_n 2, 1) := by decide +kernel
theorem dX5_isNumber_108 : decode cX5_isNumber 108 = .ok (.aload_n 0, 1) := by decide +kernel
theorem dX5_isNumber_109 : decode cX5_isNumber 109 = .ok (.getfield 7, 3) := by decide +kernel
theorem dX5_isNumber_112 : decode cX5_isNumber 112 = .ok (.iconst 5, 1) := by decide +kernel
theorem dX5_isNumber_113 : decode cX5_isNumber 113 = .ok (.iaload, 1) := by decide +kernel
theorem dX5_isNumber_114 : decode cX5_isNumber 114 = .ok (.iconst 1, 1) := by decide +kernel
theorem dX5_isNumber_115 : decode cX5_isNumber 115 = .ok (.iadd, 1) := by decide +kernel
theorem dX5_isNumber_116 : decode cX5_isNumber 116 = .ok (.sipush 2000, 3) := by decide +kernel
theorem dX5_isNumber_119 : decode cX5_isNumber 119 = .ok (.invokestatic 37, 3) := by decide +kernel
theorem dX5_isNumber_122 : decode cX5_isNumber 122 = .ok (.ireturn, 1) := by decide +kernel
theorem dX5_isNumber_123 : decode cX5_isNumber 123 = .ok (.iload_n 2, 1) := by decide +kernel
theorem dX5_isNumber_124 : decode cX5_isNumber 124 = .ok (.bipush 10, 2) := by decide +kernel
theorem dX5_isNumber_126 : decode cX5_isNumber 126 = .ok (.sipush 500, 3) := by decide +kernel
theorem dX5_isNumber_129 : decode cX5_isNumber 129 = .ok (.invokestatic 37, 3) := by decide +kernel
theorem dX5_isNumber_132 : decode cX5_isNumber 132 = .ok (.ireturn, 1) := by decide +kernel
theorem dX5_isNumber_133 : decode cX5_isNumber 133 = .ok (.iload_n 2, 1) := by decide +kernel
theorem dX5_isNumber_134 : decode cX5_isNumber 134 = .ok (.iconst 1, 1) := by decide +kernel
theorem dX5_isNumber_135 : decode cX5_isNumber 135 = .ok (.bipush 50, 2) := by decide +kernel
theorem dX5_isNumber_137 : decode cX5_isNumber 137 = .ok (.invokestatic 37, 3) := by decide +kernel
theorem dX5_isNumber_140 : decode cX5_isNumber 140 = .ok (.ireturn, 1) := by decide +kernel
theorem dX5_isNumber_141 : decode cX5_isNumber 141 = .ok (.iconst 0, 1) := by decide +kernel
theorem dX5_isNumber_142 : decode cX5_isNumber 142 = .ok (.ireturn, 1) := by decide +kernel
set_option maxRecDepth 20000 in
theorem ggX5_setNumber_X5_isNumber : GoodIn wsX5_setNumber wsX5_isNumber := goodIn_r _ [7, 2, 8, 9, 6, 10, 17, 18, 19, 20, 21, 22, 23, 24, 25, 26, 27, 28] (by decide +kernel) (by decide +kernel)
set_option maxRecDepth 20000 in
theorem gX5_setNumber_X5_isNumber : GoodIn wsX5_setNumber (wsV RX5 72 RX5 yX5_isNumber wsX5_isNumber) := goodIn_app (goodIn_of _ (by decide +kernel)) ggX5_setNumber_X5_isNumber
set_option maxRecDepth 20000 in
theorem ggX5_setNumber_X5_notes : GoodIn wsX5_setNumber wsX5_notes := goodIn_r _ [14, 15, 16, 2, 17, 18, 19, 20, 21, 22, 23, 24, 25, 26, 27, 28] (by decide +kernel) (by decide +kernel)
set_option maxRecDepth 20000 in
theorem gX5_setNumber_X5_notes : GoodIn wsX5_setNumber (wsV RX5 69 RX5 yX5_notes wsX5_notes) := goodIn_app (goodIn_of _ (by decide +kernel)) ggX5_setNumber_X5_notes
theorem dX5_setNumber_0 : decode cX5_setNumber 0 = .ok (.aload_n 0, 1) := by decide +kernel
theorem dX5_setNumber_1 : decode cX5_setNumber 1 = .ok (.iload_n 1, 1) := by decide +kernel
theorem dX5_setNumber_2 : decode cX5_setNumber 2 = .ok (.iload_n 2, 1) := by decide +kernel
theorem dX5_setNumber_3 : decode cX5_setNumber 3 = .ok (.invokevirtual 72, 3) := by decide +kernel
theorem dX5_setNumber_6 : decode cX5_setNumber 6 = .ok (.ifCond .ne 6, 3) := by decide +kernel
theorem dX5_setNumber_9 : decode cX5_setNumber 9 = .ok (.ldc 68, 2) := by decide +kernel
theorem dX5_setNumber_11 : decode cX5_setNumber 11 = .ok (.ireturn, 1) := by decide +kernel
theorem dX5_setNumber_12 : decode cX5_setNumber 12 = .ok (.aload_n 0, 1) := by decide +kernel
theorem dX5_setNumber_13 : decode cX5_setNumber 13 = .ok (.invokevirtual 69, 3) := by decide +kernel
theorem dX5_setNumber_16 : decode cX5_setNumber 16 = .ok (.aload_n 0, 1) := by decide +kernel
theorem dX5_setNumber_17 : decode cX5_setNumber 17 = .ok (.getfield 7, 3) := by decide +kernel
theorem dX5_setNumber_20 : decode cX5_setNumber 20 = .ok (.iconst 1, 1) := by decide +kernel
theorem dX5_setNumber_21 : decode cX5_setNumber 21 = .ok (.iload_n 1, 1) := by decide +kernel
theorem dX5_setNumber_22 : decode cX5_setNumber 22 = .ok (.iadd, 1) := by decide +kernel
theorem dX5_setNumber_23 : decode cX5_setNumber 23 = .ok (.iaload, 1) := by decide +kernel
theorem dX5_setNumber_24 : decode cX5_setNumber 24 = .ok (.istore_n 3, 1) := by decide +kernel
theorem dX5_setNumber_25 : decode cX5_setNumber 25 = .ok (.aload_n 0, 1) := by decide +kernel
theorem dX5_setNumber_26 : decode cX5_setNumber 26 = .ok (.getfield 7, 3) := by decide +kernel
theorem dX5_setNumber_29 : decode cX5_setNumber 29 = .ok (.iconst 1, 1) := by decide +kernel
theorem dX5_setNumber_30 : decode cX5_setNumber 30 = .ok (.iload_n 1, 1) := by decide +kernel
theorem dX5_setNumber_31 : decode cX5_setNumber 31 = .ok (.iadd, 1) := by decide +kernel
theorem dX5_setNumber_32 : decode cX5_setNumber 32 = .ok (.iload_n 2, 1) := by decide +kernel
theorem dX5_setNumber_33 : decode cX5_setNumber 33 = .ok (.iastore, 1) := by decide +kernel
theorem dX5_setNumber_34 : decode cX5_setNumber 34 = .ok (.iload_n 3, 1) := by decide +kernel
theorem dX5_setNumber_35 : decode cX5_setNumber 35 = .ok (.ireturn, 1) := by decide +kernel
theorem dX5_puts_0 : decode cX5_puts 0 = .ok (.aload_n 0, 1) := by decide +kernel
theorem dX5_puts_1 : decode cX5_puts 1 = .ok (.getfield 7, 3) := by decide +kernel
theorem dX5_puts_4 : decode cX5_puts 4 = .ok (.bipush 15, 2) := by decide +kernel
theorem dX5_puts_6 : decode cX5_puts 6 = .ok (.dup2, 1) := by decide +kernel
theorem dX5_puts_7 : decode cX5_puts 7 = .ok (.iaload, 1) := by decide +kernel
theorem dX5_puts_8 : decode cX5_puts 8 = .ok (.iload_n 2, 1) := by decide +kernel
theorem dX5_puts_9 : decode cX5_puts 9 = .ok (.aload_n 0, 1) := by decide +kernel
theorem dX5_puts_10 : decode cX5_puts 10 = .ok (.getfield 7, 3) := by decide +kernel
theorem dX5_puts_13 : decode cX5_puts 13 = .ok (.bipush 41, 2) := by decide +kernel
theorem dX5_puts_15 : decode cX5_puts 15 = .ok (.iload_n 1, 1) := by decide +kernel
theorem dX5_puts_16 : decode cX5_puts 16 = .ok (.iadd, 1) := by decide +kernel
theorem dX5_puts_17 : decode cX5_puts 17 = .ok (.iaload, 1) := by decide +kernel
theorem dX5_puts_18 : decode cX5_puts 18 = .ok (.isub, 1) := by decide +kernel
theorem dX5_puts_19 : decode cX5_puts 19 = .ok (.iadd, 1) := by decide +kernel
theorem dX5_puts_20 : decode cX5_puts 20 = .ok (.iastore, 1) := by decide +kernel
theorem dX5_puts_21 : decode cX5_puts 21 = .ok (.aload_n 0, 1) := by decide +kernel
theorem dX5_puts_22 : decode cX5_puts 22 = .ok (.getfield 7, 3) := by decide +kernel
theorem dX5_puts_25 : decode cX5_puts 25 = .ok (.bipush 41, 2) := by decide +kernel
theorem dX5_puts_27 : decode cX5_puts 27 = .ok (.iload_n 1, 1) := by decide +kernel
theorem dX5_puts_28 : decode cX5_puts 28 = .ok (.iadd, 1) := by decide +kernel
theorem dX5_puts_29 : decode cX5_puts 29 = .ok (.iload_n 2, 1) := by decide +kernel
theorem dX5_puts_30 : decode cX5_puts 30 = .ok (.iastore, 1) := by decide +kernel
theorem dX5_puts_31 : decode cX5_puts 31 = .ok (.return_, 1) := by decide +kernel
set_option maxRecDepth 20000 in
theorem ggX5_setLevel_X5_isSleeper : GoodIn wsX5_setLevel wsX5_isSleeper := goodIn_r _ [7, 2, 8, 9, 6, 10, 24, 25, 26, 27, 28, 29, 30, 31, 32, 33, 34, 35] (by decide +kernel) (by decide +kernel)
set_option maxRecDepth 20000 in
theorem gX5_setLevel_X5_isSleeper : GoodIn wsX5_setLevel (wsV RX5 58 RX5 yX5_isSleeper wsX5_isSleeper) := goodIn_app (goodIn_of _ (by decide +kernel)) ggX5_setLevel_X5_isSleeper
set_option maxRecDepth 20000 in
theorem ggX5_setLevel_X5_isLevel : GoodIn wsX5_setLevel wsX5_isLevel := goodIn_r _ [13, 8, 9, 6, 10] (by decide +kernel) (by decide +kernel)
set_option maxRecDepth 20000 in
theorem gX5_setLevel_X5_isLevel : GoodIn wsX5_setLevel (va_wsS RX5 76 yX5_isLevel wsX5_isLevel) := goodIn_app (goodIn_of _ (by decide +kernel)) ggX5_setLevel_X5_isLevel
set_option maxRecDepth 20000 in
theorem ggX5_setLevel_X5_notes : GoodIn wsX5_setLevel wsX5_notes := goodIn_r _ [17, 18, 19, 2, 24, 25, 26, 27, 28, 29, 30, 31, 32, 33, 34, 35] (by decide +kernel) (by decide +kernel)
set_option maxRecDepth 20000 in
theorem gX5_setLevel_X5_notes : GoodIn wsX5_setLevel (wsV RX5 69 RX5 yX5_notes wsX5_notes) := goodIn_app (goodIn_of _ (by decide +kernel)) ggX5_setLevel_X5_notes
set_option maxRecDepth 20000 in
theorem ggX5_setLevel_X5_puts : GoodIn wsX5_setLevel wsX5_puts := goodIn_r _ [23, 2, 24, 25, 26, 27, 28, 29, 30, 31, 32, 33, 34, 35] (by decide +kernel) (by decide +kernel)
set_option maxRecDepth 20000 in
theorem gX5_setLevel_X5_puts : GoodIn wsX5_setLevel (wsV RX5 79 RX5 yX5_puts wsX5_puts) := goodIn_app (goodIn_of _ (by decide +kernel)) ggX5_setLevel_X5_puts
theorem dX5_setLevel_0 : decode cX5_setLevel 0 = .ok (.aload_n 0, 1) := by decide +kernel
theorem dX5_setLevel_1 : decode cX5_setLevel 1 = .ok (.iload_n 1, 1) := by decide +kernel
theorem dX5_setLevel_2 : decode cX5_setLevel 2 = .ok (.invokevirtual 58, 3) := by decide +kernel
theorem dX5_setLevel_5 : decode cX5_setLevel 5 = .ok (.ifCond .eq 10, 3) := by decide +kernel
theorem dX5_setLevel_8 : decode cX5_setLevel 8 = .ok (.iload_n 2, 1) := by decide +kernel
theorem dX5_setLevel_9 : decode cX5_setLevel 9 = .ok (.invokestatic 76, 3) := by decide +kernel
theorem dX5_setLevel_12 : decode cX5_setLevel 12 = .ok (.ifCond .ne 6, 3) := by decide +kernel
theorem dX5_setLevel_15 : decode cX5_setLevel 15 = .ok (.ldc 68, 2) := by decide +kernel
theorem dX5_setLevel_17 : decode cX5_setLevel 17 = .ok (.ireturn, 1) := by decide +kernel
theorem dX5_setLevel_18 : decode cX5_setLevel 18 = .ok (.aload_n 0, 1) := by decide +kernel
theorem dX5_setLevel_19 : decode cX5_setLevel 19 = .ok (.invokevirtual 69, 3) := by decide +kernel
theorem dX5_setLevel_22 : decode cX5_setLevel 22 = .ok (.aload_n 0, 1) := by decide +kernel
theorem dX5_setLevel_23 : decode cX5_setLevel 23 = .ok (.getfield 7, 3) := by decide +kernel
theorem dX5_setLevel_26 : decode cX5_setLevel 26 = .ok (.bipush 41, 2) := by decide +kernel
theorem dX5_setLevel_28 : decode cX5_setLevel 28 = .ok (.iload_n 1, 1) := by decide +kernel
theorem dX5_setLevel_29 : decode cX5_setLevel 29 = .ok (.iadd, 1) := by decide +kernel
theorem dX5_setLevel_30 : decode cX5_setLevel 30 = .ok (.iaload, 1) := by decide +kernel
theorem dX5_setLevel_31 : decode cX5_setLevel 31 = .ok (.istore_n 3, 1) := by decide +kernel
theorem dX5_setLevel_32 : decode cX5_setLevel 32 = .ok (.aload_n 0, 1) := by decide +kernel
theorem dX5_setLevel_33 : decode cX5_setLevel 33 = .ok (.iload_n 1, 1) := by decide +kernel
theorem dX5_setLevel_34 : decode cX5_setLevel 34 = .ok (.iload_n 2, 1) := by decide +kernel
theorem dX5_setLevel_35 : decode cX5_setLevel 35 = .ok (.invokevirtual 79, 3) := by decide +kernel
theorem dX5_setLevel_38 : decode cX5_setLevel 38 = .ok (.iload_n 3, 1) := by decide +kernel
theorem dX5_setLevel_39 : decode cX5_setLevel 39 = .ok (.ireturn, 1) := by decide +kernel
set_option maxRecDepth 20000 in
theorem ggX5_appendCharacter_X5_in : GoodIn wsX5_appendCharacter wsX5_in := goodIn_r _ [8] (by decide +kernel) (by decide +kernel)
set_option maxRecDepth 20000 in
theorem gX5_appendCharacter_X5_in : GoodIn wsX5_appendCharacter (va_wsS RX5 37 yX5_in wsX5_in) := goodIn_app (goodIn_of _ (by decide +kernel)) ggX5_appendCharacter_X5_in
theorem dX5_appendCharacter_0 : decode cX5_appendCharacter 0 = .ok (.iload_n 1, 1) := by decide +kernel
theorem dX5_appendCharacter_1 : decode cX5_appendCharacter 1 = .ok (.iconst 0, 1) := by decide +kernel
theorem dX5_appendCharacter_2 : decode cX5_appendCharacter 2 = .ok (.sipush 255, 3) := by decide +kernel
theorem dX5_appendCharacter_5 : decode cX5_appendCharacter 5 = .ok (.invokestatic 37, 3) := by decide +kernel
theorem dX5_appendCharacter_8 : decode cX5_appendCharacter 8 = .ok (.ifCond .ne 6, 3) := by decide +kernel
theorem dX5_appendCharacter_11 : decode cX5_appendCharacter 11 = .ok (.ldc 68, 2) := by decide +kernel
theorem dX5_appendCharacter_13 : decode cX5_appendCharacter 13 = .ok (.ireturn, 1) := by decide +kernel
theorem dX5_appendCharacter_14 : decode cX5_appendCharacter 14 = .ok (.aload_n 0, 1) := by decide +kernel
theorem dX5_appendCharacter_15 : decode cX5_appendCharacter 15 = .ok (.getfield 83, 3) := by decide +kernel
theorem dX5_appendCharacter_18 : decode cX5_appendCharacter 18 = .ok (.bipush 100, 2) := by decide +kernel
theorem dX5_appendCharacter_20 : decode cX5_appendCharacter 20 = .ok (.if_icmp .ne 6, 3) := by decide +kernel
theorem dX5_appendCharacter_23 : decode cX5_appendCharacter 23 = .ok (.ldc 86, 2) := by decide +kernel
theorem dX5_appendCharacter_25 : decode cX5_appendCharacter 25 = .ok (.ireturn, 1) := by decide +kernel
theorem dX5_appendCharacter_26 : decode cX5_appendCharacter 26 = .ok (.aload_n 0, 1) := by decide +kernel
theorem dX5_appendCharacter_27 : decode cX5_appendCharacter 27 = .ok (.getfield 22, 3) := by decide +kernel
theorem dX5_appendCharacter_30 : decode cX5_appendCharacter 30 = .ok (.aload_n 0, 1) := by decide +kernel
theorem dX5_appendCharacter_31 : decode cX5_appendCharacter 31 = .ok (.getfield 83, 3) := by decide +kernel
theorem dX5_appendCharacter_34 : decode cX5_appendCharacter 34 = .ok (.iload_n 1, 1) := by decide +kernel
theorem dX5_appendCharacter_35 : decode cX5_appendCharacter 35 = .ok (.i2b, 1) := by decide +kernel
theorem dX5_appendCharacter_36 : decode cX5_appendCharacter 36 = .ok (.bastore, 1) := by decide +kernel
theorem dX5_appendCharacter_37 : decode cX5_appendCharacter 37 = .ok (.aload_n 0, 1) := by decide +kernel
theorem dX5_appendCharacter_38 : decode cX5_appendCharacter 38 = .ok (.dup, 1) := by decide +kernel
theorem dX5_appendCharacter_39 : decode cX5_appendCharacter 39 = .ok (.getfield 83, 3) := by decide +kernel
theorem dX5_appendCharacter_42 : decode cX5_appendCharacter 42 = .ok (.iconst 1, 1) := by decide +kernel
theorem dX5_appendCharacter_43 : decode cX5_appendCharacter 43 = .ok (.iadd, 1) := by decide +kernel
theorem dX5_appendCharacter_44 : decode cX5_appendCharacter 44 = .ok (.putfield 83, 3) := by decide +kernel
theorem dX5_appendCharacter_47 : decode cX5_appendCharacter 47 = .ok (.aload_n 0, 1) := by decide +kernel
theorem dX5_appendCharacter_48 : decode cX5_appendCharacter 48 = .ok (.getfield 83, 3) := by decide +kernel
theorem dX5_appendCharacter_51 : decode cX5_appendCharacter 51 = .ok (.ireturn, 1) := by decide +kernel
theorem dX5_clearText_0 : decode cX5_clearText 0 = .ok (.aload_n 0, 1) := by decide +kernel
theorem dX5_clearText_1 : decode cX5_clearText 1 = .ok (.getfield 83, 3) := by decide +kernel
theorem dX5_clearText_4 : decode cX5_clearText 4 = .ok (.istore_n 1, 1) := by decide +kernel
theorem dX5_clearText_5 : decode cX5_clearText 5 = .ok (.aload_n 0, 1) := by decide +kernel
theorem dX5_clearText_6 : decode cX5_clearText 6 = .ok (.iconst 0, 1) := by decide +kernel
theorem dX5_clearText_7 : decode cX5_clearText 7 = .ok (.putfield 83, 3) := by decide +kernel
theorem dX5_clearText_10 : decode cX5_clearText 10 = .ok (.iload_n 1, 1) := by decide +kernel
theorem dX5_clearText_11 : decode cX5_clearText 11 = .ok (.ireturn, 1) := by decide +kernel
theorem dX5_here_0 : decode cX5_here 0 = .ok (.aload_n 0, 1) := by decide +kernel
theorem dX5_here_1 : decode cX5_here 1 = .ok (.getfield 87, 3) := by decide +kernel
theorem dX5_here_4 : decode cX5_here 4 = .ok (.aload_n 0, 1) := by decide +kernel
theorem dX5_here_5 : decode cX5_here 5 = .ok (.getfield 83, 3) := by decide +kernel
theorem dX5_here_8 : decode cX5_here 8 = .ok (.if_icmp .ge 30, 3) := by decide +kernel
theorem dX5_here_11 : decode cX5_here 11 = .ok (.aload_n 0, 1) := by decide +kernel
theorem dX5_here_12 : decode cX5_here 12 = .ok (.getfield 22, 3) := by decide +kernel
theorem dX5_here_15 : decode cX5_here 15 = .ok (.aload_n 0, 1) := by decide +kernel
theorem dX5_here_16 : decode cX5_here 16 = .ok (.getfield 87, 3) := by decide +kernel
theorem dX5_here_19 : decode cX5_here 19 = .ok (.baload, 1) := by decide +kernel
theorem dX5_here_20 : decode cX5_here 20 = .ok (.bipush 32, 2) := by decide +kernel
theorem dX5_here_22 : decode cX5_here 22 = .ok (.if_icmp .ne 16, 3) := by decide +kernel
theorem dX5_here_25 : decode cX5_here 25 = .ok (.aload_n 0, 1) := by decide +kernel
theorem dX5_here_26 : decode cX5_here 26 = .ok (.dup, 1) := by decide +kernel
theorem dX5_here_27 : decode cX5_here 27 = .ok (.getfield 87, 3) := by decide +kernel
theorem dX5_here_30 : decode cX5_here 30 = .ok (.iconst 1, 1) := by decide +kernel
theorem dX5_here_31 : decode cX5_here 31 = .ok (.iadd, 1) := by decide +kernel
theorem dX5_here_32 : decode cX5_here 32 = .ok (.putfield 87, 3) := by decide +kernel
theorem dX5_here_35 : decode cX5_here 35 = .ok (.goto (-35), 3) := by decide +kernel
theorem dX5_here_38 : decode cX5_here 38 = .ok (.aload_n 0, 1) := by decide +kernel
theorem dX5_here_39 : decode cX5_here 39 = .ok (.getfield 87, 3) := by decide +kernel
theorem dX5_here_42 : decode cX5_here 42 = .ok (.aload_n 0, 1) := by decide +kernel
theorem dX5_here_43 : decode cX5_here 43 = .ok (.getfield 83, 3) := by decide +kernel
theorem dX5_here_46 : decode cX5_here 46 = .ok (.if_icmp .ge 19, 3) := by decide +kernel
theorem dX5_here_49 : decode cX5_here 49 = .ok (.aload_n 0, 1) := by decide +kernel
theorem dX5_here_50 : decode cX5_here 50 = .ok (.getfield 22, 3) := by decide +kernel
theorem dX5_here_53 : decode cX5_here 53 = .ok (.aload_n 0, 1) := by decide +kernel
theorem dX5_here_54 : decode cX5_here 54 = .ok (.getfield 87, 3) := by decide +kernel
theorem dX5_here_57 : decode cX5_here 57 = .ok (.baload, 1) := by decide +kernel
theorem dX5_here_58 : decode cX5_here 58 = .ok (.sipush 255, 3) := by decide +kernel
theorem dX5_here_61 : decode cX5_here 61 = .ok (.iand, 1) := by decide +kernel
theorem dX5_here_62 : decode cX5_here 62 = .ok (.goto 4, 3) := by decide +kernel
theorem dX5_here_65 : decode cX5_here 65 = .ok (.iconst (-1), 1) := by decide +kernel
theorem dX5_here_66 : decode cX5_here 66 = .ok (.ireturn, 1) := by decide +kernel
set_option maxRecDepth 20000 in
theorem ggX5_takes_X5_here : GoodIn wsX5_takes wsX5_here := goodIn_r _ [6, 1, 7, 8, 9, 10, 11, 12, 13, 14, 15, 16, 17, 18, 19, 20] (by decide +kernel) (by decide +kernel)
set_option maxRecDepth 20000 in
theorem gX5_takes_X5_here : GoodIn wsX5_takes (wsV RX5 90 RX5 yX5_here wsX5_here) := goodIn_app (goodIn_of _ (by decide +kernel)) ggX5_takes_X5_here
theorem dX5_takes_0 : decode cX5_takes 0 = .ok (.aload_n 0, 1) := by decide +kernel
theorem dX5_takes_1 : decode cX5_takes 1 = .ok (.invokevirtual 90, 3) := by decide +kernel
theorem dX5_takes_4 : decode cX5_takes 4 = .ok (.iload_n 1, 1) := by decide +kernel
theorem dX5_takes_5 : decode cX5_takes 5 = .ok (.if_icmp .ne 7, 3) := by decide +kernel
theorem dX5_takes_8 : decode cX5_takes 8 = .ok (.iconst 1, 1) := by decide +kernel
theorem dX5_takes_9 : decode cX5_takes 9 = .ok (.goto 4, 3) := by decide +kernel
theorem dX5_takes_12 : decode cX5_takes 12 = .ok (.iconst 0, 1) := by decide +kernel
theorem dX5_takes_13 : decode cX5_takes 13 = .ok (.istore_n 2, 1) := by decide +kernel
theorem dX5_takes_14 : decode cX5_takes 14 = .ok (.aload_n 0, 1) := by decide +kernel
theorem dX5_takes_15 : decode cX5_takes 15 = .ok (.dup, 1) := by decide +kernel
theorem dX5_takes_16 : decode cX5_takes 16 = .ok (.getfield 87, 3) := by decide +kernel
theorem dX5_takes_19 : decode cX5_takes 19 = .ok (.iload_n 2, 1) := by decide +kernel
theorem dX5_takes_20 : decode cX5_takes 20 = .ok (.ifCond .eq 7, 3) := by decide +kernel
theorem dX5_takes_23 : decode cX5_takes 23 = .ok (.iconst 1, 1) := by decide +kernel
theorem dX5_takes_24 : decode cX5_takes 24 = .ok (.goto 4, 3) := by decide +kernel
theorem dX5_takes_27 : decode cX5_takes 27 = .ok (.iconst 0, 1) := by decide +kernel
theorem dX5_takes_28 : decode cX5_takes 28 = .ok (.iadd, 1) := by decide +kernel
theorem dX5_takes_29 : decode cX5_takes 29 = .ok (.putfield 87, 3) := by decide +kernel
theorem dX5_takes_32 : decode cX5_takes 32 = .ok (.iload_n 2, 1) := by decide +kernel
theorem dX5_takes_33 : decode cX5_takes 33 = .ok (.ireturn, 1) := by decide +kernel
set_option maxRecDepth 20000 in
theorem ggX5_reads_X5_here : GoodIn wsX5_reads wsX5_here := goodIn_r _ [9, 1, 3, 4, 13, 14, 15, 16, 17, 18, 19, 20, 21, 22, 23, 24] (by decide +kernel) (by decide +kernel)
set_option maxRecDepth 20000 in
theorem gX5_reads_X5_here : GoodIn wsX5_reads (wsV RX5 90 RX5 yX5_here wsX5_here) := goodIn_app (goodIn_of _ (by decide +kernel)) ggX5_reads_X5_here
set_option maxRecDepth 20000 in
theorem ggX5_reads_X5_in : GoodIn wsX5_reads wsX5_in := goodIn_r _ [12] (by decide +kernel) (by decide +kernel)
set_option maxRecDepth 20000 in
theorem gX5_reads_X5_in : GoodIn wsX5_reads (va_wsS RX5 37 yX5_in wsX5_in) := goodIn_app (goodIn_of _ (by decide +kernel)) ggX5_reads_X5_in
theorem dX5_reads_0 : decode cX5_reads 0 = .ok (.aload_n 0, 1) := by decide +kernel
theorem dX5_reads_1 : decode cX5_reads 1 = .ok (.invokevirtual 90, 3) := by decide +kernel
theorem dX5_reads_4 : decode cX5_reads 4 = .ok (.bipush 48, 2) := by decide +kernel
theorem dX5_reads_6 : decode cX5_reads 6 = .ok (.bipush 57, 2) := by decide +kernel
theorem dX5_reads_8 : decode cX5_reads 8 = .ok (.invokestatic 37, 3) := by decide +kernel
theorem dX5_reads_11 : decode cX5_reads 11 = .ok (.ifCond .ne 5, 3) := by decide +kernel
theorem dX5_reads_14 : decode cX5_reads 14 = .ok (.iconst 0, 1) := by decide +kernel
theorem dX5_reads_15 : decode cX5_reads 15 = .ok (.ireturn, 1) := by decide +kernel
theorem dX5_reads_16 : decode cX5_reads 16 = .ok (.aload_n 0, 1) := by decide +kernel
theorem dX5_reads_17 : decode cX5_reads 17 = .ok (.getfield 87, 3) := by decide +kernel
theorem dX5_reads_20 : decode cX5_reads 20 = .ok (.istore 4, 2) := by decide +kernel
theorem dX5_reads_22 : decode cX5_reads 22 = .ok (.aload_n 0, 1) := by decide +kernel
theorem dX5_reads_23 : decode cX5_reads 23 = .ok (.iconst 0, 1) := by decide +kernel
theorem dX5_reads_24 : decode cX5_reads 24 = .ok (.putfield 94, 3) := by decide +kernel
theorem dX5_reads_27 : decode cX5_reads 27 = .ok (.aload_n 0, 1) := by decide +kernel
theorem dX5_reads_28 : decode cX5_reads 28 = .ok (.getfield 87, 3) := by decide +kernel
theorem dX5_reads_31 : decode cX5_reads 31 = .ok (.aload_n 0, 1) := by decide +kernel
theorem dX5_reads_32 : decode cX5_reads 32 = .ok (.getfield 83, 3) := by decide +kernel
theorem dX5_reads_35 : decode cX5_reads 35 = .ok (.if_icmp .ge 70, 3) := by decide +kernel
theorem dX5_reads_38 : decode cX5_reads 38 = .ok (.aload_n 0, 1) := by decide +kernel
theorem dX5_reads_39 : decode cX5_reads 39 = .ok (.getfield 87, 3) := by decide +kernel
theorem dX5_reads_42 : decode cX5_reads 42 = .ok (.iload 4, 2) := by decide +kernel
theorem dX5_reads_44 : decode cX5_reads 44 = .ok (.isub, 1) := by decide +kernel
theorem dX5_reads_45 : decode cX5_reads 45 = .ok (.iload_n 1, 1) := by decide +kernel
theorem dX5_reads_46 : decode cX5_reads 46 = .ok (.if_icmp .ge 59, 3) := by decide +kernel
theorem dX5_reads_49 : decode cX5_reads 49 = .ok (.aload_n 0, 1) := by decide +kernel
theorem dX5_reads_50 : decode cX5_reads 50 = .ok (.getfield 22, 3) := by decide +kernel
theorem dX5_reads_53 : decode cX5_reads 53 = .ok (.aload_n 0, 1) := by decide +kernel
theorem dX5_reads_54 : decode cX5_reads 54 = .ok (.getfield 87, 3) := by decide +kernel
theorem dX5_reads_57 : decode cX5_reads 57 = .ok (.baload, 1) := by decide +kernel
theorem dX5_reads_58 : decode cX5_reads 58 = .ok (.bipush 48, 2) := by decide +kernel
theorem dX5_reads_60 : decode cX5_reads 60 = .ok (.bipush 57, 2) := by decide +kernel
theorem dX5_reads_62 : decode cX5_reads 62 = .ok (.invokestatic 37, 3) := by decide +kernel
theorem dX5_reads_65 : decode cX5_reads 65 = .ok (.ifCond .eq 40, 3) := by decide +kernel
theorem dX5_reads_68 : decode cX5_reads 68 = .ok (.aload_n 0, 1) := by decide +kernel
theorem dX5_reads_69 : decode cX5_reads 69 = .ok (.bipush 10, 2) := by decide +kernel
theorem dX5_reads_71 : decode cX5_reads 71 = .ok (.aload_n 0, 1) := by decide +kernel
theorem dX5_reads_72 : decode cX5_reads 72 = .ok (.getfield 94, 3) := by decide +kernel
theorem dX5_reads_75 : decode cX5_reads 75 = .ok (.imul, 1) := by decide +kernel
theorem dX5_reads_76 : decode cX5_reads 76 = .ok (.aload_n 0, 1) := by decide +kernel
theorem dX5_reads_77 : decode cX5_reads 77 = .ok (.getfield 22, 3) := by decide +kernel
theorem dX5_reads_80 : decode cX5_reads 80 = .ok (.aload_n 0, 1) := by decide +kernel
theorem dX5_reads_81 : decode cX5_reads 81 = .ok (.getfield 87, 3) := by decide +kernel
theorem dX5_reads_84 : decode cX5_reads 84 = .ok (.baload, 1) := by decide +kernel
theorem dX5_reads_85 : decode cX5_reads 85 = .ok (.iadd, 1) := by decide +kernel
theorem dX5_reads_86 : decode cX5_reads 86 = .ok (.bipush 48, 2) := by decide +kernel
theorem dX5_reads_88 : decode cX5_reads 88 = .ok (.isub, 1) := by decide +kernel
theorem dX5_reads_89 : decode cX5_reads 89 = .ok (.putfield 94, 3) := by decide +kernel
theorem dX5_reads_92 : decode cX5_reads 92 = .ok (.aload_n 0, 1) := by decide +kernel
theorem dX5_reads_93 : decode cX5_reads 93 = .ok (.dup, 1) := by decide +kernel
theorem dX5_reads_94 : decode cX5_reads 94 = .ok (.getfield 87, 3) := by decide +kernel
theorem dX5_reads_97 : decode cX5_reads 97 = .ok (.iconst 1, 1) := by decide +kernel
theorem dX5_reads_98 : decode cX5_reads 98 = .ok (.iadd, 1) := by decide +kernel
theorem dX5_reads_99 : decode cX5_reads 99 = .ok (.putfield 87, 3) := by decide +kernel
theorem dX5_reads_102 : decode cX5_reads 102 = .ok (.goto (-75), 3) := by decide +kernel
theorem dX5_reads_105 : decode cX5_reads 105 = .ok (.aload_n 0, 1) := by decide +kernel
theorem dX5_reads_106 : decode cX5_reads 106 = .ok (.getfield 94, 3) := by decide +kernel
theorem dX5_reads_109 : decode cX5_reads 109 = .ok (.iload_n 2, 1) := by decide +kernel
theorem dX5_reads_110 : decode cX5_reads 110 = .ok (.iload_n 3, 1) := by decide +kernel
theorem dX5_reads_111 : decode cX5_reads 111 = .ok (.invokestatic 37, 3) := by decide +kernel
theorem dX5_reads_114 : decode cX5_reads 114 = .ok (.ifCond .eq 26, 3) := by decide +kernel
theorem dX5_reads_117 : decode cX5_reads 117 = .ok (.aload_n 0, 1) := by decide +kernel
theorem dX5_reads_118 : decode cX5_reads 118 = .ok (.getfield 22, 3) := by decide +kernel
theorem dX5_reads_121 : decode cX5_reads 121 = .ok (.iload 4, 2) := by decide +kernel
theorem dX5_reads_123 : decode cX5_reads 123 = .ok (.baload, 1) := by decide +kernel
theorem dX5_reads_124 : decode cX5_reads 124 = .ok (.bipush 48, 2) := by decide +kernel
theorem dX5_reads_126 : decode cX5_reads 126 = .ok (.if_icmp .ne 22, 3) := by decide +kernel
theorem dX5_reads_129 : decode cX5_reads 129 = .ok (.aload_n 0, 1) := by decide +kernel
theorem dX5_reads_130 : decode cX5_reads 130 = .ok (.getfield 87, 3) := by decide +kernel
theorem dX5_reads_133 : decode cX5_reads 133 = .ok (.iload 4, 2) := by decide +kernel
theorem dX5_reads_135 : decode cX5_reads 135 = .ok (.iconst 1, 1) := by decide +kernel
theorem dX5_reads_136 : decode cX5_reads 136 = .ok (.iadd, 1) := by decide +kernel
theorem dX5_reads_137 : decode cX5_reads 137 = .ok (.if_icmp .le 11, 3) := by decide +kernel
theorem dX5_reads_140 : decode cX5_reads 140 = .ok (.aload_n 0, 1) := by decide +kernel
theorem dX5_reads_141 : decode cX5_reads 141 = .ok (.iload 4, 2) := by decide +kernel
theorem dX5_reads_143 : decode cX5_reads 143 = .ok (.putfield 87, 3) := by decide +kernel
theorem dX5_reads_146 : decode cX5_reads 146 = .ok (.iconst 0, 1) := by decide +kernel
theorem dX5_reads_147 : decode cX5_reads 147 = .ok (.ireturn, 1) := by decide +kernel
theorem dX5_reads_148 : decode cX5_reads 148 = .ok (.iconst 1, 1) := by decide +kernel
theorem dX5_reads_149 : decode cX5_reads 149 = .ok (.ireturn, 1) := by decide +kernel
set_option maxRecDepth 20000 in
theorem ggX5_readsItem_X5_here : GoodIn wsX5_readsItem wsX5_here := goodIn_r _ [8, 1, 9, 10, 26, 27, 28, 29, 30, 31, 32, 33, 34, 35, 36, 37] (by decide +kernel) (by decide +kernel)
set_option maxRecDepth 20000 in
theorem gX5_readsItem_X5_here : GoodIn wsX5_readsItem (wsV RX5 90 RX5 yX5_here wsX5_here) := goodIn_app (goodIn_of _ (by decide +kernel)) ggX5_readsItem_X5_here
set_option maxRecDepth 20000 in
theorem ggX5_readsItem_X5_reads : GoodIn wsX5_readsItem wsX5_reads := goodIn_r _ [14, 1, 3, 9, 10, 4, 5, 6, 7, 8, 15, 16, 17, 26, 27, 28, 29, 30, 31, 32, 33, 34, 35, 36, 37] (by decide +kernel) (by decide +kernel)
set_option maxRecDepth 20000 in
theorem gX5_readsItem_X5_reads : GoodIn wsX5_readsItem (wsV RX5 97 RX5 yX5_reads wsX5_reads) := goodIn_app (goodIn_of _ (by decide +kernel)) ggX5_readsItem_X5_reads
set_option maxRecDepth 20000 in
theorem ggX5_readsItem_X5_takes : GoodIn wsX5_readsItem wsX5_takes := goodIn_r _ [21, 1, 4, 5, 6, 7, 8, 9, 10, 26, 27, 28, 29, 30, 31, 32, 33, 34, 35, 36, 37] (by decide +kernel) (by decide +kernel)
set_option maxRecDepth 20000 in
theorem gX5_readsItem_X5_takes : GoodIn wsX5_readsItem (wsV RX5 100 RX5 yX5_takes wsX5_takes) := goodIn_app (goodIn_of _ (by decide +kernel)) ggX5_readsItem_X5_takes
set_option maxRecDepth 20000 in
theorem ggX5_readsItem_X5_puts : GoodIn wsX5_readsItem wsX5_puts := goodIn_r _ [25, 2, 26, 27, 28, 29, 30, 31, 32, 33, 34, 35, 36, 37] (by decide +kernel) (by decide +kernel)
set_option maxRecDepth 20000 in
theorem gX5_readsItem_X5_puts : GoodIn wsX5_readsItem (wsV RX5 79 RX5 yX5_puts wsX5_puts) := goodIn_app (goodIn_of _ (by decide +kernel)) ggX5_readsItem_X5_puts
theorem dX5_readsItem_0 : decode cX5_readsItem 0 = .ok (.aload_n 0, 1) := by decide +kernel
theorem dX5_readsItem_1 : decode cX5_readsItem 1 = .ok (.invokevirtual 90, 3) := by decide +kernel
theorem dX5_readsItem_4 : decode cX5_readsItem 4 = .ok (.bipush 98, 2) := by decide +kernel
theorem dX5_readsItem_6 : decode cX5_readsItem 6 = .ok (.if_icmp .ne 7, 3) := by decide +kernel
theorem dX5_readsItem_9 : decode cX5_readsItem 9 = .ok (.iconst 1, 1) := by decide +kernel
theorem dX5_readsItem_10 : decode cX5_readsItem 10 = .ok (.goto 4, 3) := by decide +kernel
theorem dX5_readsItem_13 : decode cX5_readsItem 13 = .ok (.iconst 0, 1) := by decide +kernel
theorem dX5_readsItem_14 : decode cX5_readsItem 14 = .ok (.istore_n 1, 1) := by decide +kernel
theorem dX5_readsItem_15 : decode cX5_readsItem 15 = .ok (.iload_n 1, 1) := by decide +kernel
theorem dX5_readsItem_16 : decode cX5_readsItem 16 = .ok (.ifCond .ne 14, 3) := by decide +kernel
theorem dX5_readsItem_19 : decode cX5_readsItem 19 = .ok (.aload_n 0, 1) := by decide +kernel
theorem dX5_readsItem_20 : decode cX5_readsItem 20 = .ok (.invokevirtual 90, 3) := by decide +kernel
theorem dX5_readsItem_23 : decode cX5_readsItem 23 = .ok (.bipush 102, 2) := by decide +kernel
theorem dX5_readsItem_25 : decode cX5_readsItem 25 = .ok (.if_icmp .eq 5, 3) := by decide +kernel
theorem dX5_readsItem_28 : decode cX5_readsItem 28 = .ok (.iconst 0, 1) := by decide +kernel
theorem dX5_readsItem_29 : decode cX5_readsItem 29 = .ok (.ireturn, 1) := by decide +kernel
theorem dX5_readsItem_30 : decode cX5_readsItem 30 = .ok (.aload_n 0, 1) := by decide +kernel
theorem dX5_readsItem_31 : decode cX5_readsItem 31 = .ok (.dup, 1) := by decide +kernel
theorem dX5_readsItem_32 : decode cX5_readsItem 32 = .ok (.getfield 87, 3) := by decide +kernel
theorem dX5_readsItem_35 : decode cX5_readsItem 35 = .ok (.iconst 1, 1) := by decide +kernel
theorem dX5_readsItem_36 : decode cX5_readsItem 36 = .ok (.iadd, 1) := by decide +kernel
theorem dX5_readsItem_37 : decode cX5_readsItem 37 = .ok (.putfield 87, 3) := by decide +kernel
theorem dX5_readsItem_40 : decode cX5_readsItem 40 = .ok (.aload_n 0, 1) := by decide +kernel
theorem dX5_readsItem_41 : decode cX5_readsItem 41 = .ok (.iconst 2, 1) := by decide +kernel
theorem dX5_readsItem_42 : decode cX5_readsItem 42 = .ok (.iconst 0, 1) := by decide +kernel
theorem dX5_readsItem_43 : decode cX5_readsItem 43 = .ok (.aload_n 0, 1) := by decide +kernel
theorem dX5_readsItem_44 : decode cX5_readsItem 44 = .ok (.getfield 7, 3) := by decide +kernel
theorem dX5_readsItem_47 : decode cX5_readsItem 47 = .ok (.iconst 0, 1) := by decide +kernel
theorem dX5_readsItem_48 : decode cX5_readsItem 48 = .ok (.iaload, 1) := by decide +kernel
theorem dX5_readsItem_49 : decode cX5_readsItem 49 = .ok (.iconst 1, 1) := by decide +kernel
theorem dX5_readsItem_50 : decode cX5_readsItem 50 = .ok (.isub, 1) := by decide +kernel
theorem dX5_readsItem_51 : decode cX5_readsItem 51 = .ok (.invokevirtual 97, 3) := by decide +kernel
theorem dX5_readsItem_54 : decode cX5_readsItem 54 = .ok (.ifCond .ne 5, 3) := by decide +kernel
theorem dX5_readsItem_57 : decode cX5_readsItem 57 = .ok (.iconst 0, 1) := by decide +kernel
theorem dX5_readsItem_58 : decode cX5_readsItem 58 = .ok (.ireturn, 1) := by decide +kernel
theorem dX5_readsItem_59 : decode cX5_readsItem 59 = .ok (.aload_n 0, 1) := by decide +kernel
theorem dX5_readsItem_60 : decode cX5_readsItem 60 = .ok (.getfield 94, 3) := by decide +kernel
theorem dX5_readsItem_63 : decode cX5_readsItem 63 = .ok (.istore_n 2, 1) := by decide +kernel
theorem dX5_readsItem_64 : decode cX5_readsItem 64 = .ok (.aload_n 0, 1) := by decide +kernel
theorem dX5_readsItem_65 : decode cX5_readsItem 65 = .ok (.bipush 45, 2) := by decide +kernel
theorem dX5_readsItem_67 : decode cX5_readsItem 67 = .ok (.invokevirtual 100, 3) := by decide +kernel
theorem dX5_readsItem_70 : decode cX5_readsItem 70 = .ok (.ifCond .eq 22, 3) := by decide +kernel
theorem dX5_readsItem_73 : decode cX5_readsItem 73 = .ok (.aload_n 0, 1) := by decide +kernel
theorem dX5_readsItem_74 : decode cX5_readsItem 74 = .ok (.iconst 2, 1) := by decide +kernel
theorem dX5_readsItem_75 : decode cX5_readsItem 75 = .ok (.iload_n 2, 1) := by decide +kernel
theorem dX5_readsItem_76 : decode cX5_readsItem 76 = .ok (.aload_n 0, 1) := by decide +kernel
theorem dX5_readsItem_77 : decode cX5_readsItem 77 = .ok (.getfield 7, 3) := by decide +kernel
theorem dX5_readsItem_80 : decode cX5_readsItem 80 = .ok (.iconst 0, 1) := by decide +kernel
theorem dX5_readsItem_81 : decode cX5_readsItem 81 = .ok (.iaload, 1) := by decide +kernel
theorem dX5_readsItem_82 : decode cX5_readsItem 82 = .ok (.iconst 1, 1) := by decide +kernel
theorem dX5_readsItem_83 : decode cX5_readsItem 83 = .ok (.isub, 1) := by decide +kernel
theorem dX5_readsItem_84 : decode cX5_readsItem 84 = .ok (.invokevirtual 97, 3) := by decide +kernel
theorem dX5_readsItem_87 : decode cX5_readsItem 87 = .ok (.ifCond .ne 5, 3) := by decide +kernel
theorem dX5_readsItem_90 : decode cX5_readsItem 90 = .ok (.iconst 0, 1) := by decide +kernel
theorem dX5_readsItem_91 : decode cX5_readsItem 91 = .ok (.ireturn, 1) := by decide +kernel
theorem dX5_readsItem_92 : decode cX5_readsItem 92 = .ok (.aload_n 0, 1) := by decide +kernel
theorem dX5_readsItem_93 : decode cX5_readsItem 93 = .ok (.getfield 94, 3) := by decide +kernel
theorem dX5_readsItem_96 : decode cX5_readsItem 96 = .ok (.istore_n 3, 1) := by decide +kernel
theorem dX5_readsItem_97 : decode cX5_readsItem 97 = .ok (.aload_n 0, 1) := by decide +kernel
theorem dX5_readsItem_98 : decode cX5_readsItem 98 = .ok (.bipush 61, 2) := by decide +kernel
theorem dX5_readsItem_100 : decode cX5_readsItem 100 = .ok (.invokevirtual 100, 3) := by decide +kernel
theorem dX5_readsItem_103 : decode cX5_readsItem 103 = .ok (.ifCond .ne 5, 3) := by decide +kernel
theorem dX5_readsItem_106 : decode cX5_readsItem 106 = .ok (.iconst 0, 1) := by decide +kernel
theorem dX5_readsItem_107 : decode cX5_readsItem 107 = .ok (.ireturn, 1) := by decide +kernel
theorem dX5_readsItem_108 : decode cX5_readsItem 108 = .ok (.iload_n 1, 1) := by decide +kernel
theorem dX5_readsItem_109 : decode cX5_readsItem 109 = .ok (.ifCond .eq 16, 3) := by decide +kernel
theorem dX5_readsItem_112 : decode cX5_readsItem 112 = .ok (.aload_n 0, 1) := by decide +kernel
theorem dX5_readsItem_113 : decode cX5_readsItem 113 = .ok (.bipush 45, 2) := by decide +kernel
theorem dX5_readsItem_115 : decode cX5_readsItem 115 = .ok (.invokevirtual 100, 3) := by decide +kernel
theorem dX5_readsItem_118 : decode cX5_readsItem 118 = .ok (.ifCond .eq 7, 3) := by decide +kernel
theorem dX5_readsItem_121 : decode cX5_readsItem 121 = .ok (.iconst 1, 1) := by decide +kernel
theorem dX5_readsItem_122 : decode cX5_readsItem 122 = .ok (.goto 4, 3) := by decide +kernel
theorem dX5_readsItem_125 : decode cX5_readsItem 125 = .ok (.iconst 0, 1) := by decide +kernel
theorem dX5_readsItem_126 : decode cX5_readsItem 126 = .ok (.istore 4, 2) := by decide +kernel
theorem dX5_readsItem_128 : decode cX5_readsItem 128 = .ok (.aload_n 0, 1) := by decide +kernel
theorem dX5_readsItem_129 : decode cX5_readsItem 129 = .ok (.iload_n 1, 1) := by decide +kernel
theorem dX5_readsItem_130 : decode cX5_readsItem 130 = .ok (.ifCond .eq 7, 3) := by decide +kernel
theorem dX5_readsItem_133 : decode cX5_readsItem 133 = .ok (.iconst 4, 1) := by decide +kernel
theorem dX5_readsItem_134 : decode cX5_readsItem 134 = .ok (.goto 4, 3) := by decide +kernel
theorem dX5_readsItem_137 : decode cX5_readsItem 137 = .ok (.iconst 3, 1) := by decide +kernel
theorem dX5_readsItem_138 : decode cX5_readsItem 138 = .ok (.iconst 0, 1) := by decide +kernel
theorem dX5_readsItem_139 : decode cX5_readsItem 139 = .ok (.iload_n 1, 1) := by decide +kernel
theorem dX5_readsItem_140 : decode cX5_readsItem 140 = .ok (.ifCond .eq 9, 3) := by decide +kernel
theorem dX5_readsItem_143 : decode cX5_readsItem 143 = .ok (.sipush 9999, 3) := by decide +kernel
theorem dX5_readsItem_146 : decode cX5_readsItem 146 = .ok (.goto 5, 3) := by decide +kernel
theorem dX5_readsItem_149 : decode cX5_readsItem 149 = .ok (.bipush 100, 2) := by decide +kernel
theorem dX5_readsItem_151 : decode cX5_readsItem 151 = .ok (.invokevirtual 97, 3) := by decide +kernel
theorem dX5_readsItem_154 : decode cX5_readsItem 154 = .ok (.ifCond .ne 5, 3) := by decide +kernel
theorem dX5_readsItem_157 : decode cX5_readsItem 157 = .ok (.iconst 0, 1) := by decide +kernel
theorem dX5_readsItem_158 : decode cX5_readsItem 158 = .ok (.ireturn, 1) := by decide +kernel
theorem dX5_readsItem_159 : decode cX5_readsItem 159 = .ok (.iload 4, 2) := by decide +kernel
theorem dX5_readsItem_161 : decode cX5_readsItem 161 = .ok (.ifCond .eq 11, 3) := by decide +kernel
theorem dX5_readsItem_164 : decode cX5_readsItem 164 = .ok (.aload_n 0, 1) := by decide +kernel
theorem dX5_readsItem_165 : decode cX5_readsItem 165 = .ok (.getfield 94, 3) := by decide +kernel
theorem dX5_readsItem_168 : decode cX5_readsItem 168 = .ok (.ineg, 1) := by decide +kernel
theorem dX5_readsItem_169 : decode cX5_readsItem 169 = .ok (.goto 7, 3) := by decide +kernel
theorem dX5_readsItem_172 : decode cX5_readsItem 172 = .ok (.aload_n 0, 1) := by decide +kernel
theorem dX5_readsItem_173 : decode cX5_readsItem 173 = .ok (.getfield 94, 3) := by decide +kernel
theorem dX5_readsItem_176 : decode cX5_readsItem 176 = .ok (.istore 5, 2) := by decide +kernel
theorem dX5_readsItem_178 : decode cX5_readsItem 178 = .ok (.aload_n 0, 1) := by decide +kernel
theorem dX5_readsItem_179 : decode cX5_readsItem 179 = .ok (.bipush 59, 2) := by decide +kernel
theorem dX5_readsItem_181 : decode cX5_readsItem 181 = .ok (.invokevirtual 100, 3) := by decide +kernel
theorem dX5_readsItem_184 : decode cX5_readsItem 184 = .ok (.ifCond .ne 5, 3) := by decide +kernel
theorem dX5_readsItem_187 : decode cX5_readsItem 187 = .ok (.iconst 0, 1) := by decide +kernel
theorem dX5_readsItem_188 : decode cX5_readsItem 188 = .ok (.ireturn, 1) := by decide +kernel
theorem dX5_readsItem_189 : decode cX5_readsItem 189 = .ok (.iload_n 2, 1) := by decide +kernel
theorem dX5_readsItem_190 : decode cX5_readsItem 190 = .ok (.istore 6, 2) := by decide +kernel
theorem dX5_readsItem_192 : decode cX5_readsItem 192 = .ok (.iload 6, 2) := by decide +kernel
theorem dX5_readsItem_194 : decode cX5_readsItem 194 = .ok (.iload_n 3, 1) := by decide +kernel
theorem dX5_readsItem_195 : decode cX5_readsItem 195 = .ok (.if_icmp .gt 36, 3) := by decide +kernel
theorem dX5_readsItem_198 : decode cX5_readsItem 198 = .ok (.iload_n 1, 1) := by decide +kernel
theorem dX5_readsItem_199 : decode cX5_readsItem 199 = .ok (.ifCond .eq 14, 3) := by decide +kernel
theorem dX5_readsItem_202 : decode cX5_readsItem 202 = .ok (.aload_n 0, 1) := by decide +kernel
theorem dX5_readsItem_203 : decode cX5_readsItem 203 = .ok (.iload 6, 2) := by decide +kernel
theorem dX5_readsItem_205 : decode cX5_readsItem 205 = .ok (.iload 5, 2) := by decide +kernel
theorem dX5_readsItem_207 : decode cX5_readsItem 207 = .ok (.invokevirtual 79, 3) := by decide +kernel
theorem dX5_readsItem_210 : decode cX5_readsItem 210 = .ok (.goto 15, 3) := by decide +kernel
theorem dX5_readsItem_213 : decode cX5_readsItem 213 = .ok (.aload_n 0, 1) := by decide +kernel
theorem dX5_readsItem_214 : decode cX5_readsItem 214 = .ok (.getfield 7, 3) := by decide +kernel
theorem dX5_readsItem_217 : decode cX5_readsItem 217 = .ok (.bipush 101, 2) := by decide +kernel
theorem dX5_readsItem_219 : decode cX5_readsItem 219 = .ok (.iload 6, 2) := by decide +kernel
theorem dX5_readsItem_221 : decode cX5_readsItem 221 = .ok (.iadd, 1) := by decide +kernel
theorem dX5_readsItem_222 : decode cX5_readsItem 222 = .ok (.iload 5, 2) := by decide +kernel
theorem dX5_readsItem_224 : decode cX5_readsItem 224 = .ok (.iastore, 1) := by decide +kernel
theorem dX5_readsItem_225 : decode cX5_readsItem 225 = .ok (.iinc 6 1, 3) := by decide +kernel
theorem dX5_readsItem_228 : decode cX5_readsItem 228 = .ok (.goto (-36), 3) := by decide +kernel
theorem dX5_readsItem_231 : decode cX5_readsItem 231 = .ok (.iconst 1, 1) := by decide +kernel
theorem dX5_readsItem_232 : decode cX5_readsItem 232 = .ok (.ireturn, 1) := by decide +kernel
set_option maxRecDepth 20000 in
theorem ggX5_load_X5_putAside : GoodIn wsX5_load wsX5_putAside := goodIn_r _ [10, 3, 2, 46, 47, 48, 49, 50, 51, 52, 53, 54, 55, 56, 57] (by decide +kernel) (by decide +kernel)
set_option maxRecDepth 20000 in
theorem gX5_load_X5_putAside : GoodIn wsX5_load (wsV RX5 103 RX5 yX5_putAside wsX5_putAside) := goodIn_app (goodIn_of _ (by decide +kernel)) ggX5_load_X5_putAside
set_option maxRecDepth 20000 in
theorem ggX5_load_X5_here : GoodIn wsX5_load wsX5_here := goodIn_r _ [14, 1, 5, 15, 46, 47, 48, 49, 50, 51, 52, 53, 54, 55, 56, 57] (by decide +kernel) (by decide +kernel)
set_option maxRecDepth 20000 in
theorem gX5_load_X5_here : GoodIn wsX5_load (wsV RX5 90 RX5 yX5_here wsX5_here) := goodIn_app (goodIn_of _ (by decide +kernel)) ggX5_load_X5_here
set_option maxRecDepth 20000 in
theorem ggX5_load_X5_readsItem : GoodIn wsX5_load wsX5_readsItem := goodIn_r _ [19, 1, 2, 20, 11, 12, 13, 9, 14, 5, 15, 21, 22, 23, 24, 25, 26, 27, 28, 29, 30, 31, 32, 33, 34, 35, 46, 47, 48, 49, 50, 51, 52, 53, 54, 55, 56, 57] (by decide +kernel) (by decide +kernel)
set_option maxRecDepth 20000 in
theorem gX5_load_X5_readsItem : GoodIn wsX5_load (wsV RX5 106 RX5 yX5_readsItem wsX5_readsItem) := goodIn_app (goodIn_of _ (by decide +kernel)) ggX5_load_X5_readsItem
set_option maxRecDepth 20000 in
theorem ggX5_load_X5_notes : GoodIn wsX5_load wsX5_notes := goodIn_r _ [39, 40, 41, 2, 46, 47, 48, 49, 50, 51, 52, 53, 54, 55, 56, 57] (by decide +kernel) (by decide +kernel)
set_option maxRecDepth 20000 in
theorem gX5_load_X5_notes : GoodIn wsX5_load (wsV RX5 69 RX5 yX5_notes wsX5_notes) := goodIn_app (goodIn_of _ (by decide +kernel)) ggX5_load_X5_notes
set_option maxRecDepth 20000 in
theorem ggX5_load_X5_putBack : GoodIn wsX5_load wsX5_putBack := goodIn_r _ [45, 2, 3, 46, 47, 48, 49, 50, 51, 52, 53, 54, 55, 56, 57] (by decide +kernel) (by decide +kernel)
set_option maxRecDepth 20000 in
theorem gX5_load_X5_putBack : GoodIn wsX5_load (wsV RX5 111 RX5 yX5_putBack wsX5_putBack) := goodIn_app (goodIn_of _ (by decide +kernel)) ggX5_load_X5_putBack
theorem dX5_load_0 : decode cX5_load 0 = .ok (.aload_n 0, 1) := by decide +kernel
theorem dX5_load_1 : decode cX5_load 1 = .ok (.invokevirtual 103, 3) := by decide +kernel
theorem dX5_load_4 : decode cX5_load 4 = .ok (.aload_n 0, 1) := by decide +kernel
theorem dX5_load_5 : decode cX5_load 5 = .ok (.iconst 0, 1) := by decide +kernel
theorem dX5_load_6 : decode cX5_load 6 = .ok (.putfield 87, 3) := by decide +kernel
theorem dX5_load_9 : decode cX5_load 9 = .ok (.iconst 0, 1) := by decide +kernel
theorem dX5_load_10 : decode cX5_load 10 = .ok (.istore_n 1, 1) := by decide +kernel
theorem dX5_load_11 : decode cX5_load 11 = .ok (.iconst 1, 1) := by decide +kernel
theorem dX5_load_12 : decode cX5_load 12 = .ok (.istore_n 2, 1) := by decide +kernel
theorem dX5_load_13 : decode cX5_load 13 = .ok (.iload_n 2, 1) := by decide +kernel
theorem dX5_load_14 : decode cX5_load 14 = .ok (.ifCond .eq 21, 3) := by decide +kernel
theorem dX5_load_17 : decode cX5_load 17 = .ok (.aload_n 0, 1) := by decide +kernel
theorem dX5_load_18 : decode cX5_load 18 = .ok (.invokevirtual 90, 3) := by decide +kernel
theorem dX5_load_21 : decode cX5_load 21 = .ok (.ifCond .lt 14, 3) := by decide +kernel
theorem dX5_load_24 : decode cX5_load 24 = .ok (.aload_n 0, 1) := by decide +kernel
theorem dX5_load_25 : decode cX5_load 25 = .ok (.invokevirtual 106, 3) := by decide +kernel
theorem dX5_load_28 : decode cX5_load 28 = .ok (.istore_n 2, 1) := by decide +kernel
theorem dX5_load_29 : decode cX5_load 29 = .ok (.iinc 1 1, 3) := by decide +kernel
theorem dX5_load_32 : decode cX5_load 32 = .ok (.goto (-19), 3) := by decide +kernel
theorem dX5_load_35 : decode cX5_load 35 = .ok (.iconst 0, 1) := by decide +kernel
theorem dX5_load_36 : decode cX5_load 36 = .ok (.istore_n 3, 1) := by decide +kernel
theorem dX5_load_37 : decode cX5_load 37 = .ok (.iload_n 3, 1) := by decide +kernel
theorem dX5_load_38 : decode cX5_load 38 = .ok (.sipush 281, 3) := by decide +kernel
theorem dX5_load_41 : decode cX5_load 41 = .ok (.if_icmp .ge 37, 3) := by decide +kernel
theorem dX5_load_44 : decode cX5_load 44 = .ok (.aload_n 0, 1) := by decide +kernel
theorem dX5_load_45 : decode cX5_load 45 = .ok (.getfield 7, 3) := by decide +kernel
theorem dX5_load_48 : decode cX5_load 48 = .ok (.iload_n 3, 1) := by decide +kernel
theorem dX5_load_49 : decode cX5_load 49 = .ok (.iaload, 1) := by decide +kernel
theorem dX5_load_50 : decode cX5_load 50 = .ok (.istore 4, 2) := by decide +kernel
theorem dX5_load_52 : decode cX5_load 52 = .ok (.aload_n 0, 1) := by decide +kernel
theorem dX5_load_53 : decode cX5_load 53 = .ok (.getfield 7, 3) := by decide +kernel
theorem dX5_load_56 : decode cX5_load 56 = .ok (.iload_n 3, 1) := by decide +kernel
theorem dX5_load_57 : decode cX5_load 57 = .ok (.aload_n 0, 1) := by decide +kernel
theorem dX5_load_58 : decode cX5_load 58 = .ok (.getfield 19, 3) := by decide +kernel
theorem dX5_load_61 : decode cX5_load 61 = .ok (.iload_n 3, 1) := by decide +kernel
theorem dX5_load_62 : decode cX5_load 62 = .ok (.iaload, 1) := by decide +kernel
theorem dX5_load_63 : decode cX5_load 63 = .ok (.iastore, 1) := by decide +kernel
theorem dX5_load_64 : decode cX5_load 64 = .ok (.aload_n 0, 1) := by decide +kernel
theorem dX5_load_65 : decode cX5_load 65 = .ok (.getfield 19, 3) := by decide +kernel
theorem dX5_load_68 : decode cX5_load 68 = .ok (.iload_n 3, 1) := by decide +kernel
theorem dX5_load_69 : decode cX5_load 69 = .ok (.iload 4, 2) := by decide +kernel
theorem dX5_load_71 : decode cX5_load 71 = .ok (.iastore, 1) := by decide +kernel
theorem dX5_load_72 : decode cX5_load 72 = .ok (.iinc 3 1, 3) := by decide +kernel
theorem dX5_load_75 : decode cX5_load 75 = .ok (.goto (-38), 3) := by decide +kernel
theorem dX5_load_78 : decode cX5_load 78 = .ok (.iload_n 2, 1) := by decide +kernel
theorem dX5_load_79 : decode cX5_load 79 = .ok (.ifCond .ne 11, 3) := by decide +kernel
theorem dX5_load_82 : decode cX5_load 82 = .ok (.ldc 110, 2) := by decide +kernel
theorem dX5_load_84 : decode cX5_load 84 = .ok (.aload_n 0, 1) := by decide +kernel
theorem dX5_load_85 : decode cX5_load 85 = .ok (.getfield 87, 3) := by decide +kernel
theorem dX5_load_88 : decode cX5_load 88 = .ok (.isub, 1) := by decide +kernel
theorem dX5_load_89 : decode cX5_load 89 = .ok (.ireturn, 1) := by decide +kernel
theorem dX5_load_90 : decode cX5_load 90 = .ok (.aload_n 0, 1) := by decide +kernel
theorem dX5_load_91 : decode cX5_load 91 = .ok (.invokevirtual 69, 3) := by decide +kernel
theorem dX5_load_94 : decode cX5_load 94 = .ok (.aload_n 0, 1) := by decide +kernel
theorem dX5_load_95 : decode cX5_load 95 = .ok (.invokevirtual 111, 3) := by decide +kernel
theorem dX5_load_98 : decode cX5_load 98 = .ok (.aload_n 0, 1) := by decide +kernel
theorem dX5_load_99 : decode cX5_load 99 = .ok (.iconst 0, 1) := by decide +kernel
theorem dX5_load_100 : decode cX5_load 100 = .ok (.putfield 83, 3) := by decide +kernel
theorem dX5_load_103 : decode cX5_load 103 = .ok (.iload_n 1, 1) := by decide +kernel
theorem dX5_load_104 : decode cX5_load 104 = .ok (.ireturn, 1) := by decide +kernel
set_option maxRecDepth 20000 in
theorem ggX5_renew_X5_isSleeper : GoodIn wsX5_renew wsX5_isSleeper := goodIn_r _ [7, 1, 8, 9, 6, 10, 17, 18, 19, 20, 21, 22, 23, 24, 25, 26, 27, 28] (by decide +kernel) (by decide +kernel)
set_option maxRecDepth 20000 in
theorem gX5_renew_X5_isSleeper : GoodIn wsX5_renew (wsV RX5 58 RX5 yX5_isSleeper wsX5_isSleeper) := goodIn_app (goodIn_of _ (by decide +kernel)) ggX5_renew_X5_isSleeper
set_option maxRecDepth 20000 in
theorem ggX5_renew_X5_in : GoodIn wsX5_renew wsX5_in := goodIn_r _ [10] (by decide +kernel) (by decide +kernel)
set_option maxRecDepth 20000 in
theorem gX5_renew_X5_in : GoodIn wsX5_renew (va_wsS RX5 37 yX5_in wsX5_in) := goodIn_app (goodIn_of _ (by decide +kernel)) ggX5_renew_X5_in
set_option maxRecDepth 20000 in
theorem ggX5_renew_X5_notes : GoodIn wsX5_renew wsX5_notes := goodIn_r _ [14, 15, 16, 1, 17, 18, 19, 20, 21, 22, 23, 24, 25, 26, 27, 28] (by decide +kernel) (by decide +kernel)
set_option maxRecDepth 20000 in
theorem gX5_renew_X5_notes : GoodIn wsX5_renew (wsV RX5 69 RX5 yX5_notes wsX5_notes) := goodIn_app (goodIn_of _ (by decide +kernel)) ggX5_renew_X5_notes
theorem dX5_renew_0 : decode cX5_renew 0 = .ok (.aload_n 0, 1) := by decide +kernel
theorem dX5_renew_1 : decode cX5_renew 1 = .ok (.iload_n 1, 1) := by decide +kernel
theorem dX5_renew_2 : decode cX5_renew 2 = .ok (.invokevirtual 58, 3) := by decide +kernel
theorem dX5_renew_5 : decode cX5_renew 5 = .ok (.ifCond .eq 19, 3) := by decide +kernel
theorem dX5_renew_8 : decode cX5_renew 8 = .ok (.iload_n 2, 1) := by decide +kernel
theorem dX5_renew_9 : decode cX5_renew 9 = .ok (.iload_n 1, 1) := by decide +kernel
theorem dX5_renew_10 : decode cX5_renew 10 = .ok (.aload_n 0, 1) := by decide +kernel
theorem dX5_renew_11 : decode cX5_renew 11 = .ok (.getfield 7, 3) := by decide +kernel
theorem dX5_renew_14 : decode cX5_renew 14 = .ok (.iconst 0, 1) := by decide +kernel
theorem dX5_renew_15 : decode cX5_renew 15 = .ok (.iaload, 1) := by decide +kernel
theorem dX5_renew_16 : decode cX5_renew 16 = .ok (.iconst 1, 1) := by decide +kernel
theorem dX5_renew_17 : decode cX5_renew 17 = .ok (.isub, 1) := by decide +kernel
theorem dX5_renew_18 : decode cX5_renew 18 = .ok (.invokestatic 37, 3) := by decide +kernel
theorem dX5_renew_21 : decode cX5_renew 21 = .ok (.ifCond .ne 6, 3) := by decide +kernel
theorem dX5_renew_24 : decode cX5_renew 24 = .ok (.ldc 68, 2) := by decide +kernel
theorem dX5_renew_26 : decode cX5_renew 26 = .ok (.ireturn, 1) := by decide +kernel
theorem dX5_renew_27 : decode cX5_renew 27 = .ok (.aload_n 0, 1) := by decide +kernel
theorem dX5_renew_28 : decode cX5_renew 28 = .ok (.invokevirtual 69, 3) := by decide +kernel
theorem dX5_renew_31 : decode cX5_renew 31 = .ok (.iconst 0, 1) := by decide +kernel
theorem dX5_renew_32 : decode cX5_renew 32 = .ok (.istore_n 3, 1) := by decide +kernel
theorem dX5_renew_33 : decode cX5_renew 33 = .ok (.iload_n 1, 1) := by decide +kernel
theorem dX5_renew_34 : decode cX5_renew 34 = .ok (.istore 4, 2) := by decide +kernel
theorem dX5_renew_36 : decode cX5_renew 36 = .ok (.iload 4, 2) := by decide +kernel
theorem dX5_renew_38 : decode cX5_renew 38 = .ok (.iload_n 2, 1) := by decide +kernel
theorem dX5_renew_39 : decode cX5_renew 39 = .ok (.if_icmp .gt 33, 3) := by decide +kernel
theorem dX5_renew_42 : decode cX5_renew 42 = .ok (.iload_n 3, 1) := by decide +kernel
theorem dX5_renew_43 : decode cX5_renew 43 = .ok (.aload_n 0, 1) := by decide +kernel
theorem dX5_renew_44 : decode cX5_renew 44 = .ok (.getfield 7, 3) := by decide +kernel
theorem dX5_renew_47 : decode cX5_renew 47 = .ok (.bipush 101, 2) := by decide +kernel
theorem dX5_renew_49 : decode cX5_renew 49 = .ok (.iload 4, 2) := by decide +kernel
theorem dX5_renew_51 : decode cX5_renew 51 = .ok (.iadd, 1) := by decide +kernel
theorem dX5_renew_52 : decode cX5_renew 52 = .ok (.iaload, 1) := by decide +kernel
theorem dX5_renew_53 : decode cX5_renew 53 = .ok (.iadd, 1) := by decide +kernel
theorem dX5_renew_54 : decode cX5_renew 54 = .ok (.istore_n 3, 1) := by decide +kernel
theorem dX5_renew_55 : decode cX5_renew 55 = .ok (.aload_n 0, 1) := by decide +kernel
theorem dX5_renew_56 : decode cX5_renew 56 = .ok (.getfield 7, 3) := by decide +kernel
theorem dX5_renew_59 : decode cX5_renew 59 = .ok (.bipush 101, 2) := by decide +kernel
theorem dX5_renew_61 : decode cX5_renew 61 = .ok (.iload 4, 2) := by decide +kernel
theorem dX5_renew_63 : decode cX5_renew 63 = .ok (.iadd, 1) := by decide +kernel
theorem dX5_renew_64 : decode cX5_renew 64 = .ok (.iconst 0, 1) := by decide +kernel
theorem dX5_renew_65 : decode cX5_renew 65 = .ok (.iastore, 1) := by decide +kernel
theorem dX5_renew_66 : decode cX5_renew 66 = .ok (.iinc 4 1, 3) := by decide +kernel
theorem dX5_renew_69 : decode cX5_renew 69 = .ok (.goto (-33), 3) := by decide +kernel
theorem dX5_renew_72 : decode cX5_renew 72 = .ok (.iload_n 3, 1) := by decide +kernel
theorem dX5_renew_73 : decode cX5_renew 73 = .ok (.ireturn, 1) := by decide +kernel
theorem dX5_jobOf_0 : decode cX5_jobOf 0 = .ok (.aload_n 0, 1) := by decide +kernel
theorem dX5_jobOf_1 : decode cX5_jobOf 1 = .ok (.getfield 7, 3) := by decide +kernel
theorem dX5_jobOf_4 : decode cX5_jobOf 4 = .ok (.bipush 17, 2) := by decide +kernel
theorem dX5_jobOf_6 : decode cX5_jobOf 6 = .ok (.iconst 4, 1) := by decide +kernel
theorem dX5_jobOf_7 : decode cX5_jobOf 7 = .ok (.iload_n 1, 1) := by decide +kernel
theorem dX5_jobOf_8 : decode cX5_jobOf 8 = .ok (.imul, 1) := by decide +kernel
theorem dX5_jobOf_9 : decode cX5_jobOf 9 = .ok (.iadd, 1) := by decide +kernel
theorem dX5_jobOf_10 : decode cX5_jobOf 10 = .ok (.iload_n 2, 1) := by decide +kernel
theorem dX5_jobOf_11 : decode cX5_jobOf 11 = .ok (.iadd, 1) := by decide +kernel
theorem dX5_jobOf_12 : decode cX5_jobOf 12 = .ok (.iaload, 1) := by decide +kernel
theorem dX5_jobOf_13 : decode cX5_jobOf 13 = .ok (.ireturn, 1) := by decide +kernel
set_option maxRecDepth 20000 in
theorem ggX5_addJob_X5_isSleeper : GoodIn wsX5_addJob wsX5_isSleeper := goodIn_r _ [8, 1, 9, 10, 7, 11, 21, 22, 23, 24, 25, 26, 27, 28, 29, 30, 31, 32] (by decide +kernel) (by decide +kernel)
set_option maxRecDepth 20000 in
theorem gX5_addJob_X5_isSleeper : GoodIn wsX5_addJob (wsV RX5 58 RX5 yX5_isSleeper wsX5_isSleeper) := goodIn_app (goodIn_of _ (by decide +kernel)) ggX5_addJob_X5_isSleeper
set_option maxRecDepth 20000 in
theorem ggX5_addJob_X5_in : GoodIn wsX5_addJob wsX5_in := goodIn_r _ [11] (by decide +kernel) (by decide +kernel)
set_option maxRecDepth 20000 in
theorem gX5_addJob_X5_in : GoodIn wsX5_addJob (va_wsS RX5 37 yX5_in wsX5_in) := goodIn_app (goodIn_of _ (by decide +kernel)) ggX5_addJob_X5_in
set_option maxRecDepth 20000 in
theorem ggX5_addJob_X5_isLevel : GoodIn wsX5_addJob wsX5_isLevel := goodIn_r _ [14, 9, 10, 7, 11] (by decide +kernel) (by decide +kernel)
set_option maxRecDepth 20000 in
theorem gX5_addJob_X5_isLevel : GoodIn wsX5_addJob (va_wsS RX5 76 yX5_isLevel wsX5_isLevel) := goodIn_app (goodIn_of _ (by decide +kernel)) ggX5_addJob_X5_isLevel
set_option maxRecDepth 20000 in
theorem ggX5_addJob_X5_notes : GoodIn wsX5_addJob wsX5_notes := goodIn_r _ [18, 19, 20, 1, 21, 22, 23, 24, 25, 26, 27, 28, 29, 30, 31, 32] (by decide +kernel) (by decide +kernel)
set_option maxRecDepth 20000 in
theorem gX5_addJob_X5_notes : GoodIn wsX5_addJob (wsV RX5 69 RX5 yX5_notes wsX5_notes) := goodIn_app (goodIn_of _ (by decide +kernel)) ggX5_addJob_X5_notes
theorem dX5_addJob_0 : decode cX5_addJob 0 = .ok (.aload_n 0, 1) := by decide +kernel
theorem dX5_addJob_1 : decode cX5_addJob 1 = .ok (.iload_n 1, 1) := by decide +kernel
theorem dX5_addJob_2 : decode cX5_addJob 2 = .ok (.invokevirtual 58, 3) := by decide +kernel
theorem dX5_addJob_5 : decode cX5_addJob 5 = .ok (.ifCond .eq 26, 3) := by decide +kernel
theorem dX5_addJob_8 : decode cX5_addJob 8 = .ok (.iload_n 2, 1) := by decide +kernel
theorem dX5_addJob_9 : decode cX5_addJob 9 = .ok (.iload_n 1, 1) := by decide +kernel
theorem dX5_addJob_10 : decode cX5_addJob 10 = .ok (.aload_n 0, 1) := by decide +kernel
theorem dX5_addJob_11 : decode cX5_addJob 11 = .ok (.getfield 7, 3) := by decide +kernel
theorem dX5_addJob_14 : decode cX5_addJob 14 = .ok (.iconst 0, 1) := by decide +kernel
theorem dX5_addJob_15 : decode cX5_addJob 15 = .ok (.iaload, 1) := by decide +kernel
theorem dX5_addJob_16 : decode cX5_addJob 16 = .ok (.iconst 1, 1) := by decide +kernel
theorem dX5_addJob_17 : decode cX5_addJob 17 = .ok (.isub, 1) := by decide +kernel
theorem dX5_addJob_18 : decode cX5_addJob 18 = .ok (.invokestatic 37, 3) := by decide +kernel
theorem dX5_addJob_21 : decode cX5_addJob 21 = .ok (.ifCond .eq 10, 3) := by decide +kernel
theorem dX5_addJob_24 : decode cX5_addJob 24 = .ok (.iload_n 3, 1) := by decide +kernel
theorem dX5_addJob_25 : decode cX5_addJob 25 = .ok (.invokestatic 76, 3) := by decide +kernel
theorem dX5_addJob_28 : decode cX5_addJob 28 = .ok (.ifCond .ne 6, 3) := by decide +kernel
theorem dX5_addJob_31 : decode cX5_addJob 31 = .ok (.ldc 68, 2) := by decide +kernel
theorem dX5_addJob_33 : decode cX5_addJob 33 = .ok (.ireturn, 1) := by decide +kernel
theorem dX5_addJob_34 : decode cX5_addJob 34 = .ok (.aload_n 0, 1) := by decide +kernel
theorem dX5_addJob_35 : decode cX5_addJob 35 = .ok (.getfield 7, 3) := by decide +kernel
theorem dX5_addJob_38 : decode cX5_addJob 38 = .ok (.bipush 16, 2) := by decide +kernel
theorem dX5_addJob_40 : decode cX5_addJob 40 = .ok (.iaload, 1) := by decide +kernel
theorem dX5_addJob_41 : decode cX5_addJob 41 = .ok (.bipush 6, 2) := by decide +kernel
theorem dX5_addJob_43 : decode cX5_addJob 43 = .ok (.if_icmp .ne 6, 3) := by decide +kernel
theorem dX5_addJob_46 : decode cX5_addJob 46 = .ok (.ldc 86, 2) := by decide +kernel
theorem dX5_addJob_48 : decode cX5_addJob 48 = .ok (.ireturn, 1) := by decide +kernel
theorem dX5_addJob_49 : decode cX5_addJob 49 = .ok (.aload_n 0, 1) := by decide +kernel
theorem dX5_addJob_50 : decode cX5_addJob 50 = .ok (.invokevirtual 69, 3) := by decide +kernel
theorem dX5_addJob_53 : decode cX5_addJob 53 = .ok (.bipush 17, 2) := by decide +kernel
theorem dX5_addJob_55 : decode cX5_addJob 55 = .ok (.iconst 4, 1) := by decide +kernel
theorem dX5_addJob_56 : decode cX5_addJob 56 = .ok (.aload_n 0, 1) := by decide +kernel
theorem dX5_addJob_57 : decode cX5_addJob 57 = .ok (.getfield 7, 3) := by decide +kernel
theorem dX5_addJob_60 : decode cX5_addJob 60 = .ok (.bipush 16, 2) := by decide +kernel
theorem dX5_addJob_62 : decode cX5_addJob 62 = .ok (.iaload, 1) := by decide +kernel
theorem dX5_addJob_63 : decode cX5_addJob 63 = .ok (.imul, 1) := by decide +kernel
theorem dX5_addJob_64 : decode cX5_addJob 64 = .ok (.iadd, 1) := by decide +kernel
theorem dX5_addJob_65 : decode cX5_addJob 65 = .ok (.istore 4, 2) := by decide +kernel
theorem dX5_addJob_67 : decode cX5_addJob 67 = .ok (.aload_n 0, 1) := by decide +kernel
theorem dX5_addJob_68 : decode cX5_addJob 68 = .ok (.getfield 7, 3) := by decide +kernel
theorem dX5_addJob_71 : decode cX5_addJob 71 = .ok (.iload 4, 2) := by decide +kernel
theorem dX5_addJob_73 : decode cX5_addJob 73 = .ok (.iload_n 1, 1) := by decide +kernel
theorem dX5_addJob_74 : decode cX5_addJob 74 = .ok (.iastore, 1) := by decide +kernel
theorem dX5_addJob_75 : decode cX5_addJob 75 = .ok (.aload_n 0, 1) := by decide +kernel
theorem dX5_addJob_76 : decode cX5_addJob 76 = .ok (.getfield 7, 3) := by decide +kernel
theorem dX5_addJob_79 : decode cX5_addJob 79 = .ok (.iload 4, 2) := by decide +kernel
theorem dX5_addJob_81 : decode cX5_addJob 81 = .ok (.iconst 1, 1) := by decide +kernel
theorem dX5_addJob_82 : decode cX5_addJob 82 = .ok (.iadd, 1) := by decide +kernel
theorem dX5_addJob_83 : decode cX5_addJob 83 = .ok (.iload_n 2, 1) := by decide +kernel
theorem dX5_addJob_84 : decode cX5_addJob 84 = .ok (.iastore, 1) := by decide +kernel
theorem dX5_addJob_85 : decode cX5_addJob 85 = .ok (.aload_n 0, 1) := by decide +kernel
theorem dX5_addJob_86 : decode cX5_addJob 86 = .ok (.getfield 7, 3) := by decide +kernel
theorem dX5_addJob_89 : decode cX5_addJob 89 = .ok (.iload 4, 2) := by decide +kernel
theorem dX5_addJob_91 : decode cX5_addJob 91 = .ok (.iconst 2, 1) := by decide +kernel
theorem dX5_addJob_92 : decode cX5_addJob 92 = .ok (.iadd, 1) := by decide +kernel
theorem dX5_addJob_93 : decode cX5_addJob 93 = .ok (.iload_n 3, 1) := by decide +kernel
theorem dX5_addJob_94 : decode cX5_addJob 94 = .ok (.iastore, 1) := by decide +kernel
theorem dX5_addJob_95 : decode cX5_addJob 95 = .ok (.aload_n 0, 1) := by decide +kernel
theorem dX5_addJob_96 : decode cX5_addJob 96 = .ok (.getfield 7, 3) := by decide +kernel
theorem dX5_addJob_99 : decode cX5_addJob 99 = .ok (.iload 4, 2) := by decide +kernel
theorem dX5_addJob_101 : decode cX5_addJob 101 = .ok (.iconst 3, 1) := by decide +kernel
theorem dX5_addJob_102 : decode cX5_addJob 102 = .ok (.iadd, 1) := by decide +kernel
theorem dX5_addJob_103 : decode cX5_addJob 103 = .ok (.iload_n 1, 1) := by decide +kernel
theorem dX5_addJob_104 : decode cX5_addJob 104 = .ok (.iastore, 1) := by decide +kernel
theorem dX5_addJob_105 : decode cX5_addJob 105 = .ok (.aload_n 0, 1) := by decide +kernel
theorem dX5_addJob_106 : decode cX5_addJob 106 = .ok (.getfield 7, 3) := by decide +kernel
theorem dX5_addJob_109 : decode cX5_addJob 109 = .ok (.bipush 16, 2) := by decide +kernel
theorem dX5_addJob_111 : decode cX5_addJob 111 = .ok (.dup2, 1) := by decide +kernel
theorem dX5_addJob_112 : decode cX5_addJob 112 = .ok (.iaload, 1) := by decide +kernel
theorem dX5_addJob_113 : decode cX5_addJob 113 = .ok (.iconst 1, 1) := by decide +kernel
theorem dX5_addJob_114 : decode cX5_addJob 114 = .ok (.iadd, 1) := by decide +kernel
theorem dX5_addJob_115 : decode cX5_addJob 115 = .ok (.iastore, 1) := by decide +kernel
theorem dX5_addJob_116 : decode cX5_addJob 116 = .ok (.aload_n 0, 1) := by decide +kernel
theorem dX5_addJob_117 : decode cX5_addJob 117 = .ok (.getfield 7, 3) := by decide +kernel
theorem dX5_addJob_120 : decode cX5_addJob 120 = .ok (.bipush 16, 2) := by decide +kernel
theorem dX5_addJob_122 : decode cX5_addJob 122 = .ok (.iaload, 1) := by decide +kernel
theorem dX5_addJob_123 : decode cX5_addJob 123 = .ok (.ireturn, 1) := by decide +kernel
theorem dX5_drops_0 : decode cX5_drops 0 = .ok (.aload_n 0, 1) := by decide +kernel
theorem dX5_drops_1 : decode cX5_drops 1 = .ok (.getfield 7, 3) := by decide +kernel
theorem dX5_drops_4 : decode cX5_drops 4 = .ok (.bipush 16, 2) := by decide +kernel
theorem dX5_drops_6 : decode cX5_drops 6 = .ok (.dup2, 1) := by decide +kernel
theorem dX5_drops_7 : decode cX5_drops 7 = .ok (.iaload, 1) := by decide +kernel
theorem dX5_drops_8 : decode cX5_drops 8 = .ok (.iconst 1, 1) := by decide +kernel
theorem dX5_drops_9 : decode cX5_drops 9 = .ok (.isub, 1) := by decide +kernel
theorem dX5_drops_10 : decode cX5_drops 10 = .ok (.iastore, 1) := by decide +kernel
theorem dX5_drops_11 : decode cX5_drops 11 = .ok (.bipush 17, 2) := by decide +kernel
theorem dX5_drops_13 : decode cX5_drops 13 = .ok (.iconst 4, 1) := by decide +kernel
theorem dX5_drops_14 : decode cX5_drops 14 = .ok (.iload_n 1, 1) := by decide +kernel
theorem dX5_drops_15 : decode cX5_drops 15 = .ok (.imul, 1) := by decide +kernel
theorem dX5_drops_16 : decode cX5_drops 16 = .ok (.iadd, 1) := by decide +kernel
theorem dX5_drops_17 : decode cX5_drops 17 = .ok (.istore_n 2, 1) := by decide +kernel
theorem dX5_drops_18 : decode cX5_drops 18 = .ok (.iload_n 2, 1) := by decide +kernel
theorem dX5_drops_19 : decode cX5_drops 19 = .ok (.bipush 17, 2) := by decide +kernel
theorem dX5_drops_21 : decode cX5_drops 21 = .ok (.iconst 4, 1) := by decide +kernel
theorem dX5_drops_22 : decode cX5_drops 22 = .ok (.aload_n 0, 1) := by decide +kernel
theorem dX5_drops_23 : decode cX5_drops 23 = .ok (.getfield 7, 3) := by decide +kernel
theorem dX5_drops_26 : decode cX5_drops 26 = .ok (.bipush 16, 2) := by decide +kernel
theorem dX5_drops_28 : decode cX5_drops 28 = .ok (.iaload, 1) := by decide +kernel
theorem dX5_drops_29 : decode cX5_drops 29 = .ok (.imul, 1) := by decide +kernel
theorem dX5_drops_30 : decode cX5_drops 30 = .ok (.iadd, 1) := by decide +kernel
theorem dX5_drops_31 : decode cX5_drops 31 = .ok (.if_icmp .ge 23, 3) := by decide +kernel
theorem dX5_drops_34 : decode cX5_drops 34 = .ok (.aload_n 0, 1) := by decide +kernel
theorem dX5_drops_35 : decode cX5_drops 35 = .ok (.getfield 7, 3) := by decide +kernel
theorem dX5_drops_38 : decode cX5_drops 38 = .ok (.iload_n 2, 1) := by decide +kernel
theorem dX5_drops_39 : decode cX5_drops 39 = .ok (.aload_n 0, 1) := by decide +kernel
theorem dX5_drops_40 : decode cX5_drops 40 = .ok (.getfield 7, 3) := by decide +kernel
theorem dX5_drops_43 : decode cX5_drops 43 = .ok (.iload_n 2, 1) := by decide +kernel
theorem dX5_drops_44 : decode cX5_drops 44 = .ok (.iconst 4, 1) := by decide +kernel
theorem dX5_drops_45 : decode cX5_drops 45 = .ok (.iadd, 1) := by decide +kernel
theorem dX5_drops_46 : decode cX5_drops 46 = .ok (.iaload, 1) := by decide +kernel
theorem dX5_drops_47 : decode cX5_drops 47 = .ok (.iastore, 1) := by decide +kernel
theorem dX5_drops_48 : decode cX5_drops 48 = .ok (.iinc 2 1, 3) := by decide +kernel
theorem dX5_drops_51 : decode cX5_drops 51 = .ok (.goto (-33), 3) := by decide +kernel
theorem dX5_drops_54 : decode cX5_drops 54 = .ok (.return_, 1) := by decide +kernel
set_option maxRecDepth 20000 in
theorem ggX5_cancelJobs_X5_isSleeper : GoodIn wsX5_cancelJobs wsX5_isSleeper := goodIn_r _ [7, 2, 8, 9, 6, 10, 25, 26, 27, 28, 29, 30, 31, 32, 33, 34, 35, 36] (by decide +kernel) (by decide +kernel)
set_option maxRecDepth 20000 in
theorem gX5_cancelJobs_X5_isSleeper : GoodIn wsX5_cancelJobs (wsV RX5 58 RX5 yX5_isSleeper wsX5_isSleeper) := goodIn_app (goodIn_of _ (by decide +kernel)) ggX5_cancelJobs_X5_isSleeper
set_option maxRecDepth 20000 in
theorem ggX5_cancelJobs_X5_notes : GoodIn wsX5_cancelJobs wsX5_notes := goodIn_r _ [14, 15, 16, 2, 25, 26, 27, 28, 29, 30, 31, 32, 33, 34, 35, 36] (by decide +kernel) (by decide +kernel)
set_option maxRecDepth 20000 in
theorem gX5_cancelJobs_X5_notes : GoodIn wsX5_cancelJobs (wsV RX5 69 RX5 yX5_notes wsX5_notes) := goodIn_app (goodIn_of _ (by decide +kernel)) ggX5_cancelJobs_X5_notes
set_option maxRecDepth 20000 in
theorem ggX5_cancelJobs_X5_jobOf : GoodIn wsX5_cancelJobs wsX5_jobOf := goodIn_r _ [20, 2, 25, 26, 27, 28, 29, 30, 31, 32, 33, 34, 35, 36] (by decide +kernel) (by decide +kernel)
set_option maxRecDepth 20000 in
theorem gX5_cancelJobs_X5_jobOf : GoodIn wsX5_cancelJobs (wsV RX5 114 RX5 yX5_jobOf wsX5_jobOf) := goodIn_app (goodIn_of _ (by decide +kernel)) ggX5_cancelJobs_X5_jobOf
set_option maxRecDepth 20000 in
theorem ggX5_cancelJobs_X5_in : GoodIn wsX5_cancelJobs wsX5_in := goodIn_r _ [10] (by decide +kernel) (by decide +kernel)
set_option maxRecDepth 20000 in
theorem gX5_cancelJobs_X5_in : GoodIn wsX5_cancelJobs (va_wsS RX5 37 yX5_in wsX5_in) := goodIn_app (goodIn_of _ (by decide +kernel)) ggX5_cancelJobs_X5_in
set_option maxRecDepth 20000 in
theorem ggX5_cancelJobs_X5_drops : GoodIn wsX5_cancelJobs wsX5_drops := goodIn_r _ [24, 2, 25, 26, 27, 28, 29, 30, 31, 32, 33, 34, 35, 36] (by decide +kernel) (by decide +kernel)
set_option maxRecDepth 20000 in
theorem gX5_cancelJobs_X5_drops : GoodIn wsX5_cancelJobs (wsV RX5 117 RX5 yX5_drops wsX5_drops) := goodIn_app (goodIn_of _ (by decide +kernel)) ggX5_cancelJobs_X5_drops
theorem dX5_cancelJobs_0 : decode cX5_cancelJobs 0 = .ok (.aload_n 0, 1) := by decide +kernel
theorem dX5_cancelJobs_1 : decode cX5_cancelJobs 1 = .ok (.iload_n 1, 1) := by decide +kernel
theorem dX5_cancelJobs_2 : decode cX5_cancelJobs 2 = .ok (.invokevirtual 58, 3) := by decide +kernel
theorem dX5_cancelJobs_5 : decode cX5_cancelJobs 5 = .ok (.ifCond .ne 6, 3) := by decide +kernel
theorem dX5_cancelJobs_8 : decode cX5_cancelJobs 8 = .ok (.ldc 68, 2) := by decide +kernel
theorem dX5_cancelJobs_10 : decode cX5_cancelJobs 10 = .ok (.ireturn, 1) := by decide +kernel
theorem dX5_cancelJobs_11 : decode cX5_cancelJobs 11 = .ok (.aload_n 0, 1) := by decide +kernel
theorem dX5_cancelJobs_12 : decode cX5_cancelJobs 12 = .ok (.invokevirtual 69, 3) := by decide +kernel
theorem dX5_cancelJobs_15 : decode cX5_cancelJobs 15 = .ok (.iconst 0, 1) := by decide +kernel
theorem dX5_cancelJobs_16 : decode cX5_cancelJobs 16 = .ok (.istore_n 2, 1) := by decide +kernel
theorem dX5_cancelJobs_17 : decode cX5_cancelJobs 17 = .ok (.aload_n 0, 1) := by decide +kernel
theorem dX5_cancelJobs_18 : decode cX5_cancelJobs 18 = .ok (.getfield 7, 3) := by decide +kernel
theorem dX5_cancelJobs_21 : decode cX5_cancelJobs 21 = .ok (.bipush 16, 2) := by decide +kernel
theorem dX5_cancelJobs_23 : decode cX5_cancelJobs 23 = .ok (.iaload, 1) := by decide +kernel
theorem dX5_cancelJobs_24 : decode cX5_cancelJobs 24 = .ok (.iconst 1, 1) := by decide +kernel
theorem dX5_cancelJobs_25 : decode cX5_cancelJobs 25 = .ok (.isub, 1) := by decide +kernel
theorem dX5_cancelJobs_26 : decode cX5_cancelJobs 26 = .ok (.istore_n 3, 1) := by decide +kernel
theorem dX5_cancelJobs_27 : decode cX5_cancelJobs 27 = .ok (.iload_n 3, 1) := by decide +kernel
theorem dX5_cancelJobs_28 : decode cX5_cancelJobs 28 = .ok (.ifCond .lt 36, 3) := by decide +kernel
theorem dX5_cancelJobs_31 : decode cX5_cancelJobs 31 = .ok (.iload_n 1, 1) := by decide +kernel
theorem dX5_cancelJobs_32 : decode cX5_cancelJobs 32 = .ok (.aload_n 0, 1) := by decide +kernel
theorem dX5_cancelJobs_33 : decode cX5_cancelJobs 33 = .ok (.iload_n 3, 1) := by decide +kernel
theorem dX5_cancelJobs_34 : decode cX5_cancelJobs 34 = .ok (.iconst 3, 1) := by decide +kernel
theorem dX5_cancelJobs_35 : decode cX5_cancelJobs 35 = .ok (.invokevirtual 114, 3) := by decide +kernel
theorem dX5_cancelJobs_38 : decode cX5_cancelJobs 38 = .ok (.aload_n 0, 1) := by decide +kernel
theorem dX5_cancelJobs_39 : decode cX5_cancelJobs 39 = .ok (.iload_n 3, 1) := by decide +kernel
theorem dX5_cancelJobs_40 : decode cX5_cancelJobs 40 = .ok (.iconst 1, 1) := by decide +kernel
theorem dX5_cancelJobs_41 : decode cX5_cancelJobs 41 = .ok (.invokevirtual 114, 3) := by decide +kernel
theorem dX5_cancelJobs_44 : decode cX5_cancelJobs 44 = .ok (.invokestatic 37, 3) := by decide +kernel
theorem dX5_cancelJobs_47 : decode cX5_cancelJobs 47 = .ok (.ifCond .eq 11, 3) := by decide +kernel
theorem dX5_cancelJobs_50 : decode cX5_cancelJobs 50 = .ok (.aload_n 0, 1) := by decide +kernel
theorem dX5_cancelJobs_51 : decode cX5_cancelJobs 51 = .ok (.iload_n 3, 1) := by decide +kernel
theorem dX5_cancelJobs_52 : decode cX5_cancelJobs 52 = .ok (.invokevirtual 117, 3) := by decide +kernel
theorem dX5_cancelJobs_55 : decode cX5_cancelJobs 55 = .ok (.iinc 2 1, 3) := by decide +kernel
theorem dX5_cancelJobs_58 : decode cX5_cancelJobs 58 = .ok (.iinc 3 (-1), 3) := by decide +kernel
theorem dX5_cancelJobs_61 : decode cX5_cancelJobs 61 = .ok (.goto (-34), 3) := by decide +kernel
theorem dX5_cancelJobs_64 : decode cX5_cancelJobs 64 = .ok (.iload_n 2, 1) := by decide +kernel
theorem dX5_cancelJobs_65 : decode cX5_cancelJobs 65 = .ok (.ireturn, 1) := by decide +kernel
set_option maxRecDepth 20000 in
theorem ggX5_liftOf_X5_lesser : GoodIn wsX5_liftOf wsX5_lesser := goodIn_r _ [5] (by decide +kernel) (by decide +kernel)
set_option maxRecDepth 20000 in
theorem gX5_liftOf_X5_lesser : GoodIn wsX5_liftOf (va_wsS RX5 121 yX5_lesser wsX5_lesser) := goodIn_app (goodIn_of _ (by decide +kernel)) ggX5_liftOf_X5_lesser
theorem dX5_liftOf_0 : decode cX5_liftOf 0 = .ok (.iload_n 2, 1) := by decide +kernel
theorem dX5_liftOf_1 : decode cX5_liftOf 1 = .ok (.aload_n 0, 1) := by decide +kernel
theorem dX5_liftOf_2 : decode cX5_liftOf 2 = .ok (.getfield 7, 3) := by decide +kernel
theorem dX5_liftOf_5 : decode cX5_liftOf 5 = .ok (.bipush 41, 2) := by decide +kernel
theorem dX5_liftOf_7 : decode cX5_liftOf 7 = .ok (.iload_n 1, 1) := by decide +kernel
theorem dX5_liftOf_8 : decode cX5_liftOf 8 = .ok (.iadd, 1) := by decide +kernel
theorem dX5_liftOf_9 : decode cX5_liftOf 9 = .ok (.iaload, 1) := by decide +kernel
theorem dX5_liftOf_10 : decode cX5_liftOf 10 = .ok (.isub, 1) := by decide +kernel
theorem dX5_liftOf_11 : decode cX5_liftOf 11 = .ok (.aload_n 0, 1) := by decide +kernel
theorem dX5_liftOf_12 : decode cX5_liftOf 12 = .ok (.getfield 7, 3) := by decide +kernel
theorem dX5_liftOf_15 : decode cX5_liftOf 15 = .ok (.bipush 7, 2) := by decide +kernel
theorem dX5_liftOf_17 : decode cX5_liftOf 17 = .ok (.iaload, 1) := by decide +kernel
theorem dX5_liftOf_18 : decode cX5_liftOf 18 = .ok (.invokestatic 121, 3) := by decide +kernel
theorem dX5_liftOf_21 : decode cX5_liftOf 21 = .ok (.ireturn, 1) := by decide +kernel
theorem dX5_minutesFor_0 : decode cX5_minutesFor 0 = .ok (.iconst 2, 1) := by decide +kernel
theorem dX5_minutesFor_1 : decode cX5_minutesFor 1 = .ok (.iload_n 0, 1) := by decide +kernel
theorem dX5_minutesFor_2 : decode cX5_minutesFor 2 = .ok (.bipush 49, 2) := by decide +kernel
theorem dX5_minutesFor_4 : decode cX5_minutesFor 4 = .ok (.iadd, 1) := by decide +kernel
theorem dX5_minutesFor_5 : decode cX5_minutesFor 5 = .ok (.bipush 50, 2) := by decide +kernel
theorem dX5_minutesFor_7 : decode cX5_minutesFor 7 = .ok (.idiv, 1) := by decide +kernel
theorem dX5_minutesFor_8 : decode cX5_minutesFor 8 = .ok (.iadd, 1) := by decide +kernel
theorem dX5_minutesFor_9 : decode cX5_minutesFor 9 = .ok (.ireturn, 1) := by decide +kernel
set_option maxRecDepth 20000 in
theorem ggX5_lift_X5_lesser : GoodIn wsX5_lift wsX5_lesser := goodIn_r _ [5] (by decide +kernel) (by decide +kernel)
set_option maxRecDepth 20000 in
theorem gX5_lift_X5_lesser : GoodIn wsX5_lift (va_wsS RX5 121 yX5_lesser wsX5_lesser) := goodIn_app (goodIn_of _ (by decide +kernel)) ggX5_lift_X5_lesser
theorem dX5_lift_0 : decode cX5_lift 0 = .ok (.aload_n 0, 1) := by decide +kernel
theorem dX5_lift_1 : decode cX5_lift 1 = .ok (.getfield 7, 3) := by decide +kernel
theorem dX5_lift_4 : decode cX5_lift 4 = .ok (.bipush 41, 2) := by decide +kernel
theorem dX5_lift_6 : decode cX5_lift 6 = .ok (.iload_n 1, 1) := by decide +kernel
theorem dX5_lift_7 : decode cX5_lift 7 = .ok (.iadd, 1) := by decide +kernel
theorem dX5_lift_8 : decode cX5_lift 8 = .ok (.dup2, 1) := by decide +kernel
theorem dX5_lift_9 : decode cX5_lift 9 = .ok (.iaload, 1) := by decide +kernel
theorem dX5_lift_10 : decode cX5_lift 10 = .ok (.iload_n 2, 1) := by decide +kernel
theorem dX5_lift_11 : decode cX5_lift 11 = .ok (.iadd, 1) := by decide +kernel
theorem dX5_lift_12 : decode cX5_lift 12 = .ok (.iastore, 1) := by decide +kernel
theorem dX5_lift_13 : decode cX5_lift 13 = .ok (.aload_n 0, 1) := by decide +kernel
theorem dX5_lift_14 : decode cX5_lift 14 = .ok (.getfield 7, 3) := by decide +kernel
theorem dX5_lift_17 : decode cX5_lift 17 = .ok (.sipush 221, 3) := by decide +kernel
theorem dX5_lift_20 : decode cX5_lift 20 = .ok (.iload_n 1, 1) := by decide +kernel
theorem dX5_lift_21 : decode cX5_lift 21 = .ok (.iadd, 1) := by decide +kernel
theorem dX5_lift_22 : decode cX5_lift 22 = .ok (.dup2, 1) := by decide +kernel
theorem dX5_lift_23 : decode cX5_lift 23 = .ok (.iaload, 1) := by decide +kernel
theorem dX5_lift_24 : decode cX5_lift 24 = .ok (.iload_n 2, 1) := by decide +kernel
theorem dX5_lift_25 : decode cX5_lift 25 = .ok (.iadd, 1) := by decide +kernel
theorem dX5_lift_26 : decode cX5_lift 26 = .ok (.iastore, 1) := by decide +kernel
theorem dX5_lift_27 : decode cX5_lift 27 = .ok (.aload_n 0, 1) := by decide +kernel
theorem dX5_lift_28 : decode cX5_lift 28 = .ok (.getfield 7, 3) := by decide +kernel
theorem dX5_lift_31 : decode cX5_lift 31 = .ok (.bipush 10, 2) := by decide +kernel
theorem dX5_lift_33 : decode cX5_lift 33 = .ok (.dup2, 1) := by decide +kernel
theorem dX5_lift_34 : decode cX5_lift 34 = .ok (.iaload, 1) := by decide +kernel
theorem dX5_lift_35 : decode cX5_lift 35 = .ok (.iload_n 2, 1) := by decide +kernel
theorem dX5_lift_36 : decode cX5_lift 36 = .ok (.iadd, 1) := by decide +kernel
theorem dX5_lift_37 : decode cX5_lift 37 = .ok (.iastore, 1) := by decide +kernel
theorem dX5_lift_38 : decode cX5_lift 38 = .ok (.aload_n 0, 1) := by decide +kernel
theorem dX5_lift_39 : decode cX5_lift 39 = .ok (.getfield 7, 3) := by decide +kernel
theorem dX5_lift_42 : decode cX5_lift 42 = .ok (.bipush 101, 2) := by decide +kernel
theorem dX5_lift_44 : decode cX5_lift 44 = .ok (.iload_n 1, 1) := by decide +kernel
theorem dX5_lift_45 : decode cX5_lift 45 = .ok (.iadd, 1) := by decide +kernel
theorem dX5_lift_46 : decode cX5_lift 46 = .ok (.bipush 100, 2) := by decide +kernel
theorem dX5_lift_48 : decode cX5_lift 48 = .ok (.aload_n 0, 1) := by decide +kernel
theorem dX5_lift_49 : decode cX5_lift 49 = .ok (.getfield 7, 3) := by decide +kernel
theorem dX5_lift_52 : decode cX5_lift 52 = .ok (.bipush 101, 2) := by decide +kernel
theorem dX5_lift_54 : decode cX5_lift 54 = .ok (.iload_n 1, 1) := by decide +kernel
theorem dX5_lift_55 : decode cX5_lift 55 = .ok (.iadd, 1) := by decide +kernel
theorem dX5_lift_56 : decode cX5_lift 56 = .ok (.iaload, 1) := by decide +kernel
theorem dX5_lift_57 : decode cX5_lift 57 = .ok (.iconst 3, 1) := by decide +kernel
theorem dX5_lift_58 : decode cX5_lift 58 = .ok (.iadd, 1) := by decide +kernel
theorem dX5_lift_59 : decode cX5_lift 59 = .ok (.invokestatic 121, 3) := by decide +kernel
theorem dX5_lift_62 : decode cX5_lift 62 = .ok (.iastore, 1) := by decide +kernel
theorem dX5_lift_63 : decode cX5_lift 63 = .ok (.return_, 1) := by decide +kernel
set_option maxRecDepth 20000 in
theorem ggX5_works_X5_jobOf : GoodIn wsX5_works wsX5_jobOf := goodIn_r _ [6, 1, 25, 26, 27, 28, 29, 30, 31, 32, 33, 34, 35, 36] (by decide +kernel) (by decide +kernel)
set_option maxRecDepth 20000 in
theorem gX5_works_X5_jobOf : GoodIn wsX5_works (wsV RX5 114 RX5 yX5_jobOf wsX5_jobOf) := goodIn_app (goodIn_of _ (by decide +kernel)) ggX5_works_X5_jobOf
set_option maxRecDepth 20000 in
theorem ggX5_works_X5_liftOf : GoodIn wsX5_works wsX5_liftOf := goodIn_r _ [10, 1, 11, 12, 5, 13, 25, 26, 27, 28, 29, 30, 31, 32, 33, 34, 35, 36] (by decide +kernel) (by decide +kernel)
set_option maxRecDepth 20000 in
theorem gX5_works_X5_liftOf : GoodIn wsX5_works (wsV RX5 124 RX5 yX5_liftOf wsX5_liftOf) := goodIn_app (goodIn_of _ (by decide +kernel)) ggX5_works_X5_liftOf
set_option maxRecDepth 20000 in
theorem ggX5_works_X5_minutesFor : GoodIn wsX5_works wsX5_minutesFor := goodIn_r _ [16] (by decide +kernel) (by decide +kernel)
set_option maxRecDepth 20000 in
theorem gX5_works_X5_minutesFor : GoodIn wsX5_works (va_wsS RX5 127 yX5_minutesFor wsX5_minutesFor) := goodIn_app (goodIn_of _ (by decide +kernel)) ggX5_works_X5_minutesFor
set_option maxRecDepth 20000 in
theorem ggX5_works_X5_lift : GoodIn wsX5_works wsX5_lift := goodIn_r _ [20, 1, 11, 12, 5, 13, 25, 26, 27, 28, 29, 30, 31, 32, 33, 34, 35, 36] (by decide +kernel) (by decide +kernel)
set_option maxRecDepth 20000 in
theorem gX5_works_X5_lift : GoodIn wsX5_works (wsV RX5 130 RX5 yX5_lift wsX5_lift) := goodIn_app (goodIn_of _ (by decide +kernel)) ggX5_works_X5_lift
set_option maxRecDepth 20000 in
theorem ggX5_works_X5_drops : GoodIn wsX5_works wsX5_drops := goodIn_r _ [24, 1, 25, 26, 27, 28, 29, 30, 31, 32, 33, 34, 35, 36] (by decide +kernel) (by decide +kernel)
set_option maxRecDepth 20000 in
theorem gX5_works_X5_drops : GoodIn wsX5_works (wsV RX5 117 RX5 yX5_drops wsX5_drops) := goodIn_app (goodIn_of _ (by decide +kernel)) ggX5_works_X5_drops
theorem dX5_works_0 : decode cX5_works 0 = .ok (.iload_n 1, 1) := by decide +kernel
theorem dX5_works_1 : decode cX5_works 1 = .ok (.istore_n 2, 1) := by decide +kernel
theorem dX5_works_2 : decode cX5_works 2 = .ok (.iconst 0, 1) := by decide +kernel
theorem dX5_works_3 : decode cX5_works 3 = .ok (.istore_n 3, 1) := by decide +kernel
theorem dX5_works_4 : decode cX5_works 4 = .ok (.iconst 1, 1) := by decide +kernel
theorem dX5_works_5 : decode cX5_works 5 = .ok (.istore 4, 2) := by decide +kernel
theorem dX5_works_7 : decode cX5_works 7 = .ok (.iload 4, 2) := by decide +kernel
theorem dX5_works_9 : decode cX5_works 9 = .ok (.ifCond .eq 144, 3) := by decide +kernel
theorem dX5_works_12 : decode cX5_works 12 = .ok (.aload_n 0, 1) := by decide +kernel
theorem dX5_works_13 : decode cX5_works 13 = .ok (.getfield 7, 3) := by decide +kernel
theorem dX5_works_16 : decode cX5_works 16 = .ok (.bipush 16, 2) := by decide +kernel
theorem dX5_works_18 : decode cX5_works 18 = .ok (.iaload, 1) := by decide +kernel
theorem dX5_works_19 : decode cX5_works 19 = .ok (.ifCond .le 134, 3) := by decide +kernel
theorem dX5_works_22 : decode cX5_works 22 = .ok (.aload_n 0, 1) := by decide +kernel
theorem dX5_works_23 : decode cX5_works 23 = .ok (.iconst 0, 1) := by decide +kernel
theorem dX5_works_24 : decode cX5_works 24 = .ok (.iconst 3, 1) := by decide +kernel
theorem dX5_works_25 : decode cX5_works 25 = .ok (.invokevirtual 114, 3) := by decide +kernel
theorem dX5_works_28 : decode cX5_works 28 = .ok (.istore 5, 2) := by decide +kernel
theorem dX5_works_30 : decode cX5_works 30 = .ok (.aload_n 0, 1) := by decide +kernel
theorem dX5_works_31 : decode cX5_works 31 = .ok (.iload 5, 2) := by decide +kernel
theorem dX5_works_33 : decode cX5_works 33 = .ok (.aload_n 0, 1) := by decide +kernel
theorem dX5_works_34 : decode cX5_works 34 = .ok (.iconst 0, 1) := by decide +kernel
theorem dX5_works_35 : decode cX5_works 35 = .ok (.iconst 2, 1) := by decide +kernel
theorem dX5_works_36 : decode cX5_works 36 = .ok (.invokevirtual 114, 3) := by decide +kernel
theorem dX5_works_39 : decode cX5_works 39 = .ok (.invokevirtual 124, 3) := by decide +kernel
theorem dX5_works_42 : decode cX5_works 42 = .ok (.istore 6, 2) := by decide +kernel
theorem dX5_works_44 : decode cX5_works 44 = .ok (.iload 6, 2) := by decide +kernel
theorem dX5_works_46 : decode cX5_works 46 = .ok (.aload_n 0, 1) := by decide +kernel
theorem dX5_works_47 : decode cX5_works 47 = .ok (.getfield 7, 3) := by decide +kernel
theorem dX5_works_50 : decode cX5_works 50 = .ok (.bipush 8, 2) := by decide +kernel
theorem dX5_works_52 : decode cX5_works 52 = .ok (.iaload, 1) := by decide +kernel
theorem dX5_works_53 : decode cX5_works 53 = .ok (.if_icmp .lt 7, 3) := by decide +kernel
theorem dX5_works_56 : decode cX5_works 56 = .ok (.iconst 1, 1) := by decide +kernel
theorem dX5_works_57 : decode cX5_works 57 = .ok (.goto 4, 3) := by decide +kernel
theorem dX5_works_60 : decode cX5_works 60 = .ok (.iconst 0, 1) := by decide +kernel
theorem dX5_works_61 : decode cX5_works 61 = .ok (.istore 7, 2) := by decide +kernel
theorem dX5_works_63 : decode cX5_works 63 = .ok (.iload 7, 2) := by decide +kernel
theorem dX5_works_65 : decode cX5_works 65 = .ok (.ifCond .eq 12, 3) := by decide +kernel
theorem dX5_works_68 : decode cX5_works 68 = .ok (.iload 6, 2) := by decide +kernel
theorem dX5_works_70 : decode cX5_works 70 = .ok (.invokestatic 127, 3) := by decide +kernel
theorem dX5_works_73 : decode cX5_works 73 = .ok (.iload_n 2, 1) := by decide +kernel
theorem dX5_works_74 : decode cX5_works 74 = .ok (.if_icmp .gt 7, 3) := by decide +kernel
theorem dX5_works_77 : decode cX5_works 77 = .ok (.iconst 1, 1) := by decide +kernel
theorem dX5_works_78 : decode cX5_works 78 = .ok (.goto 4, 3) := by decide +kernel
theorem dX5_works_81 : decode cX5_works 81 = .ok (.iconst 0, 1) := by decide +kernel
theorem dX5_works_82 : decode cX5_works 82 = .ok (.istore 4, 2) := by decide +kernel
theorem dX5_works_84 : decode cX5_works 84 = .ok (.iload 4, 2) := by decide +kernel
theorem dX5_works_86 : decode cX5_works 86 = .ok (.ifCond .eq 27, 3) := by decide +kernel
theorem dX5_works_89 : decode cX5_works 89 = .ok (.iload 7, 2) := by decide +kernel
theorem dX5_works_91 : decode cX5_works 91 = .ok (.ifCond .eq 22, 3) := by decide +kernel
theorem dX5_works_94 : decode cX5_works 94 = .ok (.iload_n 2, 1) := by decide +kernel
theorem dX5_works_95 : decode cX5_works 95 = .ok (.iload 6, 2) := by decide +kernel
theorem dX5_works_97 : decode cX5_works 97 = .ok (.invokestatic 127, 3) := by decide +kernel
theorem dX5_works_100 : decode cX5_works 100 = .ok (.isub, 1) := by decide +kernel
theorem dX5_works_101 : decode cX5_works 101 = .ok (.istore_n 2, 1) := by decide +kernel
theorem dX5_works_102 : decode cX5_works 102 = .ok (.aload_n 0, 1) := by decide +kernel
theorem dX5_works_103 : decode cX5_works 103 = .ok (.iload 5, 2) := by decide +kernel
theorem dX5_works_105 : decode cX5_works 105 = .ok (.iload 6, 2) := by decide +kernel
theorem dX5_works_107 : decode cX5_works 107 = .ok (.invokevirtual 130, 3) := by decide +kernel
theorem dX5_works_110 : decode cX5_works 110 = .ok (.iinc 3 1, 3) := by decide +kernel
theorem dX5_works_113 : decode cX5_works 113 = .ok (.iload 4, 2) := by decide +kernel
theorem dX5_works_115 : decode cX5_works 115 = .ok (.ifCond .eq 35, 3) := by decide +kernel
theorem dX5_works_118 : decode cX5_works 118 = .ok (.aload_n 0, 1) := by decide +kernel
theorem dX5_works_119 : decode cX5_works 119 = .ok (.getfield 7, 3) := by decide +kernel
theorem dX5_works_122 : decode cX5_works 122 = .ok (.bipush 20, 2) := by decide +kernel
theorem dX5_works_124 : decode cX5_works 124 = .ok (.dup2, 1) := by decide +kernel
theorem dX5_works_125 : decode cX5_works 125 = .ok (.iaload, 1) := by decide +kernel
theorem dX5_works_126 : decode cX5_works 126 = .ok (.iconst 1, 1) := by decide +kernel
theorem dX5_works_127 : decode cX5_works 127 = .ok (.iadd, 1) := by decide +kernel
theorem dX5_works_128 : decode cX5_works 128 = .ok (.iastore, 1) := by decide +kernel
theorem dX5_works_129 : decode cX5_works 129 = .ok (.aload_n 0, 1) := by decide +kernel
theorem dX5_works_130 : decode cX5_works 130 = .ok (.getfield 7, 3) := by decide +kernel
theorem dX5_works_133 : decode cX5_works 133 = .ok (.bipush 20, 2) := by decide +kernel
theorem dX5_works_135 : decode cX5_works 135 = .ok (.iaload, 1) := by decide +kernel
theorem dX5_works_136 : decode cX5_works 136 = .ok (.aload_n 0, 1) := by decide +kernel
theorem dX5_works_137 : decode cX5_works 137 = .ok (.iconst 0, 1) := by decide +kernel
theorem dX5_works_138 : decode cX5_works 138 = .ok (.iconst 1, 1) := by decide +kernel
theorem dX5_works_139 : decode cX5_works 139 = .ok (.invokevirtual 114, 3) := by decide +kernel
theorem dX5_works_142 : decode cX5_works 142 = .ok (.if_icmp .le 8, 3) := by decide +kernel
theorem dX5_works_145 : decode cX5_works 145 = .ok (.aload_n 0, 1) := by decide +kernel
theorem dX5_works_146 : decode cX5_works 146 = .ok (.iconst 0, 1) := by decide +kernel
theorem dX5_works_147 : decode cX5_works 147 = .ok (.invokevirtual 117, 3) := by decide +kernel
theorem dX5_works_150 : decode cX5_works 150 = .ok (.goto (-143), 3) := by decide +kernel
theorem dX5_works_153 : decode cX5_works 153 = .ok (.aload_n 0, 1) := by decide +kernel
theorem dX5_works_154 : decode cX5_works 154 = .ok (.getfield 7, 3) := by decide +kernel
theorem dX5_works_157 : decode cX5_works 157 = .ok (.bipush 12, 2) := by decide +kernel
theorem dX5_works_159 : decode cX5_works 159 = .ok (.dup2, 1) := by decide +kernel
theorem dX5_works_160 : decode cX5_works 160 = .ok (.iaload, 1) := by decide +kernel
theorem dX5_works_161 : decode cX5_works 161 = .ok (.iload_n 1, 1) := by decide +kernel
theorem dX5_works_162 : decode cX5_works 162 = .ok (.iload_n 2, 1) := by decide +kernel
theorem dX5_works_163 : decode cX5_works 163 = .ok (.isub, 1) := by decide +kernel
theorem dX5_works_164 : decode cX5_works 164 = .ok (.iadd, 1) := by decide +kernel
theorem dX5_works_165 : decode cX5_works 165 = .ok (.iastore, 1) := by decide +kernel
theorem dX5_works_166 : decode cX5_works 166 = .ok (.iload_n 3, 1) := by decide +kernel
theorem dX5_works_167 : decode cX5_works 167 = .ok (.ireturn, 1) := by decide +kernel
set_option maxRecDepth 20000 in
theorem ggX5_work_X5_in : GoodIn wsX5_work wsX5_in := goodIn_r _ [7] (by decide +kernel) (by decide +kernel)
set_option maxRecDepth 20000 in
theorem gX5_work_X5_in : GoodIn wsX5_work (va_wsS RX5 37 yX5_in wsX5_in) := goodIn_app (goodIn_of _ (by decide +kernel)) ggX5_work_X5_in
set_option maxRecDepth 20000 in
theorem ggX5_work_X5_notes : GoodIn wsX5_work wsX5_notes := goodIn_r _ [11, 12, 13, 2, 40, 41, 42, 43, 44, 45, 46, 47, 48, 49, 50, 51] (by decide +kernel) (by decide +kernel)
set_option maxRecDepth 20000 in
theorem gX5_work_X5_notes : GoodIn wsX5_work (wsV RX5 69 RX5 yX5_notes wsX5_notes) := goodIn_app (goodIn_of _ (by decide +kernel)) ggX5_work_X5_notes
set_option maxRecDepth 20000 in
theorem ggX5_work_X5_works : GoodIn wsX5_work wsX5_works := goodIn_r _ [17, 2, 18, 19, 20, 6, 21, 22, 23, 24, 25, 26, 27, 28, 29, 30, 31, 32, 33, 34, 35, 36, 37, 38, 39, 40, 41, 42, 43, 44, 45, 46, 47, 48, 49, 50, 51] (by decide +kernel) (by decide +kernel)
set_option maxRecDepth 20000 in
theorem gX5_work_X5_works : GoodIn wsX5_work (wsV RX5 133 RX5 yX5_works wsX5_works) := goodIn_app (goodIn_of _ (by decide +kernel)) ggX5_work_X5_works
theorem dX5_work_0 : decode cX5_work 0 = .ok (.iload_n 1, 1) := by decide +kernel
theorem dX5_work_1 : decode cX5_work 1 = .ok (.iconst 1, 1) := by decide +kernel
theorem dX5_work_2 : decode cX5_work 2 = .ok (.sipush 600, 3) := by decide +kernel
theorem dX5_work_5 : decode cX5_work 5 = .ok (.invokestatic 37, 3) := by decide +kernel
theorem dX5_work_8 : decode cX5_work 8 = .ok (.ifCond .ne 6, 3) := by decide +kernel
theorem dX5_work_11 : decode cX5_work 11 = .ok (.ldc 68, 2) := by decide +kernel
theorem dX5_work_13 : decode cX5_work 13 = .ok (.ireturn, 1) := by decide +kernel
theorem dX5_work_14 : decode cX5_work 14 = .ok (.aload_n 0, 1) := by decide +kernel
theorem dX5_work_15 : decode cX5_work 15 = .ok (.getfield 7, 3) := by decide +kernel
theorem dX5_work_18 : decode cX5_work 18 = .ok (.bipush 16, 2) := by decide +kernel
theorem dX5_work_20 : decode cX5_work 20 = .ok (.iaload, 1) := by decide +kernel
theorem dX5_work_21 : decode cX5_work 21 = .ok (.ifCond .ne 6, 3) := by decide +kernel
theorem dX5_work_24 : decode cX5_work 24 = .ok (.ldc 36, 2) := by decide +kernel
theorem dX5_work_26 : decode cX5_work 26 = .ok (.ireturn, 1) := by decide +kernel
theorem dX5_work_27 : decode cX5_work 27 = .ok (.aload_n 0, 1) := by decide +kernel
theorem dX5_work_28 : decode cX5_work 28 = .ok (.invokevirtual 69, 3) := by decide +kernel
theorem dX5_work_31 : decode cX5_work 31 = .ok (.aload_n 0, 1) := by decide +kernel
theorem dX5_work_32 : decode cX5_work 32 = .ok (.iload_n 1, 1) := by decide +kernel
theorem dX5_work_33 : decode cX5_work 33 = .ok (.invokevirtual 133, 3) := by decide +kernel
theorem dX5_work_36 : decode cX5_work 36 = .ok (.ireturn, 1) := by decide +kernel
set_option maxRecDepth 20000 in
theorem ggX5_passes_X5_laysLoads : GoodIn wsX5_passes wsX5_laysLoads := goodIn_r _ [9, 1, 2, 10, 11, 12, 8, 13, 14, 15, 16, 17, 18, 19, 20, 21, 22, 23, 24, 25, 26, 27, 28, 29, 43, 44, 45, 46, 47, 48, 49, 50, 51, 52, 53, 54] (by decide +kernel) (by decide +kernel)
set_option maxRecDepth 20000 in
theorem gX5_passes_X5_laysLoads : GoodIn wsX5_passes (wsV RX5 136 RX5 yX5_laysLoads wsX5_laysLoads) := goodIn_app (goodIn_of _ (by decide +kernel)) ggX5_passes_X5_laysLoads
set_option maxRecDepth 20000 in
theorem ggX5_passes_X5_hangs : GoodIn wsX5_passes wsX5_hangs := goodIn_r _ [13, 1, 14, 15, 16, 8, 17, 18, 43, 44, 45, 46, 47, 48, 49, 50, 51, 52, 53, 54] (by decide +kernel) (by decide +kernel)
set_option maxRecDepth 20000 in
theorem gX5_passes_X5_hangs : GoodIn wsX5_passes (wsV RX5 62 RX5 yX5_hangs wsX5_hangs) := goodIn_app (goodIn_of _ (by decide +kernel)) ggX5_passes_X5_hangs
set_option maxRecDepth 20000 in
theorem ggX5_passes_X5_lesser : GoodIn wsX5_passes wsX5_lesser := goodIn_r _ [32] (by decide +kernel) (by decide +kernel)
set_option maxRecDepth 20000 in
theorem gX5_passes_X5_lesser : GoodIn wsX5_passes (va_wsS RX5 121 yX5_lesser wsX5_lesser) := goodIn_app (goodIn_of _ (by decide +kernel)) ggX5_passes_X5_lesser
set_option maxRecDepth 20000 in
theorem ggX5_passes_X5_laysRail : GoodIn wsX5_passes wsX5_laysRail := goodIn_r _ [36, 1, 18, 37, 38, 8, 39, 40, 41, 42, 43, 44, 45, 46, 47, 48, 49, 50, 51, 52, 53, 54] (by decide +kernel) (by decide +kernel)
set_option maxRecDepth 20000 in
theorem gX5_passes_X5_laysRail : GoodIn wsX5_passes (wsV RX5 143 RX5 yX5_laysRail wsX5_laysRail) := goodIn_app (goodIn_of _ (by decide +kernel)) ggX5_passes_X5_laysRail
theorem dX5_passes_0 : decode cX5_passes 0 = .ok (.aload_n 0, 1) := by decide +kernel
theorem dX5_passes_1 : decode cX5_passes 1 = .ok (.invokevirtual 136, 3) := by decide +kernel
theorem dX5_passes_4 : decode cX5_passes 4 = .ok (.iload_n 3, 1) := by decide +kernel
theorem dX5_passes_5 : decode cX5_passes 5 = .ok (.ifCond .ne 8, 3) := by decide +kernel
theorem dX5_passes_8 : decode cX5_passes 8 = .ok (.bipush 100, 2) := by decide +kernel
theorem dX5_passes_10 : decode cX5_passes 10 = .ok (.goto 15, 3) := by decide +kernel
theorem dX5_passes_13 : decode cX5_passes 13 = .ok (.iload_n 3, 1) := by decide +kernel
theorem dX5_passes_14 : decode cX5_passes 14 = .ok (.iconst 1, 1) := by decide +kernel
theorem dX5_passes_15 : decode cX5_passes 15 = .ok (.if_icmp .ne 8, 3) := by decide +kernel
theorem dX5_passes_18 : decode cX5_passes 18 = .ok (.bipush 70, 2) := by decide +kernel
theorem dX5_passes_20 : decode cX5_passes 20 = .ok (.goto 5, 3) := by decide +kernel
theorem dX5_passes_23 : decode cX5_passes 23 = .ok (.bipush 40, 2) := by decide +kernel
theorem dX5_passes_25 : decode cX5_passes 25 = .ok (.istore 4, 2) := by decide +kernel
theorem dX5_passes_27 : decode cX5_passes 27 = .ok (.iconst 0, 1) := by decide +kernel
theorem dX5_passes_28 : decode cX5_passes 28 = .ok (.istore 5, 2) := by decide +kernel
theorem dX5_passes_30 : decode cX5_passes 30 = .ok (.iload 5, 2) := by decide +kernel
theorem dX5_passes_32 : decode cX5_passes 32 = .ok (.aload_n 0, 1) := by decide +kernel
theorem dX5_passes_33 : decode cX5_passes 33 = .ok (.getfield 7, 3) := by decide +kernel
theorem dX5_passes_36 : decode cX5_passes 36 = .ok (.iconst 0, 1) := by decide +kernel
theorem dX5_passes_37 : decode cX5_passes 37 = .ok (.iaload, 1) := by decide +kernel
theorem dX5_passes_38 : decode cX5_passes 38 = .ok (.if_icmp .ge 53, 3) := by decide +kernel
theorem dX5_passes_41 : decode cX5_passes 41 = .ok (.aload_n 0, 1) := by decide +kernel
theorem dX5_passes_42 : decode cX5_passes 42 = .ok (.iload 5, 2) := by decide +kernel
theorem dX5_passes_44 : decode cX5_passes 44 = .ok (.invokevirtual 62, 3) := by decide +kernel
theorem dX5_passes_47 : decode cX5_passes 47 = .ok (.ifCond .eq 38, 3) := by decide +kernel
theorem dX5_passes_50 : decode cX5_passes 50 = .ok (.aload_n 0, 1) := by decide +kernel
theorem dX5_passes_51 : decode cX5_passes 51 = .ok (.getfield 7, 3) := by decide +kernel
theorem dX5_passes_54 : decode cX5_passes 54 = .ok (.bipush 101, 2) := by decide +kernel
theorem dX5_passes_56 : decode cX5_passes 56 = .ok (.iload 5, 2) := by decide +kernel
theorem dX5_passes_58 : decode cX5_passes 58 = .ok (.iadd, 1) := by decide +kernel
theorem dX5_passes_59 : decode cX5_passes 59 = .ok (.bipush 100, 2) := by decide +kernel
theorem dX5_passes_61 : decode cX5_passes 61 = .ok (.aload_n 0, 1) := by decide +kernel
theorem dX5_passes_62 : decode cX5_passes 62 = .ok (.getfield 7, 3) := by decide +kernel
theorem dX5_passes_65 : decode cX5_passes 65 = .ok (.bipush 101, 2) := by decide +kernel
theorem dX5_passes_67 : decode cX5_passes 67 = .ok (.iload 5, 2) := by decide +kernel
theorem dX5_passes_69 : decode cX5_passes 69 = .ok (.iadd, 1) := by decide +kernel
theorem dX5_passes_70 : decode cX5_passes 70 = .ok (.iaload, 1) := by decide +kernel
theorem dX5_passes_71 : decode cX5_passes 71 = .ok (.iconst 1, 1) := by decide +kernel
theorem dX5_passes_72 : decode cX5_passes 72 = .ok (.iadd, 1) := by decide +kernel
theorem dX5_passes_73 : decode cX5_passes 73 = .ok (.invokestatic 121, 3) := by decide +kernel
theorem dX5_passes_76 : decode cX5_passes 76 = .ok (.iastore, 1) := by decide +kernel
theorem dX5_passes_77 : decode cX5_passes 77 = .ok (.aload_n 0, 1) := by decide +kernel
theorem dX5_passes_78 : decode cX5_passes 78 = .ok (.getfield 29, 3) := by decide +kernel
theorem dX5_passes_81 : decode cX5_passes 81 = .ok (.iload 5, 2) := by decide +kernel
theorem dX5_passes_83 : decode cX5_passes 83 = .ok (.iconst (-1), 1) := by decide +kernel
theorem dX5_passes_84 : decode cX5_passes 84 = .ok (.iastore, 1) := by decide +kernel
theorem dX5_passes_85 : decode cX5_passes 85 = .ok (.iinc 5 1, 3) := by decide +kernel
theorem dX5_passes_88 : decode cX5_passes 88 = .ok (.goto (-58), 3) := by decide +kernel
theorem dX5_passes_91 : decode cX5_passes 91 = .ok (.iconst 0, 1) := by decide +kernel
theorem dX5_passes_92 : decode cX5_passes 92 = .ok (.istore 5, 2) := by decide +kernel
theorem dX5_passes_94 : decode cX5_passes 94 = .ok (.iload 5, 2) := by decide +kernel
theorem dX5_passes_96 : decode cX5_passes 96 = .ok (.aload_n 0, 1) := by decide +kernel
theorem dX5_passes_97 : decode cX5_passes 97 = .ok (.getfield 7, 3) := by decide +kernel
theorem dX5_passes_100 : decode cX5_passes 100 = .ok (.iconst 0, 1) := by decide +kernel
theorem dX5_passes_101 : decode cX5_passes 101 = .ok (.iaload, 1) := by decide +kernel
theorem dX5_passes_102 : decode cX5_passes 102 = .ok (.if_icmp .ge 136, 3) := by decide +kernel
theorem dX5_passes_105 : decode cX5_passes 105 = .ok (.aload_n 0, 1) := by decide +kernel
theorem dX5_passes_106 : decode cX5_passes 106 = .ok (.getfield 29, 3) := by decide +kernel
theorem dX5_passes_109 : decode cX5_passes 109 = .ok (.iload 5, 2) := by decide +kernel
theorem dX5_passes_111 : decode cX5_passes 111 = .ok (.iaload, 1) := by decide +kernel
theorem dX5_passes_112 : decode cX5_passes 112 = .ok (.ifCond .lt 120, 3) := by decide +kernel
theorem dX5_passes_115 : decode cX5_passes 115 = .ok (.iload_n 1, 1) := by decide +kernel
theorem dX5_passes_116 : decode cX5_passes 116 = .ok (.i2l, 1) := by decide +kernel
theorem dX5_passes_117 : decode cX5_passes 117 = .ok (.iload_n 2, 1) := by decide +kernel
theorem dX5_passes_118 : decode cX5_passes 118 = .ok (.i2l, 1) := by decide +kernel
theorem dX5_passes_119 : decode cX5_passes 119 = .ok (.lmul, 1) := by decide +kernel
theorem dX5_passes_120 : decode cX5_passes 120 = .ok (.aload_n 0, 1) := by decide +kernel
theorem dX5_passes_121 : decode cX5_passes 121 = .ok (.getfield 29, 3) := by decide +kernel
theorem dX5_passes_124 : decode cX5_passes 124 = .ok (.iload 5, 2) := by decide +kernel
theorem dX5_passes_126 : decode cX5_passes 126 = .ok (.iaload, 1) := by decide +kernel
theorem dX5_passes_127 : decode cX5_passes 127 = .ok (.i2l, 1) := by decide +kernel
theorem dX5_passes_128 : decode cX5_passes 128 = .ok (.lmul, 1) := by decide +kernel
theorem dX5_passes_129 : decode cX5_passes 129 = .ok (.bipush 100, 2) := by decide +kernel
theorem dX5_passes_131 : decode cX5_passes 131 = .ok (.aload_n 0, 1) := by decide +kernel
theorem dX5_passes_132 : decode cX5_passes 132 = .ok (.getfield 7, 3) := by decide +kernel
theorem dX5_passes_135 : decode cX5_passes 135 = .ok (.bipush 101, 2) := by decide +kernel
theorem dX5_passes_137 : decode cX5_passes 137 = .ok (.iload 5, 2) := by decide +kernel
theorem dX5_passes_139 : decode cX5_passes 139 = .ok (.iadd, 1) := by decide +kernel
theorem dX5_passes_140 : decode cX5_passes 140 = .ok (.iaload, 1) := by decide +kernel
theorem dX5_passes_141 : decode cX5_passes 141 = .ok (.iadd, 1) := by decide +kernel
theorem dX5_passes_142 : decode cX5_passes 142 = .ok (.i2l, 1) := by decide +kernel
theorem dX5_passes_143 : decode cX5_passes 143 = .ok (.lmul, 1) := by decide +kernel
theorem dX5_passes_144 : decode cX5_passes 144 = .ok (.iload 4, 2) := by decide +kernel
theorem dX5_passes_146 : decode cX5_passes 146 = .ok (.i2l, 1) := by decide +kernel
theorem dX5_passes_147 : decode cX5_passes 147 = .ok (.lmul, 1) := by decide +kernel
theorem dX5_passes_148 : decode cX5_passes 148 = .ok (.ldc2_w 139, 3) := by decide +kernel
theorem dX5_passes_151 : decode cX5_passes 151 = .ok (.ldiv, 1) := by decide +kernel
theorem dX5_passes_152 : decode cX5_passes 152 = .ok (.lstore 6, 2) := by decide +kernel
theorem dX5_passes_154 : decode cX5_passes 154 = .ok (.aload_n 0, 1) := by decide +kernel
theorem dX5_passes_155 : decode cX5_passes 155 = .ok (.getfield 7, 3) := by decide +kernel
theorem dX5_passes_158 : decode cX5_passes 158 = .ok (.bipush 41, 2) := by decide +kernel
theorem dX5_passes_160 : decode cX5_passes 160 = .ok (.iload 5, 2) := by decide +kernel
theorem dX5_passes_162 : decode cX5_passes 162 = .ok (.iadd, 1) := by decide +kernel
theorem dX5_passes_163 : decode cX5_passes 163 = .ok (.iaload, 1) := by decide +kernel
theorem dX5_passes_164 : decode cX5_passes 164 = .ok (.i2l, 1) := by decide +kernel
theorem dX5_passes_165 : decode cX5_passes 165 = .ok (.ldc2_w 141, 3) := by decide +kernel
theorem dX5_passes_168 : decode cX5_passes 168 = .ok (.lsub, 1) := by decide +kernel
theorem dX5_passes_169 : decode cX5_passes 169 = .ok (.lstore 8, 2) := by decide +kernel
theorem dX5_passes_171 : decode cX5_passes 171 = .ok (.lload 6, 2) := by decide +kernel
theorem dX5_passes_173 : decode cX5_passes 173 = .ok (.lload 8, 2) := by decide +kernel
theorem dX5_passes_175 : decode cX5_passes 175 = .ok (.lcmp, 1) := by decide +kernel
theorem dX5_passes_176 : decode cX5_passes 176 = .ok (.ifCond .ge 8, 3) := by decide +kernel
theorem dX5_passes_179 : decode cX5_passes 179 = .ok (.lload 6, 2) := by decide +kernel
theorem dX5_passes_181 : decode cX5_passes 181 = .ok (.goto 5, 3) := by decide +kernel
theorem dX5_passes_184 : decode cX5_passes 184 = .ok (.lload 8, 2) := by decide +kernel
theorem dX5_passes_186 : decode cX5_passes 186 = .ok (.l2i, 1) := by decide +kernel
theorem dX5_passes_187 : decode cX5_passes 187 = .ok (.istore 10, 2) := by decide +kernel
theorem dX5_passes_189 : decode cX5_passes 189 = .ok (.aload_n 0, 1) := by decide +kernel
theorem dX5_passes_190 : decode cX5_passes 190 = .ok (.getfield 7, 3) := by decide +kernel
theorem dX5_passes_193 : decode cX5_passes 193 = .ok (.bipush 41, 2) := by decide +kernel
theorem dX5_passes_195 : decode cX5_passes 195 = .ok (.iload 5, 2) := by decide +kernel
theorem dX5_passes_197 : decode cX5_passes 197 = .ok (.iadd, 1) := by decide +kernel
theorem dX5_passes_198 : decode cX5_passes 198 = .ok (.dup2, 1) := by decide +kernel
theorem dX5_passes_199 : decode cX5_passes 199 = .ok (.iaload, 1) := by decide +kernel
theorem dX5_passes_200 : decode cX5_passes 200 = .ok (.iload 10, 2) := by decide +kernel
theorem dX5_passes_202 : decode cX5_passes 202 = .ok (.isub, 1) := by decide +kernel
theorem dX5_passes_203 : decode cX5_passes 203 = .ok (.iastore, 1) := by decide +kernel
theorem dX5_passes_204 : decode cX5_passes 204 = .ok (.aload_n 0, 1) := by decide +kernel
theorem dX5_passes_205 : decode cX5_passes 205 = .ok (.getfield 7, 3) := by decide +kernel
theorem dX5_passes_208 : decode cX5_passes 208 = .ok (.sipush 161, 3) := by decide +kernel
theorem dX5_passes_211 : decode cX5_passes 211 = .ok (.iload 5, 2) := by decide +kernel
theorem dX5_passes_213 : decode cX5_passes 213 = .ok (.iadd, 1) := by decide +kernel
theorem dX5_passes_214 : decode cX5_passes 214 = .ok (.dup2, 1) := by decide +kernel
theorem dX5_passes_215 : decode cX5_passes 215 = .ok (.iaload, 1) := by decide +kernel
theorem dX5_passes_216 : decode cX5_passes 216 = .ok (.iload 10, 2) := by decide +kernel
theorem dX5_passes_218 : decode cX5_passes 218 = .ok (.iadd, 1) := by decide +kernel
theorem dX5_passes_219 : decode cX5_passes 219 = .ok (.iastore, 1) := by decide +kernel
theorem dX5_passes_220 : decode cX5_passes 220 = .ok (.aload_n 0, 1) := by decide +kernel
theorem dX5_passes_221 : decode cX5_passes 221 = .ok (.getfield 7, 3) := by decide +kernel
theorem dX5_passes_224 : decode cX5_passes 224 = .ok (.bipush 9, 2) := by decide +kernel
theorem dX5_passes_226 : decode cX5_passes 226 = .ok (.dup2, 1) := by decide +kernel
theorem dX5_passes_227 : decode cX5_passes 227 = .ok (.iaload, 1) := by decide +kernel
theorem dX5_passes_228 : decode cX5_passes 228 = .ok (.iload 10, 2) := by decide +kernel
theorem dX5_passes_230 : decode cX5_passes 230 = .ok (.iadd, 1) := by decide +kernel
theorem dX5_passes_231 : decode cX5_passes 231 = .ok (.iastore, 1) := by decide +kernel
theorem dX5_passes_232 : decode cX5_passes 232 = .ok (.iinc 5 1, 3) := by decide +kernel
theorem dX5_passes_235 : decode cX5_passes 235 = .ok (.goto (-141), 3) := by decide +kernel
theorem dX5_passes_238 : decode cX5_passes 238 = .ok (.aload_n 0, 1) := by decide +kernel
theorem dX5_passes_239 : decode cX5_passes 239 = .ok (.getfield 7, 3) := by decide +kernel
theorem dX5_passes_242 : decode cX5_passes 242 = .ok (.bipush 11, 2) := by decide +kernel
theorem dX5_passes_244 : decode cX5_passes 244 = .ok (.dup2, 1) := by decide +kernel
theorem dX5_passes_245 : decode cX5_passes 245 = .ok (.iaload, 1) := by decide +kernel
theorem dX5_passes_246 : decode cX5_passes 246 = .ok (.iload_n 3, 1) := by decide +kernel
theorem dX5_passes_247 : decode cX5_passes 247 = .ok (.ifCond .ne 7, 3) := by decide +kernel
theorem dX5_passes_250 : decode cX5_passes 250 = .ok (.iconst 0, 1) := by decide +kernel
theorem dX5_passes_251 : decode cX5_passes 251 = .ok (.goto 14, 3) := by decide +kernel
theorem dX5_passes_254 : decode cX5_passes 254 = .ok (.iload_n 3, 1) := by decide +kernel
theorem dX5_passes_255 : decode cX5_passes 255 = .ok (.iconst 1, 1) := by decide +kernel
theorem dX5_passes_256 : decode cX5_passes 256 = .ok (.if_icmp .ne 7, 3) := by decide +kernel
theorem dX5_passes_259 : decode cX5_passes 259 = .ok (.iconst 2, 1) := by decide +kernel
theorem dX5_passes_260 : decode cX5_passes 260 = .ok (.goto 5, 3) := by decide +kernel
theorem dX5_passes_263 : decode cX5_passes 263 = .ok (.bipush 6, 2) := by decide +kernel
theorem dX5_passes_265 : decode cX5_passes 265 = .ok (.iadd, 1) := by decide +kernel
theorem dX5_passes_266 : decode cX5_passes 266 = .ok (.iastore, 1) := by decide +kernel
theorem dX5_passes_267 : decode cX5_passes 267 = .ok (.aload_n 0, 1) := by decide +kernel
theorem dX5_passes_268 : decode cX5_passes 268 = .ok (.getfield 7, 3) := by decide +kernel
theorem dX5_passes_271 : decode cX5_passes 271 = .ok (.bipush 13, 2) := by decide +kernel
theorem dX5_passes_273 : decode cX5_passes 273 = .ok (.dup2, 1) := by decide +kernel
theorem dX5_passes_274 : decode cX5_passes 274 = .ok (.iaload, 1) := by decide +kernel
theorem dX5_passes_275 : decode cX5_passes 275 = .ok (.iconst 1, 1) := by decide +kernel
theorem dX5_passes_276 : decode cX5_passes 276 = .ok (.iadd, 1) := by decide +kernel
theorem dX5_passes_277 : decode cX5_passes 277 = .ok (.iastore, 1) := by decide +kernel
theorem dX5_passes_278 : decode cX5_passes 278 = .ok (.aload_n 0, 1) := by decide +kernel
theorem dX5_passes_279 : decode cX5_passes 279 = .ok (.getfield 7, 3) := by decide +kernel
theorem dX5_passes_282 : decode cX5_passes 282 = .ok (.bipush 14, 2) := by decide +kernel
theorem dX5_passes_284 : decode cX5_passes 284 = .ok (.dup2, 1) := by decide +kernel
theorem dX5_passes_285 : decode cX5_passes 285 = .ok (.iaload, 1) := by decide +kernel
theorem dX5_passes_286 : decode cX5_passes 286 = .ok (.iload_n 1, 1) := by decide +kernel
theorem dX5_passes_287 : decode cX5_passes 287 = .ok (.iload_n 2, 1) := by decide +kernel
theorem dX5_passes_288 : decode cX5_passes 288 = .ok (.imul, 1) := by decide +kernel
theorem dX5_passes_289 : decode cX5_passes 289 = .ok (.iadd, 1) := by decide +kernel
theorem dX5_passes_290 : decode cX5_passes 290 = .ok (.iastore, 1) := by decide +kernel
theorem dX5_passes_291 : decode cX5_passes 291 = .ok (.aload_n 0, 1) := by decide +kernel
theorem dX5_passes_292 : decode cX5_passes 292 = .ok (.invokevirtual 143, 3) := by decide +kernel
theorem dX5_passes_295 : decode cX5_passes 295 = .ok (.return_, 1) := by decide +kernel
set_option maxRecDepth 20000 in
theorem ggX5_isTrain_X5_in : GoodIn wsX5_isTrain wsX5_in := goodIn_r _ [4] (by decide +kernel) (by decide +kernel)
set_option maxRecDepth 20000 in
theorem gX5_isTrain_X5_in : GoodIn wsX5_isTrain (va_wsS RX5 37 yX5_in wsX5_in) := goodIn_app (goodIn_of _ (by decide +kernel)) ggX5_isTrain_X5_in
theorem dX5_isTrain_0 : decode cX5_isTrain 0 = .ok (.iload_n 0, 1) := by decide +kernel
theorem dX5_isTrain_1 : decode cX5_isTrain 1 = .ok (.iconst 1, 1) := by decide +kernel
theorem dX5_isTrain_2 : decode cX5_isTrain 2 = .ok (.sipush 200, 3) := by decide +kernel
theorem dX5_isTrain_5 : decode cX5_isTrain 5 = .ok (.invokestatic 37, 3) := by decide +kernel
theorem dX5_isTrain_8 : decode cX5_isTrain 8 = .ok (.ifCond .eq 17, 3) := by decide +kernel
theorem dX5_isTrain_11 : decode cX5_isTrain 11 = .ok (.iload_n 1, 1) := by decide +kernel
theorem dX5_isTrain_12 : decode cX5_isTrain 12 = .ok (.iconst 1, 1) := by decide +kernel
theorem dX5_isTrain_13 : decode cX5_isTrain 13 = .ok (.bipush 30, 2) := by decide +kernel
theorem dX5_isTrain_15 : decode cX5_isTrain 15 = .ok (.invokestatic 37, 3) := by decide +kernel
theorem dX5_isTrain_18 : decode cX5_isTrain 18 = .ok (.ifCond .eq 7, 3) := by decide +kernel
theorem dX5_isTrain_21 : decode cX5_isTrain 21 = .ok (.iconst 1, 1) := by decide +kernel
theorem dX5_isTrain_22 : decode cX5_isTrain 22 = .ok (.goto 4, 3) := by decide +kernel
theorem dX5_isTrain_25 : decode cX5_isTrain 25 = .ok (.iconst 0, 1) := by decide +kernel
theorem dX5_isTrain_26 : decode cX5_isTrain 26 = .ok (.ireturn, 1) := by decide +kernel
set_option maxRecDepth 20000 in
theorem ggX5_trains_X5_isTrain : GoodIn wsX5_trains wsX5_isTrain := goodIn_r _ [6, 7, 8, 5, 9] (by decide +kernel) (by decide +kernel)
set_option maxRecDepth 20000 in
theorem gX5_trains_X5_isTrain : GoodIn wsX5_trains (va_wsS RX5 146 yX5_isTrain wsX5_isTrain) := goodIn_app (goodIn_of _ (by decide +kernel)) ggX5_trains_X5_isTrain
set_option maxRecDepth 20000 in
theorem ggX5_trains_X5_in : GoodIn wsX5_trains wsX5_in := goodIn_r _ [9] (by decide +kernel) (by decide +kernel)
set_option maxRecDepth 20000 in
theorem gX5_trains_X5_in : GoodIn wsX5_trains (va_wsS RX5 37 yX5_in wsX5_in) := goodIn_app (goodIn_of _ (by decide +kernel)) ggX5_trains_X5_in
set_option maxRecDepth 20000 in
theorem ggX5_trains_X5_laysRail : GoodIn wsX5_trains wsX5_laysRail := goodIn_r _ [13, 14, 15, 16, 17, 5, 18, 19, 20, 21, 70, 71, 72, 73, 74, 75, 76, 77, 78, 79, 80, 81] (by decide +kernel) (by decide +kernel)
set_option maxRecDepth 20000 in
theorem gX5_trains_X5_laysRail : GoodIn wsX5_trains (wsV RX5 143 RX5 yX5_laysRail wsX5_laysRail) := goodIn_app (goodIn_of _ (by decide +kernel)) ggX5_trains_X5_laysRail
set_option maxRecDepth 20000 in
theorem ggX5_trains_X5_order : GoodIn wsX5_trains wsX5_order := goodIn_r _ [25, 14, 26, 27, 28, 5, 29, 30, 31, 32, 33, 15, 16, 17, 18, 19, 20, 21, 70, 71, 72, 73, 74, 75, 76, 77, 78, 79, 80, 81] (by decide +kernel) (by decide +kernel)
set_option maxRecDepth 20000 in
theorem gX5_trains_X5_order : GoodIn wsX5_trains (wsV RX5 149 RX5 yX5_order wsX5_order) := goodIn_app (goodIn_of _ (by decide +kernel)) ggX5_trains_X5_order
set_option maxRecDepth 20000 in
theorem ggX5_trains_X5_notes : GoodIn wsX5_trains wsX5_notes := goodIn_r _ [37, 38, 39, 14, 70, 71, 72, 73, 74, 75, 76, 77, 78, 79, 80, 81] (by decide +kernel) (by decide +kernel)
set_option maxRecDepth 20000 in
theorem gX5_trains_X5_notes : GoodIn wsX5_trains (wsV RX5 69 RX5 yX5_notes wsX5_notes) := goodIn_app (goodIn_of _ (by decide +kernel)) ggX5_trains_X5_notes
set_option maxRecDepth 20000 in
theorem ggX5_trains_X5_passes : GoodIn wsX5_trains wsX5_passes := goodIn_r _ [43, 14, 44, 45, 46, 47, 48, 49, 5, 50, 51, 52, 53, 54, 55, 56, 57, 58, 15, 59, 60, 61, 62, 63, 64, 65, 66, 7, 8, 9, 67, 68, 69, 10, 11, 12, 13, 16, 17, 18, 19, 20, 21, 70, 71, 72, 73, 74, 75, 76, 77, 78, 79, 80, 81] (by decide +kernel) (by decide +kernel)
set_option maxRecDepth 20000 in
theorem gX5_trains_X5_passes : GoodIn wsX5_trains (wsV RX5 152 RX5 yX5_passes wsX5_passes) := goodIn_app (goodIn_of _ (by decide +kernel)) ggX5_trains_X5_passes
theorem dX5_trains_0 : decode cX5_trains 0 = .ok (.iload_n 1, 1) := by decide +kernel
theorem dX5_trains_1 : decode cX5_trains 1 = .ok (.iload_n 2, 1) := by decide +kernel
theorem dX5_trains_2 : decode cX5_trains 2 = .ok (.invokestatic 146, 3) := by decide +kernel
theorem dX5_trains_5 : decode cX5_trains 5 = .ok (.ifCond .eq 13, 3) := by decide +kernel
theorem dX5_trains_8 : decode cX5_trains 8 = .ok (.iload_n 3, 1) := by decide +kernel
theorem dX5_trains_9 : decode cX5_trains 9 = .ok (.iconst 1, 1) := by decide +kernel
theorem dX5_trains_10 : decode cX5_trains 10 = .ok (.bipush 50, 2) := by decide +kernel
theorem dX5_trains_12 : decode cX5_trains 12 = .ok (.invokestatic 37, 3) := by decide +kernel
theorem dX5_trains_15 : decode cX5_trains 15 = .ok (.ifCond .ne 6, 3) := by decide +kernel
theorem dX5_trains_18 : decode cX5_trains 18 = .ok (.ldc 68, 2) := by decide +kernel
theorem dX5_trains_20 : decode cX5_trains 20 = .ok (.ireturn, 1) := by decide +kernel
theorem dX5_trains_21 : decode cX5_trains 21 = .ok (.aload_n 0, 1) := by decide +kernel
theorem dX5_trains_22 : decode cX5_trains 22 = .ok (.invokevirtual 143, 3) := by decide +kernel
theorem dX5_trains_25 : decode cX5_trains 25 = .ok (.aload_n 0, 1) := by decide +kernel
theorem dX5_trains_26 : decode cX5_trains 26 = .ok (.invokevirtual 149, 3) := by decide +kernel
theorem dX5_trains_29 : decode cX5_trains 29 = .ok (.istore 4, 2) := by decide +kernel
theorem dX5_trains_31 : decode cX5_trains 31 = .ok (.iload 4, 2) := by decide +kernel
theorem dX5_trains_33 : decode cX5_trains 33 = .ok (.iconst 3, 1) := by decide +kernel
theorem dX5_trains_34 : decode cX5_trains 34 = .ok (.if_icmp .ne 6, 3) := by decide +kernel
theorem dX5_trains_37 : decode cX5_trains 37 = .ok (.ldc 36, 2) := by decide +kernel
theorem dX5_trains_39 : decode cX5_trains 39 = .ok (.ireturn, 1) := by decide +kernel
theorem dX5_trains_40 : decode cX5_trains 40 = .ok (.aload_n 0, 1) := by decide +kernel
theorem dX5_trains_41 : decode cX5_trains 41 = .ok (.invokevirtual 69, 3) := by decide +kernel
theorem dX5_trains_44 : decode cX5_trains 44 = .ok (.iconst 0, 1) := by decide +kernel
theorem dX5_trains_45 : decode cX5_trains 45 = .ok (.istore 5, 2) := by decide +kernel
theorem dX5_trains_47 : decode cX5_trains 47 = .ok (.iload 5, 2) := by decide +kernel
theorem dX5_trains_49 : decode cX5_trains 49 = .ok (.iload_n 3, 1) := by decide +kernel
theorem dX5_trains_50 : decode cX5_trains 50 = .ok (.if_icmp .ge 29, 3) := by decide +kernel
theorem dX5_trains_53 : decode cX5_trains 53 = .ok (.iload 4, 2) := by decide +kernel
theorem dX5_trains_55 : decode cX5_trains 55 = .ok (.iconst 3, 1) := by decide +kernel
theorem dX5_trains_56 : decode cX5_trains 56 = .ok (.if_icmp .ge 23, 3) := by decide +kernel
theorem dX5_trains_59 : decode cX5_trains 59 = .ok (.aload_n 0, 1) := by decide +kernel
theorem dX5_trains_60 : decode cX5_trains 60 = .ok (.iload_n 1, 1) := by decide +kernel
theorem dX5_trains_61 : decode cX5_trains 61 = .ok (.iload_n 2, 1) := by decide +kernel
theorem dX5_trains_62 : decode cX5_trains 62 = .ok (.iload 4, 2) := by decide +kernel
theorem dX5_trains_64 : decode cX5_trains 64 = .ok (.invokevirtual 152, 3) := by decide +kernel
theorem dX5_trains_67 : decode cX5_trains 67 = .ok (.aload_n 0, 1) := by decide +kernel
theorem dX5_trains_68 : decode cX5_trains 68 = .ok (.invokevirtual 149, 3) := by decide +kernel
theorem dX5_trains_71 : decode cX5_trains 71 = .ok (.istore 4, 2) := by decide +kernel
theorem dX5_trains_73 : decode cX5_trains 73 = .ok (.iinc 5 1, 3) := by decide +kernel
theorem dX5_trains_76 : decode cX5_trains 76 = .ok (.goto (-29), 3) := by decide +kernel
theorem dX5_trains_79 : decode cX5_trains 79 = .ok (.iload 5, 2) := by decide +kernel
theorem dX5_trains_81 : decode cX5_trains 81 = .ok (.ireturn, 1) := by decide +kernel
set_option maxRecDepth 20000 in
theorem ggX5_isImage_X5_in : GoodIn wsX5_isImage wsX5_in := goodIn_r _ [4] (by decide +kernel) (by decide +kernel)
set_option maxRecDepth 20000 in
theorem gX5_isImage_X5_in : GoodIn wsX5_isImage (va_wsS RX5 37 yX5_in wsX5_in) := goodIn_app (goodIn_of _ (by decide +kernel)) ggX5_isImage_X5_in
theorem dX5_isImage_0 : decode cX5_isImage 0 = .ok (.iload_n 0, 1) := by decide +kernel
theorem dX5_isImage_1 : decode cX5_isImage 1 = .ok (.iconst 0, 1) := by decide +kernel
theorem dX5_isImage_2 : decode cX5_isImage 2 = .ok (.iconst 1, 1) := by decide +kernel
theorem dX5_isImage_3 : decode cX5_isImage 3 = .ok (.invokestatic 37, 3) := by decide +kernel
theorem dX5_isImage_6 : decode cX5_isImage 6 = .ok (.ireturn, 1) := by decide +kernel
set_option maxRecDepth 20000 in
theorem ggX5_keep_X5_isImage : GoodIn wsX5_keep wsX5_isImage := goodIn_r _ [8, 9, 10, 7, 11] (by decide +kernel) (by decide +kernel)
set_option maxRecDepth 20000 in
theorem gX5_keep_X5_isImage : GoodIn wsX5_keep (va_wsS RX5 156 yX5_isImage wsX5_isImage) := goodIn_app (goodIn_of _ (by decide +kernel)) ggX5_keep_X5_isImage
theorem dX5_keep_0 : decode cX5_keep 0 = .ok (.iload_n 1, 1) := by decide +kernel
theorem dX5_keep_1 : decode cX5_keep 1 = .ok (.invokestatic 156, 3) := by decide +kernel
theorem dX5_keep_4 : decode cX5_keep 4 = .ok (.ifCond .ne 6, 3) := by decide +kernel
theorem dX5_keep_7 : decode cX5_keep 7 = .ok (.ldc 68, 2) := by decide +kernel
theorem dX5_keep_9 : decode cX5_keep 9 = .ok (.ireturn, 1) := by decide +kernel
theorem dX5_keep_10 : decode cX5_keep 10 = .ok (.iconst 0, 1) := by decide +kernel
theorem dX5_keep_11 : decode cX5_keep 11 = .ok (.istore_n 2, 1) := by decide +kernel
theorem dX5_keep_12 : decode cX5_keep 12 = .ok (.iload_n 2, 1) := by decide +kernel
theorem dX5_keep_13 : decode cX5_keep 13 = .ok (.sipush 281, 3) := by decide +kernel
theorem dX5_keep_16 : decode cX5_keep 16 = .ok (.if_icmp .ge 27, 3) := by decide +kernel
theorem dX5_keep_19 : decode cX5_keep 19 = .ok (.aload_n 0, 1) := by decide +kernel
theorem dX5_keep_20 : decode cX5_keep 20 = .ok (.getfield 16, 3) := by decide +kernel
theorem dX5_keep_23 : decode cX5_keep 23 = .ok (.sipush 281, 3) := by decide +kernel
theorem dX5_keep_26 : decode cX5_keep 26 = .ok (.iload_n 1, 1) := by decide +kernel
theorem dX5_keep_27 : decode cX5_keep 27 = .ok (.imul, 1) := by decide +kernel
theorem dX5_keep_28 : decode cX5_keep 28 = .ok (.iload_n 2, 1) := by decide +kernel
theorem dX5_keep_29 : decode cX5_keep 29 = .ok (.iadd, 1) := by decide +kernel
theorem dX5_keep_30 : decode cX5_keep 30 = .ok (.aload_n 0, 1) := by decide +kernel
theorem dX5_keep_31 : decode cX5_keep 31 = .ok (.getfield 7, 3) := by decide +kernel
theorem dX5_keep_34 : decode cX5_keep 34 = .ok (.iload_n 2, 1) := by decide +kernel
theorem dX5_keep_35 : decode cX5_keep 35 = .ok (.iaload, 1) := by decide +kernel
theorem dX5_keep_36 : decode cX5_keep 36 = .ok (.iastore, 1) := by decide +kernel
theorem dX5_keep_37 : decode cX5_keep 37 = .ok (.iinc 2 1, 3) := by decide +kernel
theorem dX5_keep_40 : decode cX5_keep 40 = .ok (.goto (-28), 3) := by decide +kernel
theorem dX5_keep_43 : decode cX5_keep 43 = .ok (.aload_n 0, 1) := by decide +kernel
theorem dX5_keep_44 : decode cX5_keep 44 = .ok (.dup, 1) := by decide +kernel
theorem dX5_keep_45 : decode cX5_keep 45 = .ok (.getfield 159, 3) := by decide +kernel
theorem dX5_keep_48 : decode cX5_keep 48 = .ok (.iconst 1, 1) := by decide +kernel
theorem dX5_keep_49 : decode cX5_keep 49 = .ok (.iload_n 1, 1) := by decide +kernel
theorem dX5_keep_50 : decode cX5_keep 50 = .ok (.ishl, 1) := by decide +kernel
theorem dX5_keep_51 : decode cX5_keep 51 = .ok (.ior, 1) := by decide +kernel
theorem dX5_keep_52 : decode cX5_keep 52 = .ok (.putfield 159, 3) := by decide +kernel
theorem dX5_keep_55 : decode cX5_keep 55 = .ok (.aload_n 0, 1) := by decide +kernel
theorem dX5_keep_56 : decode cX5_keep 56 = .ok (.getfield 7, 3) := by decide +kernel
theorem dX5_keep_59 : decode cX5_keep 59 = .ok (.bipush 13, 2) := by decide +kernel
theorem dX5_keep_61 : decode cX5_keep 61 = .ok (.iaload, 1) := by decide +kernel
theorem dX5_keep_62 : decode cX5_keep 62 = .ok (.ireturn, 1) := by decide +kernel
set_option maxRecDepth 20000 in
theorem ggX5_back_X5_isImage : GoodIn wsX5_back wsX5_isImage := goodIn_r _ [9, 10, 11, 8, 12] (by decide +kernel) (by decide +kernel)
set_option maxRecDepth 20000 in
theorem gX5_back_X5_isImage : GoodIn wsX5_back (va_wsS RX5 156 yX5_isImage wsX5_isImage) := goodIn_app (goodIn_of _ (by decide +kernel)) ggX5_back_X5_isImage
set_option maxRecDepth 20000 in
theorem ggX5_back_X5_notes : GoodIn wsX5_back wsX5_notes := goodIn_r _ [16, 17, 18, 4, 19, 20, 21, 22, 23, 24, 25, 26, 27, 28, 29, 30] (by decide +kernel) (by decide +kernel)
set_option maxRecDepth 20000 in
theorem gX5_back_X5_notes : GoodIn wsX5_back (wsV RX5 69 RX5 yX5_notes wsX5_notes) := goodIn_app (goodIn_of _ (by decide +kernel)) ggX5_back_X5_notes
theorem dX5_back_0 : decode cX5_back 0 = .ok (.iload_n 1, 1) := by decide +kernel
theorem dX5_back_1 : decode cX5_back 1 = .ok (.invokestatic 156, 3) := by decide +kernel
theorem dX5_back_4 : decode cX5_back 4 = .ok (.ifCond .ne 6, 3) := by decide +kernel
theorem dX5_back_7 : decode cX5_back 7 = .ok (.ldc 68, 2) := by decide +kernel
theorem dX5_back_9 : decode cX5_back 9 = .ok (.ireturn, 1) := by decide +kernel
theorem dX5_back_10 : decode cX5_back 10 = .ok (.aload_n 0, 1) := by decide +kernel
theorem dX5_back_11 : decode cX5_back 11 = .ok (.getfield 159, 3) := by decide +kernel
theorem dX5_back_14 : decode cX5_back 14 = .ok (.iload_n 1, 1) := by decide +kernel
theorem dX5_back_15 : decode cX5_back 15 = .ok (.ishr, 1) := by decide +kernel
theorem dX5_back_16 : decode cX5_back 16 = .ok (.iconst 1, 1) := by decide +kernel
theorem dX5_back_17 : decode cX5_back 17 = .ok (.iand, 1) := by decide +kernel
theorem dX5_back_18 : decode cX5_back 18 = .ok (.ifCond .ne 6, 3) := by decide +kernel
theorem dX5_back_21 : decode cX5_back 21 = .ok (.ldc 36, 2) := by decide +kernel
theorem dX5_back_23 : decode cX5_back 23 = .ok (.ireturn, 1) := by decide +kernel
theorem dX5_back_24 : decode cX5_back 24 = .ok (.aload_n 0, 1) := by decide +kernel
theorem dX5_back_25 : decode cX5_back 25 = .ok (.invokevirtual 69, 3) := by decide +kernel
theorem dX5_back_28 : decode cX5_back 28 = .ok (.iconst 0, 1) := by decide +kernel
theorem dX5_back_29 : decode cX5_back 29 = .ok (.istore_n 2, 1) := by decide +kernel
theorem dX5_back_30 : decode cX5_back 30 = .ok (.iload_n 2, 1) := by decide +kernel
theorem dX5_back_31 : decode cX5_back 31 = .ok (.sipush 281, 3) := by decide +kernel
theorem dX5_back_34 : decode cX5_back 34 = .ok (.if_icmp .ge 27, 3) := by decide +kernel
theorem dX5_back_37 : decode cX5_back 37 = .ok (.aload_n 0, 1) := by decide +kernel
theorem dX5_back_38 : decode cX5_back 38 = .ok (.getfield 7, 3) := by decide +kernel
theorem dX5_back_41 : decode cX5_back 41 = .ok (.iload_n 2, 1) := by decide +kernel
theorem dX5_back_42 : decode cX5_back 42 = .ok (.aload_n 0, 1) := by decide +kernel
theorem dX5_back_43 : decode cX5_back 43 = .ok (.getfield 16, 3) := by decide +kernel
theorem dX5_back_46 : decode cX5_back 46 = .ok (.sipush 281, 3) := by decide +kernel
theorem dX5_back_49 : decode cX5_back 49 = .ok (.iload_n 1, 1) := by decide +kernel
theorem dX5_back_50 : decode cX5_back 50 = .ok (.imul, 1) := by decide +kernel
theorem dX5_back_51 : decode cX5_back 51 = .ok (.iload_n 2, 1) := by decide +kernel
theorem dX5_back_52 : decode cX5_back 52 = .ok (.iadd, 1) := by decide +kernel
theorem dX5_back_53 : decode cX5_back 53 = .ok (.iaload, 1) := by decide +kernel
theorem dX5_back_54 : decode cX5_back 54 = .ok (.iastore, 1) := by decide +kernel
theorem dX5_back_55 : decode cX5_back 55 = .ok (.iinc 2 1, 3) := by decide +kernel
theorem dX5_back_58 : decode cX5_back 58 = .ok (.goto (-28), 3) := by decide +kernel
theorem dX5_back_61 : decode cX5_back 61 = .ok (.aload_n 0, 1) := by decide +kernel
theorem dX5_back_62 : decode cX5_back 62 = .ok (.getfield 7, 3) := by decide +kernel
theorem dX5_back_65 : decode cX5_back 65 = .ok (.bipush 13, 2) := by decide +kernel
theorem dX5_back_67 : decode cX5_back 67 = .ok (.iaload, 1) := by decide +kernel
theorem dX5_back_68 : decode cX5_back 68 = .ok (.ireturn, 1) := by decide +kernel
set_option maxRecDepth 20000 in
theorem ggX5_hanging_X5_hangs : GoodIn wsX5_hanging wsX5_hangs := goodIn_r _ [6, 1, 7, 8, 9, 5, 10, 11, 12, 13, 14, 15, 16, 17, 18, 19, 20, 21, 22, 23] (by decide +kernel) (by decide +kernel)
set_option maxRecDepth 20000 in
theorem gX5_hanging_X5_hangs : GoodIn wsX5_hanging (wsV RX5 62 RX5 yX5_hangs wsX5_hangs) := goodIn_app (goodIn_of _ (by decide +kernel)) ggX5_hanging_X5_hangs
theorem dX5_hanging_0 : decode cX5_hanging 0 = .ok (.iconst 0, 1) := by decide +kernel
theorem dX5_hanging_1 : decode cX5_hanging 1 = .ok (.istore_n 1, 1) := by decide +kernel
theorem dX5_hanging_2 : decode cX5_hanging 2 = .ok (.iconst 0, 1) := by decide +kernel
theorem dX5_hanging_3 : decode cX5_hanging 3 = .ok (.istore_n 2, 1) := by decide +kernel
theorem dX5_hanging_4 : decode cX5_hanging 4 = .ok (.iload_n 2, 1) := by decide +kernel
theorem dX5_hanging_5 : decode cX5_hanging 5 = .ok (.aload_n 0, 1) := by decide +kernel
theorem dX5_hanging_6 : decode cX5_hanging 6 = .ok (.getfield 7, 3) := by decide +kernel
theorem dX5_hanging_9 : decode cX5_hanging 9 = .ok (.iconst 0, 1) := by decide +kernel
theorem dX5_hanging_10 : decode cX5_hanging 10 = .ok (.iaload, 1) := by decide +kernel
theorem dX5_hanging_11 : decode cX5_hanging 11 = .ok (.if_icmp .ge 25, 3) := by decide +kernel
theorem dX5_hanging_14 : decode cX5_hanging 14 = .ok (.iload_n 1, 1) := by decide +kernel
theorem dX5_hanging_15 : decode cX5_hanging 15 = .ok (.aload_n 0, 1) := by decide +kernel
theorem dX5_hanging_16 : decode cX5_hanging 16 = .ok (.iload_n 2, 1) := by decide +kernel
theorem dX5_hanging_17 : decode cX5_hanging 17 = .ok (.invokevirtual 62, 3) := by decide +kernel
theorem dX5_hanging_20 : decode cX5_hanging 20 = .ok (.ifCond .eq 7, 3) := by decide +kernel
theorem dX5_hanging_23 : decode cX5_hanging 23 = .ok (.iconst 1, 1) := by decide +kernel
theorem dX5_hanging_24 : decode cX5_hanging 24 = .ok (.goto 4, 3) := by decide +kernel
theorem dX5_hanging_27 : decode cX5_hanging 27 = .ok (.iconst 0, 1) := by decide +kernel
theorem dX5_hanging_28 : decode cX5_hanging 28 = .ok (.iadd, 1) := by decide +kernel
theorem dX5_hanging_29 : decode cX5_hanging 29 = .ok (.istore_n 1, 1) := by decide +kernel
theorem dX5_hanging_30 : decode cX5_hanging 30 = .ok (.iinc 2 1, 3) := by decide +kernel
theorem dX5_hanging_33 : decode cX5_hanging 33 = .ok (.goto (-29), 3) := by decide +kernel
theorem dX5_hanging_36 : decode cX5_hanging 36 = .ok (.iload_n 1, 1) := by decide +kernel
theorem dX5_hanging_37 : decode cX5_hanging 37 = .ok (.ireturn, 1) := by decide +kernel
set_option maxRecDepth 20000 in
theorem ggX5_count_X5_laysRail : GoodIn wsX5_count wsX5_laysRail := goodIn_r _ [10, 1, 11, 12, 13, 9, 14, 15, 16, 17, 45, 46, 47, 48, 49, 50, 51, 52, 53, 54, 55, 56] (by decide +kernel) (by decide +kernel)
set_option maxRecDepth 20000 in
theorem gX5_count_X5_laysRail : GoodIn wsX5_count (wsV RX5 143 RX5 yX5_laysRail wsX5_laysRail) := goodIn_app (goodIn_of _ (by decide +kernel)) ggX5_count_X5_laysRail
set_option maxRecDepth 20000 in
theorem ggX5_count_X5_hanging : GoodIn wsX5_count wsX5_hanging := goodIn_r _ [21, 1, 22, 23, 24, 9, 25, 26, 27, 28, 29, 11, 45, 46, 47, 48, 49, 50, 51, 52, 53, 54, 55, 56] (by decide +kernel) (by decide +kernel)
set_option maxRecDepth 20000 in
theorem gX5_count_X5_hanging : GoodIn wsX5_count (wsV RX5 162 RX5 yX5_hanging wsX5_hanging) := goodIn_app (goodIn_of _ (by decide +kernel)) ggX5_count_X5_hanging
set_option maxRecDepth 20000 in
theorem ggX5_count_X5_order : GoodIn wsX5_count wsX5_order := goodIn_r _ [33, 1, 34, 35, 36, 9, 37, 38, 39, 40, 41, 11, 12, 13, 14, 15, 16, 17, 45, 46, 47, 48, 49, 50, 51, 52, 53, 54, 55, 56] (by decide +kernel) (by decide +kernel)
set_option maxRecDepth 20000 in
theorem gX5_count_X5_order : GoodIn wsX5_count (wsV RX5 149 RX5 yX5_order wsX5_order) := goodIn_app (goodIn_of _ (by decide +kernel)) ggX5_count_X5_order
set_option maxRecDepth 20000 in
theorem ggX5_count_X5_in : GoodIn wsX5_count wsX5_in := goodIn_r _ [44] (by decide +kernel) (by decide +kernel)
set_option maxRecDepth 20000 in
theorem gX5_count_X5_in : GoodIn wsX5_count (va_wsS RX5 37 yX5_in wsX5_in) := goodIn_app (goodIn_of _ (by decide +kernel)) ggX5_count_X5_in
theorem dX5_count_0 : decode cX5_count 0 = .ok (.aload_n 0, 1) := by decide +kernel
theorem dX5_count_1 : decode cX5_count 1 = .ok (.invokevirtual 143, 3) := by decide +kernel
theorem dX5_count_4 : decode cX5_count 4 = .ok (.iload_n 1, 1) := by decide +kernel
theorem dX5_count_5 : decode cX5_count 5 = .ok (.tableswitch 72 9 14 #[39, 47, 52, 57, 62, 67], 39) := by decide +kernel
theorem dX5_count_44 : decode cX5_count 44 = .ok (.aload_n 0, 1) := by decide +kernel
theorem dX5_count_45 : decode cX5_count 45 = .ok (.getfield 7, 3) := by decide +kernel
theorem dX5_count_48 : decode cX5_count 48 = .ok (.bipush 16, 2) := by decide +kernel
theorem dX5_count_50 : decode cX5_count 50 = .ok (.iaload, 1) := by decide +kernel
theorem dX5_count_51 : decode cX5_count 51 = .ok (.ireturn, 1) := by decide +kernel
theorem dX5_count_52 : decode cX5_count 52 = .ok (.aload_n 0, 1) := by decide +kernel
theorem dX5_count_53 : decode cX5_count 53 = .ok (.invokevirtual 162, 3) := by decide +kernel
theorem dX5_count_56 : decode cX5_count 56 = .ok (.ireturn, 1) := by decide +kernel
theorem dX5_count_57 : decode cX5_count 57 = .ok (.aload_n 0, 1) := by decide +kernel
theorem dX5_count_58 : decode cX5_count 58 = .ok (.invokevirtual 149, 3) := by decide +kernel
theorem dX5_count_61 : decode cX5_count 61 = .ok (.ireturn, 1) := by decide +kernel
theorem dX5_count_62 : decode cX5_count 62 = .ok (.aload_n 0, 1) := by decide +kernel
theorem dX5_count_63 : decode cX5_count 63 = .ok (.getfield 83, 3) := by decide +kernel
theorem dX5_count_66 : decode cX5_count 66 = .ok (.ireturn, 1) := by decide +kernel
theorem dX5_count_67 : decode cX5_count 67 = .ok (.aload_n 0, 1) := by decide +kernel
theorem dX5_count_68 : decode cX5_count 68 = .ok (.getfield 32, 3) := by decide +kernel
theorem dX5_count_71 : decode cX5_count 71 = .ok (.ireturn, 1) := by decide +kernel
theorem dX5_count_72 : decode cX5_count 72 = .ok (.aload_n 0, 1) := by decide +kernel
theorem dX5_count_73 : decode cX5_count 73 = .ok (.getfield 159, 3) := by decide +kernel
theorem dX5_count_76 : decode cX5_count 76 = .ok (.ireturn, 1) := by decide +kernel
theorem dX5_count_77 : decode cX5_count 77 = .ok (.iload_n 1, 1) := by decide +kernel
theorem dX5_count_78 : decode cX5_count 78 = .ok (.iconst 0, 1) := by decide +kernel
theorem dX5_count_79 : decode cX5_count 79 = .ok (.bipush 8, 2) := by decide +kernel
theorem dX5_count_81 : decode cX5_count 81 = .ok (.invokestatic 37, 3) := by decide +kernel
theorem dX5_count_84 : decode cX5_count 84 = .ok (.ifCond .eq 12, 3) := by decide +kernel
theorem dX5_count_87 : decode cX5_count 87 = .ok (.aload_n 0, 1) := by decide +kernel
theorem dX5_count_88 : decode cX5_count 88 = .ok (.getfield 7, 3) := by decide +kernel
theorem dX5_count_91 : decode cX5_count 91 = .ok (.iload_n 1, 1) := by decide +kernel
theorem dX5_count_92 : decode cX5_count 92 = .ok (.iaload, 1) := by decide +kernel
theorem dX5_count_93 : decode cX5_count 93 = .ok (.goto 5, 3) := by decide +kernel
theorem dX5_count_96 : decode cX5_count 96 = .ok (.ldc 68, 2) := by decide +kernel
theorem dX5_count_98 : decode cX5_count 98 = .ok (.ireturn, 1) := by decide +kernel
set_option maxRecDepth 20000 in
theorem ggX5_sleeper_X5_isSleeper : GoodIn wsX5_sleeper wsX5_isSleeper := goodIn_r _ [9, 2, 10, 11, 8, 12, 47, 48, 49, 50, 51, 52, 53, 54, 55, 56, 57, 58] (by decide +kernel) (by decide +kernel)
set_option maxRecDepth 20000 in
theorem gX5_sleeper_X5_isSleeper : GoodIn wsX5_sleeper (wsV RX5 58 RX5 yX5_isSleeper wsX5_isSleeper) := goodIn_app (goodIn_of _ (by decide +kernel)) ggX5_sleeper_X5_isSleeper
set_option maxRecDepth 20000 in
theorem ggX5_sleeper_X5_in : GoodIn wsX5_sleeper wsX5_in := goodIn_r _ [12] (by decide +kernel) (by decide +kernel)
set_option maxRecDepth 20000 in
theorem gX5_sleeper_X5_in : GoodIn wsX5_sleeper (va_wsS RX5 37 yX5_in wsX5_in) := goodIn_app (goodIn_of _ (by decide +kernel)) ggX5_sleeper_X5_in
set_option maxRecDepth 20000 in
theorem ggX5_sleeper_X5_laysRail : GoodIn wsX5_sleeper wsX5_laysRail := goodIn_r _ [16, 2, 3, 17, 18, 8, 19, 20, 21, 22, 47, 48, 49, 50, 51, 52, 53, 54, 55, 56, 57, 58] (by decide +kernel) (by decide +kernel)
set_option maxRecDepth 20000 in
theorem gX5_sleeper_X5_laysRail : GoodIn wsX5_sleeper (wsV RX5 143 RX5 yX5_laysRail wsX5_laysRail) := goodIn_app (goodIn_of _ (by decide +kernel)) ggX5_sleeper_X5_laysRail
set_option maxRecDepth 20000 in
theorem ggX5_sleeper_X5_voidAt : GoodIn wsX5_sleeper wsX5_voidAt := goodIn_r _ [26, 3, 2, 47, 48, 49, 50, 51, 52, 53, 54, 55, 56, 57, 58] (by decide +kernel) (by decide +kernel)
set_option maxRecDepth 20000 in
theorem gX5_sleeper_X5_voidAt : GoodIn wsX5_sleeper (wsV RX5 49 RX5 yX5_voidAt wsX5_voidAt) := goodIn_app (goodIn_of _ (by decide +kernel)) ggX5_sleeper_X5_voidAt
set_option maxRecDepth 20000 in
theorem ggX5_sleeper_X5_hangs : GoodIn wsX5_sleeper wsX5_hangs := goodIn_r _ [30, 2, 23, 24, 25, 8, 26, 3, 47, 48, 49, 50, 51, 52, 53, 54, 55, 56, 57, 58] (by decide +kernel) (by decide +kernel)
set_option maxRecDepth 20000 in
theorem gX5_sleeper_X5_hangs : GoodIn wsX5_sleeper (wsV RX5 62 RX5 yX5_hangs wsX5_hangs) := goodIn_app (goodIn_of _ (by decide +kernel)) ggX5_sleeper_X5_hangs
set_option maxRecDepth 20000 in
theorem ggX5_sleeper_X5_laysLoads : GoodIn wsX5_sleeper wsX5_laysLoads := goodIn_r _ [34, 2, 4, 27, 28, 29, 8, 30, 23, 24, 25, 26, 3, 35, 36, 37, 38, 5, 6, 7, 9, 10, 11, 12, 47, 48, 49, 50, 51, 52, 53, 54, 55, 56, 57, 58] (by decide +kernel) (by decide +kernel)
set_option maxRecDepth 20000 in
theorem gX5_sleeper_X5_laysLoads : GoodIn wsX5_sleeper (wsV RX5 136 RX5 yX5_laysLoads wsX5_laysLoads) := goodIn_app (goodIn_of _ (by decide +kernel)) ggX5_sleeper_X5_laysLoads
set_option maxRecDepth 20000 in
theorem ggX5_sleeper_X5_defect : GoodIn wsX5_sleeper wsX5_defect := goodIn_r _ [42, 2, 3, 47, 48, 49, 50, 51, 52, 53, 54, 55, 56, 57, 58] (by decide +kernel) (by decide +kernel)
set_option maxRecDepth 20000 in
theorem gX5_sleeper_X5_defect : GoodIn wsX5_sleeper (wsV RX5 52 RX5 yX5_defect wsX5_defect) := goodIn_app (goodIn_of _ (by decide +kernel)) ggX5_sleeper_X5_defect
set_option maxRecDepth 20000 in
theorem ggX5_sleeper_X5_orderAt : GoodIn wsX5_sleeper wsX5_orderAt := goodIn_r _ [46, 2, 39, 40, 41, 8, 42, 3, 17, 18, 19, 47, 48, 49, 50, 51, 52, 53, 54, 55, 56, 57, 58] (by decide +kernel) (by decide +kernel)
set_option maxRecDepth 20000 in
theorem gX5_sleeper_X5_orderAt : GoodIn wsX5_sleeper (wsV RX5 55 RX5 yX5_orderAt wsX5_orderAt) := goodIn_app (goodIn_of _ (by decide +kernel)) ggX5_sleeper_X5_orderAt
theorem dX5_sleeper_0 : decode cX5_sleeper 0 = .ok (.aload_n 0, 1) := by decide +kernel
theorem dX5_sleeper_1 : decode cX5_sleeper 1 = .ok (.iload_n 1, 1) := by decide +kernel
theorem dX5_sleeper_2 : decode cX5_sleeper 2 = .ok (.invokevirtual 58, 3) := by decide +kernel
theorem dX5_sleeper_5 : decode cX5_sleeper 5 = .ok (.ifCond .eq 13, 3) := by decide +kernel
theorem dX5_sleeper_8 : decode cX5_sleeper 8 = .ok (.iload_n 2, 1) := by decide +kernel
theorem dX5_sleeper_9 : decode cX5_sleeper 9 = .ok (.iconst 0, 1) := by decide +kernel
theorem dX5_sleeper_10 : decode cX5_sleeper 10 = .ok (.bipush 9, 2) := by decide +kernel
theorem dX5_sleeper_12 : decode cX5_sleeper 12 = .ok (.invokestatic 37, 3) := by decide +kernel
theorem dX5_sleeper_15 : decode cX5_sleeper 15 = .ok (.ifCond .ne 6, 3) := by decide +kernel
theorem dX5_sleeper_18 : decode cX5_sleeper 18 = .ok (.ldc 68, 2) := by decide +kernel
theorem dX5_sleeper_20 : decode cX5_sleeper 20 = .ok (.ireturn, 1) := by decide +kernel
theorem dX5_sleeper_21 : decode cX5_sleeper 21 = .ok (.aload_n 0, 1) := by decide +kernel
theorem dX5_sleeper_22 : decode cX5_sleeper 22 = .ok (.invokevirtual 143, 3) := by decide +kernel
theorem dX5_sleeper_25 : decode cX5_sleeper 25 = .ok (.iload_n 2, 1) := by decide +kernel
theorem dX5_sleeper_26 : decode cX5_sleeper 26 = .ok (.tableswitch 131 0 8 #[50, 60, 70, 77, 83, 97, 108, 114, 120], 50) := by decide +kernel
theorem dX5_sleeper_76 : decode cX5_sleeper 76 = .ok (.aload_n 0, 1) := by decide +kernel
theorem dX5_sleeper_77 : decode cX5_sleeper 77 = .ok (.getfield 7, 3) := by decide +kernel
theorem dX5_sleeper_80 : decode cX5_sleeper 80 = .ok (.bipush 41, 2) := by decide +kernel
theorem dX5_sleeper_82 : decode cX5_sleeper 82 = .ok (.iload_n 1, 1) := by decide +kernel
theorem dX5_sleeper_83 : decode cX5_sleeper 83 = .ok (.iadd, 1) := by decide +kernel
theorem dX5_sleeper_84 : decode cX5_sleeper 84 = .ok (.iaload, 1) := by decide +kernel
theorem dX5_sleeper_85 : decode cX5_sleeper 85 = .ok (.ireturn, 1) := by decide +kernel
theorem dX5_sleeper_86 : decode cX5_sleeper 86 = .ok (.aload_n 0, 1) := by decide +kernel
theorem dX5_sleeper_87 : decode cX5_sleeper 87 = .ok (.getfield 7, 3) := by decide +kernel
theorem dX5_sleeper_90 : decode cX5_sleeper 90 = .ok (.bipush 101, 2) := by decide +kernel
theorem dX5_sleeper_92 : decode cX5_sleeper 92 = .ok (.iload_n 1, 1) := by decide +kernel
theorem dX5_sleeper_93 : decode cX5_sleeper 93 = .ok (.iadd, 1) := by decide +kernel
theorem dX5_sleeper_94 : decode cX5_sleeper 94 = .ok (.iaload, 1) := by decide +kernel
theorem dX5_sleeper_95 : decode cX5_sleeper 95 = .ok (.ireturn, 1) := by decide +kernel
theorem dX5_sleeper_96 : decode cX5_sleeper 96 = .ok (.aload_n 0, 1) := by decide +kernel
theorem dX5_sleeper_97 : decode cX5_sleeper 97 = .ok (.getfield 26, 3) := by decide +kernel
theorem dX5_sleeper_100 : decode cX5_sleeper 100 = .ok (.iload_n 1, 1) := by decide +kernel
theorem dX5_sleeper_101 : decode cX5_sleeper 101 = .ok (.iaload, 1) := by decide +kernel
theorem dX5_sleeper_102 : decode cX5_sleeper 102 = .ok (.ireturn, 1) := by decide +kernel
theorem dX5_sleeper_103 : decode cX5_sleeper 103 = .ok (.aload_n 0, 1) := by decide +kernel
theorem dX5_sleeper_104 : decode cX5_sleeper 104 = .ok (.iload_n 1, 1) := by decide +kernel
theorem dX5_sleeper_105 : decode cX5_sleeper 105 = .ok (.invokevirtual 49, 3) := by decide +kernel
theorem dX5_sleeper_108 : decode cX5_sleeper 108 = .ok (.ireturn, 1) := by decide +kernel
theorem dX5_sleeper_109 : decode cX5_sleeper 109 = .ok (.aload_n 0, 1) := by decide +kernel
theorem dX5_sleeper_110 : decode cX5_sleeper 110 = .ok (.iload_n 1, 1) := by decide +kernel
theorem dX5_sleeper_111 : decode cX5_sleeper 111 = .ok (.invokevirtual 62, 3) := by decide +kernel
theorem dX5_sleeper_114 : decode cX5_sleeper 114 = .ok (.ifCond .eq 7, 3) := by decide +kernel
theorem dX5_sleeper_117 : decode cX5_sleeper 117 = .ok (.iconst 1, 1) := by decide +kernel
theorem dX5_sleeper_118 : decode cX5_sleeper 118 = .ok (.goto 4, 3) := by decide +kernel
theorem dX5_sleeper_121 : decode cX5_sleeper 121 = .ok (.iconst 0, 1) := by decide +kernel
theorem dX5_sleeper_122 : decode cX5_sleeper 122 = .ok (.ireturn, 1) := by decide +kernel
theorem dX5_sleeper_123 : decode cX5_sleeper 123 = .ok (.aload_n 0, 1) := by decide +kernel
theorem dX5_sleeper_124 : decode cX5_sleeper 124 = .ok (.invokevirtual 136, 3) := by decide +kernel
theorem dX5_sleeper_127 : decode cX5_sleeper 127 = .ok (.aload_n 0, 1) := by decide +kernel
theorem dX5_sleeper_128 : decode cX5_sleeper 128 = .ok (.getfield 29, 3) := by decide +kernel
theorem dX5_sleeper_131 : decode cX5_sleeper 131 = .ok (.iload_n 1, 1) := by decide +kernel
theorem dX5_sleeper_132 : decode cX5_sleeper 132 = .ok (.iaload, 1) := by decide +kernel
theorem dX5_sleeper_133 : decode cX5_sleeper 133 = .ok (.ireturn, 1) := by decide +kernel
theorem dX5_sleeper_134 : decode cX5_sleeper 134 = .ok (.aload_n 0, 1) := by decide +kernel
theorem dX5_sleeper_135 : decode cX5_sleeper 135 = .ok (.iload_n 1, 1) := by decide +kernel
theorem dX5_sleeper_136 : decode cX5_sleeper 136 = .ok (.invokevirtual 52, 3) := by decide +kernel
theorem dX5_sleeper_139 : decode cX5_sleeper 139 = .ok (.ireturn, 1) := by decide +kernel
theorem dX5_sleeper_140 : decode cX5_sleeper 140 = .ok (.aload_n 0, 1) := by decide +kernel
theorem dX5_sleeper_141 : decode cX5_sleeper 141 = .ok (.iload_n 1, 1) := by decide +kernel
theorem dX5_sleeper_142 : decode cX5_sleeper 142 = .ok (.invokevirtual 55, 3) := by decide +kernel
theorem dX5_sleeper_145 : decode cX5_sleeper 145 = .ok (.ireturn, 1) := by decide +kernel
theorem dX5_sleeper_146 : decode cX5_sleeper 146 = .ok (.aload_n 0, 1) := by decide +kernel
theorem dX5_sleeper_147 : decode cX5_sleeper 147 = .ok (.getfield 7, 3) := by decide +kernel
theorem dX5_sleeper_150 : decode cX5_sleeper 150 = .ok (.sipush 161, 3) := by decide +kernel
theorem dX5_sleeper_153 : decode cX5_sleeper 153 = .ok (.iload_n 1, 1) := by decide +kernel
theorem dX5_sleeper_154 : decode cX5_sleeper 154 = .ok (.iadd, 1) := by decide +kernel
theorem dX5_sleeper_155 : decode cX5_sleeper 155 = .ok (.iaload, 1) := by decide +kernel
theorem dX5_sleeper_156 : decode cX5_sleeper 156 = .ok (.ireturn, 1) := by decide +kernel
theorem dX5_sleeper_157 : decode cX5_sleeper 157 = .ok (.aload_n 0, 1) := by decide +kernel
theorem dX5_sleeper_158 : decode cX5_sleeper 158 = .ok (.getfield 7, 3) := by decide +kernel
theorem dX5_sleeper_161 : decode cX5_sleeper 161 = .ok (.sipush 221, 3) := by decide +kernel
theorem dX5_sleeper_164 : decode cX5_sleeper 164 = .ok (.iload_n 1, 1) := by decide +kernel
theorem dX5_sleeper_165 : decode cX5_sleeper 165 = .ok (.iadd, 1) := by decide +kernel
theorem dX5_sleeper_166 : decode cX5_sleeper 166 = .ok (.iaload, 1) := by decide +kernel
theorem dX5_sleeper_167 : decode cX5_sleeper 167 = .ok (.ireturn, 1) := by decide +kernel
set_option maxRecDepth 20000 in
theorem ggX5_job_X5_in : GoodIn wsX5_job wsX5_in := goodIn_r _ [7] (by decide +kernel) (by decide +kernel)
set_option maxRecDepth 20000 in
theorem gX5_job_X5_in : GoodIn wsX5_job (va_wsS RX5 37 yX5_in wsX5_in) := goodIn_app (goodIn_of _ (by decide +kernel)) ggX5_job_X5_in
set_option maxRecDepth 20000 in
theorem ggX5_job_X5_jobOf : GoodIn wsX5_job wsX5_jobOf := goodIn_r _ [11, 2, 12, 13, 14, 15, 16, 17, 18, 19, 20, 21, 22, 23] (by decide +kernel) (by decide +kernel)
set_option maxRecDepth 20000 in
theorem gX5_job_X5_jobOf : GoodIn wsX5_job (wsV RX5 114 RX5 yX5_jobOf wsX5_jobOf) := goodIn_app (goodIn_of _ (by decide +kernel)) ggX5_job_X5_jobOf
theorem dX5_job_0 : decode cX5_job 0 = .ok (.iload_n 1, 1) := by decide +kernel
theorem dX5_job_1 : decode cX5_job 1 = .ok (.ifCond .lt 12, 3) := by decide +kernel
theorem dX5_job_4 : decode cX5_job 4 = .ok (.iload_n 2, 1) := by decide +kernel
theorem dX5_job_5 : decode cX5_job 5 = .ok (.iconst 0, 1) := by decide +kernel
theorem dX5_job_6 : decode cX5_job 6 = .ok (.iconst 3, 1) := by decide +kernel
theorem dX5_job_7 : decode cX5_job 7 = .ok (.invokestatic 37, 3) := by decide +kernel
theorem dX5_job_10 : decode cX5_job 10 = .ok (.ifCond .ne 6, 3) := by decide +kernel
theorem dX5_job_13 : decode cX5_job 13 = .ok (.ldc 68, 2) := by decide +kernel
theorem dX5_job_15 : decode cX5_job 15 = .ok (.ireturn, 1) := by decide +kernel
theorem dX5_job_16 : decode cX5_job 16 = .ok (.iload_n 1, 1) := by decide +kernel
theorem dX5_job_17 : decode cX5_job 17 = .ok (.aload_n 0, 1) := by decide +kernel
theorem dX5_job_18 : decode cX5_job 18 = .ok (.getfield 7, 3) := by decide +kernel
theorem dX5_job_21 : decode cX5_job 21 = .ok (.bipush 16, 2) := by decide +kernel
theorem dX5_job_23 : decode cX5_job 23 = .ok (.iaload, 1) := by decide +kernel
theorem dX5_job_24 : decode cX5_job 24 = .ok (.if_icmp .ge 12, 3) := by decide +kernel
theorem dX5_job_27 : decode cX5_job 27 = .ok (.aload_n 0, 1) := by decide +kernel
theorem dX5_job_28 : decode cX5_job 28 = .ok (.iload_n 1, 1) := by decide +kernel
theorem dX5_job_29 : decode cX5_job 29 = .ok (.iload_n 2, 1) := by decide +kernel
theorem dX5_job_30 : decode cX5_job 30 = .ok (.invokevirtual 114, 3) := by decide +kernel
theorem dX5_job_33 : decode cX5_job 33 = .ok (.goto 5, 3) := by decide +kernel
theorem dX5_job_36 : decode cX5_job 36 = .ok (.ldc 165, 2) := by decide +kernel
theorem dX5_job_38 : decode cX5_job 38 = .ok (.ireturn, 1) := by decide +kernel
set_option maxRecDepth 20000 in
theorem ggX5_account_X5_in : GoodIn wsX5_account wsX5_in := goodIn_r _ [6] (by decide +kernel) (by decide +kernel)
set_option maxRecDepth 20000 in
theorem gX5_account_X5_in : GoodIn wsX5_account (va_wsS RX5 37 yX5_in wsX5_in) := goodIn_app (goodIn_of _ (by decide +kernel)) ggX5_account_X5_in
theorem dX5_account_0 : decode cX5_account 0 = .ok (.iload_n 1, 1) := by decide +kernel
theorem dX5_account_1 : decode cX5_account 1 = .ok (.iconst 0, 1) := by decide +kernel
theorem dX5_account_2 : decode cX5_account 2 = .ok (.bipush 6, 2) := by decide +kernel
theorem dX5_account_4 : decode cX5_account 4 = .ok (.invokestatic 37, 3) := by decide +kernel
theorem dX5_account_7 : decode cX5_account 7 = .ok (.ifCond .eq 15, 3) := by decide +kernel
theorem dX5_account_10 : decode cX5_account 10 = .ok (.aload_n 0, 1) := by decide +kernel
theorem dX5_account_11 : decode cX5_account 11 = .ok (.getfield 7, 3) := by decide +kernel
theorem dX5_account_14 : decode cX5_account 14 = .ok (.bipush 9, 2) := by decide +kernel
theorem dX5_account_16 : decode cX5_account 16 = .ok (.iload_n 1, 1) := by decide +kernel
theorem dX5_account_17 : decode cX5_account 17 = .ok (.iadd, 1) := by decide +kernel
theorem dX5_account_18 : decode cX5_account 18 = .ok (.iaload, 1) := by decide +kernel
theorem dX5_account_19 : decode cX5_account 19 = .ok (.goto 5, 3) := by decide +kernel
theorem dX5_account_22 : decode cX5_account 22 = .ok (.ldc 68, 2) := by decide +kernel
theorem dX5_account_24 : decode cX5_account 24 = .ok (.ireturn, 1) := by decide +kernel
set_option maxRecDepth 20000 in
theorem ggX5_rail_X5_isSleeper : GoodIn wsX5_rail wsX5_isSleeper := goodIn_r _ [8, 3, 9, 10, 7, 11, 22, 23, 24, 25, 26, 27, 28, 29, 30, 31, 32, 33] (by decide +kernel) (by decide +kernel)
set_option maxRecDepth 20000 in
theorem gX5_rail_X5_isSleeper : GoodIn wsX5_rail (wsV RX5 58 RX5 yX5_isSleeper wsX5_isSleeper) := goodIn_app (goodIn_of _ (by decide +kernel)) ggX5_rail_X5_isSleeper
set_option maxRecDepth 20000 in
theorem ggX5_rail_X5_in : GoodIn wsX5_rail wsX5_in := goodIn_r _ [11] (by decide +kernel) (by decide +kernel)
set_option maxRecDepth 20000 in
theorem gX5_rail_X5_in : GoodIn wsX5_rail (va_wsS RX5 37 yX5_in wsX5_in) := goodIn_app (goodIn_of _ (by decide +kernel)) ggX5_rail_X5_in
set_option maxRecDepth 20000 in
theorem ggX5_rail_X5_laysRail : GoodIn wsX5_rail wsX5_laysRail := goodIn_r _ [15, 3, 2, 16, 17, 7, 18, 19, 20, 21, 22, 23, 24, 25, 26, 27, 28, 29, 30, 31, 32, 33] (by decide +kernel) (by decide +kernel)
set_option maxRecDepth 20000 in
theorem gX5_rail_X5_laysRail : GoodIn wsX5_rail (wsV RX5 143 RX5 yX5_laysRail wsX5_laysRail) := goodIn_app (goodIn_of _ (by decide +kernel)) ggX5_rail_X5_laysRail
set_option maxRecDepth 20000 in
theorem ggX5_rail_X5_greater : GoodIn wsX5_rail wsX5_greater := goodIn_r _ [21] (by decide +kernel) (by decide +kernel)
set_option maxRecDepth 20000 in
theorem gX5_rail_X5_greater : GoodIn wsX5_rail (va_wsS RX5 45 yX5_greater wsX5_greater) := goodIn_app (goodIn_of _ (by decide +kernel)) ggX5_rail_X5_greater
theorem dX5_rail_0 : decode cX5_rail 0 = .ok (.aload_n 0, 1) := by decide +kernel
theorem dX5_rail_1 : decode cX5_rail 1 = .ok (.iload_n 1, 1) := by decide +kernel
theorem dX5_rail_2 : decode cX5_rail 2 = .ok (.invokevirtual 58, 3) := by decide +kernel
theorem dX5_rail_5 : decode cX5_rail 5 = .ok (.ifCond .eq 12, 3) := by decide +kernel
theorem dX5_rail_8 : decode cX5_rail 8 = .ok (.iload_n 2, 1) := by decide +kernel
theorem dX5_rail_9 : decode cX5_rail 9 = .ok (.iconst 0, 1) := by decide +kernel
theorem dX5_rail_10 : decode cX5_rail 10 = .ok (.iconst 1, 1) := by decide +kernel
theorem dX5_rail_11 : decode cX5_rail 11 = .ok (.invokestatic 37, 3) := by decide +kernel
theorem dX5_rail_14 : decode cX5_rail 14 = .ok (.ifCond .ne 6, 3) := by decide +kernel
theorem dX5_rail_17 : decode cX5_rail 17 = .ok (.ldc 68, 2) := by decide +kernel
theorem dX5_rail_19 : decode cX5_rail 19 = .ok (.ireturn, 1) := by decide +kernel
theorem dX5_rail_20 : decode cX5_rail 20 = .ok (.iload_n 2, 1) := by decide +kernel
theorem dX5_rail_21 : decode cX5_rail 21 = .ok (.iconst 1, 1) := by decide +kernel
theorem dX5_rail_22 : decode cX5_rail 22 = .ok (.if_icmp .ne 14, 3) := by decide +kernel
theorem dX5_rail_25 : decode cX5_rail 25 = .ok (.aload_n 0, 1) := by decide +kernel
theorem dX5_rail_26 : decode cX5_rail 26 = .ok (.invokevirtual 143, 3) := by decide +kernel
theorem dX5_rail_29 : decode cX5_rail 29 = .ok (.aload_n 0, 1) := by decide +kernel
theorem dX5_rail_30 : decode cX5_rail 30 = .ok (.getfield 26, 3) := by decide +kernel
theorem dX5_rail_33 : decode cX5_rail 33 = .ok (.iload_n 1, 1) := by decide +kernel
theorem dX5_rail_34 : decode cX5_rail 34 = .ok (.iaload, 1) := by decide +kernel
theorem dX5_rail_35 : decode cX5_rail 35 = .ok (.ireturn, 1) := by decide +kernel
theorem dX5_rail_36 : decode cX5_rail 36 = .ok (.iconst 0, 1) := by decide +kernel
theorem dX5_rail_37 : decode cX5_rail 37 = .ok (.istore_n 3, 1) := by decide +kernel
theorem dX5_rail_38 : decode cX5_rail 38 = .ok (.iload_n 3, 1) := by decide +kernel
theorem dX5_rail_39 : decode cX5_rail 39 = .ok (.aload_n 0, 1) := by decide +kernel
theorem dX5_rail_40 : decode cX5_rail 40 = .ok (.getfield 7, 3) := by decide +kernel
theorem dX5_rail_43 : decode cX5_rail 43 = .ok (.iconst 0, 1) := by decide +kernel
theorem dX5_rail_44 : decode cX5_rail 44 = .ok (.iaload, 1) := by decide +kernel
theorem dX5_rail_45 : decode cX5_rail 45 = .ok (.if_icmp .ge 56, 3) := by decide +kernel
theorem dX5_rail_48 : decode cX5_rail 48 = .ok (.aload_n 0, 1) := by decide +kernel
theorem dX5_rail_49 : decode cX5_rail 49 = .ok (.getfield 26, 3) := by decide +kernel
theorem dX5_rail_52 : decode cX5_rail 52 = .ok (.iload_n 3, 1) := by decide +kernel
theorem dX5_rail_53 : decode cX5_rail 53 = .ok (.iload_n 3, 1) := by decide +kernel
theorem dX5_rail_54 : decode cX5_rail 54 = .ok (.ifCond .ne 13, 3) := by decide +kernel
theorem dX5_rail_57 : decode cX5_rail 57 = .ok (.aload_n 0, 1) := by decide +kernel
theorem dX5_rail_58 : decode cX5_rail 58 = .ok (.getfield 7, 3) := by decide +kernel
theorem dX5_rail_61 : decode cX5_rail 61 = .ok (.bipush 41, 2) := by decide +kernel
theorem dX5_rail_63 : decode cX5_rail 63 = .ok (.iaload, 1) := by decide +kernel
theorem dX5_rail_64 : decode cX5_rail 64 = .ok (.goto 30, 3) := by decide +kernel
theorem dX5_rail_67 : decode cX5_rail 67 = .ok (.aload_n 0, 1) := by decide +kernel
theorem dX5_rail_68 : decode cX5_rail 68 = .ok (.getfield 7, 3) := by decide +kernel
theorem dX5_rail_71 : decode cX5_rail 71 = .ok (.bipush 41, 2) := by decide +kernel
theorem dX5_rail_73 : decode cX5_rail 73 = .ok (.iload_n 3, 1) := by decide +kernel
theorem dX5_rail_74 : decode cX5_rail 74 = .ok (.iadd, 1) := by decide +kernel
theorem dX5_rail_75 : decode cX5_rail 75 = .ok (.iaload, 1) := by decide +kernel
theorem dX5_rail_76 : decode cX5_rail 76 = .ok (.aload_n 0, 1) := by decide +kernel
theorem dX5_rail_77 : decode cX5_rail 77 = .ok (.getfield 26, 3) := by decide +kernel
theorem dX5_rail_80 : decode cX5_rail 80 = .ok (.iload_n 3, 1) := by decide +kernel
theorem dX5_rail_81 : decode cX5_rail 81 = .ok (.iconst 1, 1) := by decide +kernel
theorem dX5_rail_82 : decode cX5_rail 82 = .ok (.isub, 1) := by decide +kernel
theorem dX5_rail_83 : decode cX5_rail 83 = .ok (.iaload, 1) := by decide +kernel
theorem dX5_rail_84 : decode cX5_rail 84 = .ok (.aload_n 0, 1) := by decide +kernel
theorem dX5_rail_85 : decode cX5_rail 85 = .ok (.getfield 7, 3) := by decide +kernel
theorem dX5_rail_88 : decode cX5_rail 88 = .ok (.iconst 1, 1) := by decide +kernel
theorem dX5_rail_89 : decode cX5_rail 89 = .ok (.iaload, 1) := by decide +kernel
theorem dX5_rail_90 : decode cX5_rail 90 = .ok (.isub, 1) := by decide +kernel
theorem dX5_rail_91 : decode cX5_rail 91 = .ok (.invokestatic 45, 3) := by decide +kernel
theorem dX5_rail_94 : decode cX5_rail 94 = .ok (.iastore, 1) := by decide +kernel
theorem dX5_rail_95 : decode cX5_rail 95 = .ok (.iinc 3 1, 3) := by decide +kernel
theorem dX5_rail_98 : decode cX5_rail 98 = .ok (.goto (-60), 3) := by decide +kernel
theorem dX5_rail_101 : decode cX5_rail 101 = .ok (.aload_n 0, 1) := by decide +kernel
theorem dX5_rail_102 : decode cX5_rail 102 = .ok (.getfield 7, 3) := by decide +kernel
theorem dX5_rail_105 : decode cX5_rail 105 = .ok (.iconst 0, 1) := by decide +kernel
theorem dX5_rail_106 : decode cX5_rail 106 = .ok (.iaload, 1) := by decide +kernel
theorem dX5_rail_107 : decode cX5_rail 107 = .ok (.iconst 2, 1) := by decide +kernel
theorem dX5_rail_108 : decode cX5_rail 108 = .ok (.isub, 1) := by decide +kernel
theorem dX5_rail_109 : decode cX5_rail 109 = .ok (.istore_n 3, 1) := by decide +kernel
theorem dX5_rail_110 : decode cX5_rail 110 = .ok (.iload_n 3, 1) := by decide +kernel
theorem dX5_rail_111 : decode cX5_rail 111 = .ok (.ifCond .lt 39, 3) := by decide +kernel
theorem dX5_rail_114 : decode cX5_rail 114 = .ok (.aload_n 0, 1) := by decide +kernel
theorem dX5_rail_115 : decode cX5_rail 115 = .ok (.getfield 26, 3) := by decide +kernel
theorem dX5_rail_118 : decode cX5_rail 118 = .ok (.iload_n 3, 1) := by decide +kernel
theorem dX5_rail_119 : decode cX5_rail 119 = .ok (.aload_n 0, 1) := by decide +kernel
theorem dX5_rail_120 : decode cX5_rail 120 = .ok (.getfield 26, 3) := by decide +kernel
theorem dX5_rail_123 : decode cX5_rail 123 = .ok (.iload_n 3, 1) := by decide +kernel
theorem dX5_rail_124 : decode cX5_rail 124 = .ok (.iaload, 1) := by decide +kernel
theorem dX5_rail_125 : decode cX5_rail 125 = .ok (.aload_n 0, 1) := by decide +kernel
theorem dX5_rail_126 : decode cX5_rail 126 = .ok (.getfield 26, 3) := by decide +kernel
theorem dX5_rail_129 : decode cX5_rail 129 = .ok (.iload_n 3, 1) := by decide +kernel
theorem dX5_rail_130 : decode cX5_rail 130 = .ok (.iconst 1, 1) := by decide +kernel
theorem dX5_rail_131 : decode cX5_rail 131 = .ok (.iadd, 1) := by decide +kernel
theorem dX5_rail_132 : decode cX5_rail 132 = .ok (.iaload, 1) := by decide +kernel
theorem dX5_rail_133 : decode cX5_rail 133 = .ok (.aload_n 0, 1) := by decide +kernel
theorem dX5_rail_134 : decode cX5_rail 134 = .ok (.getfield 7, 3) := by decide +kernel
theorem dX5_rail_137 : decode cX5_rail 137 = .ok (.iconst 1, 1) := by decide +kernel
theorem dX5_rail_138 : decode cX5_rail 138 = .ok (.iaload, 1) := by decide +kernel
theorem dX5_rail_139 : decode cX5_rail 139 = .ok (.isub, 1) := by decide +kernel
theorem dX5_rail_140 : decode cX5_rail 140 = .ok (.invokestatic 45, 3) := by decide +kernel
theorem dX5_rail_143 : decode cX5_rail 143 = .ok (.iastore, 1) := by decide +kernel
theorem dX5_rail_144 : decode cX5_rail 144 = .ok (.iinc 3 (-1), 3) := by decide +kernel
theorem dX5_rail_147 : decode cX5_rail 147 = .ok (.goto (-37), 3) := by decide +kernel
theorem dX5_rail_150 : decode cX5_rail 150 = .ok (.aload_n 0, 1) := by decide +kernel
theorem dX5_rail_151 : decode cX5_rail 151 = .ok (.getfield 26, 3) := by decide +kernel
theorem dX5_rail_154 : decode cX5_rail 154 = .ok (.iload_n 1, 1) := by decide +kernel
theorem dX5_rail_155 : decode cX5_rail 155 = .ok (.iaload, 1) := by decide +kernel
theorem dX5_rail_156 : decode cX5_rail 156 = .ok (.ireturn, 1) := by decide +kernel
set_option maxRecDepth 20000 in
theorem ggX5_why_X5_in : GoodIn wsX5_why wsX5_in := goodIn_r _ [7] (by decide +kernel) (by decide +kernel)
set_option maxRecDepth 20000 in
theorem gX5_why_X5_in : GoodIn wsX5_why (va_wsS RX5 37 yX5_in wsX5_in) := goodIn_app (goodIn_of _ (by decide +kernel)) ggX5_why_X5_in
set_option maxRecDepth 20000 in
theorem ggX5_why_X5_laysRail : GoodIn wsX5_why wsX5_laysRail := goodIn_r _ [11, 3, 12, 13, 14, 6, 15, 16, 17, 18, 23, 24, 25, 26, 27, 28, 29, 30, 31, 32, 33, 34] (by decide +kernel) (by decide +kernel)
set_option maxRecDepth 20000 in
theorem gX5_why_X5_laysRail : GoodIn wsX5_why (wsV RX5 143 RX5 yX5_laysRail wsX5_laysRail) := goodIn_app (goodIn_of _ (by decide +kernel)) ggX5_why_X5_laysRail
set_option maxRecDepth 20000 in
theorem ggX5_why_X5_defect : GoodIn wsX5_why wsX5_defect := goodIn_r _ [22, 3, 12, 23, 24, 25, 26, 27, 28, 29, 30, 31, 32, 33, 34] (by decide +kernel) (by decide +kernel)
set_option maxRecDepth 20000 in
theorem gX5_why_X5_defect : GoodIn wsX5_why (wsV RX5 52 RX5 yX5_defect wsX5_defect) := goodIn_app (goodIn_of _ (by decide +kernel)) ggX5_why_X5_defect
set_option maxRecDepth 20000 in
theorem ggX5_why_X5_size : GoodIn wsX5_why wsX5_size := goodIn_r _ [15] (by decide +kernel) (by decide +kernel)
set_option maxRecDepth 20000 in
theorem gX5_why_X5_size : GoodIn wsX5_why (va_wsS RX5 41 yX5_size wsX5_size) := goodIn_app (goodIn_of _ (by decide +kernel)) ggX5_why_X5_size
theorem dX5_why_0 : decode cX5_why 0 = .ok (.iload_n 1, 1) := by decide +kernel
theorem dX5_why_1 : decode cX5_why 1 = .ok (.iconst 0, 1) := by decide +kernel
theorem dX5_why_2 : decode cX5_why 2 = .ok (.iconst 1, 1) := by decide +kernel
theorem dX5_why_3 : decode cX5_why 3 = .ok (.invokestatic 37, 3) := by decide +kernel
theorem dX5_why_6 : decode cX5_why 6 = .ok (.ifCond .ne 6, 3) := by decide +kernel
theorem dX5_why_9 : decode cX5_why 9 = .ok (.ldc 68, 2) := by decide +kernel
theorem dX5_why_11 : decode cX5_why 11 = .ok (.ireturn, 1) := by decide +kernel
theorem dX5_why_12 : decode cX5_why 12 = .ok (.aload_n 0, 1) := by decide +kernel
theorem dX5_why_13 : decode cX5_why 13 = .ok (.invokevirtual 143, 3) := by decide +kernel
theorem dX5_why_16 : decode cX5_why 16 = .ok (.ldc 165, 2) := by decide +kernel
theorem dX5_why_18 : decode cX5_why 18 = .ok (.istore_n 2, 1) := by decide +kernel
theorem dX5_why_19 : decode cX5_why 19 = .ok (.aload_n 0, 1) := by decide +kernel
theorem dX5_why_20 : decode cX5_why 20 = .ok (.getfield 7, 3) := by decide +kernel
theorem dX5_why_23 : decode cX5_why 23 = .ok (.iconst 4, 1) := by decide +kernel
theorem dX5_why_24 : decode cX5_why 24 = .ok (.iaload, 1) := by decide +kernel
theorem dX5_why_25 : decode cX5_why 25 = .ok (.istore_n 3, 1) := by decide +kernel
theorem dX5_why_26 : decode cX5_why 26 = .ok (.iconst 0, 1) := by decide +kernel
theorem dX5_why_27 : decode cX5_why 27 = .ok (.istore 4, 2) := by decide +kernel
theorem dX5_why_29 : decode cX5_why 29 = .ok (.iload 4, 2) := by decide +kernel
theorem dX5_why_31 : decode cX5_why 31 = .ok (.aload_n 0, 1) := by decide +kernel
theorem dX5_why_32 : decode cX5_why 32 = .ok (.getfield 7, 3) := by decide +kernel
theorem dX5_why_35 : decode cX5_why 35 = .ok (.iconst 0, 1) := by decide +kernel
theorem dX5_why_36 : decode cX5_why 36 = .ok (.iaload, 1) := by decide +kernel
theorem dX5_why_37 : decode cX5_why 37 = .ok (.if_icmp .ge 60, 3) := by decide +kernel
theorem dX5_why_40 : decode cX5_why 40 = .ok (.aload_n 0, 1) := by decide +kernel
theorem dX5_why_41 : decode cX5_why 41 = .ok (.iload 4, 2) := by decide +kernel
theorem dX5_why_43 : decode cX5_why 43 = .ok (.invokevirtual 52, 3) := by decide +kernel
theorem dX5_why_46 : decode cX5_why 46 = .ok (.invokestatic 41, 3) := by decide +kernel
theorem dX5_why_49 : decode cX5_why 49 = .ok (.iload_n 3, 1) := by decide +kernel
theorem dX5_why_50 : decode cX5_why 50 = .ok (.if_icmp .le 7, 3) := by decide +kernel
theorem dX5_why_53 : decode cX5_why 53 = .ok (.iconst 1, 1) := by decide +kernel
theorem dX5_why_54 : decode cX5_why 54 = .ok (.goto 4, 3) := by decide +kernel
theorem dX5_why_57 : decode cX5_why 57 = .ok (.iconst 0, 1) := by decide +kernel
theorem dX5_why_58 : decode cX5_why 58 = .ok (.istore 5, 2) := by decide +kernel
theorem dX5_why_60 : decode cX5_why 60 = .ok (.iload 5, 2) := by decide +kernel
theorem dX5_why_62 : decode cX5_why 62 = .ok (.ifCond .eq 8, 3) := by decide +kernel
theorem dX5_why_65 : decode cX5_why 65 = .ok (.iload 4, 2) := by decide +kernel
theorem dX5_why_67 : decode cX5_why 67 = .ok (.goto 4, 3) := by decide +kernel
theorem dX5_why_70 : decode cX5_why 70 = .ok (.iload_n 2, 1) := by decide +kernel
theorem dX5_why_71 : decode cX5_why 71 = .ok (.istore_n 2, 1) := by decide +kernel
theorem dX5_why_72 : decode cX5_why 72 = .ok (.iload 5, 2) := by decide +kernel
theorem dX5_why_74 : decode cX5_why 74 = .ok (.ifCond .eq 15, 3) := by decide +kernel
theorem dX5_why_77 : decode cX5_why 77 = .ok (.aload_n 0, 1) := by decide +kernel
theorem dX5_why_78 : decode cX5_why 78 = .ok (.iload 4, 2) := by decide +kernel
theorem dX5_why_80 : decode cX5_why 80 = .ok (.invokevirtual 52, 3) := by decide +kernel
theorem dX5_why_83 : decode cX5_why 83 = .ok (.invokestatic 41, 3) := by decide +kernel
theorem dX5_why_86 : decode cX5_why 86 = .ok (.goto 4, 3) := by decide +kernel
theorem dX5_why_89 : decode cX5_why 89 = .ok (.iload_n 3, 1) := by decide +kernel
theorem dX5_why_90 : decode cX5_why 90 = .ok (.istore_n 3, 1) := by decide +kernel
theorem dX5_why_91 : decode cX5_why 91 = .ok (.iinc 4 1, 3) := by decide +kernel
theorem dX5_why_94 : decode cX5_why 94 = .ok (.goto (-65), 3) := by decide +kernel
theorem dX5_why_97 : decode cX5_why 97 = .ok (.iload_n 2, 1) := by decide +kernel
theorem dX5_why_98 : decode cX5_why 98 = .ok (.ldc 165, 2) := by decide +kernel
theorem dX5_why_100 : decode cX5_why 100 = .ok (.if_icmp .eq 7, 3) := by decide +kernel
theorem dX5_why_103 : decode cX5_why 103 = .ok (.iload_n 1, 1) := by decide +kernel
theorem dX5_why_104 : decode cX5_why 104 = .ok (.ifCond .ne 7, 3) := by decide +kernel
theorem dX5_why_107 : decode cX5_why 107 = .ok (.iload_n 2, 1) := by decide +kernel
theorem dX5_why_108 : decode cX5_why 108 = .ok (.goto 4, 3) := by decide +kernel
theorem dX5_why_111 : decode cX5_why 111 = .ok (.iload_n 3, 1) := by decide +kernel
theorem dX5_why_112 : decode cX5_why 112 = .ok (.ireturn, 1) := by decide +kernel
set_option maxRecDepth 20000 in
theorem ggX5_lifts_X5_isSleeper : GoodIn wsX5_lifts wsX5_isSleeper := goodIn_r _ [7, 2, 8, 9, 6, 10, 21, 22, 23, 24, 25, 26, 27, 28, 29, 30, 31, 32] (by decide +kernel) (by decide +kernel)
set_option maxRecDepth 20000 in
theorem gX5_lifts_X5_isSleeper : GoodIn wsX5_lifts (wsV RX5 58 RX5 yX5_isSleeper wsX5_isSleeper) := goodIn_app (goodIn_of _ (by decide +kernel)) ggX5_lifts_X5_isSleeper
set_option maxRecDepth 20000 in
theorem ggX5_lifts_X5_isLevel : GoodIn wsX5_lifts wsX5_isLevel := goodIn_r _ [13, 8, 9, 6, 10] (by decide +kernel) (by decide +kernel)
set_option maxRecDepth 20000 in
theorem gX5_lifts_X5_isLevel : GoodIn wsX5_lifts (va_wsS RX5 76 yX5_isLevel wsX5_isLevel) := goodIn_app (goodIn_of _ (by decide +kernel)) ggX5_lifts_X5_isLevel
set_option maxRecDepth 20000 in
theorem ggX5_lifts_X5_liftOf : GoodIn wsX5_lifts wsX5_liftOf := goodIn_r _ [17, 2, 18, 19, 6, 20, 21, 22, 23, 24, 25, 26, 27, 28, 29, 30, 31, 32] (by decide +kernel) (by decide +kernel)
set_option maxRecDepth 20000 in
theorem gX5_lifts_X5_liftOf : GoodIn wsX5_lifts (wsV RX5 124 RX5 yX5_liftOf wsX5_liftOf) := goodIn_app (goodIn_of _ (by decide +kernel)) ggX5_lifts_X5_liftOf
theorem dX5_lifts_0 : decode cX5_lifts 0 = .ok (.aload_n 0, 1) := by decide +kernel
theorem dX5_lifts_1 : decode cX5_lifts 1 = .ok (.iload_n 1, 1) := by decide +kernel
theorem dX5_lifts_2 : decode cX5_lifts 2 = .ok (.invokevirtual 58, 3) := by decide +kernel
theorem dX5_lifts_5 : decode cX5_lifts 5 = .ok (.ifCond .eq 10, 3) := by decide +kernel
theorem dX5_lifts_8 : decode cX5_lifts 8 = .ok (.iload_n 2, 1) := by decide +kernel
theorem dX5_lifts_9 : decode cX5_lifts 9 = .ok (.invokestatic 76, 3) := by decide +kernel
theorem dX5_lifts_12 : decode cX5_lifts 12 = .ok (.ifCond .ne 6, 3) := by decide +kernel
theorem dX5_lifts_15 : decode cX5_lifts 15 = .ok (.ldc 68, 2) := by decide +kernel
theorem dX5_lifts_17 : decode cX5_lifts 17 = .ok (.ireturn, 1) := by decide +kernel
theorem dX5_lifts_18 : decode cX5_lifts 18 = .ok (.aload_n 0, 1) := by decide +kernel
theorem dX5_lifts_19 : decode cX5_lifts 19 = .ok (.iload_n 1, 1) := by decide +kernel
theorem dX5_lifts_20 : decode cX5_lifts 20 = .ok (.iload_n 2, 1) := by decide +kernel
theorem dX5_lifts_21 : decode cX5_lifts 21 = .ok (.invokevirtual 124, 3) := by decide +kernel
theorem dX5_lifts_24 : decode cX5_lifts 24 = .ok (.istore_n 3, 1) := by decide +kernel
theorem dX5_lifts_25 : decode cX5_lifts 25 = .ok (.iload_n 3, 1) := by decide +kernel
theorem dX5_lifts_26 : decode cX5_lifts 26 = .ok (.ifCond .gt 5, 3) := by decide +kernel
theorem dX5_lifts_29 : decode cX5_lifts 29 = .ok (.iconst 2, 1) := by decide +kernel
theorem dX5_lifts_30 : decode cX5_lifts 30 = .ok (.ireturn, 1) := by decide +kernel
theorem dX5_lifts_31 : decode cX5_lifts 31 = .ok (.iload_n 3, 1) := by decide +kernel
theorem dX5_lifts_32 : decode cX5_lifts 32 = .ok (.aload_n 0, 1) := by decide +kernel
theorem dX5_lifts_33 : decode cX5_lifts 33 = .ok (.getfield 7, 3) := by decide +kernel
theorem dX5_lifts_36 : decode cX5_lifts 36 = .ok (.bipush 8, 2) := by decide +kernel
theorem dX5_lifts_38 : decode cX5_lifts 38 = .ok (.iaload, 1) := by decide +kernel
theorem dX5_lifts_39 : decode cX5_lifts 39 = .ok (.if_icmp .ge 5, 3) := by decide +kernel
theorem dX5_lifts_42 : decode cX5_lifts 42 = .ok (.iconst 3, 1) := by decide +kernel
theorem dX5_lifts_43 : decode cX5_lifts 43 = .ok (.ireturn, 1) := by decide +kernel
theorem dX5_lifts_44 : decode cX5_lifts 44 = .ok (.iload_n 3, 1) := by decide +kernel
theorem dX5_lifts_45 : decode cX5_lifts 45 = .ok (.iload_n 2, 1) := by decide +kernel
theorem dX5_lifts_46 : decode cX5_lifts 46 = .ok (.aload_n 0, 1) := by decide +kernel
theorem dX5_lifts_47 : decode cX5_lifts 47 = .ok (.getfield 7, 3) := by decide +kernel
theorem dX5_lifts_50 : decode cX5_lifts 50 = .ok (.bipush 41, 2) := by decide +kernel
theorem dX5_lifts_52 : decode cX5_lifts 52 = .ok (.iload_n 1, 1) := by decide +kernel
theorem dX5_lifts_53 : decode cX5_lifts 53 = .ok (.iadd, 1) := by decide +kernel
theorem dX5_lifts_54 : decode cX5_lifts 54 = .ok (.iaload, 1) := by decide +kernel
theorem dX5_lifts_55 : decode cX5_lifts 55 = .ok (.isub, 1) := by decide +kernel
theorem dX5_lifts_56 : decode cX5_lifts 56 = .ok (.if_icmp .ne 7, 3) := by decide +kernel
theorem dX5_lifts_59 : decode cX5_lifts 59 = .ok (.iconst 0, 1) := by decide +kernel
theorem dX5_lifts_60 : decode cX5_lifts 60 = .ok (.goto 4, 3) := by decide +kernel
theorem dX5_lifts_63 : decode cX5_lifts 63 = .ok (.iconst 1, 1) := by decide +kernel
theorem dX5_lifts_64 : decode cX5_lifts 64 = .ok (.ireturn, 1) := by decide +kernel
set_option maxRecDepth 20000 in
theorem ggX5_trainsUntil_X5_isTrain : GoodIn wsX5_trainsUntil wsX5_isTrain := goodIn_r _ [6, 7, 8, 5, 9] (by decide +kernel) (by decide +kernel)
set_option maxRecDepth 20000 in
theorem gX5_trainsUntil_X5_isTrain : GoodIn wsX5_trainsUntil (va_wsS RX5 146 yX5_isTrain wsX5_isTrain) := goodIn_app (goodIn_of _ (by decide +kernel)) ggX5_trainsUntil_X5_isTrain
set_option maxRecDepth 20000 in
theorem ggX5_trainsUntil_X5_in : GoodIn wsX5_trainsUntil wsX5_in := goodIn_r _ [9] (by decide +kernel) (by decide +kernel)
set_option maxRecDepth 20000 in
theorem gX5_trainsUntil_X5_in : GoodIn wsX5_trainsUntil (va_wsS RX5 37 yX5_in wsX5_in) := goodIn_app (goodIn_of _ (by decide +kernel)) ggX5_trainsUntil_X5_in
set_option maxRecDepth 20000 in
theorem ggX5_trainsUntil_X5_putAside : GoodIn wsX5_trainsUntil wsX5_putAside := goodIn_r _ [13, 14, 15, 73, 74, 75, 76, 77, 78, 79, 80, 81, 82, 83, 84] (by decide +kernel) (by decide +kernel)
set_option maxRecDepth 20000 in
theorem gX5_trainsUntil_X5_putAside : GoodIn wsX5_trainsUntil (wsV RX5 103 RX5 yX5_putAside wsX5_putAside) := goodIn_app (goodIn_of _ (by decide +kernel)) ggX5_trainsUntil_X5_putAside
set_option maxRecDepth 20000 in
theorem ggX5_trainsUntil_X5_laysRail : GoodIn wsX5_trainsUntil wsX5_laysRail := goodIn_r _ [19, 15, 20, 21, 22, 5, 23, 24, 25, 26, 73, 74, 75, 76, 77, 78, 79, 80, 81, 82, 83, 84] (by decide +kernel) (by decide +kernel)
set_option maxRecDepth 20000 in
theorem gX5_trainsUntil_X5_laysRail : GoodIn wsX5_trainsUntil (wsV RX5 143 RX5 yX5_laysRail wsX5_laysRail) := goodIn_app (goodIn_of _ (by decide +kernel)) ggX5_trainsUntil_X5_laysRail
set_option maxRecDepth 20000 in
theorem ggX5_trainsUntil_X5_order : GoodIn wsX5_trainsUntil wsX5_order := goodIn_r _ [30, 15, 31, 32, 33, 5, 34, 35, 36, 37, 38, 20, 21, 22, 23, 24, 25, 26, 73, 74, 75, 76, 77, 78, 79, 80, 81, 82, 83, 84] (by decide +kernel) (by decide +kernel)
set_option maxRecDepth 20000 in
theorem gX5_trainsUntil_X5_order : GoodIn wsX5_trainsUntil (wsV RX5 149 RX5 yX5_order wsX5_order) := goodIn_app (goodIn_of _ (by decide +kernel)) ggX5_trainsUntil_X5_order
set_option maxRecDepth 20000 in
theorem ggX5_trainsUntil_X5_passes : GoodIn wsX5_trainsUntil wsX5_passes := goodIn_r _ [42, 15, 43, 44, 45, 46, 47, 48, 5, 49, 50, 51, 52, 53, 54, 55, 56, 57, 20, 58, 59, 60, 61, 62, 63, 64, 65, 7, 8, 9, 66, 67, 68, 16, 17, 18, 19, 21, 22, 23, 24, 25, 26, 73, 74, 75, 76, 77, 78, 79, 80, 81, 82, 83, 84] (by decide +kernel) (by decide +kernel)
set_option maxRecDepth 20000 in
theorem gX5_trainsUntil_X5_passes : GoodIn wsX5_trainsUntil (wsV RX5 152 RX5 yX5_passes wsX5_passes) := goodIn_app (goodIn_of _ (by decide +kernel)) ggX5_trainsUntil_X5_passes
set_option maxRecDepth 20000 in
theorem ggX5_trainsUntil_X5_putBack : GoodIn wsX5_trainsUntil wsX5_putBack := goodIn_r _ [72, 15, 14, 73, 74, 75, 76, 77, 78, 79, 80, 81, 82, 83, 84] (by decide +kernel) (by decide +kernel)
set_option maxRecDepth 20000 in
theorem gX5_trainsUntil_X5_putBack : GoodIn wsX5_trainsUntil (wsV RX5 111 RX5 yX5_putBack wsX5_putBack) := goodIn_app (goodIn_of _ (by decide +kernel)) ggX5_trainsUntil_X5_putBack
theorem dX5_trainsUntil_0 : decode cX5_trainsUntil 0 = .ok (.iload_n 1, 1) := by decide +kernel
theorem dX5_trainsUntil_1 : decode cX5_trainsUntil 1 = .ok (.iload_n 2, 1) := by decide +kernel
theorem dX5_trainsUntil_2 : decode cX5_trainsUntil 2 = .ok (.invokestatic 146, 3) := by decide +kernel
theorem dX5_trainsUntil_5 : decode cX5_trainsUntil 5 = .ok (.ifCond .eq 12, 3) := by decide +kernel
theorem dX5_trainsUntil_8 : decode cX5_trainsUntil 8 = .ok (.iload_n 3, 1) := by decide +kernel
theorem dX5_trainsUntil_9 : decode cX5_trainsUntil 9 = .ok (.iconst 1, 1) := by decide +kernel
theorem dX5_trainsUntil_10 : decode cX5_trainsUntil 10 = .ok (.iconst 3, 1) := by decide +kernel
theorem dX5_trainsUntil_11 : decode cX5_trainsUntil 11 = .ok (.invokestatic 37, 3) := by decide +kernel
theorem dX5_trainsUntil_14 : decode cX5_trainsUntil 14 = .ok (.ifCond .ne 6, 3) := by decide +kernel
theorem dX5_trainsUntil_17 : decode cX5_trainsUntil 17 = .ok (.ldc 68, 2) := by decide +kernel
theorem dX5_trainsUntil_19 : decode cX5_trainsUntil 19 = .ok (.ireturn, 1) := by decide +kernel
theorem dX5_trainsUntil_20 : decode cX5_trainsUntil 20 = .ok (.aload_n 0, 1) := by decide +kernel
theorem dX5_trainsUntil_21 : decode cX5_trainsUntil 21 = .ok (.invokevirtual 103, 3) := by decide +kernel
theorem dX5_trainsUntil_24 : decode cX5_trainsUntil 24 = .ok (.aload_n 0, 1) := by decide +kernel
theorem dX5_trainsUntil_25 : decode cX5_trainsUntil 25 = .ok (.invokevirtual 143, 3) := by decide +kernel
theorem dX5_trainsUntil_28 : decode cX5_trainsUntil 28 = .ok (.iconst 0, 1) := by decide +kernel
theorem dX5_trainsUntil_29 : decode cX5_trainsUntil 29 = .ok (.istore 4, 2) := by decide +kernel
theorem dX5_trainsUntil_31 : decode cX5_trainsUntil 31 = .ok (.aload_n 0, 1) := by decide +kernel
theorem dX5_trainsUntil_32 : decode cX5_trainsUntil 32 = .ok (.invokevirtual 149, 3) := by decide +kernel
theorem dX5_trainsUntil_35 : decode cX5_trainsUntil 35 = .ok (.istore 5, 2) := by decide +kernel
theorem dX5_trainsUntil_37 : decode cX5_trainsUntil 37 = .ok (.iload 5, 2) := by decide +kernel
theorem dX5_trainsUntil_39 : decode cX5_trainsUntil 39 = .ok (.iload_n 3, 1) := by decide +kernel
theorem dX5_trainsUntil_40 : decode cX5_trainsUntil 40 = .ok (.if_icmp .ge 31, 3) := by decide +kernel
theorem dX5_trainsUntil_43 : decode cX5_trainsUntil 43 = .ok (.iload 4, 2) := by decide +kernel
theorem dX5_trainsUntil_45 : decode cX5_trainsUntil 45 = .ok (.sipush 200, 3) := by decide +kernel
theorem dX5_trainsUntil_48 : decode cX5_trainsUntil 48 = .ok (.if_icmp .ge 23, 3) := by decide +kernel
theorem dX5_trainsUntil_51 : decode cX5_trainsUntil 51 = .ok (.aload_n 0, 1) := by decide +kernel
theorem dX5_trainsUntil_52 : decode cX5_trainsUntil 52 = .ok (.iload_n 1, 1) := by decide +kernel
theorem dX5_trainsUntil_53 : decode cX5_trainsUntil 53 = .ok (.iload_n 2, 1) := by decide +kernel
theorem dX5_trainsUntil_54 : decode cX5_trainsUntil 54 = .ok (.iload 5, 2) := by decide +kernel
theorem dX5_trainsUntil_56 : decode cX5_trainsUntil 56 = .ok (.invokevirtual 152, 3) := by decide +kernel
theorem dX5_trainsUntil_59 : decode cX5_trainsUntil 59 = .ok (.aload_n 0, 1) := by decide +kernel
theorem dX5_trainsUntil_60 : decode cX5_trainsUntil 60 = .ok (.invokevirtual 149, 3) := by decide +kernel
theorem dX5_trainsUntil_63 : decode cX5_trainsUntil 63 = .ok (.istore 5, 2) := by decide +kernel
theorem dX5_trainsUntil_65 : decode cX5_trainsUntil 65 = .ok (.iinc 4 1, 3) := by decide +kernel
theorem dX5_trainsUntil_68 : decode cX5_trainsUntil 68 = .ok (.goto (-31), 3) := by decide +kernel
theorem dX5_trainsUntil_71 : decode cX5_trainsUntil 71 = .ok (.aload_n 0, 1) := by decide +kernel
theorem dX5_trainsUntil_72 : decode cX5_trainsUntil 72 = .ok (.invokevirtual 111, 3) := by decide +kernel
theorem dX5_trainsUntil_75 : decode cX5_trainsUntil 75 = .ok (.iload 5, 2) := by decide +kernel
theorem dX5_trainsUntil_77 : decode cX5_trainsUntil 77 = .ok (.iload_n 3, 1) := by decide +kernel
theorem dX5_trainsUntil_78 : decode cX5_trainsUntil 78 = .ok (.if_icmp .ge 8, 3) := by decide +kernel
theorem dX5_trainsUntil_81 : decode cX5_trainsUntil 81 = .ok (.ldc 165, 2) := by decide +kernel
theorem dX5_trainsUntil_83 : decode cX5_trainsUntil 83 = .ok (.goto 5, 3) := by decide +kernel
theorem dX5_trainsUntil_86 : decode cX5_trainsUntil 86 = .ok (.iload 4, 2) := by decide +kernel
theorem dX5_trainsUntil_88 : decode cX5_trainsUntil 88 = .ok (.ireturn, 1) := by decide +kernel
set_option maxRecDepth 20000 in
theorem ggX5_voidsWith_X5_putAside : GoodIn wsX5_voidsWith wsX5_putAside := goodIn_r _ [6, 7, 1, 34, 35, 36, 37, 38, 39, 40, 41, 42, 43, 44, 45] (by decide +kernel) (by decide +kernel)
set_option maxRecDepth 20000 in
theorem gX5_voidsWith_X5_putAside : GoodIn wsX5_voidsWith (wsV RX5 103 RX5 yX5_putAside wsX5_putAside) := goodIn_app (goodIn_of _ (by decide +kernel)) ggX5_voidsWith_X5_putAside
set_option maxRecDepth 20000 in
theorem ggX5_voidsWith_X5_liftOf : GoodIn wsX5_voidsWith wsX5_liftOf := goodIn_r _ [11, 1, 12, 13, 5, 14, 34, 35, 36, 37, 38, 39, 40, 41, 42, 43, 44, 45] (by decide +kernel) (by decide +kernel)
set_option maxRecDepth 20000 in
theorem gX5_voidsWith_X5_liftOf : GoodIn wsX5_voidsWith (wsV RX5 124 RX5 yX5_liftOf wsX5_liftOf) := goodIn_app (goodIn_of _ (by decide +kernel)) ggX5_voidsWith_X5_liftOf
set_option maxRecDepth 20000 in
theorem ggX5_voidsWith_X5_laysRail : GoodIn wsX5_voidsWith wsX5_laysRail := goodIn_r _ [18, 1, 19, 20, 21, 5, 22, 23, 24, 25, 34, 35, 36, 37, 38, 39, 40, 41, 42, 43, 44, 45] (by decide +kernel) (by decide +kernel)
set_option maxRecDepth 20000 in
theorem gX5_voidsWith_X5_laysRail : GoodIn wsX5_voidsWith (wsV RX5 143 RX5 yX5_laysRail wsX5_laysRail) := goodIn_app (goodIn_of _ (by decide +kernel)) ggX5_voidsWith_X5_laysRail
set_option maxRecDepth 20000 in
theorem ggX5_voidsWith_X5_voidAt : GoodIn wsX5_voidsWith wsX5_voidAt := goodIn_r _ [29, 19, 1, 34, 35, 36, 37, 38, 39, 40, 41, 42, 43, 44, 45] (by decide +kernel) (by decide +kernel)
set_option maxRecDepth 20000 in
theorem gX5_voidsWith_X5_voidAt : GoodIn wsX5_voidsWith (wsV RX5 49 RX5 yX5_voidAt wsX5_voidAt) := goodIn_app (goodIn_of _ (by decide +kernel)) ggX5_voidsWith_X5_voidAt
set_option maxRecDepth 20000 in
theorem ggX5_voidsWith_X5_putBack : GoodIn wsX5_voidsWith wsX5_putBack := goodIn_r _ [33, 1, 7, 34, 35, 36, 37, 38, 39, 40, 41, 42, 43, 44, 45] (by decide +kernel) (by decide +kernel)
set_option maxRecDepth 20000 in
theorem gX5_voidsWith_X5_putBack : GoodIn wsX5_voidsWith (wsV RX5 111 RX5 yX5_putBack wsX5_putBack) := goodIn_app (goodIn_of _ (by decide +kernel)) ggX5_voidsWith_X5_putBack
theorem dX5_voidsWith_0 : decode cX5_voidsWith 0 = .ok (.aload_n 0, 1) := by decide +kernel
theorem dX5_voidsWith_1 : decode cX5_voidsWith 1 = .ok (.invokevirtual 103, 3) := by decide +kernel
theorem dX5_voidsWith_4 : decode cX5_voidsWith 4 = .ok (.iload_n 1, 1) := by decide +kernel
theorem dX5_voidsWith_5 : decode cX5_voidsWith 5 = .ok (.istore 4, 2) := by decide +kernel
theorem dX5_voidsWith_7 : decode cX5_voidsWith 7 = .ok (.iload 4, 2) := by decide +kernel
theorem dX5_voidsWith_9 : decode cX5_voidsWith 9 = .ok (.iload_n 1, 1) := by decide +kernel
theorem dX5_voidsWith_10 : decode cX5_voidsWith 10 = .ok (.iload_n 2, 1) := by decide +kernel
theorem dX5_voidsWith_11 : decode cX5_voidsWith 11 = .ok (.iadd, 1) := by decide +kernel
theorem dX5_voidsWith_12 : decode cX5_voidsWith 12 = .ok (.if_icmp .ge 49, 3) := by decide +kernel
theorem dX5_voidsWith_15 : decode cX5_voidsWith 15 = .ok (.aload_n 0, 1) := by decide +kernel
theorem dX5_voidsWith_16 : decode cX5_voidsWith 16 = .ok (.iload 4, 2) := by decide +kernel
theorem dX5_voidsWith_18 : decode cX5_voidsWith 18 = .ok (.iload_n 3, 1) := by decide +kernel
theorem dX5_voidsWith_19 : decode cX5_voidsWith 19 = .ok (.invokevirtual 124, 3) := by decide +kernel
theorem dX5_voidsWith_22 : decode cX5_voidsWith 22 = .ok (.istore 5, 2) := by decide +kernel
theorem dX5_voidsWith_24 : decode cX5_voidsWith 24 = .ok (.aload_n 0, 1) := by decide +kernel
theorem dX5_voidsWith_25 : decode cX5_voidsWith 25 = .ok (.getfield 7, 3) := by decide +kernel
theorem dX5_voidsWith_28 : decode cX5_voidsWith 28 = .ok (.bipush 41, 2) := by decide +kernel
theorem dX5_voidsWith_30 : decode cX5_voidsWith 30 = .ok (.iload 4, 2) := by decide +kernel
theorem dX5_voidsWith_32 : decode cX5_voidsWith 32 = .ok (.iadd, 1) := by decide +kernel
theorem dX5_voidsWith_33 : decode cX5_voidsWith 33 = .ok (.dup2, 1) := by decide +kernel
theorem dX5_voidsWith_34 : decode cX5_voidsWith 34 = .ok (.iaload, 1) := by decide +kernel
theorem dX5_voidsWith_35 : decode cX5_voidsWith 35 = .ok (.iload 5, 2) := by decide +kernel
theorem dX5_voidsWith_37 : decode cX5_voidsWith 37 = .ok (.aload_n 0, 1) := by decide +kernel
theorem dX5_voidsWith_38 : decode cX5_voidsWith 38 = .ok (.getfield 7, 3) := by decide +kernel
theorem dX5_voidsWith_41 : decode cX5_voidsWith 41 = .ok (.bipush 8, 2) := by decide +kernel
theorem dX5_voidsWith_43 : decode cX5_voidsWith 43 = .ok (.iaload, 1) := by decide +kernel
theorem dX5_voidsWith_44 : decode cX5_voidsWith 44 = .ok (.if_icmp .lt 8, 3) := by decide +kernel
theorem dX5_voidsWith_47 : decode cX5_voidsWith 47 = .ok (.iload 5, 2) := by decide +kernel
theorem dX5_voidsWith_49 : decode cX5_voidsWith 49 = .ok (.goto 4, 3) := by decide +kernel
theorem dX5_voidsWith_52 : decode cX5_voidsWith 52 = .ok (.iconst 0, 1) := by decide +kernel
theorem dX5_voidsWith_53 : decode cX5_voidsWith 53 = .ok (.iadd, 1) := by decide +kernel
theorem dX5_voidsWith_54 : decode cX5_voidsWith 54 = .ok (.iastore, 1) := by decide +kernel
theorem dX5_voidsWith_55 : decode cX5_voidsWith 55 = .ok (.iinc 4 1, 3) := by decide +kernel
theorem dX5_voidsWith_58 : decode cX5_voidsWith 58 = .ok (.goto (-51), 3) := by decide +kernel
theorem dX5_voidsWith_61 : decode cX5_voidsWith 61 = .ok (.aload_n 0, 1) := by decide +kernel
theorem dX5_voidsWith_62 : decode cX5_voidsWith 62 = .ok (.invokevirtual 143, 3) := by decide +kernel
theorem dX5_voidsWith_65 : decode cX5_voidsWith 65 = .ok (.iconst 0, 1) := by decide +kernel
theorem dX5_voidsWith_66 : decode cX5_voidsWith 66 = .ok (.istore 4, 2) := by decide +kernel
theorem dX5_voidsWith_68 : decode cX5_voidsWith 68 = .ok (.iconst 0, 1) := by decide +kernel
theorem dX5_voidsWith_69 : decode cX5_voidsWith 69 = .ok (.istore 5, 2) := by decide +kernel
theorem dX5_voidsWith_71 : decode cX5_voidsWith 71 = .ok (.iload 5, 2) := by decide +kernel
theorem dX5_voidsWith_73 : decode cX5_voidsWith 73 = .ok (.aload_n 0, 1) := by decide +kernel
theorem dX5_voidsWith_74 : decode cX5_voidsWith 74 = .ok (.getfield 7, 3) := by decide +kernel
theorem dX5_voidsWith_77 : decode cX5_voidsWith 77 = .ok (.iconst 0, 1) := by decide +kernel
theorem dX5_voidsWith_78 : decode cX5_voidsWith 78 = .ok (.iaload, 1) := by decide +kernel
theorem dX5_voidsWith_79 : decode cX5_voidsWith 79 = .ok (.if_icmp .ge 20, 3) := by decide +kernel
theorem dX5_voidsWith_82 : decode cX5_voidsWith 82 = .ok (.iload 4, 2) := by decide +kernel
theorem dX5_voidsWith_84 : decode cX5_voidsWith 84 = .ok (.aload_n 0, 1) := by decide +kernel
theorem dX5_voidsWith_85 : decode cX5_voidsWith 85 = .ok (.iload 5, 2) := by decide +kernel
theorem dX5_voidsWith_87 : decode cX5_voidsWith 87 = .ok (.invokevirtual 49, 3) := by decide +kernel
theorem dX5_voidsWith_90 : decode cX5_voidsWith 90 = .ok (.iadd, 1) := by decide +kernel
theorem dX5_voidsWith_91 : decode cX5_voidsWith 91 = .ok (.istore 4, 2) := by decide +kernel
theorem dX5_voidsWith_93 : decode cX5_voidsWith 93 = .ok (.iinc 5 1, 3) := by decide +kernel
theorem dX5_voidsWith_96 : decode cX5_voidsWith 96 = .ok (.goto (-25), 3) := by decide +kernel
theorem dX5_voidsWith_99 : decode cX5_voidsWith 99 = .ok (.aload_n 0, 1) := by decide +kernel
theorem dX5_voidsWith_100 : decode cX5_voidsWith 100 = .ok (.invokevirtual 111, 3) := by decide +kernel
theorem dX5_voidsWith_103 : decode cX5_voidsWith 103 = .ok (.iload 4, 2) := by decide +kernel
theorem dX5_voidsWith_105 : decode cX5_voidsWith 105 = .ok (.ireturn, 1) := by decide +kernel
set_option maxRecDepth 20000 in
theorem ggX5_bestRow_X5_in : GoodIn wsX5_bestRow wsX5_in := goodIn_r _ [6] (by decide +kernel) (by decide +kernel)
set_option maxRecDepth 20000 in
theorem gX5_bestRow_X5_in : GoodIn wsX5_bestRow (va_wsS RX5 37 yX5_in wsX5_in) := goodIn_app (goodIn_of _ (by decide +kernel)) ggX5_bestRow_X5_in
set_option maxRecDepth 20000 in
theorem ggX5_bestRow_X5_isLevel : GoodIn wsX5_bestRow wsX5_isLevel := goodIn_r _ [9, 3, 4, 5, 6] (by decide +kernel) (by decide +kernel)
set_option maxRecDepth 20000 in
theorem gX5_bestRow_X5_isLevel : GoodIn wsX5_bestRow (va_wsS RX5 76 yX5_isLevel wsX5_isLevel) := goodIn_app (goodIn_of _ (by decide +kernel)) ggX5_bestRow_X5_isLevel
set_option maxRecDepth 20000 in
theorem ggX5_bestRow_X5_voidsWith : GoodIn wsX5_bestRow wsX5_voidsWith := goodIn_r _ [13, 1, 14, 15, 16, 5, 17, 18, 19, 20, 21, 22, 23, 24, 25, 26, 27, 28, 29, 30, 31, 32, 33, 34, 35, 36, 37, 38, 39, 40, 41, 42, 43, 44, 45, 46, 47, 48, 49, 50, 51, 52, 53, 54, 55, 56] (by decide +kernel) (by decide +kernel)
set_option maxRecDepth 20000 in
theorem gX5_bestRow_X5_voidsWith : GoodIn wsX5_bestRow (wsV RX5 166 RX5 yX5_voidsWith wsX5_voidsWith) := goodIn_app (goodIn_of _ (by decide +kernel)) ggX5_bestRow_X5_voidsWith
set_option maxRecDepth 20000 in
theorem ggX5_bestRow_X5_lesser : GoodIn wsX5_bestRow wsX5_lesser := goodIn_r _ [25] (by decide +kernel) (by decide +kernel)
set_option maxRecDepth 20000 in
theorem gX5_bestRow_X5_lesser : GoodIn wsX5_bestRow (va_wsS RX5 121 yX5_lesser wsX5_lesser) := goodIn_app (goodIn_of _ (by decide +kernel)) ggX5_bestRow_X5_lesser
theorem dX5_bestRow_0 : decode cX5_bestRow 0 = .ok (.iload_n 1, 1) := by decide +kernel
theorem dX5_bestRow_1 : decode cX5_bestRow 1 = .ok (.iconst 1, 1) := by decide +kernel
theorem dX5_bestRow_2 : decode cX5_bestRow 2 = .ok (.bipush 20, 2) := by decide +kernel
theorem dX5_bestRow_4 : decode cX5_bestRow 4 = .ok (.invokestatic 37, 3) := by decide +kernel
theorem dX5_bestRow_7 : decode cX5_bestRow 7 = .ok (.ifCond .eq 29, 3) := by decide +kernel
theorem dX5_bestRow_10 : decode cX5_bestRow 10 = .ok (.iload_n 1, 1) := by decide +kernel
theorem dX5_bestRow_11 : decode cX5_bestRow 11 = .ok (.aload_n 0, 1) := by decide +kernel
theorem dX5_bestRow_12 : decode cX5_bestRow 12 = .ok (.getfield 7, 3) := by decide +kernel
theorem dX5_bestRow_15 : decode cX5_bestRow 15 = .ok (.iconst 0, 1) := by decide +kernel
theorem dX5_bestRow_16 : decode cX5_bestRow 16 = .ok (.iaload, 1) := by decide +kernel
theorem dX5_bestRow_17 : decode cX5_bestRow 17 = .ok (.if_icmp .gt 19, 3) := by decide +kernel
theorem dX5_bestRow_20 : decode cX5_bestRow 20 = .ok (.iload_n 2, 1) := by decide +kernel
theorem dX5_bestRow_21 : decode cX5_bestRow 21 = .ok (.invokestatic 76, 3) := by decide +kernel
theorem dX5_bestRow_24 : decode cX5_bestRow 24 = .ok (.ifCond .eq 12, 3) := by decide +kernel
theorem dX5_bestRow_27 : decode cX5_bestRow 27 = .ok (.iload_n 3, 1) := by decide +kernel
theorem dX5_bestRow_28 : decode cX5_bestRow 28 = .ok (.iconst 0, 1) := by decide +kernel
theorem dX5_bestRow_29 : decode cX5_bestRow 29 = .ok (.iconst 1, 1) := by decide +kernel
theorem dX5_bestRow_30 : decode cX5_bestRow 30 = .ok (.invokestatic 37, 3) := by decide +kernel
theorem dX5_bestRow_33 : decode cX5_bestRow 33 = .ok (.ifCond .ne 6, 3) := by decide +kernel
theorem dX5_bestRow_36 : decode cX5_bestRow 36 = .ok (.ldc 68, 2) := by decide +kernel
theorem dX5_bestRow_38 : decode cX5_bestRow 38 = .ok (.ireturn, 1) := by decide +kernel
theorem dX5_bestRow_39 : decode cX5_bestRow 39 = .ok (.iconst 0, 1) := by decide +kernel
theorem dX5_bestRow_40 : decode cX5_bestRow 40 = .ok (.istore 4, 2) := by decide +kernel
theorem dX5_bestRow_42 : decode cX5_bestRow 42 = .ok (.aload_n 0, 1) := by decide +kernel
theorem dX5_bestRow_43 : decode cX5_bestRow 43 = .ok (.iconst 0, 1) := by decide +kernel
theorem dX5_bestRow_44 : decode cX5_bestRow 44 = .ok (.iload_n 1, 1) := by decide +kernel
theorem dX5_bestRow_45 : decode cX5_bestRow 45 = .ok (.iload_n 2, 1) := by decide +kernel
theorem dX5_bestRow_46 : decode cX5_bestRow 46 = .ok (.invokevirtual 166, 3) := by decide +kernel
theorem dX5_bestRow_49 : decode cX5_bestRow 49 = .ok (.istore 5, 2) := by decide +kernel
theorem dX5_bestRow_51 : decode cX5_bestRow 51 = .ok (.iconst 1, 1) := by decide +kernel
theorem dX5_bestRow_52 : decode cX5_bestRow 52 = .ok (.istore 6, 2) := by decide +kernel
theorem dX5_bestRow_54 : decode cX5_bestRow 54 = .ok (.iload 6, 2) := by decide +kernel
theorem dX5_bestRow_56 : decode cX5_bestRow 56 = .ok (.aload_n 0, 1) := by decide +kernel
theorem dX5_bestRow_57 : decode cX5_bestRow 57 = .ok (.getfield 7, 3) := by decide +kernel
theorem dX5_bestRow_60 : decode cX5_bestRow 60 = .ok (.iconst 0, 1) := by decide +kernel
theorem dX5_bestRow_61 : decode cX5_bestRow 61 = .ok (.iaload, 1) := by decide +kernel
theorem dX5_bestRow_62 : decode cX5_bestRow 62 = .ok (.iload_n 1, 1) := by decide +kernel
theorem dX5_bestRow_63 : decode cX5_bestRow 63 = .ok (.isub, 1) := by decide +kernel
theorem dX5_bestRow_64 : decode cX5_bestRow 64 = .ok (.if_icmp .gt 44, 3) := by decide +kernel
theorem dX5_bestRow_67 : decode cX5_bestRow 67 = .ok (.aload_n 0, 1) := by decide +kernel
theorem dX5_bestRow_68 : decode cX5_bestRow 68 = .ok (.iload 6, 2) := by decide +kernel
theorem dX5_bestRow_70 : decode cX5_bestRow 70 = .ok (.iload_n 1, 1) := by decide +kernel
theorem dX5_bestRow_71 : decode cX5_bestRow 71 = .ok (.iload_n 2, 1) := by decide +kernel
theorem dX5_bestRow_72 : decode cX5_bestRow 72 = .ok (.invokevirtual 166, 3) := by decide +kernel
theorem dX5_bestRow_75 : decode cX5_bestRow 75 = .ok (.istore 7, 2) := by decide +kernel
theorem dX5_bestRow_77 : decode cX5_bestRow 77 = .ok (.iload 7, 2) := by decide +kernel
theorem dX5_bestRow_79 : decode cX5_bestRow 79 = .ok (.iload 5, 2) := by decide +kernel
theorem dX5_bestRow_81 : decode cX5_bestRow 81 = .ok (.if_icmp .ge 8, 3) := by decide +kernel
theorem dX5_bestRow_84 : decode cX5_bestRow 84 = .ok (.iload 6, 2) := by decide +kernel
theorem dX5_bestRow_86 : decode cX5_bestRow 86 = .ok (.goto 5, 3) := by decide +kernel
theorem dX5_bestRow_89 : decode cX5_bestRow 89 = .ok (.iload 4, 2) := by decide +kernel
theorem dX5_bestRow_91 : decode cX5_bestRow 91 = .ok (.istore 4, 2) := by decide +kernel
theorem dX5_bestRow_93 : decode cX5_bestRow 93 = .ok (.iload 5, 2) := by decide +kernel
theorem dX5_bestRow_95 : decode cX5_bestRow 95 = .ok (.iload 7, 2) := by decide +kernel
theorem dX5_bestRow_97 : decode cX5_bestRow 97 = .ok (.invokestatic 121, 3) := by decide +kernel
theorem dX5_bestRow_100 : decode cX5_bestRow 100 = .ok (.istore 5, 2) := by decide +kernel
theorem dX5_bestRow_102 : decode cX5_bestRow 102 = .ok (.iinc 6 1, 3) := by decide +kernel
theorem dX5_bestRow_105 : decode cX5_bestRow 105 = .ok (.goto (-51), 3) := by decide +kernel
theorem dX5_bestRow_108 : decode cX5_bestRow 108 = .ok (.iload_n 3, 1) := by decide +kernel
theorem dX5_bestRow_109 : decode cX5_bestRow 109 = .ok (.ifCond .ne 8, 3) := by decide +kernel
theorem dX5_bestRow_112 : decode cX5_bestRow 112 = .ok (.iload 4, 2) := by decide +kernel
theorem dX5_bestRow_114 : decode cX5_bestRow 114 = .ok (.goto 5, 3) := by decide +kernel
theorem dX5_bestRow_117 : decode cX5_bestRow 117 = .ok (.iload 5, 2) := by decide +kernel
theorem dX5_bestRow_119 : decode cX5_bestRow 119 = .ok (.ireturn, 1) := by decide +kernel
set_option maxRecDepth 20000 in
theorem ggX5_minutesLeft_X5_putAside : GoodIn wsX5_minutesLeft wsX5_putAside := goodIn_r _ [7, 8, 1, 39, 40, 41, 42, 43, 44, 45, 46, 47, 48, 49, 50] (by decide +kernel) (by decide +kernel)
set_option maxRecDepth 20000 in
theorem gX5_minutesLeft_X5_putAside : GoodIn wsX5_minutesLeft (wsV RX5 103 RX5 yX5_putAside wsX5_putAside) := goodIn_app (goodIn_of _ (by decide +kernel)) ggX5_minutesLeft_X5_putAside
set_option maxRecDepth 20000 in
theorem ggX5_minutesLeft_X5_works : GoodIn wsX5_minutesLeft wsX5_works := goodIn_r _ [12, 1, 13, 14, 15, 6, 16, 17, 18, 19, 20, 21, 22, 23, 24, 25, 26, 27, 28, 29, 30, 31, 32, 33, 34, 39, 40, 41, 42, 43, 44, 45, 46, 47, 48, 49, 50] (by decide +kernel) (by decide +kernel)
set_option maxRecDepth 20000 in
theorem gX5_minutesLeft_X5_works : GoodIn wsX5_minutesLeft (wsV RX5 133 RX5 yX5_works wsX5_works) := goodIn_app (goodIn_of _ (by decide +kernel)) ggX5_minutesLeft_X5_works
set_option maxRecDepth 20000 in
theorem ggX5_minutesLeft_X5_putBack : GoodIn wsX5_minutesLeft wsX5_putBack := goodIn_r _ [38, 1, 8, 39, 40, 41, 42, 43, 44, 45, 46, 47, 48, 49, 50] (by decide +kernel) (by decide +kernel)
set_option maxRecDepth 20000 in
theorem gX5_minutesLeft_X5_putBack : GoodIn wsX5_minutesLeft (wsV RX5 111 RX5 yX5_putBack wsX5_putBack) := goodIn_app (goodIn_of _ (by decide +kernel)) ggX5_minutesLeft_X5_putBack
theorem dX5_minutesLeft_0 : decode cX5_minutesLeft 0 = .ok (.aload_n 0, 1) := by decide +kernel
theorem dX5_minutesLeft_1 : decode cX5_minutesLeft 1 = .ok (.invokevirtual 103, 3) := by decide +kernel
theorem dX5_minutesLeft_4 : decode cX5_minutesLeft 4 = .ok (.aload_n 0, 1) := by decide +kernel
theorem dX5_minutesLeft_5 : decode cX5_minutesLeft 5 = .ok (.getfield 7, 3) := by decide +kernel
theorem dX5_minutesLeft_8 : decode cX5_minutesLeft 8 = .ok (.bipush 12, 2) := by decide +kernel
theorem dX5_minutesLeft_10 : decode cX5_minutesLeft 10 = .ok (.iaload, 1) := by decide +kernel
theorem dX5_minutesLeft_11 : decode cX5_minutesLeft 11 = .ok (.istore_n 1, 1) := by decide +kernel
theorem dX5_minutesLeft_12 : decode cX5_minutesLeft 12 = .ok (.aload_n 0, 1) := by decide +kernel
theorem dX5_minutesLeft_13 : decode cX5_minutesLeft 13 = .ok (.ldc 170, 2) := by decide +kernel
theorem dX5_minutesLeft_15 : decode cX5_minutesLeft 15 = .ok (.invokevirtual 133, 3) := by decide +kernel
theorem dX5_minutesLeft_18 : decode cX5_minutesLeft 18 = .ok (.istore_n 2, 1) := by decide +kernel
theorem dX5_minutesLeft_19 : decode cX5_minutesLeft 19 = .ok (.aload_n 0, 1) := by decide +kernel
theorem dX5_minutesLeft_20 : decode cX5_minutesLeft 20 = .ok (.getfield 7, 3) := by decide +kernel
theorem dX5_minutesLeft_23 : decode cX5_minutesLeft 23 = .ok (.bipush 12, 2) := by decide +kernel
theorem dX5_minutesLeft_25 : decode cX5_minutesLeft 25 = .ok (.iaload, 1) := by decide +kernel
theorem dX5_minutesLeft_26 : decode cX5_minutesLeft 26 = .ok (.iload_n 1, 1) := by decide +kernel
theorem dX5_minutesLeft_27 : decode cX5_minutesLeft 27 = .ok (.isub, 1) := by decide +kernel
theorem dX5_minutesLeft_28 : decode cX5_minutesLeft 28 = .ok (.istore_n 3, 1) := by decide +kernel
theorem dX5_minutesLeft_29 : decode cX5_minutesLeft 29 = .ok (.aload_n 0, 1) := by decide +kernel
theorem dX5_minutesLeft_30 : decode cX5_minutesLeft 30 = .ok (.invokevirtual 111, 3) := by decide +kernel
theorem dX5_minutesLeft_33 : decode cX5_minutesLeft 33 = .ok (.iload_n 2, 1) := by decide +kernel
theorem dX5_minutesLeft_34 : decode cX5_minutesLeft 34 = .ok (.ifCond .ne 7, 3) := by decide +kernel
theorem dX5_minutesLeft_37 : decode cX5_minutesLeft 37 = .ok (.iconst 0, 1) := by decide +kernel
theorem dX5_minutesLeft_38 : decode cX5_minutesLeft 38 = .ok (.goto 4, 3) := by decide +kernel
theorem dX5_minutesLeft_41 : decode cX5_minutesLeft 41 = .ok (.iload_n 3, 1) := by decide +kernel
theorem dX5_minutesLeft_42 : decode cX5_minutesLeft 42 = .ok (.ireturn, 1) := by decide +kernel
