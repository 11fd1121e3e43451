-- what stands at each place; written out by gen17.py
theorem iX0_earliest_0 : ins MX0_earliest 0 = some (.iconst 1, 1) := by decide +kernel
theorem iX0_earliest_1 : ins MX0_earliest 1 = some (.istore 4, 2) := by decide +kernel
theorem iX0_earliest_3 : ins MX0_earliest 3 = some (.iconst 0, 1) := by decide +kernel
theorem iX0_earliest_4 : ins MX0_earliest 4 = some (.istore 5, 2) := by decide +kernel
theorem iX0_earliest_6 : ins MX0_earliest 6 = some (.iload 5, 2) := by decide +kernel
theorem iX0_earliest_8 : ins MX0_earliest 8 = some (.iload_n 2, 1) := by decide +kernel
theorem iX0_earliest_9 : ins MX0_earliest 9 = some (.if_icmp .ge 69, 3) := by decide +kernel
theorem iX0_earliest_12 : ins MX0_earliest 12 = some (.aload_n 1, 1) := by decide +kernel
theorem iX0_earliest_13 : ins MX0_earliest 13 = some (.getfield 30, 3) := by decide +kernel
theorem iX0_earliest_16 : ins MX0_earliest 16 = some (.iload 5, 2) := by decide +kernel
theorem iX0_earliest_18 : ins MX0_earliest 18 = some (.iaload, 1) := by decide +kernel
theorem iX0_earliest_19 : ins MX0_earliest 19 = some (.invokestatic 33, 3) := by decide +kernel
theorem iX0_earliest_22 : ins MX0_earliest 22 = some (.ifCond .ne 26, 3) := by decide +kernel
theorem iX0_earliest_25 : ins MX0_earliest 25 = some (.aload_n 1, 1) := by decide +kernel
theorem iX0_earliest_26 : ins MX0_earliest 26 = some (.getfield 30, 3) := by decide +kernel
theorem iX0_earliest_29 : ins MX0_earliest 29 = some (.iload_n 2, 1) := by decide +kernel
theorem iX0_earliest_30 : ins MX0_earliest 30 = some (.iaload, 1) := by decide +kernel
theorem iX0_earliest_31 : ins MX0_earliest 31 = some (.aload_n 1, 1) := by decide +kernel
theorem iX0_earliest_32 : ins MX0_earliest 32 = some (.getfield 30, 3) := by decide +kernel
theorem iX0_earliest_35 : ins MX0_earliest 35 = some (.iload 5, 2) := by decide +kernel
theorem iX0_earliest_37 : ins MX0_earliest 37 = some (.iaload, 1) := by decide +kernel
theorem iX0_earliest_38 : ins MX0_earliest 38 = some (.invokestatic 49, 3) := by decide +kernel
theorem iX0_earliest_41 : ins MX0_earliest 41 = some (.ifCond .eq 7, 3) := by decide +kernel
theorem iX0_earliest_44 : ins MX0_earliest 44 = some (.iconst 1, 1) := by decide +kernel
theorem iX0_earliest_45 : ins MX0_earliest 45 = some (.goto 4, 3) := by decide +kernel
theorem iX0_earliest_48 : ins MX0_earliest 48 = some (.iconst 0, 1) := by decide +kernel
theorem iX0_earliest_49 : ins MX0_earliest 49 = some (.istore 6, 2) := by decide +kernel
theorem iX0_earliest_51 : ins MX0_earliest 51 = some (.iload 6, 2) := by decide +kernel
theorem iX0_earliest_53 : ins MX0_earliest 53 = some (.ifCond .eq 19, 3) := by decide +kernel
theorem iX0_earliest_56 : ins MX0_earliest 56 = some (.iload 4, 2) := by decide +kernel
theorem iX0_earliest_58 : ins MX0_earliest 58 = some (.aload_n 0, 1) := by decide +kernel
theorem iX0_earliest_59 : ins MX0_earliest 59 = some (.getfield 9, 3) := by decide +kernel
theorem iX0_earliest_62 : ins MX0_earliest 62 = some (.iload 5, 2) := by decide +kernel
theorem iX0_earliest_64 : ins MX0_earliest 64 = some (.iaload, 1) := by decide +kernel
theorem iX0_earliest_65 : ins MX0_earliest 65 = some (.iconst 1, 1) := by decide +kernel
theorem iX0_earliest_66 : ins MX0_earliest 66 = some (.iadd, 1) := by decide +kernel
theorem iX0_earliest_67 : ins MX0_earliest 67 = some (.invokestatic 43, 3) := by decide +kernel
theorem iX0_earliest_70 : ins MX0_earliest 70 = some (.istore 4, 2) := by decide +kernel
theorem iX0_earliest_72 : ins MX0_earliest 72 = some (.iinc 5 1, 3) := by decide +kernel
theorem iX0_earliest_75 : ins MX0_earliest 75 = some (.goto (-69), 3) := by decide +kernel
theorem iX0_earliest_78 : ins MX0_earliest 78 = some (.iload 4, 2) := by decide +kernel
theorem iX0_earliest_80 : ins MX0_earliest 80 = some (.sipush 200, 3) := by decide +kernel
theorem iX0_earliest_83 : ins MX0_earliest 83 = some (.if_icmp .ge 20, 3) := by decide +kernel
theorem iX0_earliest_86 : ins MX0_earliest 86 = some (.aload_n 0, 1) := by decide +kernel
theorem iX0_earliest_87 : ins MX0_earliest 87 = some (.getfield 15, 3) := by decide +kernel
theorem iX0_earliest_90 : ins MX0_earliest 90 = some (.iload 4, 2) := by decide +kernel
theorem iX0_earliest_92 : ins MX0_earliest 92 = some (.iaload, 1) := by decide +kernel
theorem iX0_earliest_93 : ins MX0_earliest 93 = some (.iload_n 3, 1) := by decide +kernel
theorem iX0_earliest_94 : ins MX0_earliest 94 = some (.if_icmp .lt 9, 3) := by decide +kernel
theorem iX0_earliest_97 : ins MX0_earliest 97 = some (.iinc 4 1, 3) := by decide +kernel
theorem iX0_earliest_100 : ins MX0_earliest 100 = some (.goto (-22), 3) := by decide +kernel
theorem iX0_earliest_103 : ins MX0_earliest 103 = some (.iload 4, 2) := by decide +kernel
theorem iX0_earliest_105 : ins MX0_earliest 105 = some (.ireturn, 1) := by decide +kernel
theorem iX0_init_0 : ins MX0_init 0 = some (.aload_n 0, 1) := by decide +kernel
theorem iX0_init_1 : ins MX0_init 1 = some (.invokespecial 3, 3) := by decide +kernel
theorem iX0_init_4 : ins MX0_init 4 = some (.aload_n 0, 1) := by decide +kernel
theorem iX0_init_5 : ins MX0_init 5 = some (.sipush 200, 3) := by decide +kernel
theorem iX0_init_8 : ins MX0_init 8 = some (.newarray .int, 2) := by decide +kernel
theorem iX0_init_10 : ins MX0_init 10 = some (.putfield 9, 3) := by decide +kernel
theorem iX0_init_13 : ins MX0_init 13 = some (.aload_n 0, 1) := by decide +kernel
theorem iX0_init_14 : ins MX0_init 14 = some (.sipush 202, 3) := by decide +kernel
theorem iX0_init_17 : ins MX0_init 17 = some (.newarray .int, 2) := by decide +kernel
theorem iX0_init_19 : ins MX0_init 19 = some (.putfield 15, 3) := by decide +kernel
theorem iX0_init_22 : ins MX0_init 22 = some (.return_, 1) := by decide +kernel
theorem iX0_needed_0 : ins MX0_needed 0 = some (.aload_n 0, 1) := by decide +kernel
theorem iX0_needed_1 : ins MX0_needed 1 = some (.getfield 15, 3) := by decide +kernel
theorem iX0_needed_4 : ins MX0_needed 4 = some (.iconst 0, 1) := by decide +kernel
theorem iX0_needed_5 : ins MX0_needed 5 = some (.invokestatic 18, 3) := by decide +kernel
theorem iX0_needed_8 : ins MX0_needed 8 = some (.iconst 0, 1) := by decide +kernel
theorem iX0_needed_9 : ins MX0_needed 9 = some (.istore_n 3, 1) := by decide +kernel
theorem iX0_needed_10 : ins MX0_needed 10 = some (.iconst 0, 1) := by decide +kernel
theorem iX0_needed_11 : ins MX0_needed 11 = some (.istore 4, 2) := by decide +kernel
theorem iX0_needed_13 : ins MX0_needed 13 = some (.iload 4, 2) := by decide +kernel
theorem iX0_needed_15 : ins MX0_needed 15 = some (.aload_n 1, 1) := by decide +kernel
theorem iX0_needed_16 : ins MX0_needed 16 = some (.getfield 24, 3) := by decide +kernel
theorem iX0_needed_19 : ins MX0_needed 19 = some (.if_icmp .ge 59, 3) := by decide +kernel
theorem iX0_needed_22 : ins MX0_needed 22 = some (.aload_n 1, 1) := by decide +kernel
theorem iX0_needed_23 : ins MX0_needed 23 = some (.getfield 30, 3) := by decide +kernel
theorem iX0_needed_26 : ins MX0_needed 26 = some (.iload 4, 2) := by decide +kernel
theorem iX0_needed_28 : ins MX0_needed 28 = some (.iaload, 1) := by decide +kernel
theorem iX0_needed_29 : ins MX0_needed 29 = some (.invokestatic 33, 3) := by decide +kernel
theorem iX0_needed_32 : ins MX0_needed 32 = some (.ifCond .ne 40, 3) := by decide +kernel
theorem iX0_needed_35 : ins MX0_needed 35 = some (.aload_n 0, 1) := by decide +kernel
theorem iX0_needed_36 : ins MX0_needed 36 = some (.aload_n 1, 1) := by decide +kernel
theorem iX0_needed_37 : ins MX0_needed 37 = some (.iload 4, 2) := by decide +kernel
theorem iX0_needed_39 : ins MX0_needed 39 = some (.iload_n 2, 1) := by decide +kernel
theorem iX0_needed_40 : ins MX0_needed 40 = some (.invokevirtual 39, 3) := by decide +kernel
theorem iX0_needed_43 : ins MX0_needed 43 = some (.istore 5, 2) := by decide +kernel
theorem iX0_needed_45 : ins MX0_needed 45 = some (.aload_n 0, 1) := by decide +kernel
theorem iX0_needed_46 : ins MX0_needed 46 = some (.getfield 9, 3) := by decide +kernel
theorem iX0_needed_49 : ins MX0_needed 49 = some (.iload 4, 2) := by decide +kernel
theorem iX0_needed_51 : ins MX0_needed 51 = some (.iload 5, 2) := by decide +kernel
theorem iX0_needed_53 : ins MX0_needed 53 = some (.iastore, 1) := by decide +kernel
theorem iX0_needed_54 : ins MX0_needed 54 = some (.aload_n 0, 1) := by decide +kernel
theorem iX0_needed_55 : ins MX0_needed 55 = some (.getfield 15, 3) := by decide +kernel
theorem iX0_needed_58 : ins MX0_needed 58 = some (.iload 5, 2) := by decide +kernel
theorem iX0_needed_60 : ins MX0_needed 60 = some (.dup2, 1) := by decide +kernel
theorem iX0_needed_61 : ins MX0_needed 61 = some (.iaload, 1) := by decide +kernel
theorem iX0_needed_62 : ins MX0_needed 62 = some (.iconst 1, 1) := by decide +kernel
theorem iX0_needed_63 : ins MX0_needed 63 = some (.iadd, 1) := by decide +kernel
theorem iX0_needed_64 : ins MX0_needed 64 = some (.iastore, 1) := by decide +kernel
theorem iX0_needed_65 : ins MX0_needed 65 = some (.iload_n 3, 1) := by decide +kernel
theorem iX0_needed_66 : ins MX0_needed 66 = some (.iload 5, 2) := by decide +kernel
theorem iX0_needed_68 : ins MX0_needed 68 = some (.invokestatic 43, 3) := by decide +kernel
theorem iX0_needed_71 : ins MX0_needed 71 = some (.istore_n 3, 1) := by decide +kernel
theorem iX0_needed_72 : ins MX0_needed 72 = some (.iinc 4 1, 3) := by decide +kernel
theorem iX0_needed_75 : ins MX0_needed 75 = some (.goto (-62), 3) := by decide +kernel
theorem iX0_needed_78 : ins MX0_needed 78 = some (.iload_n 3, 1) := by decide +kernel
theorem iX0_needed_79 : ins MX0_needed 79 = some (.ireturn, 1) := by decide +kernel
theorem iX1_copy_0 : ins MX1_copy 0 = some (.aload_n 0, 1) := by decide +kernel
theorem iX1_copy_1 : ins MX1_copy 1 = some (.aload_n 1, 1) := by decide +kernel
theorem iX1_copy_2 : ins MX1_copy 2 = some (.getfield 15, 3) := by decide +kernel
theorem iX1_copy_5 : ins MX1_copy 5 = some (.putfield 15, 3) := by decide +kernel
theorem iX1_copy_8 : ins MX1_copy 8 = some (.aload_n 0, 1) := by decide +kernel
theorem iX1_copy_9 : ins MX1_copy 9 = some (.aload_n 1, 1) := by decide +kernel
theorem iX1_copy_10 : ins MX1_copy 10 = some (.getfield 21, 3) := by decide +kernel
theorem iX1_copy_13 : ins MX1_copy 13 = some (.putfield 21, 3) := by decide +kernel
theorem iX1_copy_16 : ins MX1_copy 16 = some (.aload_n 0, 1) := by decide +kernel
theorem iX1_copy_17 : ins MX1_copy 17 = some (.aload_n 1, 1) := by decide +kernel
theorem iX1_copy_18 : ins MX1_copy 18 = some (.getfield 25, 3) := by decide +kernel
theorem iX1_copy_21 : ins MX1_copy 21 = some (.putfield 25, 3) := by decide +kernel
theorem iX1_copy_24 : ins MX1_copy 24 = some (.aload_n 0, 1) := by decide +kernel
theorem iX1_copy_25 : ins MX1_copy 25 = some (.aload_n 1, 1) := by decide +kernel
theorem iX1_copy_26 : ins MX1_copy 26 = some (.getfield 28, 3) := by decide +kernel
theorem iX1_copy_29 : ins MX1_copy 29 = some (.putfield 28, 3) := by decide +kernel
theorem iX1_copy_32 : ins MX1_copy 32 = some (.aload_n 1, 1) := by decide +kernel
theorem iX1_copy_33 : ins MX1_copy 33 = some (.getfield 31, 3) := by decide +kernel
theorem iX1_copy_36 : ins MX1_copy 36 = some (.iconst 0, 1) := by decide +kernel
theorem iX1_copy_37 : ins MX1_copy 37 = some (.aload_n 0, 1) := by decide +kernel
theorem iX1_copy_38 : ins MX1_copy 38 = some (.getfield 31, 3) := by decide +kernel
theorem iX1_copy_41 : ins MX1_copy 41 = some (.iconst 0, 1) := by decide +kernel
theorem iX1_copy_42 : ins MX1_copy 42 = some (.bipush 16, 2) := by decide +kernel
theorem iX1_copy_44 : ins MX1_copy 44 = some (.invokestatic 44, 3) := by decide +kernel
theorem iX1_copy_47 : ins MX1_copy 47 = some (.aload_n 1, 1) := by decide +kernel
theorem iX1_copy_48 : ins MX1_copy 48 = some (.getfield 35, 3) := by decide +kernel
theorem iX1_copy_51 : ins MX1_copy 51 = some (.iconst 0, 1) := by decide +kernel
theorem iX1_copy_52 : ins MX1_copy 52 = some (.aload_n 0, 1) := by decide +kernel
theorem iX1_copy_53 : ins MX1_copy 53 = some (.getfield 35, 3) := by decide +kernel
theorem iX1_copy_56 : ins MX1_copy 56 = some (.iconst 0, 1) := by decide +kernel
theorem iX1_copy_57 : ins MX1_copy 57 = some (.sipush 256, 3) := by decide +kernel
theorem iX1_copy_60 : ins MX1_copy 60 = some (.invokestatic 44, 3) := by decide +kernel
theorem iX1_copy_63 : ins MX1_copy 63 = some (.return_, 1) := by decide +kernel
theorem iX1_countOver_0 : ins MX1_countOver 0 = some (.iload_n 1, 1) := by decide +kernel
theorem iX1_countOver_1 : ins MX1_countOver 1 = some (.invokestatic 78, 3) := by decide +kernel
theorem iX1_countOver_4 : ins MX1_countOver 4 = some (.istore_n 2, 1) := by decide +kernel
theorem iX1_countOver_5 : ins MX1_countOver 5 = some (.iload_n 1, 1) := by decide +kernel
theorem iX1_countOver_6 : ins MX1_countOver 6 = some (.invokestatic 90, 3) := by decide +kernel
theorem iX1_countOver_9 : ins MX1_countOver 9 = some (.istore_n 3, 1) := by decide +kernel
theorem iX1_countOver_10 : ins MX1_countOver 10 = some (.aload_n 0, 1) := by decide +kernel
theorem iX1_countOver_11 : ins MX1_countOver 11 = some (.getfield 15, 3) := by decide +kernel
theorem iX1_countOver_14 : ins MX1_countOver 14 = some (.iload_n 2, 1) := by decide +kernel
theorem iX1_countOver_15 : ins MX1_countOver 15 = some (.invokestatic 82, 3) := by decide +kernel
theorem iX1_countOver_18 : ins MX1_countOver 18 = some (.bipush 16, 2) := by decide +kernel
theorem iX1_countOver_20 : ins MX1_countOver 20 = some (.imul, 1) := by decide +kernel
theorem iX1_countOver_21 : ins MX1_countOver 21 = some (.istore 4, 2) := by decide +kernel
theorem iX1_countOver_23 : ins MX1_countOver 23 = some (.iload_n 1, 1) := by decide +kernel
theorem iX1_countOver_24 : ins MX1_countOver 24 = some (.invokestatic 93, 3) := by decide +kernel
theorem iX1_countOver_27 : ins MX1_countOver 27 = some (.ifCond .ne 7, 3) := by decide +kernel
theorem iX1_countOver_30 : ins MX1_countOver 30 = some (.iconst 1, 1) := by decide +kernel
theorem iX1_countOver_31 : ins MX1_countOver 31 = some (.goto 4, 3) := by decide +kernel
theorem iX1_countOver_34 : ins MX1_countOver 34 = some (.iconst 0, 1) := by decide +kernel
theorem iX1_countOver_35 : ins MX1_countOver 35 = some (.istore 5, 2) := by decide +kernel
theorem iX1_countOver_37 : ins MX1_countOver 37 = some (.iload_n 2, 1) := by decide +kernel
theorem iX1_countOver_38 : ins MX1_countOver 38 = some (.iload_n 3, 1) := by decide +kernel
theorem iX1_countOver_39 : ins MX1_countOver 39 = some (.invokestatic 96, 3) := by decide +kernel
theorem iX1_countOver_42 : ins MX1_countOver 42 = some (.istore 6, 2) := by decide +kernel
theorem iX1_countOver_44 : ins MX1_countOver 44 = some (.iload 6, 2) := by decide +kernel
theorem iX1_countOver_46 : ins MX1_countOver 46 = some (.iload_n 2, 1) := by decide +kernel
theorem iX1_countOver_47 : ins MX1_countOver 47 = some (.iload_n 3, 1) := by decide +kernel
theorem iX1_countOver_48 : ins MX1_countOver 48 = some (.invokestatic 102, 3) := by decide +kernel
theorem iX1_countOver_51 : ins MX1_countOver 51 = some (.if_icmp .gt 47, 3) := by decide +kernel
theorem iX1_countOver_54 : ins MX1_countOver 54 = some (.iload 6, 2) := by decide +kernel
theorem iX1_countOver_56 : ins MX1_countOver 56 = some (.iload_n 2, 1) := by decide +kernel
theorem iX1_countOver_57 : ins MX1_countOver 57 = some (.if_icmp .eq 35, 3) := by decide +kernel
theorem iX1_countOver_60 : ins MX1_countOver 60 = some (.iload 5, 2) := by decide +kernel
theorem iX1_countOver_62 : ins MX1_countOver 62 = some (.ifCond .ne 9, 3) := by decide +kernel
theorem iX1_countOver_65 : ins MX1_countOver 65 = some (.iload 6, 2) := by decide +kernel
theorem iX1_countOver_67 : ins MX1_countOver 67 = some (.iload_n 3, 1) := by decide +kernel
theorem iX1_countOver_68 : ins MX1_countOver 68 = some (.if_icmp .ne 24, 3) := by decide +kernel
theorem iX1_countOver_71 : ins MX1_countOver 71 = some (.aload_n 0, 1) := by decide +kernel
theorem iX1_countOver_72 : ins MX1_countOver 72 = some (.getfield 35, 3) := by decide +kernel
theorem iX1_countOver_75 : ins MX1_countOver 75 = some (.iload 4, 2) := by decide +kernel
theorem iX1_countOver_77 : ins MX1_countOver 77 = some (.aload_n 0, 1) := by decide +kernel
theorem iX1_countOver_78 : ins MX1_countOver 78 = some (.getfield 15, 3) := by decide +kernel
theorem iX1_countOver_81 : ins MX1_countOver 81 = some (.iload 6, 2) := by decide +kernel
theorem iX1_countOver_83 : ins MX1_countOver 83 = some (.invokestatic 82, 3) := by decide +kernel
theorem iX1_countOver_86 : ins MX1_countOver 86 = some (.iadd, 1) := by decide +kernel
theorem iX1_countOver_87 : ins MX1_countOver 87 = some (.dup2, 1) := by decide +kernel
theorem iX1_countOver_88 : ins MX1_countOver 88 = some (.iaload, 1) := by decide +kernel
theorem iX1_countOver_89 : ins MX1_countOver 89 = some (.iconst 1, 1) := by decide +kernel
theorem iX1_countOver_90 : ins MX1_countOver 90 = some (.iadd, 1) := by decide +kernel
theorem iX1_countOver_91 : ins MX1_countOver 91 = some (.iastore, 1) := by decide +kernel
theorem iX1_countOver_92 : ins MX1_countOver 92 = some (.iinc 6 1, 3) := by decide +kernel
theorem iX1_countOver_95 : ins MX1_countOver 95 = some (.goto (-51), 3) := by decide +kernel
theorem iX1_countOver_98 : ins MX1_countOver 98 = some (.return_, 1) := by decide +kernel
theorem iX1_draw_0 : ins MX1_draw 0 = some (.aload_n 0, 1) := by decide +kernel
theorem iX1_draw_1 : ins MX1_draw 1 = some (.ldc 50, 2) := by decide +kernel
theorem iX1_draw_3 : ins MX1_draw 3 = some (.aload_n 0, 1) := by decide +kernel
theorem iX1_draw_4 : ins MX1_draw 4 = some (.getfield 21, 3) := by decide +kernel
theorem iX1_draw_7 : ins MX1_draw 7 = some (.imul, 1) := by decide +kernel
theorem iX1_draw_8 : ins MX1_draw 8 = some (.ldc 51, 2) := by decide +kernel
theorem iX1_draw_10 : ins MX1_draw 10 = some (.iadd, 1) := by decide +kernel
theorem iX1_draw_11 : ins MX1_draw 11 = some (.putfield 21, 3) := by decide +kernel
theorem iX1_draw_14 : ins MX1_draw 14 = some (.iload_n 1, 1) := by decide +kernel
theorem iX1_draw_15 : ins MX1_draw 15 = some (.ifCond .le 15, 3) := by decide +kernel
theorem iX1_draw_18 : ins MX1_draw 18 = some (.aload_n 0, 1) := by decide +kernel
theorem iX1_draw_19 : ins MX1_draw 19 = some (.getfield 21, 3) := by decide +kernel
theorem iX1_draw_22 : ins MX1_draw 22 = some (.bipush 8, 2) := by decide +kernel
theorem iX1_draw_24 : ins MX1_draw 24 = some (.iushr, 1) := by decide +kernel
theorem iX1_draw_25 : ins MX1_draw 25 = some (.iload_n 1, 1) := by decide +kernel
theorem iX1_draw_26 : ins MX1_draw 26 = some (.irem, 1) := by decide +kernel
theorem iX1_draw_27 : ins MX1_draw 27 = some (.goto 4, 3) := by decide +kernel
theorem iX1_draw_30 : ins MX1_draw 30 = some (.iconst 0, 1) := by decide +kernel
theorem iX1_draw_31 : ins MX1_draw 31 = some (.ireturn, 1) := by decide +kernel
theorem iX1_init_0 : ins MX1_init 0 = some (.aload_n 0, 1) := by decide +kernel
theorem iX1_init_1 : ins MX1_init 1 = some (.invokespecial 3, 3) := by decide +kernel
theorem iX1_init_4 : ins MX1_init 4 = some (.aload_n 0, 1) := by decide +kernel
theorem iX1_init_5 : ins MX1_init 5 = some (.bipush 8, 2) := by decide +kernel
theorem iX1_init_7 : ins MX1_init 7 = some (.invokestatic 9, 3) := by decide +kernel
theorem iX1_init_10 : ins MX1_init 10 = some (.putfield 15, 3) := by decide +kernel
theorem iX1_init_13 : ins MX1_init 13 = some (.aload_n 0, 1) := by decide +kernel
theorem iX1_init_14 : ins MX1_init 14 = some (.iconst 0, 1) := by decide +kernel
theorem iX1_init_15 : ins MX1_init 15 = some (.putfield 21, 3) := by decide +kernel
theorem iX1_init_18 : ins MX1_init 18 = some (.aload_n 0, 1) := by decide +kernel
theorem iX1_init_19 : ins MX1_init 19 = some (.iconst 0, 1) := by decide +kernel
theorem iX1_init_20 : ins MX1_init 20 = some (.putfield 25, 3) := by decide +kernel
theorem iX1_init_23 : ins MX1_init 23 = some (.aload_n 0, 1) := by decide +kernel
theorem iX1_init_24 : ins MX1_init 24 = some (.iconst 0, 1) := by decide +kernel
theorem iX1_init_25 : ins MX1_init 25 = some (.putfield 28, 3) := by decide +kernel
theorem iX1_init_28 : ins MX1_init 28 = some (.aload_n 0, 1) := by decide +kernel
theorem iX1_init_29 : ins MX1_init 29 = some (.bipush 16, 2) := by decide +kernel
theorem iX1_init_31 : ins MX1_init 31 = some (.newarray .int, 2) := by decide +kernel
theorem iX1_init_33 : ins MX1_init 33 = some (.putfield 31, 3) := by decide +kernel
theorem iX1_init_36 : ins MX1_init 36 = some (.aload_n 0, 1) := by decide +kernel
theorem iX1_init_37 : ins MX1_init 37 = some (.sipush 256, 3) := by decide +kernel
theorem iX1_init_40 : ins MX1_init 40 = some (.newarray .int, 2) := by decide +kernel
theorem iX1_init_42 : ins MX1_init 42 = some (.putfield 35, 3) := by decide +kernel
theorem iX1_init_45 : ins MX1_init 45 = some (.return_, 1) := by decide +kernel
theorem iX1_isCovered_0 : ins MX1_isCovered 0 = some (.iconst 0, 1) := by decide +kernel
theorem iX1_isCovered_1 : ins MX1_isCovered 1 = some (.istore 4, 2) := by decide +kernel
theorem iX1_isCovered_3 : ins MX1_isCovered 3 = some (.iload 4, 2) := by decide +kernel
theorem iX1_isCovered_5 : ins MX1_isCovered 5 = some (.iload_n 3, 1) := by decide +kernel
theorem iX1_isCovered_6 : ins MX1_isCovered 6 = some (.if_icmp .ge 30, 3) := by decide +kernel
theorem iX1_isCovered_9 : ins MX1_isCovered 9 = some (.iload_n 2, 1) := by decide +kernel
theorem iX1_isCovered_10 : ins MX1_isCovered 10 = some (.iconst 1, 1) := by decide +kernel
theorem iX1_isCovered_11 : ins MX1_isCovered 11 = some (.iload 4, 2) := by decide +kernel
theorem iX1_isCovered_13 : ins MX1_isCovered 13 = some (.ishl, 1) := by decide +kernel
theorem iX1_isCovered_14 : ins MX1_isCovered 14 = some (.iand, 1) := by decide +kernel
theorem iX1_isCovered_15 : ins MX1_isCovered 15 = some (.ifCond .eq 15, 3) := by decide +kernel
theorem iX1_isCovered_18 : ins MX1_isCovered 18 = some (.aload_n 0, 1) := by decide +kernel
theorem iX1_isCovered_19 : ins MX1_isCovered 19 = some (.iload 4, 2) := by decide +kernel
theorem iX1_isCovered_21 : ins MX1_isCovered 21 = some (.iload_n 1, 1) := by decide +kernel
theorem iX1_isCovered_22 : ins MX1_isCovered 22 = some (.invokevirtual 109, 3) := by decide +kernel
theorem iX1_isCovered_25 : ins MX1_isCovered 25 = some (.ifCond .le 5, 3) := by decide +kernel
theorem iX1_isCovered_28 : ins MX1_isCovered 28 = some (.iconst 1, 1) := by decide +kernel
theorem iX1_isCovered_29 : ins MX1_isCovered 29 = some (.ireturn, 1) := by decide +kernel
theorem iX1_isCovered_30 : ins MX1_isCovered 30 = some (.iinc 4 1, 3) := by decide +kernel
theorem iX1_isCovered_33 : ins MX1_isCovered 33 = some (.goto (-30), 3) := by decide +kernel
theorem iX1_isCovered_36 : ins MX1_isCovered 36 = some (.iconst 0, 1) := by decide +kernel
theorem iX1_isCovered_37 : ins MX1_isCovered 37 = some (.ireturn, 1) := by decide +kernel
theorem iX1_isOverLike_0 : ins MX1_isOverLike 0 = some (.iconst 0, 1) := by decide +kernel
theorem iX1_isOverLike_1 : ins MX1_isOverLike 1 = some (.istore_n 2, 1) := by decide +kernel
theorem iX1_isOverLike_2 : ins MX1_isOverLike 2 = some (.iload_n 2, 1) := by decide +kernel
theorem iX1_isOverLike_3 : ins MX1_isOverLike 3 = some (.sipush 256, 3) := by decide +kernel
theorem iX1_isOverLike_6 : ins MX1_isOverLike 6 = some (.if_icmp .ge 26, 3) := by decide +kernel
theorem iX1_isOverLike_9 : ins MX1_isOverLike 9 = some (.aload_n 0, 1) := by decide +kernel
theorem iX1_isOverLike_10 : ins MX1_isOverLike 10 = some (.getfield 35, 3) := by decide +kernel
theorem iX1_isOverLike_13 : ins MX1_isOverLike 13 = some (.iload_n 2, 1) := by decide +kernel
theorem iX1_isOverLike_14 : ins MX1_isOverLike 14 = some (.iaload, 1) := by decide +kernel
theorem iX1_isOverLike_15 : ins MX1_isOverLike 15 = some (.aload_n 1, 1) := by decide +kernel
theorem iX1_isOverLike_16 : ins MX1_isOverLike 16 = some (.getfield 35, 3) := by decide +kernel
theorem iX1_isOverLike_19 : ins MX1_isOverLike 19 = some (.iload_n 2, 1) := by decide +kernel
theorem iX1_isOverLike_20 : ins MX1_isOverLike 20 = some (.iaload, 1) := by decide +kernel
theorem iX1_isOverLike_21 : ins MX1_isOverLike 21 = some (.if_icmp .eq 5, 3) := by decide +kernel
theorem iX1_isOverLike_24 : ins MX1_isOverLike 24 = some (.iconst 0, 1) := by decide +kernel
theorem iX1_isOverLike_25 : ins MX1_isOverLike 25 = some (.ireturn, 1) := by decide +kernel
theorem iX1_isOverLike_26 : ins MX1_isOverLike 26 = some (.iinc 2 1, 3) := by decide +kernel
theorem iX1_isOverLike_29 : ins MX1_isOverLike 29 = some (.goto (-27), 3) := by decide +kernel
theorem iX1_isOverLike_32 : ins MX1_isOverLike 32 = some (.iconst 1, 1) := by decide +kernel
theorem iX1_isOverLike_33 : ins MX1_isOverLike 33 = some (.ireturn, 1) := by decide +kernel
theorem iX1_leastFree_0 : ins MX1_leastFree 0 = some (.iconst 0, 1) := by decide +kernel
theorem iX1_leastFree_1 : ins MX1_leastFree 1 = some (.istore_n 3, 1) := by decide +kernel
theorem iX1_leastFree_2 : ins MX1_leastFree 2 = some (.iload_n 3, 1) := by decide +kernel
theorem iX1_leastFree_3 : ins MX1_leastFree 3 = some (.iload_n 2, 1) := by decide +kernel
theorem iX1_leastFree_4 : ins MX1_leastFree 4 = some (.if_icmp .ge 29, 3) := by decide +kernel
theorem iX1_leastFree_7 : ins MX1_leastFree 7 = some (.iload_n 1, 1) := by decide +kernel
theorem iX1_leastFree_8 : ins MX1_leastFree 8 = some (.iconst 1, 1) := by decide +kernel
theorem iX1_leastFree_9 : ins MX1_leastFree 9 = some (.iload_n 3, 1) := by decide +kernel
theorem iX1_leastFree_10 : ins MX1_leastFree 10 = some (.ishl, 1) := by decide +kernel
theorem iX1_leastFree_11 : ins MX1_leastFree 11 = some (.iand, 1) := by decide +kernel
theorem iX1_leastFree_12 : ins MX1_leastFree 12 = some (.ifCond .eq 15, 3) := by decide +kernel
theorem iX1_leastFree_15 : ins MX1_leastFree 15 = some (.aload_n 0, 1) := by decide +kernel
theorem iX1_leastFree_16 : ins MX1_leastFree 16 = some (.iload_n 3, 1) := by decide +kernel
theorem iX1_leastFree_17 : ins MX1_leastFree 17 = some (.iload_n 1, 1) := by decide +kernel
theorem iX1_leastFree_18 : ins MX1_leastFree 18 = some (.iload_n 2, 1) := by decide +kernel
theorem iX1_leastFree_19 : ins MX1_leastFree 19 = some (.invokevirtual 105, 3) := by decide +kernel
theorem iX1_leastFree_22 : ins MX1_leastFree 22 = some (.ifCond .ne 5, 3) := by decide +kernel
theorem iX1_leastFree_25 : ins MX1_leastFree 25 = some (.iload_n 3, 1) := by decide +kernel
theorem iX1_leastFree_26 : ins MX1_leastFree 26 = some (.ireturn, 1) := by decide +kernel
theorem iX1_leastFree_27 : ins MX1_leastFree 27 = some (.iinc 3 1, 3) := by decide +kernel
theorem iX1_leastFree_30 : ins MX1_leastFree 30 = some (.goto (-28), 3) := by decide +kernel
theorem iX1_leastFree_33 : ins MX1_leastFree 33 = some (.iconst (-1), 1) := by decide +kernel
theorem iX1_leastFree_34 : ins MX1_leastFree 34 = some (.ireturn, 1) := by decide +kernel
theorem iX1_make_0 : ins MX1_make 0 = some (.iload_n 1, 1) := by decide +kernel
theorem iX1_make_1 : ins MX1_make 1 = some (.invokestatic 64, 3) := by decide +kernel
theorem iX1_make_4 : ins MX1_make 4 = some (.ifCond .ne 19, 3) := by decide +kernel
theorem iX1_make_7 : ins MX1_make 7 = some (.iload_n 1, 1) := by decide +kernel
theorem iX1_make_8 : ins MX1_make 8 = some (.aload_n 0, 1) := by decide +kernel
theorem iX1_make_9 : ins MX1_make 9 = some (.getfield 15, 3) := by decide +kernel
theorem iX1_make_12 : ins MX1_make 12 = some (.lload_n 2, 1) := by decide +kernel
theorem iX1_make_13 : ins MX1_make 13 = some (.invokestatic 70, 3) := by decide +kernel
theorem iX1_make_16 : ins MX1_make 16 = some (.ifCond .eq 7, 3) := by decide +kernel
theorem iX1_make_19 : ins MX1_make 19 = some (.iconst 1, 1) := by decide +kernel
theorem iX1_make_20 : ins MX1_make 20 = some (.goto 4, 3) := by decide +kernel
theorem iX1_make_23 : ins MX1_make 23 = some (.iconst 0, 1) := by decide +kernel
theorem iX1_make_24 : ins MX1_make 24 = some (.istore 5, 2) := by decide +kernel
theorem iX1_make_26 : ins MX1_make 26 = some (.iload 5, 2) := by decide +kernel
theorem iX1_make_28 : ins MX1_make 28 = some (.ifCond .eq 38, 3) := by decide +kernel
theorem iX1_make_31 : ins MX1_make 31 = some (.aload_n 0, 1) := by decide +kernel
theorem iX1_make_32 : ins MX1_make 32 = some (.iload_n 1, 1) := by decide +kernel
theorem iX1_make_33 : ins MX1_make 33 = some (.invokevirtual 74, 3) := by decide +kernel
theorem iX1_make_36 : ins MX1_make 36 = some (.aload_n 0, 1) := by decide +kernel
theorem iX1_make_37 : ins MX1_make 37 = some (.getfield 31, 3) := by decide +kernel
theorem iX1_make_40 : ins MX1_make 40 = some (.aload_n 0, 1) := by decide +kernel
theorem iX1_make_41 : ins MX1_make 41 = some (.getfield 15, 3) := by decide +kernel
theorem iX1_make_44 : ins MX1_make 44 = some (.iload_n 1, 1) := by decide +kernel
theorem iX1_make_45 : ins MX1_make 45 = some (.invokestatic 78, 3) := by decide +kernel
theorem iX1_make_48 : ins MX1_make 48 = some (.invokestatic 82, 3) := by decide +kernel
theorem iX1_make_51 : ins MX1_make 51 = some (.dup2, 1) := by decide +kernel
theorem iX1_make_52 : ins MX1_make 52 = some (.iaload, 1) := by decide +kernel
theorem iX1_make_53 : ins MX1_make 53 = some (.iconst 1, 1) := by decide +kernel
theorem iX1_make_54 : ins MX1_make 54 = some (.iadd, 1) := by decide +kernel
theorem iX1_make_55 : ins MX1_make 55 = some (.iastore, 1) := by decide +kernel
theorem iX1_make_56 : ins MX1_make 56 = some (.aload_n 0, 1) := by decide +kernel
theorem iX1_make_57 : ins MX1_make 57 = some (.dup, 1) := by decide +kernel
theorem iX1_make_58 : ins MX1_make 58 = some (.getfield 25, 3) := by decide +kernel
theorem iX1_make_61 : ins MX1_make 61 = some (.iconst 1, 1) := by decide +kernel
theorem iX1_make_62 : ins MX1_make 62 = some (.iadd, 1) := by decide +kernel
theorem iX1_make_63 : ins MX1_make 63 = some (.putfield 25, 3) := by decide +kernel
theorem iX1_make_66 : ins MX1_make 66 = some (.aload_n 0, 1) := by decide +kernel
theorem iX1_make_67 : ins MX1_make 67 = some (.aload_n 0, 1) := by decide +kernel
theorem iX1_make_68 : ins MX1_make 68 = some (.getfield 15, 3) := by decide +kernel
theorem iX1_make_71 : ins MX1_make 71 = some (.iload_n 1, 1) := by decide +kernel
theorem iX1_make_72 : ins MX1_make 72 = some (.lload_n 2, 1) := by decide +kernel
theorem iX1_make_73 : ins MX1_make 73 = some (.iload 4, 2) := by decide +kernel
theorem iX1_make_75 : ins MX1_make 75 = some (.invokestatic 86, 3) := by decide +kernel
theorem iX1_make_78 : ins MX1_make 78 = some (.putfield 15, 3) := by decide +kernel
theorem iX1_make_81 : ins MX1_make 81 = some (.iload 5, 2) := by decide +kernel
theorem iX1_make_83 : ins MX1_make 83 = some (.ireturn, 1) := by decide +kernel
theorem iX1_singInThought_0 : ins MX1_singInThought 0 = some (.iconst 0, 1) := by decide +kernel
theorem iX1_singInThought_1 : ins MX1_singInThought 1 = some (.istore 5, 2) := by decide +kernel
theorem iX1_singInThought_3 : ins MX1_singInThought 3 = some (.iload 5, 2) := by decide +kernel
theorem iX1_singInThought_5 : ins MX1_singInThought 5 = some (.aload_n 1, 1) := by decide +kernel
theorem iX1_singInThought_6 : ins MX1_singInThought 6 = some (.getfield 52, 3) := by decide +kernel
theorem iX1_singInThought_9 : ins MX1_singInThought 9 = some (.if_icmp .ge 24, 3) := by decide +kernel
theorem iX1_singInThought_12 : ins MX1_singInThought 12 = some (.aload_n 0, 1) := by decide +kernel
theorem iX1_singInThought_13 : ins MX1_singInThought 13 = some (.aload_n 1, 1) := by decide +kernel
theorem iX1_singInThought_14 : ins MX1_singInThought 14 = some (.getfield 57, 3) := by decide +kernel
theorem iX1_singInThought_17 : ins MX1_singInThought 17 = some (.iload 5, 2) := by decide +kernel
theorem iX1_singInThought_19 : ins MX1_singInThought 19 = some (.iaload, 1) := by decide +kernel
theorem iX1_singInThought_20 : ins MX1_singInThought 20 = some (.lload_n 2, 1) := by decide +kernel
theorem iX1_singInThought_21 : ins MX1_singInThought 21 = some (.iload 4, 2) := by decide +kernel
theorem iX1_singInThought_23 : ins MX1_singInThought 23 = some (.invokevirtual 60, 3) := by decide +kernel
theorem iX1_singInThought_26 : ins MX1_singInThought 26 = some (.pop, 1) := by decide +kernel
theorem iX1_singInThought_27 : ins MX1_singInThought 27 = some (.iinc 5 1, 3) := by decide +kernel
theorem iX1_singInThought_30 : ins MX1_singInThought 30 = some (.goto (-27), 3) := by decide +kernel
theorem iX1_singInThought_33 : ins MX1_singInThought 33 = some (.return_, 1) := by decide +kernel
theorem iX1_startAnew_0 : ins MX1_startAnew 0 = some (.aload_n 0, 1) := by decide +kernel
theorem iX1_startAnew_1 : ins MX1_startAnew 1 = some (.iload_n 1, 1) := by decide +kernel
theorem iX1_startAnew_2 : ins MX1_startAnew 2 = some (.invokestatic 9, 3) := by decide +kernel
theorem iX1_startAnew_5 : ins MX1_startAnew 5 = some (.putfield 15, 3) := by decide +kernel
theorem iX1_startAnew_8 : ins MX1_startAnew 8 = some (.aload_n 0, 1) := by decide +kernel
theorem iX1_startAnew_9 : ins MX1_startAnew 9 = some (.iconst 0, 1) := by decide +kernel
theorem iX1_startAnew_10 : ins MX1_startAnew 10 = some (.putfield 25, 3) := by decide +kernel
theorem iX1_startAnew_13 : ins MX1_startAnew 13 = some (.aload_n 0, 1) := by decide +kernel
theorem iX1_startAnew_14 : ins MX1_startAnew 14 = some (.iconst 0, 1) := by decide +kernel
theorem iX1_startAnew_15 : ins MX1_startAnew 15 = some (.putfield 28, 3) := by decide +kernel
theorem iX1_startAnew_18 : ins MX1_startAnew 18 = some (.aload_n 0, 1) := by decide +kernel
theorem iX1_startAnew_19 : ins MX1_startAnew 19 = some (.getfield 31, 3) := by decide +kernel
theorem iX1_startAnew_22 : ins MX1_startAnew 22 = some (.iconst 0, 1) := by decide +kernel
theorem iX1_startAnew_23 : ins MX1_startAnew 23 = some (.invokestatic 38, 3) := by decide +kernel
theorem iX1_startAnew_26 : ins MX1_startAnew 26 = some (.aload_n 0, 1) := by decide +kernel
theorem iX1_startAnew_27 : ins MX1_startAnew 27 = some (.getfield 35, 3) := by decide +kernel
theorem iX1_startAnew_30 : ins MX1_startAnew 30 = some (.iconst 0, 1) := by decide +kernel
theorem iX1_startAnew_31 : ins MX1_startAnew 31 = some (.invokestatic 38, 3) := by decide +kernel
theorem iX1_startAnew_34 : ins MX1_startAnew 34 = some (.return_, 1) := by decide +kernel
theorem iX1_timesOver_0 : ins MX1_timesOver 0 = some (.aload_n 0, 1) := by decide +kernel
theorem iX1_timesOver_1 : ins MX1_timesOver 1 = some (.getfield 35, 3) := by decide +kernel
theorem iX1_timesOver_4 : ins MX1_timesOver 4 = some (.iload_n 1, 1) := by decide +kernel
theorem iX1_timesOver_5 : ins MX1_timesOver 5 = some (.bipush 16, 2) := by decide +kernel
theorem iX1_timesOver_7 : ins MX1_timesOver 7 = some (.imul, 1) := by decide +kernel
theorem iX1_timesOver_8 : ins MX1_timesOver 8 = some (.iload_n 2, 1) := by decide +kernel
theorem iX1_timesOver_9 : ins MX1_timesOver 9 = some (.iadd, 1) := by decide +kernel
theorem iX1_timesOver_10 : ins MX1_timesOver 10 = some (.iaload, 1) := by decide +kernel
theorem iX1_timesOver_11 : ins MX1_timesOver 11 = some (.ireturn, 1) := by decide +kernel
theorem iX2_forget_0 : ins MX2_forget 0 = some (.aload_n 0, 1) := by decide +kernel
theorem iX2_forget_1 : ins MX2_forget 1 = some (.iconst 0, 1) := by decide +kernel
theorem iX2_forget_2 : ins MX2_forget 2 = some (.putfield 9, 3) := by decide +kernel
theorem iX2_forget_5 : ins MX2_forget 5 = some (.return_, 1) := by decide +kernel
theorem iX2_goBack_0 : ins MX2_goBack 0 = some (.aload_n 0, 1) := by decide +kernel
theorem iX2_goBack_1 : ins MX2_goBack 1 = some (.getfield 9, 3) := by decide +kernel
theorem iX2_goBack_4 : ins MX2_goBack 4 = some (.ifCond .ne 5, 3) := by decide +kernel
theorem iX2_goBack_7 : ins MX2_goBack 7 = some (.iconst 0, 1) := by decide +kernel
theorem iX2_goBack_8 : ins MX2_goBack 8 = some (.ireturn, 1) := by decide +kernel
theorem iX2_goBack_9 : ins MX2_goBack 9 = some (.aload_n 0, 1) := by decide +kernel
theorem iX2_goBack_10 : ins MX2_goBack 10 = some (.aload_n 0, 1) := by decide +kernel
theorem iX2_goBack_11 : ins MX2_goBack 11 = some (.getfield 15, 3) := by decide +kernel
theorem iX2_goBack_14 : ins MX2_goBack 14 = some (.bipush 6, 2) := by decide +kernel
theorem iX2_goBack_16 : ins MX2_goBack 16 = some (.iadd, 1) := by decide +kernel
theorem iX2_goBack_17 : ins MX2_goBack 17 = some (.iconst 1, 1) := by decide +kernel
theorem iX2_goBack_18 : ins MX2_goBack 18 = some (.isub, 1) := by decide +kernel
theorem iX2_goBack_19 : ins MX2_goBack 19 = some (.bipush 6, 2) := by decide +kernel
theorem iX2_goBack_21 : ins MX2_goBack 21 = some (.irem, 1) := by decide +kernel
theorem iX2_goBack_22 : ins MX2_goBack 22 = some (.putfield 15, 3) := by decide +kernel
theorem iX2_goBack_25 : ins MX2_goBack 25 = some (.aload_n 1, 1) := by decide +kernel
theorem iX2_goBack_26 : ins MX2_goBack 26 = some (.aload_n 0, 1) := by decide +kernel
theorem iX2_goBack_27 : ins MX2_goBack 27 = some (.getfield 20, 3) := by decide +kernel
theorem iX2_goBack_30 : ins MX2_goBack 30 = some (.aload_n 0, 1) := by decide +kernel
theorem iX2_goBack_31 : ins MX2_goBack 31 = some (.getfield 15, 3) := by decide +kernel
theorem iX2_goBack_34 : ins MX2_goBack 34 = some (.aaload, 1) := by decide +kernel
theorem iX2_goBack_35 : ins MX2_goBack 35 = some (.invokevirtual 25, 3) := by decide +kernel
theorem iX2_goBack_38 : ins MX2_goBack 38 = some (.aload_n 0, 1) := by decide +kernel
theorem iX2_goBack_39 : ins MX2_goBack 39 = some (.dup, 1) := by decide +kernel
theorem iX2_goBack_40 : ins MX2_goBack 40 = some (.getfield 9, 3) := by decide +kernel
theorem iX2_goBack_43 : ins MX2_goBack 43 = some (.iconst 1, 1) := by decide +kernel
theorem iX2_goBack_44 : ins MX2_goBack 44 = some (.isub, 1) := by decide +kernel
theorem iX2_goBack_45 : ins MX2_goBack 45 = some (.putfield 9, 3) := by decide +kernel
theorem iX2_goBack_48 : ins MX2_goBack 48 = some (.iconst 1, 1) := by decide +kernel
theorem iX2_goBack_49 : ins MX2_goBack 49 = some (.ireturn, 1) := by decide +kernel
theorem iX2_init_0 : ins MX2_init 0 = some (.aload_n 0, 1) := by decide +kernel
theorem iX2_init_1 : ins MX2_init 1 = some (.invokespecial 3, 3) := by decide +kernel
theorem iX2_init_4 : ins MX2_init 4 = some (.aload_n 0, 1) := by decide +kernel
theorem iX2_init_5 : ins MX2_init 5 = some (.iconst 0, 1) := by decide +kernel
theorem iX2_init_6 : ins MX2_init 6 = some (.putfield 9, 3) := by decide +kernel
theorem iX2_init_9 : ins MX2_init 9 = some (.aload_n 0, 1) := by decide +kernel
theorem iX2_init_10 : ins MX2_init 10 = some (.iconst 0, 1) := by decide +kernel
theorem iX2_init_11 : ins MX2_init 11 = some (.putfield 15, 3) := by decide +kernel
theorem iX2_init_14 : ins MX2_init 14 = some (.aload_n 0, 1) := by decide +kernel
theorem iX2_init_15 : ins MX2_init 15 = some (.bipush 6, 2) := by decide +kernel
theorem iX2_init_17 : ins MX2_init 17 = some (.anewarray 18, 3) := by decide +kernel
theorem iX2_init_20 : ins MX2_init 20 = some (.putfield 20, 3) := by decide +kernel
theorem iX2_init_23 : ins MX2_init 23 = some (.iconst 0, 1) := by decide +kernel
theorem iX2_init_24 : ins MX2_init 24 = some (.istore_n 1, 1) := by decide +kernel
theorem iX2_init_25 : ins MX2_init 25 = some (.iload_n 1, 1) := by decide +kernel
theorem iX2_init_26 : ins MX2_init 26 = some (.bipush 6, 2) := by decide +kernel
theorem iX2_init_28 : ins MX2_init 28 = some (.if_icmp .ge 22, 3) := by decide +kernel
theorem iX2_init_31 : ins MX2_init 31 = some (.aload_n 0, 1) := by decide +kernel
theorem iX2_init_32 : ins MX2_init 32 = some (.getfield 20, 3) := by decide +kernel
theorem iX2_init_35 : ins MX2_init 35 = some (.iload_n 1, 1) := by decide +kernel
theorem iX2_init_36 : ins MX2_init 36 = some (.new 18, 3) := by decide +kernel
theorem iX2_init_39 : ins MX2_init 39 = some (.dup, 1) := by decide +kernel
theorem iX2_init_40 : ins MX2_init 40 = some (.invokespecial 24, 3) := by decide +kernel
theorem iX2_init_43 : ins MX2_init 43 = some (.aastore, 1) := by decide +kernel
theorem iX2_init_44 : ins MX2_init 44 = some (.iinc 1 1, 3) := by decide +kernel
theorem iX2_init_47 : ins MX2_init 47 = some (.goto (-22), 3) := by decide +kernel
theorem iX2_init_50 : ins MX2_init 50 = some (.return_, 1) := by decide +kernel
theorem iX2_remember_0 : ins MX2_remember 0 = some (.aload_n 0, 1) := by decide +kernel
theorem iX2_remember_1 : ins MX2_remember 1 = some (.getfield 20, 3) := by decide +kernel
theorem iX2_remember_4 : ins MX2_remember 4 = some (.aload_n 0, 1) := by decide +kernel
theorem iX2_remember_5 : ins MX2_remember 5 = some (.getfield 15, 3) := by decide +kernel
theorem iX2_remember_8 : ins MX2_remember 8 = some (.aaload, 1) := by decide +kernel
theorem iX2_remember_9 : ins MX2_remember 9 = some (.aload_n 1, 1) := by decide +kernel
theorem iX2_remember_10 : ins MX2_remember 10 = some (.invokevirtual 25, 3) := by decide +kernel
theorem iX2_remember_13 : ins MX2_remember 13 = some (.aload_n 0, 1) := by decide +kernel
theorem iX2_remember_14 : ins MX2_remember 14 = some (.aload_n 0, 1) := by decide +kernel
theorem iX2_remember_15 : ins MX2_remember 15 = some (.getfield 15, 3) := by decide +kernel
theorem iX2_remember_18 : ins MX2_remember 18 = some (.iconst 1, 1) := by decide +kernel
theorem iX2_remember_19 : ins MX2_remember 19 = some (.iadd, 1) := by decide +kernel
theorem iX2_remember_20 : ins MX2_remember 20 = some (.bipush 6, 2) := by decide +kernel
theorem iX2_remember_22 : ins MX2_remember 22 = some (.irem, 1) := by decide +kernel
theorem iX2_remember_23 : ins MX2_remember 23 = some (.putfield 15, 3) := by decide +kernel
theorem iX2_remember_26 : ins MX2_remember 26 = some (.aload_n 0, 1) := by decide +kernel
theorem iX2_remember_27 : ins MX2_remember 27 = some (.aload_n 0, 1) := by decide +kernel
theorem iX2_remember_28 : ins MX2_remember 28 = some (.getfield 9, 3) := by decide +kernel
theorem iX2_remember_31 : ins MX2_remember 31 = some (.iconst 1, 1) := by decide +kernel
theorem iX2_remember_32 : ins MX2_remember 32 = some (.iadd, 1) := by decide +kernel
theorem iX2_remember_33 : ins MX2_remember 33 = some (.bipush 6, 2) := by decide +kernel
theorem iX2_remember_35 : ins MX2_remember 35 = some (.invokestatic 29, 3) := by decide +kernel
theorem iX2_remember_38 : ins MX2_remember 38 = some (.putfield 9, 3) := by decide +kernel
theorem iX2_remember_41 : ins MX2_remember 41 = some (.return_, 1) := by decide +kernel
theorem iX3_countOf_0 : ins MX3_countOf 0 = some (.iconst 0, 1) := by decide +kernel
theorem iX3_countOf_1 : ins MX3_countOf 1 = some (.istore 4, 2) := by decide +kernel
theorem iX3_countOf_3 : ins MX3_countOf 3 = some (.iconst 0, 1) := by decide +kernel
theorem iX3_countOf_4 : ins MX3_countOf 4 = some (.istore 5, 2) := by decide +kernel
theorem iX3_countOf_6 : ins MX3_countOf 6 = some (.iload 5, 2) := by decide +kernel
theorem iX3_countOf_8 : ins MX3_countOf 8 = some (.iload_n 3, 1) := by decide +kernel
theorem iX3_countOf_9 : ins MX3_countOf 9 = some (.if_icmp .ge 22, 3) := by decide +kernel
theorem iX3_countOf_12 : ins MX3_countOf 12 = some (.lload_n 1, 1) := by decide +kernel
theorem iX3_countOf_13 : ins MX3_countOf 13 = some (.iload 5, 2) := by decide +kernel
theorem iX3_countOf_15 : ins MX3_countOf 15 = some (.invokestatic 42, 3) := by decide +kernel
theorem iX3_countOf_18 : ins MX3_countOf 18 = some (.iload_n 0, 1) := by decide +kernel
theorem iX3_countOf_19 : ins MX3_countOf 19 = some (.if_icmp .ne 6, 3) := by decide +kernel
theorem iX3_countOf_22 : ins MX3_countOf 22 = some (.iinc 4 1, 3) := by decide +kernel
theorem iX3_countOf_25 : ins MX3_countOf 25 = some (.iinc 5 1, 3) := by decide +kernel
theorem iX3_countOf_28 : ins MX3_countOf 28 = some (.goto (-22), 3) := by decide +kernel
theorem iX3_countOf_31 : ins MX3_countOf 31 = some (.iload 4, 2) := by decide +kernel
theorem iX3_countOf_33 : ins MX3_countOf 33 = some (.ireturn, 1) := by decide +kernel
theorem iX3_firstOf_0 : ins MX3_firstOf 0 = some (.iconst 0, 1) := by decide +kernel
theorem iX3_firstOf_1 : ins MX3_firstOf 1 = some (.istore 7, 2) := by decide +kernel
theorem iX3_firstOf_3 : ins MX3_firstOf 3 = some (.iload 7, 2) := by decide +kernel
theorem iX3_firstOf_5 : ins MX3_firstOf 5 = some (.iload 6, 2) := by decide +kernel
theorem iX3_firstOf_7 : ins MX3_firstOf 7 = some (.if_icmp .ge 57, 3) := by decide +kernel
theorem iX3_firstOf_10 : ins MX3_firstOf 10 = some (.iconst 0, 1) := by decide +kernel
theorem iX3_firstOf_11 : ins MX3_firstOf 11 = some (.istore 8, 2) := by decide +kernel
theorem iX3_firstOf_13 : ins MX3_firstOf 13 = some (.iload 8, 2) := by decide +kernel
theorem iX3_firstOf_15 : ins MX3_firstOf 15 = some (.iload 6, 2) := by decide +kernel
theorem iX3_firstOf_17 : ins MX3_firstOf 17 = some (.if_icmp .ge 41, 3) := by decide +kernel
theorem iX3_firstOf_20 : ins MX3_firstOf 20 = some (.aload_n 0, 1) := by decide +kernel
theorem iX3_firstOf_21 : ins MX3_firstOf 21 = some (.lload_n 2, 1) := by decide +kernel
theorem iX3_firstOf_22 : ins MX3_firstOf 22 = some (.iload 7, 2) := by decide +kernel
theorem iX3_firstOf_24 : ins MX3_firstOf 24 = some (.iload 8, 2) := by decide +kernel
theorem iX3_firstOf_26 : ins MX3_firstOf 26 = some (.invokestatic 23, 3) := by decide +kernel
theorem iX3_firstOf_29 : ins MX3_firstOf 29 = some (.lload 4, 2) := by decide +kernel
theorem iX3_firstOf_31 : ins MX3_firstOf 31 = some (.iload 6, 2) := by decide +kernel
theorem iX3_firstOf_33 : ins MX3_firstOf 33 = some (.invokevirtual 29, 3) := by decide +kernel
theorem iX3_firstOf_36 : ins MX3_firstOf 36 = some (.iload_n 1, 1) := by decide +kernel
theorem iX3_firstOf_37 : ins MX3_firstOf 37 = some (.iconst 1, 1) := by decide +kernel
theorem iX3_firstOf_38 : ins MX3_firstOf 38 = some (.isub, 1) := by decide +kernel
theorem iX3_firstOf_39 : ins MX3_firstOf 39 = some (.if_icmp .ne 13, 3) := by decide +kernel
theorem iX3_firstOf_42 : ins MX3_firstOf 42 = some (.iconst 0, 1) := by decide +kernel
theorem iX3_firstOf_43 : ins MX3_firstOf 43 = some (.iload 7, 2) := by decide +kernel
theorem iX3_firstOf_45 : ins MX3_firstOf 45 = some (.iload 8, 2) := by decide +kernel
theorem iX3_firstOf_47 : ins MX3_firstOf 47 = some (.iconst (-1), 1) := by decide +kernel
theorem iX3_firstOf_48 : ins MX3_firstOf 48 = some (.invokestatic 34, 3) := by decide +kernel
theorem iX3_firstOf_51 : ins MX3_firstOf 51 = some (.ireturn, 1) := by decide +kernel
theorem iX3_firstOf_52 : ins MX3_firstOf 52 = some (.iinc 8 1, 3) := by decide +kernel
theorem iX3_firstOf_55 : ins MX3_firstOf 55 = some (.goto (-42), 3) := by decide +kernel
theorem iX3_firstOf_58 : ins MX3_firstOf 58 = some (.iinc 7 1, 3) := by decide +kernel
theorem iX3_firstOf_61 : ins MX3_firstOf 61 = some (.goto (-58), 3) := by decide +kernel
theorem iX3_firstOf_64 : ins MX3_firstOf 64 = some (.iconst 0, 1) := by decide +kernel
theorem iX3_firstOf_65 : ins MX3_firstOf 65 = some (.ireturn, 1) := by decide +kernel
theorem iX3_init_0 : ins MX3_init 0 = some (.aload_n 0, 1) := by decide +kernel
theorem iX3_init_1 : ins MX3_init 1 = some (.invokespecial 3, 3) := by decide +kernel
theorem iX3_init_4 : ins MX3_init 4 = some (.aload_n 0, 1) := by decide +kernel
theorem iX3_init_5 : ins MX3_init 5 = some (.bipush 64, 2) := by decide +kernel
theorem iX3_init_7 : ins MX3_init 7 = some (.newarray .int, 2) := by decide +kernel
theorem iX3_init_9 : ins MX3_init 9 = some (.putfield 11, 3) := by decide +kernel
theorem iX3_init_12 : ins MX3_init 12 = some (.return_, 1) := by decide +kernel
theorem iX3_isSameColours_0 : ins MX3_isSameColours 0 = some (.iconst 0, 1) := by decide +kernel
theorem iX3_isSameColours_1 : ins MX3_isSameColours 1 = some (.istore 5, 2) := by decide +kernel
theorem iX3_isSameColours_3 : ins MX3_isSameColours 3 = some (.iload 5, 2) := by decide +kernel
theorem iX3_isSameColours_5 : ins MX3_isSameColours 5 = some (.bipush 10, 2) := by decide +kernel
theorem iX3_isSameColours_7 : ins MX3_isSameColours 7 = some (.if_icmp .ge 30, 3) := by decide +kernel
theorem iX3_isSameColours_10 : ins MX3_isSameColours 10 = some (.iload 5, 2) := by decide +kernel
theorem iX3_isSameColours_12 : ins MX3_isSameColours 12 = some (.lload_n 0, 1) := by decide +kernel
theorem iX3_isSameColours_13 : ins MX3_isSameColours 13 = some (.iload 4, 2) := by decide +kernel
theorem iX3_isSameColours_15 : ins MX3_isSameColours 15 = some (.invokestatic 38, 3) := by decide +kernel
theorem iX3_isSameColours_18 : ins MX3_isSameColours 18 = some (.iload 5, 2) := by decide +kernel
theorem iX3_isSameColours_20 : ins MX3_isSameColours 20 = some (.lload_n 2, 1) := by decide +kernel
theorem iX3_isSameColours_21 : ins MX3_isSameColours 21 = some (.iload 4, 2) := by decide +kernel
theorem iX3_isSameColours_23 : ins MX3_isSameColours 23 = some (.invokestatic 38, 3) := by decide +kernel
theorem iX3_isSameColours_26 : ins MX3_isSameColours 26 = some (.if_icmp .eq 5, 3) := by decide +kernel
theorem iX3_isSameColours_29 : ins MX3_isSameColours 29 = some (.iconst 0, 1) := by decide +kernel
theorem iX3_isSameColours_30 : ins MX3_isSameColours 30 = some (.ireturn, 1) := by decide +kernel
theorem iX3_isSameColours_31 : ins MX3_isSameColours 31 = some (.iinc 5 1, 3) := by decide +kernel
theorem iX3_isSameColours_34 : ins MX3_isSameColours 34 = some (.goto (-31), 3) := by decide +kernel
theorem iX3_isSameColours_37 : ins MX3_isSameColours 37 = some (.iconst 1, 1) := by decide +kernel
theorem iX3_isSameColours_38 : ins MX3_isSameColours 38 = some (.ireturn, 1) := by decide +kernel
theorem iX3_longestCommon_0 : ins MX3_longestCommon 0 = some (.iconst 1, 1) := by decide +kernel
theorem iX3_longestCommon_1 : ins MX3_longestCommon 1 = some (.istore 6, 2) := by decide +kernel
theorem iX3_longestCommon_3 : ins MX3_longestCommon 3 = some (.iload 6, 2) := by decide +kernel
theorem iX3_longestCommon_5 : ins MX3_longestCommon 5 = some (.iload 5, 2) := by decide +kernel
theorem iX3_longestCommon_7 : ins MX3_longestCommon 7 = some (.if_icmp .gt 100, 3) := by decide +kernel
theorem iX3_longestCommon_10 : ins MX3_longestCommon 10 = some (.iconst 1, 1) := by decide +kernel
theorem iX3_longestCommon_11 : ins MX3_longestCommon 11 = some (.istore 7, 2) := by decide +kernel
theorem iX3_longestCommon_13 : ins MX3_longestCommon 13 = some (.iload 7, 2) := by decide +kernel
theorem iX3_longestCommon_15 : ins MX3_longestCommon 15 = some (.iload 5, 2) := by decide +kernel
theorem iX3_longestCommon_17 : ins MX3_longestCommon 17 = some (.if_icmp .gt 84, 3) := by decide +kernel
theorem iX3_longestCommon_20 : ins MX3_longestCommon 20 = some (.iload 6, 2) := by decide +kernel
theorem iX3_longestCommon_22 : ins MX3_longestCommon 22 = some (.bipush 8, 2) := by decide +kernel
theorem iX3_longestCommon_24 : ins MX3_longestCommon 24 = some (.imul, 1) := by decide +kernel
theorem iX3_longestCommon_25 : ins MX3_longestCommon 25 = some (.iload 7, 2) := by decide +kernel
theorem iX3_longestCommon_27 : ins MX3_longestCommon 27 = some (.iadd, 1) := by decide +kernel
theorem iX3_longestCommon_28 : ins MX3_longestCommon 28 = some (.istore 8, 2) := by decide +kernel
theorem iX3_longestCommon_30 : ins MX3_longestCommon 30 = some (.aload_n 0, 1) := by decide +kernel
theorem iX3_longestCommon_31 : ins MX3_longestCommon 31 = some (.getfield 11, 3) := by decide +kernel
theorem iX3_longestCommon_34 : ins MX3_longestCommon 34 = some (.iload 8, 2) := by decide +kernel
theorem iX3_longestCommon_36 : ins MX3_longestCommon 36 = some (.lload_n 1, 1) := by decide +kernel
theorem iX3_longestCommon_37 : ins MX3_longestCommon 37 = some (.iload 6, 2) := by decide +kernel
theorem iX3_longestCommon_39 : ins MX3_longestCommon 39 = some (.iconst 1, 1) := by decide +kernel
theorem iX3_longestCommon_40 : ins MX3_longestCommon 40 = some (.isub, 1) := by decide +kernel
theorem iX3_longestCommon_41 : ins MX3_longestCommon 41 = some (.invokestatic 42, 3) := by decide +kernel
theorem iX3_longestCommon_44 : ins MX3_longestCommon 44 = some (.lload_n 3, 1) := by decide +kernel
theorem iX3_longestCommon_45 : ins MX3_longestCommon 45 = some (.iload 7, 2) := by decide +kernel
theorem iX3_longestCommon_47 : ins MX3_longestCommon 47 = some (.iconst 1, 1) := by decide +kernel
theorem iX3_longestCommon_48 : ins MX3_longestCommon 48 = some (.isub, 1) := by decide +kernel
theorem iX3_longestCommon_49 : ins MX3_longestCommon 49 = some (.invokestatic 42, 3) := by decide +kernel
theorem iX3_longestCommon_52 : ins MX3_longestCommon 52 = some (.if_icmp .ne 20, 3) := by decide +kernel
theorem iX3_longestCommon_55 : ins MX3_longestCommon 55 = some (.aload_n 0, 1) := by decide +kernel
theorem iX3_longestCommon_56 : ins MX3_longestCommon 56 = some (.getfield 11, 3) := by decide +kernel
theorem iX3_longestCommon_59 : ins MX3_longestCommon 59 = some (.iload 8, 2) := by decide +kernel
theorem iX3_longestCommon_61 : ins MX3_longestCommon 61 = some (.bipush 8, 2) := by decide +kernel
theorem iX3_longestCommon_63 : ins MX3_longestCommon 63 = some (.isub, 1) := by decide +kernel
theorem iX3_longestCommon_64 : ins MX3_longestCommon 64 = some (.iconst 1, 1) := by decide +kernel
theorem iX3_longestCommon_65 : ins MX3_longestCommon 65 = some (.isub, 1) := by decide +kernel
theorem iX3_longestCommon_66 : ins MX3_longestCommon 66 = some (.iaload, 1) := by decide +kernel
theorem iX3_longestCommon_67 : ins MX3_longestCommon 67 = some (.iconst 1, 1) := by decide +kernel
theorem iX3_longestCommon_68 : ins MX3_longestCommon 68 = some (.iadd, 1) := by decide +kernel
theorem iX3_longestCommon_69 : ins MX3_longestCommon 69 = some (.goto 25, 3) := by decide +kernel
theorem iX3_longestCommon_72 : ins MX3_longestCommon 72 = some (.aload_n 0, 1) := by decide +kernel
theorem iX3_longestCommon_73 : ins MX3_longestCommon 73 = some (.getfield 11, 3) := by decide +kernel
theorem iX3_longestCommon_76 : ins MX3_longestCommon 76 = some (.iload 8, 2) := by decide +kernel
theorem iX3_longestCommon_78 : ins MX3_longestCommon 78 = some (.bipush 8, 2) := by decide +kernel
theorem iX3_longestCommon_80 : ins MX3_longestCommon 80 = some (.isub, 1) := by decide +kernel
theorem iX3_longestCommon_81 : ins MX3_longestCommon 81 = some (.iaload, 1) := by decide +kernel
theorem iX3_longestCommon_82 : ins MX3_longestCommon 82 = some (.aload_n 0, 1) := by decide +kernel
theorem iX3_longestCommon_83 : ins MX3_longestCommon 83 = some (.getfield 11, 3) := by decide +kernel
theorem iX3_longestCommon_86 : ins MX3_longestCommon 86 = some (.iload 8, 2) := by decide +kernel
theorem iX3_longestCommon_88 : ins MX3_longestCommon 88 = some (.iconst 1, 1) := by decide +kernel
theorem iX3_longestCommon_89 : ins MX3_longestCommon 89 = some (.isub, 1) := by decide +kernel
theorem iX3_longestCommon_90 : ins MX3_longestCommon 90 = some (.iaload, 1) := by decide +kernel
theorem iX3_longestCommon_91 : ins MX3_longestCommon 91 = some (.invokestatic 46, 3) := by decide +kernel
theorem iX3_longestCommon_94 : ins MX3_longestCommon 94 = some (.iastore, 1) := by decide +kernel
theorem iX3_longestCommon_95 : ins MX3_longestCommon 95 = some (.iinc 7 1, 3) := by decide +kernel
theorem iX3_longestCommon_98 : ins MX3_longestCommon 98 = some (.goto (-85), 3) := by decide +kernel
theorem iX3_longestCommon_101 : ins MX3_longestCommon 101 = some (.iinc 6 1, 3) := by decide +kernel
theorem iX3_longestCommon_104 : ins MX3_longestCommon 104 = some (.goto (-101), 3) := by decide +kernel
theorem iX3_longestCommon_107 : ins MX3_longestCommon 107 = some (.aload_n 0, 1) := by decide +kernel
theorem iX3_longestCommon_108 : ins MX3_longestCommon 108 = some (.getfield 11, 3) := by decide +kernel
theorem iX3_longestCommon_111 : ins MX3_longestCommon 111 = some (.iload 5, 2) := by decide +kernel
theorem iX3_longestCommon_113 : ins MX3_longestCommon 113 = some (.bipush 8, 2) := by decide +kernel
theorem iX3_longestCommon_115 : ins MX3_longestCommon 115 = some (.imul, 1) := by decide +kernel
theorem iX3_longestCommon_116 : ins MX3_longestCommon 116 = some (.iload 5, 2) := by decide +kernel
theorem iX3_longestCommon_118 : ins MX3_longestCommon 118 = some (.iadd, 1) := by decide +kernel
theorem iX3_longestCommon_119 : ins MX3_longestCommon 119 = some (.iaload, 1) := by decide +kernel
theorem iX3_longestCommon_120 : ins MX3_longestCommon 120 = some (.ireturn, 1) := by decide +kernel
theorem iX3_needed_0 : ins MX3_needed 0 = some (.iload 5, 2) := by decide +kernel
theorem iX3_needed_2 : ins MX3_needed 2 = some (.bipush 7, 2) := by decide +kernel
theorem iX3_needed_4 : ins MX3_needed 4 = some (.if_icmp .gt 13, 3) := by decide +kernel
theorem iX3_needed_7 : ins MX3_needed 7 = some (.lload_n 1, 1) := by decide +kernel
theorem iX3_needed_8 : ins MX3_needed 8 = some (.lload_n 3, 1) := by decide +kernel
theorem iX3_needed_9 : ins MX3_needed 9 = some (.iload 5, 2) := by decide +kernel
theorem iX3_needed_11 : ins MX3_needed 11 = some (.invokestatic 15, 3) := by decide +kernel
theorem iX3_needed_14 : ins MX3_needed 14 = some (.ifCond .ne 5, 3) := by decide +kernel
theorem iX3_needed_17 : ins MX3_needed 17 = some (.iconst (-1), 1) := by decide +kernel
theorem iX3_needed_18 : ins MX3_needed 18 = some (.ireturn, 1) := by decide +kernel
theorem iX3_needed_19 : ins MX3_needed 19 = some (.iload 5, 2) := by decide +kernel
theorem iX3_needed_21 : ins MX3_needed 21 = some (.aload_n 0, 1) := by decide +kernel
theorem iX3_needed_22 : ins MX3_needed 22 = some (.lload_n 1, 1) := by decide +kernel
theorem iX3_needed_23 : ins MX3_needed 23 = some (.lload_n 3, 1) := by decide +kernel
theorem iX3_needed_24 : ins MX3_needed 24 = some (.iload 5, 2) := by decide +kernel
theorem iX3_needed_26 : ins MX3_needed 26 = some (.invokevirtual 19, 3) := by decide +kernel
theorem iX3_needed_29 : ins MX3_needed 29 = some (.isub, 1) := by decide +kernel
theorem iX3_needed_30 : ins MX3_needed 30 = some (.ireturn, 1) := by decide +kernel
theorem iX4_asked_0 : ins MX4_asked 0 = some (.iload_n 0, 1) := by decide +kernel
theorem iX4_asked_1 : ins MX4_asked 1 = some (.bipush 10, 2) := by decide +kernel
theorem iX4_asked_3 : ins MX4_asked 3 = some (.iushr, 1) := by decide +kernel
theorem iX4_asked_4 : ins MX4_asked 4 = some (.iconst 1, 1) := by decide +kernel
theorem iX4_asked_5 : ins MX4_asked 5 = some (.isub, 1) := by decide +kernel
theorem iX4_asked_6 : ins MX4_asked 6 = some (.ireturn, 1) := by decide +kernel
theorem iX4_cross_0 : ins MX4_cross 0 = some (.iload_n 0, 1) := by decide +kernel
theorem iX4_cross_1 : ins MX4_cross 1 = some (.invokestatic 11, 3) := by decide +kernel
theorem iX4_cross_4 : ins MX4_cross 4 = some (.istore_n 2, 1) := by decide +kernel
theorem iX4_cross_5 : ins MX4_cross 5 = some (.iload_n 0, 1) := by decide +kernel
theorem iX4_cross_6 : ins MX4_cross 6 = some (.invokestatic 22, 3) := by decide +kernel
theorem iX4_cross_9 : ins MX4_cross 9 = some (.istore_n 3, 1) := by decide +kernel
theorem iX4_cross_10 : ins MX4_cross 10 = some (.iload_n 1, 1) := by decide +kernel
theorem iX4_cross_11 : ins MX4_cross 11 = some (.invokestatic 11, 3) := by decide +kernel
theorem iX4_cross_14 : ins MX4_cross 14 = some (.istore 4, 2) := by decide +kernel
theorem iX4_cross_16 : ins MX4_cross 16 = some (.iload_n 1, 1) := by decide +kernel
theorem iX4_cross_17 : ins MX4_cross 17 = some (.invokestatic 22, 3) := by decide +kernel
theorem iX4_cross_20 : ins MX4_cross 20 = some (.istore 5, 2) := by decide +kernel
theorem iX4_cross_22 : ins MX4_cross 22 = some (.iload_n 2, 1) := by decide +kernel
theorem iX4_cross_23 : ins MX4_cross 23 = some (.iload 4, 2) := by decide +kernel
theorem iX4_cross_25 : ins MX4_cross 25 = some (.if_icmp .eq 21, 3) := by decide +kernel
theorem iX4_cross_28 : ins MX4_cross 28 = some (.iload_n 2, 1) := by decide +kernel
theorem iX4_cross_29 : ins MX4_cross 29 = some (.iload 5, 2) := by decide +kernel
theorem iX4_cross_31 : ins MX4_cross 31 = some (.if_icmp .eq 15, 3) := by decide +kernel
theorem iX4_cross_34 : ins MX4_cross 34 = some (.iload_n 3, 1) := by decide +kernel
theorem iX4_cross_35 : ins MX4_cross 35 = some (.iload 4, 2) := by decide +kernel
theorem iX4_cross_37 : ins MX4_cross 37 = some (.if_icmp .eq 9, 3) := by decide +kernel
theorem iX4_cross_40 : ins MX4_cross 40 = some (.iload_n 3, 1) := by decide +kernel
theorem iX4_cross_41 : ins MX4_cross 41 = some (.iload 5, 2) := by decide +kernel
theorem iX4_cross_43 : ins MX4_cross 43 = some (.if_icmp .ne 5, 3) := by decide +kernel
theorem iX4_cross_46 : ins MX4_cross 46 = some (.iconst 1, 1) := by decide +kernel
theorem iX4_cross_47 : ins MX4_cross 47 = some (.ireturn, 1) := by decide +kernel
theorem iX4_cross_48 : ins MX4_cross 48 = some (.iload_n 2, 1) := by decide +kernel
theorem iX4_cross_49 : ins MX4_cross 49 = some (.iload 4, 2) := by decide +kernel
theorem iX4_cross_51 : ins MX4_cross 51 = some (.iload 5, 2) := by decide +kernel
theorem iX4_cross_53 : ins MX4_cross 53 = some (.invokestatic 52, 3) := by decide +kernel
theorem iX4_cross_56 : ins MX4_cross 56 = some (.iload_n 3, 1) := by decide +kernel
theorem iX4_cross_57 : ins MX4_cross 57 = some (.iload 4, 2) := by decide +kernel
theorem iX4_cross_59 : ins MX4_cross 59 = some (.iload 5, 2) := by decide +kernel
theorem iX4_cross_61 : ins MX4_cross 61 = some (.invokestatic 52, 3) := by decide +kernel
theorem iX4_cross_64 : ins MX4_cross 64 = some (.if_icmp .ne 20, 3) := by decide +kernel
theorem iX4_cross_67 : ins MX4_cross 67 = some (.iload 4, 2) := by decide +kernel
theorem iX4_cross_69 : ins MX4_cross 69 = some (.iload_n 2, 1) := by decide +kernel
theorem iX4_cross_70 : ins MX4_cross 70 = some (.iload_n 3, 1) := by decide +kernel
theorem iX4_cross_71 : ins MX4_cross 71 = some (.invokestatic 52, 3) := by decide +kernel
theorem iX4_cross_74 : ins MX4_cross 74 = some (.iload 5, 2) := by decide +kernel
theorem iX4_cross_76 : ins MX4_cross 76 = some (.iload_n 2, 1) := by decide +kernel
theorem iX4_cross_77 : ins MX4_cross 77 = some (.iload_n 3, 1) := by decide +kernel
theorem iX4_cross_78 : ins MX4_cross 78 = some (.invokestatic 52, 3) := by decide +kernel
theorem iX4_cross_81 : ins MX4_cross 81 = some (.if_icmp .eq 7, 3) := by decide +kernel
theorem iX4_cross_84 : ins MX4_cross 84 = some (.iconst 1, 1) := by decide +kernel
theorem iX4_cross_85 : ins MX4_cross 85 = some (.goto 4, 3) := by decide +kernel
theorem iX4_cross_88 : ins MX4_cross 88 = some (.iconst 0, 1) := by decide +kernel
theorem iX4_cross_89 : ins MX4_cross 89 = some (.ireturn, 1) := by decide +kernel
theorem iX4_findsColour_0 : ins MX4_findsColour 0 = some (.iload_n 0, 1) := by decide +kernel
theorem iX4_findsColour_1 : ins MX4_findsColour 1 = some (.invokestatic 25, 3) := by decide +kernel
theorem iX4_findsColour_4 : ins MX4_findsColour 4 = some (.istore 5, 2) := by decide +kernel
theorem iX4_findsColour_6 : ins MX4_findsColour 6 = some (.iload 5, 2) := by decide +kernel
theorem iX4_findsColour_8 : ins MX4_findsColour 8 = some (.iconst (-1), 1) := by decide +kernel
theorem iX4_findsColour_9 : ins MX4_findsColour 9 = some (.if_icmp .eq 20, 3) := by decide +kernel
theorem iX4_findsColour_12 : ins MX4_findsColour 12 = some (.lload_n 3, 1) := by decide +kernel
theorem iX4_findsColour_13 : ins MX4_findsColour 13 = some (.lload_n 1, 1) := by decide +kernel
theorem iX4_findsColour_14 : ins MX4_findsColour 14 = some (.iload_n 0, 1) := by decide +kernel
theorem iX4_findsColour_15 : ins MX4_findsColour 15 = some (.invokestatic 11, 3) := by decide +kernel
theorem iX4_findsColour_18 : ins MX4_findsColour 18 = some (.invokestatic 28, 3) := by decide +kernel
theorem iX4_findsColour_21 : ins MX4_findsColour 21 = some (.invokestatic 28, 3) := by decide +kernel
theorem iX4_findsColour_24 : ins MX4_findsColour 24 = some (.iload 5, 2) := by decide +kernel
theorem iX4_findsColour_26 : ins MX4_findsColour 26 = some (.if_icmp .ne 7, 3) := by decide +kernel
theorem iX4_findsColour_29 : ins MX4_findsColour 29 = some (.iconst 1, 1) := by decide +kernel
theorem iX4_findsColour_30 : ins MX4_findsColour 30 = some (.goto 4, 3) := by decide +kernel
theorem iX4_findsColour_33 : ins MX4_findsColour 33 = some (.iconst 0, 1) := by decide +kernel
theorem iX4_findsColour_34 : ins MX4_findsColour 34 = some (.ireturn, 1) := by decide +kernel
theorem iX4_from_0 : ins MX4_from 0 = some (.iload_n 0, 1) := by decide +kernel
theorem iX4_from_1 : ins MX4_from 1 = some (.iconst 2, 1) := by decide +kernel
theorem iX4_from_2 : ins MX4_from 2 = some (.iushr, 1) := by decide +kernel
theorem iX4_from_3 : ins MX4_from 3 = some (.bipush 15, 2) := by decide +kernel
theorem iX4_from_5 : ins MX4_from 5 = some (.iand, 1) := by decide +kernel
theorem iX4_from_6 : ins MX4_from 6 = some (.ireturn, 1) := by decide +kernel
theorem iX4_isBetween_0 : ins MX4_isBetween 0 = some (.iload_n 0, 1) := by decide +kernel
theorem iX4_isBetween_1 : ins MX4_isBetween 1 = some (.iload_n 1, 1) := by decide +kernel
theorem iX4_isBetween_2 : ins MX4_isBetween 2 = some (.iload_n 2, 1) := by decide +kernel
theorem iX4_isBetween_3 : ins MX4_isBetween 3 = some (.invokestatic 56, 3) := by decide +kernel
theorem iX4_isBetween_6 : ins MX4_isBetween 6 = some (.if_icmp .le 16, 3) := by decide +kernel
theorem iX4_isBetween_9 : ins MX4_isBetween 9 = some (.iload_n 0, 1) := by decide +kernel
theorem iX4_isBetween_10 : ins MX4_isBetween 10 = some (.iload_n 1, 1) := by decide +kernel
theorem iX4_isBetween_11 : ins MX4_isBetween 11 = some (.iload_n 2, 1) := by decide +kernel
theorem iX4_isBetween_12 : ins MX4_isBetween 12 = some (.invokestatic 62, 3) := by decide +kernel
theorem iX4_isBetween_15 : ins MX4_isBetween 15 = some (.if_icmp .ge 7, 3) := by decide +kernel
theorem iX4_isBetween_18 : ins MX4_isBetween 18 = some (.iconst 1, 1) := by decide +kernel
theorem iX4_isBetween_19 : ins MX4_isBetween 19 = some (.goto 4, 3) := by decide +kernel
theorem iX4_isBetween_22 : ins MX4_isBetween 22 = some (.iconst 0, 1) := by decide +kernel
theorem iX4_isBetween_23 : ins MX4_isBetween 23 = some (.ireturn, 1) := by decide +kernel
theorem iX4_isTurn_0 : ins MX4_isTurn 0 = some (.iload_n 0, 1) := by decide +kernel
theorem iX4_isTurn_1 : ins MX4_isTurn 1 = some (.invokestatic 15, 3) := by decide +kernel
theorem iX4_isTurn_4 : ins MX4_isTurn 4 = some (.iconst 2, 1) := by decide +kernel
theorem iX4_isTurn_5 : ins MX4_isTurn 5 = some (.if_icmp .ne 7, 3) := by decide +kernel
theorem iX4_isTurn_8 : ins MX4_isTurn 8 = some (.iconst 1, 1) := by decide +kernel
theorem iX4_isTurn_9 : ins MX4_isTurn 9 = some (.goto 4, 3) := by decide +kernel
theorem iX4_isTurn_12 : ins MX4_isTurn 12 = some (.iconst 0, 1) := by decide +kernel
theorem iX4_isTurn_13 : ins MX4_isTurn 13 = some (.ireturn, 1) := by decide +kernel
theorem iX4_kind_0 : ins MX4_kind 0 = some (.iload_n 0, 1) := by decide +kernel
theorem iX4_kind_1 : ins MX4_kind 1 = some (.iconst 3, 1) := by decide +kernel
theorem iX4_kind_2 : ins MX4_kind 2 = some (.iand, 1) := by decide +kernel
theorem iX4_kind_3 : ins MX4_kind 3 = some (.ireturn, 1) := by decide +kernel
theorem iX4_madeOn_0 : ins MX4_madeOn 0 = some (.iload_n 2, 1) := by decide +kernel
theorem iX4_madeOn_1 : ins MX4_madeOn 1 = some (.invokestatic 11, 3) := by decide +kernel
theorem iX4_madeOn_4 : ins MX4_madeOn 4 = some (.istore 6, 2) := by decide +kernel
theorem iX4_madeOn_6 : ins MX4_madeOn 6 = some (.iload_n 2, 1) := by decide +kernel
theorem iX4_madeOn_7 : ins MX4_madeOn 7 = some (.invokestatic 34, 3) := by decide +kernel
theorem iX4_madeOn_10 : ins MX4_madeOn 10 = some (.ifCond .eq 12, 3) := by decide +kernel
theorem iX4_madeOn_13 : ins MX4_madeOn 13 = some (.lload_n 0, 1) := by decide +kernel
theorem iX4_madeOn_14 : ins MX4_madeOn 14 = some (.iload 6, 2) := by decide +kernel
theorem iX4_madeOn_16 : ins MX4_madeOn 16 = some (.iload 5, 2) := by decide +kernel
theorem iX4_madeOn_18 : ins MX4_madeOn 18 = some (.invokestatic 38, 3) := by decide +kernel
theorem iX4_madeOn_21 : ins MX4_madeOn 21 = some (.lreturn, 1) := by decide +kernel
theorem iX4_madeOn_22 : ins MX4_madeOn 22 = some (.iload_n 2, 1) := by decide +kernel
theorem iX4_madeOn_23 : ins MX4_madeOn 23 = some (.lload_n 0, 1) := by decide +kernel
theorem iX4_madeOn_24 : ins MX4_madeOn 24 = some (.lload_n 3, 1) := by decide +kernel
theorem iX4_madeOn_25 : ins MX4_madeOn 25 = some (.invokestatic 42, 3) := by decide +kernel
theorem iX4_madeOn_28 : ins MX4_madeOn 28 = some (.ifCond .ne 5, 3) := by decide +kernel
theorem iX4_madeOn_31 : ins MX4_madeOn 31 = some (.lload_n 0, 1) := by decide +kernel
theorem iX4_madeOn_32 : ins MX4_madeOn 32 = some (.lreturn, 1) := by decide +kernel
theorem iX4_madeOn_33 : ins MX4_madeOn 33 = some (.iload_n 2, 1) := by decide +kernel
theorem iX4_madeOn_34 : ins MX4_madeOn 34 = some (.invokestatic 22, 3) := by decide +kernel
theorem iX4_madeOn_37 : ins MX4_madeOn 37 = some (.istore 7, 2) := by decide +kernel
theorem iX4_madeOn_39 : ins MX4_madeOn 39 = some (.iload_n 2, 1) := by decide +kernel
theorem iX4_madeOn_40 : ins MX4_madeOn 40 = some (.invokestatic 15, 3) := by decide +kernel
theorem iX4_madeOn_43 : ins MX4_madeOn 43 = some (.ifCond .ne 14, 3) := by decide +kernel
theorem iX4_madeOn_46 : ins MX4_madeOn 46 = some (.lload_n 0, 1) := by decide +kernel
theorem iX4_madeOn_47 : ins MX4_madeOn 47 = some (.iload 6, 2) := by decide +kernel
theorem iX4_madeOn_49 : ins MX4_madeOn 49 = some (.iload 7, 2) := by decide +kernel
theorem iX4_madeOn_51 : ins MX4_madeOn 51 = some (.invokestatic 46, 3) := by decide +kernel
theorem iX4_madeOn_54 : ins MX4_madeOn 54 = some (.goto 11, 3) := by decide +kernel
theorem iX4_madeOn_57 : ins MX4_madeOn 57 = some (.lload_n 0, 1) := by decide +kernel
theorem iX4_madeOn_58 : ins MX4_madeOn 58 = some (.iload 6, 2) := by decide +kernel
theorem iX4_madeOn_60 : ins MX4_madeOn 60 = some (.iload 7, 2) := by decide +kernel
theorem iX4_madeOn_62 : ins MX4_madeOn 62 = some (.invokestatic 49, 3) := by decide +kernel
theorem iX4_madeOn_65 : ins MX4_madeOn 65 = some (.lreturn, 1) := by decide +kernel
theorem iX4_mirrored_0 : ins MX4_mirrored 0 = some (.iload_n 0, 1) := by decide +kernel
theorem iX4_mirrored_1 : ins MX4_mirrored 1 = some (.invokestatic 11, 3) := by decide +kernel
theorem iX4_mirrored_4 : ins MX4_mirrored 4 = some (.istore_n 2, 1) := by decide +kernel
theorem iX4_mirrored_5 : ins MX4_mirrored 5 = some (.iload_n 0, 1) := by decide +kernel
theorem iX4_mirrored_6 : ins MX4_mirrored 6 = some (.invokestatic 15, 3) := by decide +kernel
theorem iX4_mirrored_9 : ins MX4_mirrored 9 = some (.iconst 2, 1) := by decide +kernel
theorem iX4_mirrored_10 : ins MX4_mirrored 10 = some (.if_icmp .ne 27, 3) := by decide +kernel
theorem iX4_mirrored_13 : ins MX4_mirrored 13 = some (.iload_n 1, 1) := by decide +kernel
theorem iX4_mirrored_14 : ins MX4_mirrored 14 = some (.ifCond .le 13, 3) := by decide +kernel
theorem iX4_mirrored_17 : ins MX4_mirrored 17 = some (.iload_n 1, 1) := by decide +kernel
theorem iX4_mirrored_18 : ins MX4_mirrored 18 = some (.iload_n 2, 1) := by decide +kernel
theorem iX4_mirrored_19 : ins MX4_mirrored 19 = some (.iload_n 1, 1) := by decide +kernel
theorem iX4_mirrored_20 : ins MX4_mirrored 20 = some (.irem, 1) := by decide +kernel
theorem iX4_mirrored_21 : ins MX4_mirrored 21 = some (.isub, 1) := by decide +kernel
theorem iX4_mirrored_22 : ins MX4_mirrored 22 = some (.iload_n 1, 1) := by decide +kernel
theorem iX4_mirrored_23 : ins MX4_mirrored 23 = some (.irem, 1) := by decide +kernel
theorem iX4_mirrored_24 : ins MX4_mirrored 24 = some (.goto 4, 3) := by decide +kernel
theorem iX4_mirrored_27 : ins MX4_mirrored 27 = some (.iconst 0, 1) := by decide +kernel
theorem iX4_mirrored_28 : ins MX4_mirrored 28 = some (.istore_n 3, 1) := by decide +kernel
theorem iX4_mirrored_29 : ins MX4_mirrored 29 = some (.iconst 2, 1) := by decide +kernel
theorem iX4_mirrored_30 : ins MX4_mirrored 30 = some (.iload_n 3, 1) := by decide +kernel
theorem iX4_mirrored_31 : ins MX4_mirrored 31 = some (.iconst 0, 1) := by decide +kernel
theorem iX4_mirrored_32 : ins MX4_mirrored 32 = some (.iconst (-1), 1) := by decide +kernel
theorem iX4_mirrored_33 : ins MX4_mirrored 33 = some (.invokestatic 18, 3) := by decide +kernel
theorem iX4_mirrored_36 : ins MX4_mirrored 36 = some (.ireturn, 1) := by decide +kernel
theorem iX4_mirrored_37 : ins MX4_mirrored 37 = some (.iload_n 0, 1) := by decide +kernel
theorem iX4_mirrored_38 : ins MX4_mirrored 38 = some (.invokestatic 15, 3) := by decide +kernel
theorem iX4_mirrored_41 : ins MX4_mirrored 41 = some (.iload_n 1, 1) := by decide +kernel
theorem iX4_mirrored_42 : ins MX4_mirrored 42 = some (.iconst 1, 1) := by decide +kernel
theorem iX4_mirrored_43 : ins MX4_mirrored 43 = some (.isub, 1) := by decide +kernel
theorem iX4_mirrored_44 : ins MX4_mirrored 44 = some (.iload_n 2, 1) := by decide +kernel
theorem iX4_mirrored_45 : ins MX4_mirrored 45 = some (.isub, 1) := by decide +kernel
theorem iX4_mirrored_46 : ins MX4_mirrored 46 = some (.iload_n 1, 1) := by decide +kernel
theorem iX4_mirrored_47 : ins MX4_mirrored 47 = some (.iconst 1, 1) := by decide +kernel
theorem iX4_mirrored_48 : ins MX4_mirrored 48 = some (.isub, 1) := by decide +kernel
theorem iX4_mirrored_49 : ins MX4_mirrored 49 = some (.iload_n 0, 1) := by decide +kernel
theorem iX4_mirrored_50 : ins MX4_mirrored 50 = some (.invokestatic 22, 3) := by decide +kernel
theorem iX4_mirrored_53 : ins MX4_mirrored 53 = some (.isub, 1) := by decide +kernel
theorem iX4_mirrored_54 : ins MX4_mirrored 54 = some (.iload_n 0, 1) := by decide +kernel
theorem iX4_mirrored_55 : ins MX4_mirrored 55 = some (.invokestatic 25, 3) := by decide +kernel
theorem iX4_mirrored_58 : ins MX4_mirrored 58 = some (.invokestatic 18, 3) := by decide +kernel
theorem iX4_mirrored_61 : ins MX4_mirrored 61 = some (.ireturn, 1) := by decide +kernel
theorem iX4_packed_0 : ins MX4_packed 0 = some (.iload_n 0, 1) := by decide +kernel
theorem iX4_packed_1 : ins MX4_packed 1 = some (.iload_n 1, 1) := by decide +kernel
theorem iX4_packed_2 : ins MX4_packed 2 = some (.iconst 2, 1) := by decide +kernel
theorem iX4_packed_3 : ins MX4_packed 3 = some (.ishl, 1) := by decide +kernel
theorem iX4_packed_4 : ins MX4_packed 4 = some (.ior, 1) := by decide +kernel
theorem iX4_packed_5 : ins MX4_packed 5 = some (.iload_n 2, 1) := by decide +kernel
theorem iX4_packed_6 : ins MX4_packed 6 = some (.bipush 6, 2) := by decide +kernel
theorem iX4_packed_8 : ins MX4_packed 8 = some (.ishl, 1) := by decide +kernel
theorem iX4_packed_9 : ins MX4_packed 9 = some (.ior, 1) := by decide +kernel
theorem iX4_packed_10 : ins MX4_packed 10 = some (.iload_n 3, 1) := by decide +kernel
theorem iX4_packed_11 : ins MX4_packed 11 = some (.iconst 1, 1) := by decide +kernel
theorem iX4_packed_12 : ins MX4_packed 12 = some (.iadd, 1) := by decide +kernel
theorem iX4_packed_13 : ins MX4_packed 13 = some (.bipush 10, 2) := by decide +kernel
theorem iX4_packed_15 : ins MX4_packed 15 = some (.ishl, 1) := by decide +kernel
theorem iX4_packed_16 : ins MX4_packed 16 = some (.ior, 1) := by decide +kernel
theorem iX4_packed_17 : ins MX4_packed 17 = some (.ireturn, 1) := by decide +kernel
theorem iX4_to_0 : ins MX4_to 0 = some (.iload_n 0, 1) := by decide +kernel
theorem iX4_to_1 : ins MX4_to 1 = some (.bipush 6, 2) := by decide +kernel
theorem iX4_to_3 : ins MX4_to 3 = some (.iushr, 1) := by decide +kernel
theorem iX4_to_4 : ins MX4_to 4 = some (.bipush 15, 2) := by decide +kernel
theorem iX4_to_6 : ins MX4_to 6 = some (.iand, 1) := by decide +kernel
theorem iX4_to_7 : ins MX4_to 7 = some (.ireturn, 1) := by decide +kernel
theorem iX4_withoutAsking_0 : ins MX4_withoutAsking 0 = some (.iload_n 0, 1) := by decide +kernel
theorem iX4_withoutAsking_1 : ins MX4_withoutAsking 1 = some (.sipush 1023, 3) := by decide +kernel
theorem iX4_withoutAsking_4 : ins MX4_withoutAsking 4 = some (.iand, 1) := by decide +kernel
theorem iX4_withoutAsking_5 : ins MX4_withoutAsking 5 = some (.ireturn, 1) := by decide +kernel
theorem iX5_append_0 : ins MX5_append 0 = some (.aload_n 0, 1) := by decide +kernel
theorem iX5_append_1 : ins MX5_append 1 = some (.getfield 28, 3) := by decide +kernel
theorem iX5_append_4 : ins MX5_append 4 = some (.iload_n 1, 1) := by decide +kernel
theorem iX5_append_5 : ins MX5_append 5 = some (.invokevirtual 126, 3) := by decide +kernel
theorem iX5_append_8 : ins MX5_append 8 = some (.ifCond .ne 8, 3) := by decide +kernel
theorem iX5_append_11 : ins MX5_append 11 = some (.aload_n 0, 1) := by decide +kernel
theorem iX5_append_12 : ins MX5_append 12 = some (.iconst 1, 1) := by decide +kernel
theorem iX5_append_13 : ins MX5_append 13 = some (.putfield 44, 3) := by decide +kernel
theorem iX5_append_16 : ins MX5_append 16 = some (.return_, 1) := by decide +kernel
theorem iX5_fail_0 : ins MX5_fail 0 = some (.aload_n 0, 1) := by decide +kernel
theorem iX5_fail_1 : ins MX5_fail 1 = some (.iload_n 1, 1) := by decide +kernel
theorem iX5_fail_2 : ins MX5_fail 2 = some (.putfield 9, 3) := by decide +kernel
theorem iX5_fail_5 : ins MX5_fail 5 = some (.aload_n 0, 1) := by decide +kernel
theorem iX5_fail_6 : ins MX5_fail 6 = some (.aload_n 0, 1) := by decide +kernel
theorem iX5_fail_7 : ins MX5_fail 7 = some (.getfield 21, 3) := by decide +kernel
theorem iX5_fail_10 : ins MX5_fail 10 = some (.getfield 93, 3) := by decide +kernel
theorem iX5_fail_13 : ins MX5_fail 13 = some (.aload_n 0, 1) := by decide +kernel
theorem iX5_fail_14 : ins MX5_fail 14 = some (.getfield 35, 3) := by decide +kernel
theorem iX5_fail_17 : ins MX5_fail 17 = some (.iaload, 1) := by decide +kernel
theorem iX5_fail_18 : ins MX5_fail 18 = some (.putfield 15, 3) := by decide +kernel
theorem iX5_fail_21 : ins MX5_fail 21 = some (.iconst 0, 1) := by decide +kernel
theorem iX5_fail_22 : ins MX5_fail 22 = some (.ireturn, 1) := by decide +kernel
theorem iX5_forgetFault_0 : ins MX5_forgetFault 0 = some (.aload_n 0, 1) := by decide +kernel
theorem iX5_forgetFault_1 : ins MX5_forgetFault 1 = some (.iconst 0, 1) := by decide +kernel
theorem iX5_forgetFault_2 : ins MX5_forgetFault 2 = some (.putfield 9, 3) := by decide +kernel
theorem iX5_forgetFault_5 : ins MX5_forgetFault 5 = some (.aload_n 0, 1) := by decide +kernel
theorem iX5_forgetFault_6 : ins MX5_forgetFault 6 = some (.iconst (-1), 1) := by decide +kernel
theorem iX5_forgetFault_7 : ins MX5_forgetFault 7 = some (.putfield 15, 3) := by decide +kernel
theorem iX5_forgetFault_10 : ins MX5_forgetFault 10 = some (.return_, 1) := by decide +kernel
theorem iX5_init_0 : ins MX5_init 0 = some (.aload_n 0, 1) := by decide +kernel
theorem iX5_init_1 : ins MX5_init 1 = some (.invokespecial 3, 3) := by decide +kernel
theorem iX5_init_4 : ins MX5_init 4 = some (.aload_n 0, 1) := by decide +kernel
theorem iX5_init_5 : ins MX5_init 5 = some (.iconst 0, 1) := by decide +kernel
theorem iX5_init_6 : ins MX5_init 6 = some (.putfield 9, 3) := by decide +kernel
theorem iX5_init_9 : ins MX5_init 9 = some (.aload_n 0, 1) := by decide +kernel
theorem iX5_init_10 : ins MX5_init 10 = some (.iconst (-1), 1) := by decide +kernel
theorem iX5_init_11 : ins MX5_init 11 = some (.putfield 15, 3) := by decide +kernel
theorem iX5_init_14 : ins MX5_init 14 = some (.aload_n 0, 1) := by decide +kernel
theorem iX5_init_15 : ins MX5_init 15 = some (.new 18, 3) := by decide +kernel
theorem iX5_init_18 : ins MX5_init 18 = some (.dup, 1) := by decide +kernel
theorem iX5_init_19 : ins MX5_init 19 = some (.invokespecial 20, 3) := by decide +kernel
theorem iX5_init_22 : ins MX5_init 22 = some (.putfield 21, 3) := by decide +kernel
theorem iX5_init_25 : ins MX5_init 25 = some (.aload_n 0, 1) := by decide +kernel
theorem iX5_init_26 : ins MX5_init 26 = some (.new 25, 3) := by decide +kernel
theorem iX5_init_29 : ins MX5_init 29 = some (.dup, 1) := by decide +kernel
theorem iX5_init_30 : ins MX5_init 30 = some (.invokespecial 27, 3) := by decide +kernel
theorem iX5_init_33 : ins MX5_init 33 = some (.putfield 28, 3) := by decide +kernel
theorem iX5_init_36 : ins MX5_init 36 = some (.aload_n 0, 1) := by decide +kernel
theorem iX5_init_37 : ins MX5_init 37 = some (.bipush 8, 2) := by decide +kernel
theorem iX5_init_39 : ins MX5_init 39 = some (.putfield 32, 3) := by decide +kernel
theorem iX5_init_42 : ins MX5_init 42 = some (.aload_n 0, 1) := by decide +kernel
theorem iX5_init_43 : ins MX5_init 43 = some (.iconst (-1), 1) := by decide +kernel
theorem iX5_init_44 : ins MX5_init 44 = some (.putfield 35, 3) := by decide +kernel
theorem iX5_init_47 : ins MX5_init 47 = some (.aload_n 0, 1) := by decide +kernel
theorem iX5_init_48 : ins MX5_init 48 = some (.iconst 0, 1) := by decide +kernel
theorem iX5_init_49 : ins MX5_init 49 = some (.putfield 38, 3) := by decide +kernel
theorem iX5_init_52 : ins MX5_init 52 = some (.aload_n 0, 1) := by decide +kernel
theorem iX5_init_53 : ins MX5_init 53 = some (.iconst 0, 1) := by decide +kernel
theorem iX5_init_54 : ins MX5_init 54 = some (.putfield 41, 3) := by decide +kernel
theorem iX5_init_57 : ins MX5_init 57 = some (.aload_n 0, 1) := by decide +kernel
theorem iX5_init_58 : ins MX5_init 58 = some (.iconst 0, 1) := by decide +kernel
theorem iX5_init_59 : ins MX5_init 59 = some (.putfield 44, 3) := by decide +kernel
theorem iX5_init_62 : ins MX5_init 62 = some (.aload_n 0, 1) := by decide +kernel
theorem iX5_init_63 : ins MX5_init 63 = some (.iconst 0, 1) := by decide +kernel
theorem iX5_init_64 : ins MX5_init 64 = some (.putfield 48, 3) := by decide +kernel
theorem iX5_init_67 : ins MX5_init 67 = some (.aload_n 0, 1) := by decide +kernel
theorem iX5_init_68 : ins MX5_init 68 = some (.iconst 4, 1) := by decide +kernel
theorem iX5_init_69 : ins MX5_init 69 = some (.newarray .int, 2) := by decide +kernel
theorem iX5_init_71 : ins MX5_init 71 = some (.putfield 51, 3) := by decide +kernel
theorem iX5_init_74 : ins MX5_init 74 = some (.aload_n 0, 1) := by decide +kernel
theorem iX5_init_75 : ins MX5_init 75 = some (.iconst 4, 1) := by decide +kernel
theorem iX5_init_76 : ins MX5_init 76 = some (.newarray .int, 2) := by decide +kernel
theorem iX5_init_78 : ins MX5_init 78 = some (.putfield 55, 3) := by decide +kernel
theorem iX5_init_81 : ins MX5_init 81 = some (.return_, 1) := by decide +kernel
theorem iX5_read_0 : ins MX5_read 0 = some (.aload_n 0, 1) := by decide +kernel
theorem iX5_read_1 : ins MX5_read 1 = some (.getfield 21, 3) := by decide +kernel
theorem iX5_read_4 : ins MX5_read 4 = some (.invokevirtual 58, 3) := by decide +kernel
theorem iX5_read_7 : ins MX5_read 7 = some (.aload_n 0, 1) := by decide +kernel
theorem iX5_read_8 : ins MX5_read 8 = some (.iload_n 1, 1) := by decide +kernel
theorem iX5_read_9 : ins MX5_read 9 = some (.putfield 32, 3) := by decide +kernel
theorem iX5_read_12 : ins MX5_read 12 = some (.aload_n 0, 1) := by decide +kernel
theorem iX5_read_13 : ins MX5_read 13 = some (.iconst (-1), 1) := by decide +kernel
theorem iX5_read_14 : ins MX5_read 14 = some (.putfield 35, 3) := by decide +kernel
theorem iX5_read_17 : ins MX5_read 17 = some (.aload_n 0, 1) := by decide +kernel
theorem iX5_read_18 : ins MX5_read 18 = some (.getfield 28, 3) := by decide +kernel
theorem iX5_read_21 : ins MX5_read 21 = some (.iconst 0, 1) := by decide +kernel
theorem iX5_read_22 : ins MX5_read 22 = some (.putfield 61, 3) := by decide +kernel
theorem iX5_read_25 : ins MX5_read 25 = some (.aload_n 0, 1) := by decide +kernel
theorem iX5_read_26 : ins MX5_read 26 = some (.iconst 0, 1) := by decide +kernel
theorem iX5_read_27 : ins MX5_read 27 = some (.putfield 44, 3) := by decide +kernel
theorem iX5_read_30 : ins MX5_read 30 = some (.aload_n 0, 1) := by decide +kernel
theorem iX5_read_31 : ins MX5_read 31 = some (.iconst 0, 1) := by decide +kernel
theorem iX5_read_32 : ins MX5_read 32 = some (.putfield 48, 3) := by decide +kernel
theorem iX5_read_35 : ins MX5_read 35 = some (.iconst 1, 1) := by decide +kernel
theorem iX5_read_36 : ins MX5_read 36 = some (.istore_n 2, 1) := by decide +kernel
theorem iX5_read_37 : ins MX5_read 37 = some (.iconst 0, 1) := by decide +kernel
theorem iX5_read_38 : ins MX5_read 38 = some (.istore_n 3, 1) := by decide +kernel
theorem iX5_read_39 : ins MX5_read 39 = some (.iload_n 3, 1) := by decide +kernel
theorem iX5_read_40 : ins MX5_read 40 = some (.aload_n 0, 1) := by decide +kernel
theorem iX5_read_41 : ins MX5_read 41 = some (.getfield 21, 3) := by decide +kernel
theorem iX5_read_44 : ins MX5_read 44 = some (.getfield 64, 3) := by decide +kernel
theorem iX5_read_47 : ins MX5_read 47 = some (.if_icmp .ge 121, 3) := by decide +kernel
theorem iX5_read_50 : ins MX5_read 50 = some (.iload_n 2, 1) := by decide +kernel
theorem iX5_read_51 : ins MX5_read 51 = some (.ifCond .eq 117, 3) := by decide +kernel
theorem iX5_read_54 : ins MX5_read 54 = some (.aload_n 0, 1) := by decide +kernel
theorem iX5_read_55 : ins MX5_read 55 = some (.invokevirtual 67, 3) := by decide +kernel
theorem iX5_read_58 : ins MX5_read 58 = some (.aload_n 0, 1) := by decide +kernel
theorem iX5_read_59 : ins MX5_read 59 = some (.getfield 38, 3) := by decide +kernel
theorem iX5_read_62 : ins MX5_read 62 = some (.ifCond .ne 8, 3) := by decide +kernel
theorem iX5_read_65 : ins MX5_read 65 = some (.aload_n 0, 1) := by decide +kernel
theorem iX5_read_66 : ins MX5_read 66 = some (.invokevirtual 70, 3) := by decide +kernel
theorem iX5_read_69 : ins MX5_read 69 = some (.ireturn, 1) := by decide +kernel
theorem iX5_read_70 : ins MX5_read 70 = some (.aload_n 0, 1) := by decide +kernel
theorem iX5_read_71 : ins MX5_read 71 = some (.getfield 38, 3) := by decide +kernel
theorem iX5_read_74 : ins MX5_read 74 = some (.tableswitch 82 5 11 #[74, 42, 82, 82, 50, 58, 66], 42) := by decide +kernel
theorem iX5_read_116 : ins MX5_read 116 = some (.aload_n 0, 1) := by decide +kernel
theorem iX5_read_117 : ins MX5_read 117 = some (.invokevirtual 74, 3) := by decide +kernel
theorem iX5_read_120 : ins MX5_read 120 = some (.istore_n 2, 1) := by decide +kernel
theorem iX5_read_121 : ins MX5_read 121 = some (.goto 41, 3) := by decide +kernel
theorem iX5_read_124 : ins MX5_read 124 = some (.aload_n 0, 1) := by decide +kernel
theorem iX5_read_125 : ins MX5_read 125 = some (.invokevirtual 77, 3) := by decide +kernel
theorem iX5_read_128 : ins MX5_read 128 = some (.istore_n 2, 1) := by decide +kernel
theorem iX5_read_129 : ins MX5_read 129 = some (.goto 33, 3) := by decide +kernel
theorem iX5_read_132 : ins MX5_read 132 = some (.aload_n 0, 1) := by decide +kernel
theorem iX5_read_133 : ins MX5_read 133 = some (.invokevirtual 80, 3) := by decide +kernel
theorem iX5_read_136 : ins MX5_read 136 = some (.istore_n 2, 1) := by decide +kernel
theorem iX5_read_137 : ins MX5_read 137 = some (.goto 25, 3) := by decide +kernel
theorem iX5_read_140 : ins MX5_read 140 = some (.aload_n 0, 1) := by decide +kernel
theorem iX5_read_141 : ins MX5_read 141 = some (.invokevirtual 83, 3) := by decide +kernel
theorem iX5_read_144 : ins MX5_read 144 = some (.istore_n 2, 1) := by decide +kernel
theorem iX5_read_145 : ins MX5_read 145 = some (.goto 17, 3) := by decide +kernel
theorem iX5_read_148 : ins MX5_read 148 = some (.aload_n 0, 1) := by decide +kernel
theorem iX5_read_149 : ins MX5_read 149 = some (.invokevirtual 86, 3) := by decide +kernel
theorem iX5_read_152 : ins MX5_read 152 = some (.istore_n 2, 1) := by decide +kernel
theorem iX5_read_153 : ins MX5_read 153 = some (.goto 9, 3) := by decide +kernel
theorem iX5_read_156 : ins MX5_read 156 = some (.aload_n 0, 1) := by decide +kernel
theorem iX5_read_157 : ins MX5_read 157 = some (.iconst 1, 1) := by decide +kernel
theorem iX5_read_158 : ins MX5_read 158 = some (.invokevirtual 89, 3) := by decide +kernel
theorem iX5_read_161 : ins MX5_read 161 = some (.istore_n 2, 1) := by decide +kernel
theorem iX5_read_162 : ins MX5_read 162 = some (.iinc 3 1, 3) := by decide +kernel
theorem iX5_read_165 : ins MX5_read 165 = some (.goto (-126), 3) := by decide +kernel
theorem iX5_read_168 : ins MX5_read 168 = some (.iconst 0, 1) := by decide +kernel
theorem iX5_read_169 : ins MX5_read 169 = some (.ireturn, 1) := by decide +kernel
theorem iX5_readAsked_0 : ins MX5_readAsked 0 = some (.iconst (-1), 1) := by decide +kernel
theorem iX5_readAsked_1 : ins MX5_readAsked 1 = some (.istore 4, 2) := by decide +kernel
theorem iX5_readAsked_3 : ins MX5_readAsked 3 = some (.aload_n 0, 1) := by decide +kernel
theorem iX5_readAsked_4 : ins MX5_readAsked 4 = some (.invokevirtual 67, 3) := by decide +kernel
theorem iX5_readAsked_7 : ins MX5_readAsked 7 = some (.aload_n 0, 1) := by decide +kernel
theorem iX5_readAsked_8 : ins MX5_readAsked 8 = some (.getfield 38, 3) := by decide +kernel
theorem iX5_readAsked_11 : ins MX5_readAsked 11 = some (.bipush 8, 2) := by decide +kernel
theorem iX5_readAsked_13 : ins MX5_readAsked 13 = some (.if_icmp .ne 25, 3) := by decide +kernel
theorem iX5_readAsked_16 : ins MX5_readAsked 16 = some (.aload_n 0, 1) := by decide +kernel
theorem iX5_readAsked_17 : ins MX5_readAsked 17 = some (.iconst 0, 1) := by decide +kernel
theorem iX5_readAsked_18 : ins MX5_readAsked 18 = some (.bipush 9, 2) := by decide +kernel
theorem iX5_readAsked_20 : ins MX5_readAsked 20 = some (.invokevirtual 105, 3) := by decide +kernel
theorem iX5_readAsked_23 : ins MX5_readAsked 23 = some (.ifCond .ne 5, 3) := by decide +kernel
theorem iX5_readAsked_26 : ins MX5_readAsked 26 = some (.iconst 0, 1) := by decide +kernel
theorem iX5_readAsked_27 : ins MX5_readAsked 27 = some (.ireturn, 1) := by decide +kernel
theorem iX5_readAsked_28 : ins MX5_readAsked 28 = some (.aload_n 0, 1) := by decide +kernel
theorem iX5_readAsked_29 : ins MX5_readAsked 29 = some (.getfield 41, 3) := by decide +kernel
theorem iX5_readAsked_32 : ins MX5_readAsked 32 = some (.istore 4, 2) := by decide +kernel
theorem iX5_readAsked_34 : ins MX5_readAsked 34 = some (.aload_n 0, 1) := by decide +kernel
theorem iX5_readAsked_35 : ins MX5_readAsked 35 = some (.invokevirtual 67, 3) := by decide +kernel
theorem iX5_readAsked_38 : ins MX5_readAsked 38 = some (.aload_n 0, 1) := by decide +kernel
theorem iX5_readAsked_39 : ins MX5_readAsked 39 = some (.getfield 38, 3) := by decide +kernel
theorem iX5_readAsked_42 : ins MX5_readAsked 42 = some (.iconst 3, 1) := by decide +kernel
theorem iX5_readAsked_43 : ins MX5_readAsked 43 = some (.if_icmp .eq 9, 3) := by decide +kernel
theorem iX5_readAsked_46 : ins MX5_readAsked 46 = some (.aload_n 0, 1) := by decide +kernel
theorem iX5_readAsked_47 : ins MX5_readAsked 47 = some (.iconst 1, 1) := by decide +kernel
theorem iX5_readAsked_48 : ins MX5_readAsked 48 = some (.invokevirtual 89, 3) := by decide +kernel
theorem iX5_readAsked_51 : ins MX5_readAsked 51 = some (.ireturn, 1) := by decide +kernel
theorem iX5_readAsked_52 : ins MX5_readAsked 52 = some (.aload_n 0, 1) := by decide +kernel
theorem iX5_readAsked_53 : ins MX5_readAsked 53 = some (.iload_n 1, 1) := by decide +kernel
theorem iX5_readAsked_54 : ins MX5_readAsked 54 = some (.iload_n 2, 1) := by decide +kernel
theorem iX5_readAsked_55 : ins MX5_readAsked 55 = some (.iload_n 3, 1) := by decide +kernel
theorem iX5_readAsked_56 : ins MX5_readAsked 56 = some (.iload 4, 2) := by decide +kernel
theorem iX5_readAsked_58 : ins MX5_readAsked 58 = some (.invokestatic 115, 3) := by decide +kernel
theorem iX5_readAsked_61 : ins MX5_readAsked 61 = some (.invokevirtual 119, 3) := by decide +kernel
theorem iX5_readAsked_64 : ins MX5_readAsked 64 = some (.iconst 1, 1) := by decide +kernel
theorem iX5_readAsked_65 : ins MX5_readAsked 65 = some (.ireturn, 1) := by decide +kernel
theorem iX5_readClosing_0 : ins MX5_readClosing 0 = some (.aload_n 0, 1) := by decide +kernel
theorem iX5_readClosing_1 : ins MX5_readClosing 1 = some (.getfield 48, 3) := by decide +kernel
theorem iX5_readClosing_4 : ins MX5_readClosing 4 = some (.ifCond .ne 9, 3) := by decide +kernel
theorem iX5_readClosing_7 : ins MX5_readClosing 7 = some (.aload_n 0, 1) := by decide +kernel
theorem iX5_readClosing_8 : ins MX5_readClosing 8 = some (.iconst 1, 1) := by decide +kernel
theorem iX5_readClosing_9 : ins MX5_readClosing 9 = some (.invokevirtual 89, 3) := by decide +kernel
theorem iX5_readClosing_12 : ins MX5_readClosing 12 = some (.ireturn, 1) := by decide +kernel
theorem iX5_readClosing_13 : ins MX5_readClosing 13 = some (.aload_n 0, 1) := by decide +kernel
theorem iX5_readClosing_14 : ins MX5_readClosing 14 = some (.dup, 1) := by decide +kernel
theorem iX5_readClosing_15 : ins MX5_readClosing 15 = some (.getfield 48, 3) := by decide +kernel
theorem iX5_readClosing_18 : ins MX5_readClosing 18 = some (.iconst 1, 1) := by decide +kernel
theorem iX5_readClosing_19 : ins MX5_readClosing 19 = some (.isub, 1) := by decide +kernel
theorem iX5_readClosing_20 : ins MX5_readClosing 20 = some (.putfield 48, 3) := by decide +kernel
theorem iX5_readClosing_23 : ins MX5_readClosing 23 = some (.aload_n 0, 1) := by decide +kernel
theorem iX5_readClosing_24 : ins MX5_readClosing 24 = some (.getfield 28, 3) := by decide +kernel
theorem iX5_readClosing_27 : ins MX5_readClosing 27 = some (.getfield 61, 3) := by decide +kernel
theorem iX5_readClosing_30 : ins MX5_readClosing 30 = some (.istore_n 1, 1) := by decide +kernel
theorem iX5_readClosing_31 : ins MX5_readClosing 31 = some (.iconst 1, 1) := by decide +kernel
theorem iX5_readClosing_32 : ins MX5_readClosing 32 = some (.istore_n 2, 1) := by decide +kernel
theorem iX5_readClosing_33 : ins MX5_readClosing 33 = some (.iload_n 2, 1) := by decide +kernel
theorem iX5_readClosing_34 : ins MX5_readClosing 34 = some (.aload_n 0, 1) := by decide +kernel
theorem iX5_readClosing_35 : ins MX5_readClosing 35 = some (.getfield 55, 3) := by decide +kernel
theorem iX5_readClosing_38 : ins MX5_readClosing 38 = some (.aload_n 0, 1) := by decide +kernel
theorem iX5_readClosing_39 : ins MX5_readClosing 39 = some (.getfield 48, 3) := by decide +kernel
theorem iX5_readClosing_42 : ins MX5_readClosing 42 = some (.iaload, 1) := by decide +kernel
theorem iX5_readClosing_43 : ins MX5_readClosing 43 = some (.if_icmp .ge 43, 3) := by decide +kernel
theorem iX5_readClosing_46 : ins MX5_readClosing 46 = some (.aload_n 0, 1) := by decide +kernel
theorem iX5_readClosing_47 : ins MX5_readClosing 47 = some (.getfield 51, 3) := by decide +kernel
theorem iX5_readClosing_50 : ins MX5_readClosing 50 = some (.aload_n 0, 1) := by decide +kernel
theorem iX5_readClosing_51 : ins MX5_readClosing 51 = some (.getfield 48, 3) := by decide +kernel
theorem iX5_readClosing_54 : ins MX5_readClosing 54 = some (.iaload, 1) := by decide +kernel
theorem iX5_readClosing_55 : ins MX5_readClosing 55 = some (.istore_n 3, 1) := by decide +kernel
theorem iX5_readClosing_56 : ins MX5_readClosing 56 = some (.iload_n 3, 1) := by decide +kernel
theorem iX5_readClosing_57 : ins MX5_readClosing 57 = some (.iload_n 1, 1) := by decide +kernel
theorem iX5_readClosing_58 : ins MX5_readClosing 58 = some (.if_icmp .ge 22, 3) := by decide +kernel
theorem iX5_readClosing_61 : ins MX5_readClosing 61 = some (.aload_n 0, 1) := by decide +kernel
theorem iX5_readClosing_62 : ins MX5_readClosing 62 = some (.aload_n 0, 1) := by decide +kernel
theorem iX5_readClosing_63 : ins MX5_readClosing 63 = some (.getfield 28, 3) := by decide +kernel
theorem iX5_readClosing_66 : ins MX5_readClosing 66 = some (.getfield 123, 3) := by decide +kernel
theorem iX5_readClosing_69 : ins MX5_readClosing 69 = some (.iload_n 3, 1) := by decide +kernel
theorem iX5_readClosing_70 : ins MX5_readClosing 70 = some (.iaload, 1) := by decide +kernel
theorem iX5_readClosing_71 : ins MX5_readClosing 71 = some (.invokevirtual 119, 3) := by decide +kernel
theorem iX5_readClosing_74 : ins MX5_readClosing 74 = some (.iinc 3 1, 3) := by decide +kernel
theorem iX5_readClosing_77 : ins MX5_readClosing 77 = some (.goto (-21), 3) := by decide +kernel
theorem iX5_readClosing_80 : ins MX5_readClosing 80 = some (.iinc 2 1, 3) := by decide +kernel
theorem iX5_readClosing_83 : ins MX5_readClosing 83 = some (.goto (-50), 3) := by decide +kernel
theorem iX5_readClosing_86 : ins MX5_readClosing 86 = some (.iconst 1, 1) := by decide +kernel
theorem iX5_readClosing_87 : ins MX5_readClosing 87 = some (.ireturn, 1) := by decide +kernel
theorem iX5_readEnd_0 : ins MX5_readEnd 0 = some (.aload_n 0, 1) := by decide +kernel
theorem iX5_readEnd_1 : ins MX5_readEnd 1 = some (.getfield 48, 3) := by decide +kernel
theorem iX5_readEnd_4 : ins MX5_readEnd 4 = some (.ifCond .le 9, 3) := by decide +kernel
theorem iX5_readEnd_7 : ins MX5_readEnd 7 = some (.aload_n 0, 1) := by decide +kernel
theorem iX5_readEnd_8 : ins MX5_readEnd 8 = some (.iconst 1, 1) := by decide +kernel
theorem iX5_readEnd_9 : ins MX5_readEnd 9 = some (.invokevirtual 89, 3) := by decide +kernel
theorem iX5_readEnd_12 : ins MX5_readEnd 12 = some (.ireturn, 1) := by decide +kernel
theorem iX5_readEnd_13 : ins MX5_readEnd 13 = some (.aload_n 0, 1) := by decide +kernel
theorem iX5_readEnd_14 : ins MX5_readEnd 14 = some (.getfield 44, 3) := by decide +kernel
theorem iX5_readEnd_17 : ins MX5_readEnd 17 = some (.ifCond .eq 11, 3) := by decide +kernel
theorem iX5_readEnd_20 : ins MX5_readEnd 20 = some (.aload_n 0, 1) := by decide +kernel
theorem iX5_readEnd_21 : ins MX5_readEnd 21 = some (.iconst 4, 1) := by decide +kernel
theorem iX5_readEnd_22 : ins MX5_readEnd 22 = some (.invokevirtual 89, 3) := by decide +kernel
theorem iX5_readEnd_25 : ins MX5_readEnd 25 = some (.ifCond .eq 7, 3) := by decide +kernel
theorem iX5_readEnd_28 : ins MX5_readEnd 28 = some (.iconst 1, 1) := by decide +kernel
theorem iX5_readEnd_29 : ins MX5_readEnd 29 = some (.goto 4, 3) := by decide +kernel
theorem iX5_readEnd_32 : ins MX5_readEnd 32 = some (.iconst 0, 1) := by decide +kernel
theorem iX5_readEnd_33 : ins MX5_readEnd 33 = some (.ireturn, 1) := by decide +kernel
theorem iX5_readLift_0 : ins MX5_readLift 0 = some (.aload_n 0, 1) := by decide +kernel
theorem iX5_readLift_1 : ins MX5_readLift 1 = some (.iconst 0, 1) := by decide +kernel
theorem iX5_readLift_2 : ins MX5_readLift 2 = some (.aload_n 0, 1) := by decide +kernel
theorem iX5_readLift_3 : ins MX5_readLift 3 = some (.getfield 32, 3) := by decide +kernel
theorem iX5_readLift_6 : ins MX5_readLift 6 = some (.iconst 1, 1) := by decide +kernel
theorem iX5_readLift_7 : ins MX5_readLift 7 = some (.isub, 1) := by decide +kernel
theorem iX5_readLift_8 : ins MX5_readLift 8 = some (.invokevirtual 105, 3) := by decide +kernel
theorem iX5_readLift_11 : ins MX5_readLift 11 = some (.ifCond .ne 5, 3) := by decide +kernel
theorem iX5_readLift_14 : ins MX5_readLift 14 = some (.iconst 0, 1) := by decide +kernel
theorem iX5_readLift_15 : ins MX5_readLift 15 = some (.ireturn, 1) := by decide +kernel
theorem iX5_readLift_16 : ins MX5_readLift 16 = some (.aload_n 0, 1) := by decide +kernel
theorem iX5_readLift_17 : ins MX5_readLift 17 = some (.getfield 41, 3) := by decide +kernel
theorem iX5_readLift_20 : ins MX5_readLift 20 = some (.istore_n 1, 1) := by decide +kernel
theorem iX5_readLift_21 : ins MX5_readLift 21 = some (.aload_n 0, 1) := by decide +kernel
theorem iX5_readLift_22 : ins MX5_readLift 22 = some (.bipush 7, 2) := by decide +kernel
theorem iX5_readLift_24 : ins MX5_readLift 24 = some (.invokevirtual 102, 3) := by decide +kernel
theorem iX5_readLift_27 : ins MX5_readLift 27 = some (.ifCond .eq 17, 3) := by decide +kernel
theorem iX5_readLift_30 : ins MX5_readLift 30 = some (.aload_n 0, 1) := by decide +kernel
theorem iX5_readLift_31 : ins MX5_readLift 31 = some (.iconst 0, 1) := by decide +kernel
theorem iX5_readLift_32 : ins MX5_readLift 32 = some (.aload_n 0, 1) := by decide +kernel
theorem iX5_readLift_33 : ins MX5_readLift 33 = some (.getfield 32, 3) := by decide +kernel
theorem iX5_readLift_36 : ins MX5_readLift 36 = some (.iconst 1, 1) := by decide +kernel
theorem iX5_readLift_37 : ins MX5_readLift 37 = some (.isub, 1) := by decide +kernel
theorem iX5_readLift_38 : ins MX5_readLift 38 = some (.invokevirtual 105, 3) := by decide +kernel
theorem iX5_readLift_41 : ins MX5_readLift 41 = some (.ifCond .ne 5, 3) := by decide +kernel
theorem iX5_readLift_44 : ins MX5_readLift 44 = some (.iconst 0, 1) := by decide +kernel
theorem iX5_readLift_45 : ins MX5_readLift 45 = some (.ireturn, 1) := by decide +kernel
theorem iX5_readLift_46 : ins MX5_readLift 46 = some (.aload_n 0, 1) := by decide +kernel
theorem iX5_readLift_47 : ins MX5_readLift 47 = some (.iconst 0, 1) := by decide +kernel
theorem iX5_readLift_48 : ins MX5_readLift 48 = some (.iload_n 1, 1) := by decide +kernel
theorem iX5_readLift_49 : ins MX5_readLift 49 = some (.aload_n 0, 1) := by decide +kernel
theorem iX5_readLift_50 : ins MX5_readLift 50 = some (.getfield 41, 3) := by decide +kernel
theorem iX5_readLift_53 : ins MX5_readLift 53 = some (.invokevirtual 111, 3) := by decide +kernel
theorem iX5_readLift_56 : ins MX5_readLift 56 = some (.ireturn, 1) := by decide +kernel
theorem iX5_readNumber_0 : ins MX5_readNumber 0 = some (.aload_n 0, 1) := by decide +kernel
theorem iX5_readNumber_1 : ins MX5_readNumber 1 = some (.iconst 2, 1) := by decide +kernel
theorem iX5_readNumber_2 : ins MX5_readNumber 2 = some (.invokevirtual 102, 3) := by decide +kernel
theorem iX5_readNumber_5 : ins MX5_readNumber 5 = some (.ifCond .ne 5, 3) := by decide +kernel
theorem iX5_readNumber_8 : ins MX5_readNumber 8 = some (.iconst 0, 1) := by decide +kernel
theorem iX5_readNumber_9 : ins MX5_readNumber 9 = some (.ireturn, 1) := by decide +kernel
theorem iX5_readNumber_10 : ins MX5_readNumber 10 = some (.aload_n 0, 1) := by decide +kernel
theorem iX5_readNumber_11 : ins MX5_readNumber 11 = some (.getfield 41, 3) := by decide +kernel
theorem iX5_readNumber_14 : ins MX5_readNumber 14 = some (.iload_n 1, 1) := by decide +kernel
theorem iX5_readNumber_15 : ins MX5_readNumber 15 = some (.if_icmp .lt 11, 3) := by decide +kernel
theorem iX5_readNumber_18 : ins MX5_readNumber 18 = some (.aload_n 0, 1) := by decide +kernel
theorem iX5_readNumber_19 : ins MX5_readNumber 19 = some (.getfield 41, 3) := by decide +kernel
theorem iX5_readNumber_22 : ins MX5_readNumber 22 = some (.iload_n 2, 1) := by decide +kernel
theorem iX5_readNumber_23 : ins MX5_readNumber 23 = some (.if_icmp .le 11, 3) := by decide +kernel
theorem iX5_readNumber_26 : ins MX5_readNumber 26 = some (.aload_n 0, 1) := by decide +kernel
theorem iX5_readNumber_27 : ins MX5_readNumber 27 = some (.iconst 2, 1) := by decide +kernel
theorem iX5_readNumber_28 : ins MX5_readNumber 28 = some (.invokevirtual 89, 3) := by decide +kernel
theorem iX5_readNumber_31 : ins MX5_readNumber 31 = some (.ifCond .eq 7, 3) := by decide +kernel
theorem iX5_readNumber_34 : ins MX5_readNumber 34 = some (.iconst 1, 1) := by decide +kernel
theorem iX5_readNumber_35 : ins MX5_readNumber 35 = some (.goto 4, 3) := by decide +kernel
theorem iX5_readNumber_38 : ins MX5_readNumber 38 = some (.iconst 0, 1) := by decide +kernel
theorem iX5_readNumber_39 : ins MX5_readNumber 39 = some (.ireturn, 1) := by decide +kernel
theorem iX5_readSwap_0 : ins MX5_readSwap 0 = some (.aload_n 0, 1) := by decide +kernel
theorem iX5_readSwap_1 : ins MX5_readSwap 1 = some (.iconst 0, 1) := by decide +kernel
theorem iX5_readSwap_2 : ins MX5_readSwap 2 = some (.aload_n 0, 1) := by decide +kernel
theorem iX5_readSwap_3 : ins MX5_readSwap 3 = some (.getfield 32, 3) := by decide +kernel
theorem iX5_readSwap_6 : ins MX5_readSwap 6 = some (.iconst 1, 1) := by decide +kernel
theorem iX5_readSwap_7 : ins MX5_readSwap 7 = some (.isub, 1) := by decide +kernel
theorem iX5_readSwap_8 : ins MX5_readSwap 8 = some (.invokevirtual 105, 3) := by decide +kernel
theorem iX5_readSwap_11 : ins MX5_readSwap 11 = some (.ifCond .ne 5, 3) := by decide +kernel
theorem iX5_readSwap_14 : ins MX5_readSwap 14 = some (.iconst 0, 1) := by decide +kernel
theorem iX5_readSwap_15 : ins MX5_readSwap 15 = some (.ireturn, 1) := by decide +kernel
theorem iX5_readSwap_16 : ins MX5_readSwap 16 = some (.aload_n 0, 1) := by decide +kernel
theorem iX5_readSwap_17 : ins MX5_readSwap 17 = some (.getfield 41, 3) := by decide +kernel
theorem iX5_readSwap_20 : ins MX5_readSwap 20 = some (.istore_n 1, 1) := by decide +kernel
theorem iX5_readSwap_21 : ins MX5_readSwap 21 = some (.aload_n 0, 1) := by decide +kernel
theorem iX5_readSwap_22 : ins MX5_readSwap 22 = some (.iconst 0, 1) := by decide +kernel
theorem iX5_readSwap_23 : ins MX5_readSwap 23 = some (.aload_n 0, 1) := by decide +kernel
theorem iX5_readSwap_24 : ins MX5_readSwap 24 = some (.getfield 32, 3) := by decide +kernel
theorem iX5_readSwap_27 : ins MX5_readSwap 27 = some (.iconst 1, 1) := by decide +kernel
theorem iX5_readSwap_28 : ins MX5_readSwap 28 = some (.isub, 1) := by decide +kernel
theorem iX5_readSwap_29 : ins MX5_readSwap 29 = some (.invokevirtual 105, 3) := by decide +kernel
theorem iX5_readSwap_32 : ins MX5_readSwap 32 = some (.ifCond .eq 20, 3) := by decide +kernel
theorem iX5_readSwap_35 : ins MX5_readSwap 35 = some (.aload_n 0, 1) := by decide +kernel
theorem iX5_readSwap_36 : ins MX5_readSwap 36 = some (.iconst 1, 1) := by decide +kernel
theorem iX5_readSwap_37 : ins MX5_readSwap 37 = some (.iload_n 1, 1) := by decide +kernel
theorem iX5_readSwap_38 : ins MX5_readSwap 38 = some (.aload_n 0, 1) := by decide +kernel
theorem iX5_readSwap_39 : ins MX5_readSwap 39 = some (.getfield 41, 3) := by decide +kernel
theorem iX5_readSwap_42 : ins MX5_readSwap 42 = some (.invokevirtual 111, 3) := by decide +kernel
theorem iX5_readSwap_45 : ins MX5_readSwap 45 = some (.ifCond .eq 7, 3) := by decide +kernel
theorem iX5_readSwap_48 : ins MX5_readSwap 48 = some (.iconst 1, 1) := by decide +kernel
theorem iX5_readSwap_49 : ins MX5_readSwap 49 = some (.goto 4, 3) := by decide +kernel
theorem iX5_readSwap_52 : ins MX5_readSwap 52 = some (.iconst 0, 1) := by decide +kernel
theorem iX5_readSwap_53 : ins MX5_readSwap 53 = some (.ireturn, 1) := by decide +kernel
theorem iX5_readTimes_0 : ins MX5_readTimes 0 = some (.aload_n 0, 1) := by decide +kernel
theorem iX5_readTimes_1 : ins MX5_readTimes 1 = some (.getfield 48, 3) := by decide +kernel
theorem iX5_readTimes_4 : ins MX5_readTimes 4 = some (.iconst 4, 1) := by decide +kernel
theorem iX5_readTimes_5 : ins MX5_readTimes 5 = some (.if_icmp .lt 9, 3) := by decide +kernel
theorem iX5_readTimes_8 : ins MX5_readTimes 8 = some (.aload_n 0, 1) := by decide +kernel
theorem iX5_readTimes_9 : ins MX5_readTimes 9 = some (.iconst 3, 1) := by decide +kernel
theorem iX5_readTimes_10 : ins MX5_readTimes 10 = some (.invokevirtual 89, 3) := by decide +kernel
theorem iX5_readTimes_13 : ins MX5_readTimes 13 = some (.ireturn, 1) := by decide +kernel
theorem iX5_readTimes_14 : ins MX5_readTimes 14 = some (.aload_n 0, 1) := by decide +kernel
theorem iX5_readTimes_15 : ins MX5_readTimes 15 = some (.iconst 1, 1) := by decide +kernel
theorem iX5_readTimes_16 : ins MX5_readTimes 16 = some (.bipush 9, 2) := by decide +kernel
theorem iX5_readTimes_18 : ins MX5_readTimes 18 = some (.invokevirtual 105, 3) := by decide +kernel
theorem iX5_readTimes_21 : ins MX5_readTimes 21 = some (.ifCond .ne 5, 3) := by decide +kernel
theorem iX5_readTimes_24 : ins MX5_readTimes 24 = some (.iconst 0, 1) := by decide +kernel
theorem iX5_readTimes_25 : ins MX5_readTimes 25 = some (.ireturn, 1) := by decide +kernel
theorem iX5_readTimes_26 : ins MX5_readTimes 26 = some (.aload_n 0, 1) := by decide +kernel
theorem iX5_readTimes_27 : ins MX5_readTimes 27 = some (.getfield 55, 3) := by decide +kernel
theorem iX5_readTimes_30 : ins MX5_readTimes 30 = some (.aload_n 0, 1) := by decide +kernel
theorem iX5_readTimes_31 : ins MX5_readTimes 31 = some (.getfield 48, 3) := by decide +kernel
theorem iX5_readTimes_34 : ins MX5_readTimes 34 = some (.aload_n 0, 1) := by decide +kernel
theorem iX5_readTimes_35 : ins MX5_readTimes 35 = some (.getfield 41, 3) := by decide +kernel
theorem iX5_readTimes_38 : ins MX5_readTimes 38 = some (.iastore, 1) := by decide +kernel
theorem iX5_readTimes_39 : ins MX5_readTimes 39 = some (.aload_n 0, 1) := by decide +kernel
theorem iX5_readTimes_40 : ins MX5_readTimes 40 = some (.getfield 51, 3) := by decide +kernel
theorem iX5_readTimes_43 : ins MX5_readTimes 43 = some (.aload_n 0, 1) := by decide +kernel
theorem iX5_readTimes_44 : ins MX5_readTimes 44 = some (.getfield 48, 3) := by decide +kernel
theorem iX5_readTimes_47 : ins MX5_readTimes 47 = some (.aload_n 0, 1) := by decide +kernel
theorem iX5_readTimes_48 : ins MX5_readTimes 48 = some (.getfield 28, 3) := by decide +kernel
theorem iX5_readTimes_51 : ins MX5_readTimes 51 = some (.getfield 61, 3) := by decide +kernel
theorem iX5_readTimes_54 : ins MX5_readTimes 54 = some (.iastore, 1) := by decide +kernel
theorem iX5_readTimes_55 : ins MX5_readTimes 55 = some (.aload_n 0, 1) := by decide +kernel
theorem iX5_readTimes_56 : ins MX5_readTimes 56 = some (.dup, 1) := by decide +kernel
theorem iX5_readTimes_57 : ins MX5_readTimes 57 = some (.getfield 48, 3) := by decide +kernel
theorem iX5_readTimes_60 : ins MX5_readTimes 60 = some (.iconst 1, 1) := by decide +kernel
theorem iX5_readTimes_61 : ins MX5_readTimes 61 = some (.iadd, 1) := by decide +kernel
theorem iX5_readTimes_62 : ins MX5_readTimes 62 = some (.putfield 48, 3) := by decide +kernel
theorem iX5_readTimes_65 : ins MX5_readTimes 65 = some (.aload_n 0, 1) := by decide +kernel
theorem iX5_readTimes_66 : ins MX5_readTimes 66 = some (.iconst 4, 1) := by decide +kernel
theorem iX5_readTimes_67 : ins MX5_readTimes 67 = some (.invokevirtual 102, 3) := by decide +kernel
theorem iX5_readTimes_70 : ins MX5_readTimes 70 = some (.ireturn, 1) := by decide +kernel
theorem iX5_readToken_0 : ins MX5_readToken 0 = some (.aload_n 0, 1) := by decide +kernel
theorem iX5_readToken_1 : ins MX5_readToken 1 = some (.invokevirtual 67, 3) := by decide +kernel
theorem iX5_readToken_4 : ins MX5_readToken 4 = some (.aload_n 0, 1) := by decide +kernel
theorem iX5_readToken_5 : ins MX5_readToken 5 = some (.getfield 38, 3) := by decide +kernel
theorem iX5_readToken_8 : ins MX5_readToken 8 = some (.iload_n 1, 1) := by decide +kernel
theorem iX5_readToken_9 : ins MX5_readToken 9 = some (.if_icmp .eq 11, 3) := by decide +kernel
theorem iX5_readToken_12 : ins MX5_readToken 12 = some (.aload_n 0, 1) := by decide +kernel
theorem iX5_readToken_13 : ins MX5_readToken 13 = some (.iconst 1, 1) := by decide +kernel
theorem iX5_readToken_14 : ins MX5_readToken 14 = some (.invokevirtual 89, 3) := by decide +kernel
theorem iX5_readToken_17 : ins MX5_readToken 17 = some (.ifCond .eq 7, 3) := by decide +kernel
theorem iX5_readToken_20 : ins MX5_readToken 20 = some (.iconst 1, 1) := by decide +kernel
theorem iX5_readToken_21 : ins MX5_readToken 21 = some (.goto 4, 3) := by decide +kernel
theorem iX5_readToken_24 : ins MX5_readToken 24 = some (.iconst 0, 1) := by decide +kernel
theorem iX5_readToken_25 : ins MX5_readToken 25 = some (.ireturn, 1) := by decide +kernel
theorem iX5_readTurn_0 : ins MX5_readTurn 0 = some (.aload_n 0, 1) := by decide +kernel
theorem iX5_readTurn_1 : ins MX5_readTurn 1 = some (.iconst 0, 1) := by decide +kernel
theorem iX5_readTurn_2 : ins MX5_readTurn 2 = some (.bipush 15, 2) := by decide +kernel
theorem iX5_readTurn_4 : ins MX5_readTurn 4 = some (.invokevirtual 105, 3) := by decide +kernel
theorem iX5_readTurn_7 : ins MX5_readTurn 7 = some (.ifCond .ne 5, 3) := by decide +kernel
theorem iX5_readTurn_10 : ins MX5_readTurn 10 = some (.iconst 0, 1) := by decide +kernel
theorem iX5_readTurn_11 : ins MX5_readTurn 11 = some (.ireturn, 1) := by decide +kernel
theorem iX5_readTurn_12 : ins MX5_readTurn 12 = some (.aload_n 0, 1) := by decide +kernel
theorem iX5_readTurn_13 : ins MX5_readTurn 13 = some (.getfield 41, 3) := by decide +kernel
theorem iX5_readTurn_16 : ins MX5_readTurn 16 = some (.istore_n 1, 1) := by decide +kernel
theorem iX5_readTurn_17 : ins MX5_readTurn 17 = some (.aload_n 0, 1) := by decide +kernel
theorem iX5_readTurn_18 : ins MX5_readTurn 18 = some (.iconst 3, 1) := by decide +kernel
theorem iX5_readTurn_19 : ins MX5_readTurn 19 = some (.invokevirtual 102, 3) := by decide +kernel
theorem iX5_readTurn_22 : ins MX5_readTurn 22 = some (.ifCond .ne 5, 3) := by decide +kernel
theorem iX5_readTurn_25 : ins MX5_readTurn 25 = some (.iconst 0, 1) := by decide +kernel
theorem iX5_readTurn_26 : ins MX5_readTurn 26 = some (.ireturn, 1) := by decide +kernel
theorem iX5_readTurn_27 : ins MX5_readTurn 27 = some (.aload_n 0, 1) := by decide +kernel
theorem iX5_readTurn_28 : ins MX5_readTurn 28 = some (.iconst 2, 1) := by decide +kernel
theorem iX5_readTurn_29 : ins MX5_readTurn 29 = some (.iload_n 1, 1) := by decide +kernel
theorem iX5_readTurn_30 : ins MX5_readTurn 30 = some (.iconst 0, 1) := by decide +kernel
theorem iX5_readTurn_31 : ins MX5_readTurn 31 = some (.iconst (-1), 1) := by decide +kernel
theorem iX5_readTurn_32 : ins MX5_readTurn 32 = some (.invokestatic 115, 3) := by decide +kernel
theorem iX5_readTurn_35 : ins MX5_readTurn 35 = some (.invokevirtual 119, 3) := by decide +kernel
theorem iX5_readTurn_38 : ins MX5_readTurn 38 = some (.iconst 1, 1) := by decide +kernel
theorem iX5_readTurn_39 : ins MX5_readTurn 39 = some (.ireturn, 1) := by decide +kernel
theorem iX5_take_0 : ins MX5_take 0 = some (.aload_n 0, 1) := by decide +kernel
theorem iX5_take_1 : ins MX5_take 1 = some (.getfield 35, 3) := by decide +kernel
theorem iX5_take_4 : ins MX5_take 4 = some (.aload_n 0, 1) := by decide +kernel
theorem iX5_take_5 : ins MX5_take 5 = some (.getfield 21, 3) := by decide +kernel
theorem iX5_take_8 : ins MX5_take 8 = some (.getfield 64, 3) := by decide +kernel
theorem iX5_take_11 : ins MX5_take 11 = some (.iconst 1, 1) := by decide +kernel
theorem iX5_take_12 : ins MX5_take 12 = some (.isub, 1) := by decide +kernel
theorem iX5_take_13 : ins MX5_take 13 = some (.if_icmp .ge 13, 3) := by decide +kernel
theorem iX5_take_16 : ins MX5_take 16 = some (.aload_n 0, 1) := by decide +kernel
theorem iX5_take_17 : ins MX5_take 17 = some (.dup, 1) := by decide +kernel
theorem iX5_take_18 : ins MX5_take 18 = some (.getfield 35, 3) := by decide +kernel
theorem iX5_take_21 : ins MX5_take 21 = some (.iconst 1, 1) := by decide +kernel
theorem iX5_take_22 : ins MX5_take 22 = some (.iadd, 1) := by decide +kernel
theorem iX5_take_23 : ins MX5_take 23 = some (.putfield 35, 3) := by decide +kernel
theorem iX5_take_26 : ins MX5_take 26 = some (.aload_n 0, 1) := by decide +kernel
theorem iX5_take_27 : ins MX5_take 27 = some (.aload_n 0, 1) := by decide +kernel
theorem iX5_take_28 : ins MX5_take 28 = some (.getfield 21, 3) := by decide +kernel
theorem iX5_take_31 : ins MX5_take 31 = some (.getfield 96, 3) := by decide +kernel
theorem iX5_take_34 : ins MX5_take 34 = some (.aload_n 0, 1) := by decide +kernel
theorem iX5_take_35 : ins MX5_take 35 = some (.getfield 35, 3) := by decide +kernel
theorem iX5_take_38 : ins MX5_take 38 = some (.iaload, 1) := by decide +kernel
theorem iX5_take_39 : ins MX5_take 39 = some (.putfield 38, 3) := by decide +kernel
theorem iX5_take_42 : ins MX5_take 42 = some (.aload_n 0, 1) := by decide +kernel
theorem iX5_take_43 : ins MX5_take 43 = some (.aload_n 0, 1) := by decide +kernel
theorem iX5_take_44 : ins MX5_take 44 = some (.getfield 21, 3) := by decide +kernel
theorem iX5_take_47 : ins MX5_take 47 = some (.getfield 99, 3) := by decide +kernel
theorem iX5_take_50 : ins MX5_take 50 = some (.aload_n 0, 1) := by decide +kernel
theorem iX5_take_51 : ins MX5_take 51 = some (.getfield 35, 3) := by decide +kernel
theorem iX5_take_54 : ins MX5_take 54 = some (.iaload, 1) := by decide +kernel
theorem iX5_take_55 : ins MX5_take 55 = some (.putfield 41, 3) := by decide +kernel
theorem iX5_take_58 : ins MX5_take 58 = some (.return_, 1) := by decide +kernel
theorem iX6_get_0 : ins MX6_get 0 = some (.lload_n 0, 1) := by decide +kernel
theorem iX6_get_1 : ins MX6_get 1 = some (.iconst 4, 1) := by decide +kernel
theorem iX6_get_2 : ins MX6_get 2 = some (.iload_n 2, 1) := by decide +kernel
theorem iX6_get_3 : ins MX6_get 3 = some (.imul, 1) := by decide +kernel
theorem iX6_get_4 : ins MX6_get 4 = some (.lushr, 1) := by decide +kernel
theorem iX6_get_5 : ins MX6_get 5 = some (.l2i, 1) := by decide +kernel
theorem iX6_get_6 : ins MX6_get 6 = some (.bipush 15, 2) := by decide +kernel
theorem iX6_get_8 : ins MX6_get 8 = some (.iand, 1) := by decide +kernel
theorem iX6_get_9 : ins MX6_get 9 = some (.ireturn, 1) := by decide +kernel
theorem iX6_home_0 : ins MX6_home 0 = some (.ldc2_w 11, 3) := by decide +kernel
theorem iX6_home_3 : ins MX6_home 3 = some (.iload_n 0, 1) := by decide +kernel
theorem iX6_home_4 : ins MX6_home 4 = some (.invokestatic 13, 3) := by decide +kernel
theorem iX6_home_7 : ins MX6_home 7 = some (.land, 1) := by decide +kernel
theorem iX6_home_8 : ins MX6_home 8 = some (.lreturn, 1) := by decide +kernel
theorem iX6_lifted_0 : ins MX6_lifted 0 = some (.lload_n 0, 1) := by decide +kernel
theorem iX6_lifted_1 : ins MX6_lifted 1 = some (.iload_n 2, 1) := by decide +kernel
theorem iX6_lifted_2 : ins MX6_lifted 2 = some (.invokestatic 13, 3) := by decide +kernel
theorem iX6_lifted_5 : ins MX6_lifted 5 = some (.land, 1) := by decide +kernel
theorem iX6_lifted_6 : ins MX6_lifted 6 = some (.lstore 4, 2) := by decide +kernel
theorem iX6_lifted_8 : ins MX6_lifted 8 = some (.lload_n 0, 1) := by decide +kernel
theorem iX6_lifted_9 : ins MX6_lifted 9 = some (.iconst 4, 1) := by decide +kernel
theorem iX6_lifted_10 : ins MX6_lifted 10 = some (.iload_n 2, 1) := by decide +kernel
theorem iX6_lifted_11 : ins MX6_lifted 11 = some (.imul, 1) := by decide +kernel
theorem iX6_lifted_12 : ins MX6_lifted 12 = some (.lushr, 1) := by decide +kernel
theorem iX6_lifted_13 : ins MX6_lifted 13 = some (.iconst 4, 1) := by decide +kernel
theorem iX6_lifted_14 : ins MX6_lifted 14 = some (.lushr, 1) := by decide +kernel
theorem iX6_lifted_15 : ins MX6_lifted 15 = some (.lstore 6, 2) := by decide +kernel
theorem iX6_lifted_17 : ins MX6_lifted 17 = some (.lload 4, 2) := by decide +kernel
theorem iX6_lifted_19 : ins MX6_lifted 19 = some (.lload 6, 2) := by decide +kernel
theorem iX6_lifted_21 : ins MX6_lifted 21 = some (.iconst 4, 1) := by decide +kernel
theorem iX6_lifted_22 : ins MX6_lifted 22 = some (.iload_n 2, 1) := by decide +kernel
theorem iX6_lifted_23 : ins MX6_lifted 23 = some (.imul, 1) := by decide +kernel
theorem iX6_lifted_24 : ins MX6_lifted 24 = some (.lshl, 1) := by decide +kernel
theorem iX6_lifted_25 : ins MX6_lifted 25 = some (.lor, 1) := by decide +kernel
theorem iX6_lifted_26 : ins MX6_lifted 26 = some (.lstore 8, 2) := by decide +kernel
theorem iX6_lifted_28 : ins MX6_lifted 28 = some (.lload 8, 2) := by decide +kernel
theorem iX6_lifted_30 : ins MX6_lifted 30 = some (.iload_n 3, 1) := by decide +kernel
theorem iX6_lifted_31 : ins MX6_lifted 31 = some (.invokestatic 13, 3) := by decide +kernel
theorem iX6_lifted_34 : ins MX6_lifted 34 = some (.land, 1) := by decide +kernel
theorem iX6_lifted_35 : ins MX6_lifted 35 = some (.lstore 10, 2) := by decide +kernel
theorem iX6_lifted_37 : ins MX6_lifted 37 = some (.lload 8, 2) := by decide +kernel
theorem iX6_lifted_39 : ins MX6_lifted 39 = some (.iconst 4, 1) := by decide +kernel
theorem iX6_lifted_40 : ins MX6_lifted 40 = some (.iload_n 3, 1) := by decide +kernel
theorem iX6_lifted_41 : ins MX6_lifted 41 = some (.imul, 1) := by decide +kernel
theorem iX6_lifted_42 : ins MX6_lifted 42 = some (.lushr, 1) := by decide +kernel
theorem iX6_lifted_43 : ins MX6_lifted 43 = some (.iconst 4, 1) := by decide +kernel
theorem iX6_lifted_44 : ins MX6_lifted 44 = some (.iload_n 3, 1) := by decide +kernel
theorem iX6_lifted_45 : ins MX6_lifted 45 = some (.imul, 1) := by decide +kernel
theorem iX6_lifted_46 : ins MX6_lifted 46 = some (.lshl, 1) := by decide +kernel
theorem iX6_lifted_47 : ins MX6_lifted 47 = some (.iconst 4, 1) := by decide +kernel
theorem iX6_lifted_48 : ins MX6_lifted 48 = some (.lshl, 1) := by decide +kernel
theorem iX6_lifted_49 : ins MX6_lifted 49 = some (.lstore 12, 2) := by decide +kernel
theorem iX6_lifted_51 : ins MX6_lifted 51 = some (.lload 10, 2) := by decide +kernel
theorem iX6_lifted_53 : ins MX6_lifted 53 = some (.lload 12, 2) := by decide +kernel
theorem iX6_lifted_55 : ins MX6_lifted 55 = some (.lor, 1) := by decide +kernel
theorem iX6_lifted_56 : ins MX6_lifted 56 = some (.lload_n 0, 1) := by decide +kernel
theorem iX6_lifted_57 : ins MX6_lifted 57 = some (.iload_n 2, 1) := by decide +kernel
theorem iX6_lifted_58 : ins MX6_lifted 58 = some (.invokestatic 21, 3) := by decide +kernel
theorem iX6_lifted_61 : ins MX6_lifted 61 = some (.i2l, 1) := by decide +kernel
theorem iX6_lifted_62 : ins MX6_lifted 62 = some (.iconst 4, 1) := by decide +kernel
theorem iX6_lifted_63 : ins MX6_lifted 63 = some (.iload_n 3, 1) := by decide +kernel
theorem iX6_lifted_64 : ins MX6_lifted 64 = some (.imul, 1) := by decide +kernel
theorem iX6_lifted_65 : ins MX6_lifted 65 = some (.lshl, 1) := by decide +kernel
theorem iX6_lifted_66 : ins MX6_lifted 66 = some (.lor, 1) := by decide +kernel
theorem iX6_lifted_67 : ins MX6_lifted 67 = some (.lreturn, 1) := by decide +kernel
theorem iX6_lowest_0 : ins MX6_lowest 0 = some (.iload_n 0, 1) := by decide +kernel
theorem iX6_lowest_1 : ins MX6_lowest 1 = some (.bipush 16, 2) := by decide +kernel
theorem iX6_lowest_3 : ins MX6_lowest 3 = some (.if_icmp .lt 9, 3) := by decide +kernel
theorem iX6_lowest_6 : ins MX6_lowest 6 = some (.ldc2_w 19, 3) := by decide +kernel
theorem iX6_lowest_9 : ins MX6_lowest 9 = some (.goto 10, 3) := by decide +kernel
theorem iX6_lowest_12 : ins MX6_lowest 12 = some (.lconst 1, 1) := by decide +kernel
theorem iX6_lowest_13 : ins MX6_lowest 13 = some (.iconst 4, 1) := by decide +kernel
theorem iX6_lowest_14 : ins MX6_lowest 14 = some (.iload_n 0, 1) := by decide +kernel
theorem iX6_lowest_15 : ins MX6_lowest 15 = some (.imul, 1) := by decide +kernel
theorem iX6_lowest_16 : ins MX6_lowest 16 = some (.lshl, 1) := by decide +kernel
theorem iX6_lowest_17 : ins MX6_lowest 17 = some (.lconst 1, 1) := by decide +kernel
theorem iX6_lowest_18 : ins MX6_lowest 18 = some (.lsub, 1) := by decide +kernel
theorem iX6_lowest_19 : ins MX6_lowest 19 = some (.lreturn, 1) := by decide +kernel
theorem iX6_slotWith_0 : ins MX6_slotWith 0 = some (.iconst 0, 1) := by decide +kernel
theorem iX6_slotWith_1 : ins MX6_slotWith 1 = some (.istore 4, 2) := by decide +kernel
theorem iX6_slotWith_3 : ins MX6_slotWith 3 = some (.iload 4, 2) := by decide +kernel
theorem iX6_slotWith_5 : ins MX6_slotWith 5 = some (.iload_n 3, 1) := by decide +kernel
theorem iX6_slotWith_6 : ins MX6_slotWith 6 = some (.if_icmp .ge 22, 3) := by decide +kernel
theorem iX6_slotWith_9 : ins MX6_slotWith 9 = some (.lload_n 0, 1) := by decide +kernel
theorem iX6_slotWith_10 : ins MX6_slotWith 10 = some (.iload 4, 2) := by decide +kernel
theorem iX6_slotWith_12 : ins MX6_slotWith 12 = some (.invokestatic 21, 3) := by decide +kernel
theorem iX6_slotWith_15 : ins MX6_slotWith 15 = some (.iload_n 2, 1) := by decide +kernel
theorem iX6_slotWith_16 : ins MX6_slotWith 16 = some (.if_icmp .ne 6, 3) := by decide +kernel
theorem iX6_slotWith_19 : ins MX6_slotWith 19 = some (.iload 4, 2) := by decide +kernel
theorem iX6_slotWith_21 : ins MX6_slotWith 21 = some (.ireturn, 1) := by decide +kernel
theorem iX6_slotWith_22 : ins MX6_slotWith 22 = some (.iinc 4 1, 3) := by decide +kernel
theorem iX6_slotWith_25 : ins MX6_slotWith 25 = some (.goto (-22), 3) := by decide +kernel
theorem iX6_slotWith_28 : ins MX6_slotWith 28 = some (.iconst (-1), 1) := by decide +kernel
theorem iX6_slotWith_29 : ins MX6_slotWith 29 = some (.ireturn, 1) := by decide +kernel
theorem iX6_swapped_0 : ins MX6_swapped 0 = some (.lload_n 0, 1) := by decide +kernel
theorem iX6_swapped_1 : ins MX6_swapped 1 = some (.iload_n 2, 1) := by decide +kernel
theorem iX6_swapped_2 : ins MX6_swapped 2 = some (.lload_n 0, 1) := by decide +kernel
theorem iX6_swapped_3 : ins MX6_swapped 3 = some (.iload_n 3, 1) := by decide +kernel
theorem iX6_swapped_4 : ins MX6_swapped 4 = some (.invokestatic 21, 3) := by decide +kernel
theorem iX6_swapped_7 : ins MX6_swapped 7 = some (.invokestatic 25, 3) := by decide +kernel
theorem iX6_swapped_10 : ins MX6_swapped 10 = some (.iload_n 3, 1) := by decide +kernel
theorem iX6_swapped_11 : ins MX6_swapped 11 = some (.lload_n 0, 1) := by decide +kernel
theorem iX6_swapped_12 : ins MX6_swapped 12 = some (.iload_n 2, 1) := by decide +kernel
theorem iX6_swapped_13 : ins MX6_swapped 13 = some (.invokestatic 21, 3) := by decide +kernel
theorem iX6_swapped_16 : ins MX6_swapped 16 = some (.invokestatic 25, 3) := by decide +kernel
theorem iX6_swapped_19 : ins MX6_swapped 19 = some (.lreturn, 1) := by decide +kernel
theorem iX6_turned_0 : ins MX6_turned 0 = some (.iload_n 3, 1) := by decide +kernel
theorem iX6_turned_1 : ins MX6_turned 1 = some (.ifCond .le 9, 3) := by decide +kernel
theorem iX6_turned_4 : ins MX6_turned 4 = some (.iload_n 2, 1) := by decide +kernel
theorem iX6_turned_5 : ins MX6_turned 5 = some (.iload_n 3, 1) := by decide +kernel
theorem iX6_turned_6 : ins MX6_turned 6 = some (.irem, 1) := by decide +kernel
theorem iX6_turned_7 : ins MX6_turned 7 = some (.goto 4, 3) := by decide +kernel
theorem iX6_turned_10 : ins MX6_turned 10 = some (.iconst 0, 1) := by decide +kernel
theorem iX6_turned_11 : ins MX6_turned 11 = some (.istore 4, 2) := by decide +kernel
theorem iX6_turned_13 : ins MX6_turned 13 = some (.iload 4, 2) := by decide +kernel
theorem iX6_turned_15 : ins MX6_turned 15 = some (.ifCond .ne 5, 3) := by decide +kernel
theorem iX6_turned_18 : ins MX6_turned 18 = some (.lload_n 0, 1) := by decide +kernel
theorem iX6_turned_19 : ins MX6_turned 19 = some (.lreturn, 1) := by decide +kernel
theorem iX6_turned_20 : ins MX6_turned 20 = some (.lload_n 0, 1) := by decide +kernel
theorem iX6_turned_21 : ins MX6_turned 21 = some (.iconst 4, 1) := by decide +kernel
theorem iX6_turned_22 : ins MX6_turned 22 = some (.iload 4, 2) := by decide +kernel
theorem iX6_turned_24 : ins MX6_turned 24 = some (.imul, 1) := by decide +kernel
theorem iX6_turned_25 : ins MX6_turned 25 = some (.lshl, 1) := by decide +kernel
theorem iX6_turned_26 : ins MX6_turned 26 = some (.lload_n 0, 1) := by decide +kernel
theorem iX6_turned_27 : ins MX6_turned 27 = some (.iconst 4, 1) := by decide +kernel
theorem iX6_turned_28 : ins MX6_turned 28 = some (.iload_n 3, 1) := by decide +kernel
theorem iX6_turned_29 : ins MX6_turned 29 = some (.iload 4, 2) := by decide +kernel
theorem iX6_turned_31 : ins MX6_turned 31 = some (.isub, 1) := by decide +kernel
theorem iX6_turned_32 : ins MX6_turned 32 = some (.imul, 1) := by decide +kernel
theorem iX6_turned_33 : ins MX6_turned 33 = some (.lushr, 1) := by decide +kernel
theorem iX6_turned_34 : ins MX6_turned 34 = some (.lor, 1) := by decide +kernel
theorem iX6_turned_35 : ins MX6_turned 35 = some (.iload_n 3, 1) := by decide +kernel
theorem iX6_turned_36 : ins MX6_turned 36 = some (.invokestatic 13, 3) := by decide +kernel
theorem iX6_turned_39 : ins MX6_turned 39 = some (.land, 1) := by decide +kernel
theorem iX6_turned_40 : ins MX6_turned 40 = some (.lreturn, 1) := by decide +kernel
theorem iX6_with_0 : ins MX6_with 0 = some (.lload_n 0, 1) := by decide +kernel
theorem iX6_with_1 : ins MX6_with 1 = some (.ldc2_w 17, 3) := by decide +kernel
theorem iX6_with_4 : ins MX6_with 4 = some (.iconst 4, 1) := by decide +kernel
theorem iX6_with_5 : ins MX6_with 5 = some (.iload_n 2, 1) := by decide +kernel
theorem iX6_with_6 : ins MX6_with 6 = some (.imul, 1) := by decide +kernel
theorem iX6_with_7 : ins MX6_with 7 = some (.lshl, 1) := by decide +kernel
theorem iX6_with_8 : ins MX6_with 8 = some (.ldc2_w 19, 3) := by decide +kernel
theorem iX6_with_11 : ins MX6_with 11 = some (.lxor, 1) := by decide +kernel
theorem iX6_with_12 : ins MX6_with 12 = some (.land, 1) := by decide +kernel
theorem iX6_with_13 : ins MX6_with 13 = some (.lstore 4, 2) := by decide +kernel
theorem iX6_with_15 : ins MX6_with 15 = some (.lload 4, 2) := by decide +kernel
theorem iX6_with_17 : ins MX6_with 17 = some (.iload_n 3, 1) := by decide +kernel
theorem iX6_with_18 : ins MX6_with 18 = some (.i2l, 1) := by decide +kernel
theorem iX6_with_19 : ins MX6_with 19 = some (.iconst 4, 1) := by decide +kernel
theorem iX6_with_20 : ins MX6_with 20 = some (.iload_n 2, 1) := by decide +kernel
theorem iX6_with_21 : ins MX6_with 21 = some (.imul, 1) := by decide +kernel
theorem iX6_with_22 : ins MX6_with 22 = some (.lshl, 1) := by decide +kernel
theorem iX6_with_23 : ins MX6_with 23 = some (.lor, 1) := by decide +kernel
theorem iX6_with_24 : ins MX6_with 24 = some (.lreturn, 1) := by decide +kernel
theorem iX7_add_0 : ins MX7_add 0 = some (.aload_n 0, 1) := by decide +kernel
theorem iX7_add_1 : ins MX7_add 1 = some (.getfield 9, 3) := by decide +kernel
theorem iX7_add_4 : ins MX7_add 4 = some (.sipush 200, 3) := by decide +kernel
theorem iX7_add_7 : ins MX7_add 7 = some (.if_icmp .lt 5, 3) := by decide +kernel
theorem iX7_add_10 : ins MX7_add 10 = some (.iconst 0, 1) := by decide +kernel
theorem iX7_add_11 : ins MX7_add 11 = some (.ireturn, 1) := by decide +kernel
theorem iX7_add_12 : ins MX7_add 12 = some (.aload_n 0, 1) := by decide +kernel
theorem iX7_add_13 : ins MX7_add 13 = some (.getfield 15, 3) := by decide +kernel
theorem iX7_add_16 : ins MX7_add 16 = some (.aload_n 0, 1) := by decide +kernel
theorem iX7_add_17 : ins MX7_add 17 = some (.getfield 9, 3) := by decide +kernel
theorem iX7_add_20 : ins MX7_add 20 = some (.iload_n 1, 1) := by decide +kernel
theorem iX7_add_21 : ins MX7_add 21 = some (.iastore, 1) := by decide +kernel
theorem iX7_add_22 : ins MX7_add 22 = some (.aload_n 0, 1) := by decide +kernel
theorem iX7_add_23 : ins MX7_add 23 = some (.dup, 1) := by decide +kernel
theorem iX7_add_24 : ins MX7_add 24 = some (.getfield 9, 3) := by decide +kernel
theorem iX7_add_27 : ins MX7_add 27 = some (.iconst 1, 1) := by decide +kernel
theorem iX7_add_28 : ins MX7_add 28 = some (.iadd, 1) := by decide +kernel
theorem iX7_add_29 : ins MX7_add 29 = some (.putfield 9, 3) := by decide +kernel
theorem iX7_add_32 : ins MX7_add 32 = some (.iconst 1, 1) := by decide +kernel
theorem iX7_add_33 : ins MX7_add 33 = some (.ireturn, 1) := by decide +kernel
theorem iX7_copy_0 : ins MX7_copy 0 = some (.aload_n 0, 1) := by decide +kernel
theorem iX7_copy_1 : ins MX7_copy 1 = some (.aload_n 1, 1) := by decide +kernel
theorem iX7_copy_2 : ins MX7_copy 2 = some (.getfield 9, 3) := by decide +kernel
theorem iX7_copy_5 : ins MX7_copy 5 = some (.putfield 9, 3) := by decide +kernel
theorem iX7_copy_8 : ins MX7_copy 8 = some (.aload_n 1, 1) := by decide +kernel
theorem iX7_copy_9 : ins MX7_copy 9 = some (.getfield 15, 3) := by decide +kernel
theorem iX7_copy_12 : ins MX7_copy 12 = some (.iconst 0, 1) := by decide +kernel
theorem iX7_copy_13 : ins MX7_copy 13 = some (.aload_n 0, 1) := by decide +kernel
theorem iX7_copy_14 : ins MX7_copy 14 = some (.getfield 15, 3) := by decide +kernel
theorem iX7_copy_17 : ins MX7_copy 17 = some (.iconst 0, 1) := by decide +kernel
theorem iX7_copy_18 : ins MX7_copy 18 = some (.aload_n 1, 1) := by decide +kernel
theorem iX7_copy_19 : ins MX7_copy 19 = some (.getfield 9, 3) := by decide +kernel
theorem iX7_copy_22 : ins MX7_copy 22 = some (.invokestatic 19, 3) := by decide +kernel
theorem iX7_copy_25 : ins MX7_copy 25 = some (.return_, 1) := by decide +kernel
theorem iX7_init_0 : ins MX7_init 0 = some (.aload_n 0, 1) := by decide +kernel
theorem iX7_init_1 : ins MX7_init 1 = some (.invokespecial 3, 3) := by decide +kernel
theorem iX7_init_4 : ins MX7_init 4 = some (.aload_n 0, 1) := by decide +kernel
theorem iX7_init_5 : ins MX7_init 5 = some (.iconst 0, 1) := by decide +kernel
theorem iX7_init_6 : ins MX7_init 6 = some (.putfield 9, 3) := by decide +kernel
theorem iX7_init_9 : ins MX7_init 9 = some (.aload_n 0, 1) := by decide +kernel
theorem iX7_init_10 : ins MX7_init 10 = some (.sipush 200, 3) := by decide +kernel
theorem iX7_init_13 : ins MX7_init 13 = some (.newarray .int, 2) := by decide +kernel
theorem iX7_init_15 : ins MX7_init 15 = some (.putfield 15, 3) := by decide +kernel
theorem iX7_init_18 : ins MX7_init 18 = some (.return_, 1) := by decide +kernel
theorem iX7_mirroredFrom_0 : ins MX7_mirroredFrom 0 = some (.lload_n 1, 1) := by decide +kernel
theorem iX7_mirroredFrom_1 : ins MX7_mirroredFrom 1 = some (.lstore 6, 2) := by decide +kernel
theorem iX7_mirroredFrom_3 : ins MX7_mirroredFrom 3 = some (.iconst 0, 1) := by decide +kernel
theorem iX7_mirroredFrom_4 : ins MX7_mirroredFrom 4 = some (.istore 8, 2) := by decide +kernel
theorem iX7_mirroredFrom_6 : ins MX7_mirroredFrom 6 = some (.iload 8, 2) := by decide +kernel
theorem iX7_mirroredFrom_8 : ins MX7_mirroredFrom 8 = some (.aload_n 0, 1) := by decide +kernel
theorem iX7_mirroredFrom_9 : ins MX7_mirroredFrom 9 = some (.getfield 9, 3) := by decide +kernel
theorem iX7_mirroredFrom_12 : ins MX7_mirroredFrom 12 = some (.if_icmp .ge 31, 3) := by decide +kernel
theorem iX7_mirroredFrom_15 : ins MX7_mirroredFrom 15 = some (.lload 6, 2) := by decide +kernel
theorem iX7_mirroredFrom_17 : ins MX7_mirroredFrom 17 = some (.aload_n 0, 1) := by decide +kernel
theorem iX7_mirroredFrom_18 : ins MX7_mirroredFrom 18 = some (.getfield 15, 3) := by decide +kernel
theorem iX7_mirroredFrom_21 : ins MX7_mirroredFrom 21 = some (.iload 8, 2) := by decide +kernel
theorem iX7_mirroredFrom_23 : ins MX7_mirroredFrom 23 = some (.iaload, 1) := by decide +kernel
theorem iX7_mirroredFrom_24 : ins MX7_mirroredFrom 24 = some (.iload 5, 2) := by decide +kernel
theorem iX7_mirroredFrom_26 : ins MX7_mirroredFrom 26 = some (.invokestatic 45, 3) := by decide +kernel
theorem iX7_mirroredFrom_29 : ins MX7_mirroredFrom 29 = some (.lload_n 3, 1) := by decide +kernel
theorem iX7_mirroredFrom_30 : ins MX7_mirroredFrom 30 = some (.iload 5, 2) := by decide +kernel
theorem iX7_mirroredFrom_32 : ins MX7_mirroredFrom 32 = some (.invokestatic 41, 3) := by decide +kernel
theorem iX7_mirroredFrom_35 : ins MX7_mirroredFrom 35 = some (.lstore 6, 2) := by decide +kernel
theorem iX7_mirroredFrom_37 : ins MX7_mirroredFrom 37 = some (.iinc 8 1, 3) := by decide +kernel
theorem iX7_mirroredFrom_40 : ins MX7_mirroredFrom 40 = some (.goto (-34), 3) := by decide +kernel
theorem iX7_mirroredFrom_43 : ins MX7_mirroredFrom 43 = some (.lload 6, 2) := by decide +kernel
theorem iX7_mirroredFrom_45 : ins MX7_mirroredFrom 45 = some (.lreturn, 1) := by decide +kernel
theorem iX7_singingsBack_0 : ins MX7_singingsBack 0 = some (.lload_n 1, 1) := by decide +kernel
theorem iX7_singingsBack_1 : ins MX7_singingsBack 1 = some (.lstore 6, 2) := by decide +kernel
theorem iX7_singingsBack_3 : ins MX7_singingsBack 3 = some (.lload_n 1, 1) := by decide +kernel
theorem iX7_singingsBack_4 : ins MX7_singingsBack 4 = some (.lstore 8, 2) := by decide +kernel
theorem iX7_singingsBack_6 : ins MX7_singingsBack 6 = some (.iconst 1, 1) := by decide +kernel
theorem iX7_singingsBack_7 : ins MX7_singingsBack 7 = some (.istore 10, 2) := by decide +kernel
theorem iX7_singingsBack_9 : ins MX7_singingsBack 9 = some (.iload 10, 2) := by decide +kernel
theorem iX7_singingsBack_11 : ins MX7_singingsBack 11 = some (.sipush 5040, 3) := by decide +kernel
theorem iX7_singingsBack_14 : ins MX7_singingsBack 14 = some (.if_icmp .gt 54, 3) := by decide +kernel
theorem iX7_singingsBack_17 : ins MX7_singingsBack 17 = some (.aload_n 0, 1) := by decide +kernel
theorem iX7_singingsBack_18 : ins MX7_singingsBack 18 = some (.lload 6, 2) := by decide +kernel
theorem iX7_singingsBack_20 : ins MX7_singingsBack 20 = some (.lload_n 3, 1) := by decide +kernel
theorem iX7_singingsBack_21 : ins MX7_singingsBack 21 = some (.iload 5, 2) := by decide +kernel
theorem iX7_singingsBack_23 : ins MX7_singingsBack 23 = some (.iconst (-1), 1) := by decide +kernel
theorem iX7_singingsBack_24 : ins MX7_singingsBack 24 = some (.invokevirtual 49, 3) := by decide +kernel
theorem iX7_singingsBack_27 : ins MX7_singingsBack 27 = some (.lstore 6, 2) := by decide +kernel
theorem iX7_singingsBack_29 : ins MX7_singingsBack 29 = some (.lload 6, 2) := by decide +kernel
theorem iX7_singingsBack_31 : ins MX7_singingsBack 31 = some (.lload_n 1, 1) := by decide +kernel
theorem iX7_singingsBack_32 : ins MX7_singingsBack 32 = some (.lcmp, 1) := by decide +kernel
theorem iX7_singingsBack_33 : ins MX7_singingsBack 33 = some (.ifCond .ne 6, 3) := by decide +kernel
theorem iX7_singingsBack_36 : ins MX7_singingsBack 36 = some (.iload 10, 2) := by decide +kernel
theorem iX7_singingsBack_38 : ins MX7_singingsBack 38 = some (.ireturn, 1) := by decide +kernel
theorem iX7_singingsBack_39 : ins MX7_singingsBack 39 = some (.lload 6, 2) := by decide +kernel
theorem iX7_singingsBack_41 : ins MX7_singingsBack 41 = some (.lload 8, 2) := by decide +kernel
theorem iX7_singingsBack_43 : ins MX7_singingsBack 43 = some (.lcmp, 1) := by decide +kernel
theorem iX7_singingsBack_44 : ins MX7_singingsBack 44 = some (.ifCond .ne 5, 3) := by decide +kernel
theorem iX7_singingsBack_47 : ins MX7_singingsBack 47 = some (.iconst (-1), 1) := by decide +kernel
theorem iX7_singingsBack_48 : ins MX7_singingsBack 48 = some (.ireturn, 1) := by decide +kernel
theorem iX7_singingsBack_49 : ins MX7_singingsBack 49 = some (.iload 10, 2) := by decide +kernel
theorem iX7_singingsBack_51 : ins MX7_singingsBack 51 = some (.invokestatic 53, 3) := by decide +kernel
theorem iX7_singingsBack_54 : ins MX7_singingsBack 54 = some (.iconst 1, 1) := by decide +kernel
theorem iX7_singingsBack_55 : ins MX7_singingsBack 55 = some (.if_icmp .ne 7, 3) := by decide +kernel
theorem iX7_singingsBack_58 : ins MX7_singingsBack 58 = some (.lload 6, 2) := by decide +kernel
theorem iX7_singingsBack_60 : ins MX7_singingsBack 60 = some (.lstore 8, 2) := by decide +kernel
theorem iX7_singingsBack_62 : ins MX7_singingsBack 62 = some (.iinc 10 1, 3) := by decide +kernel
theorem iX7_singingsBack_65 : ins MX7_singingsBack 65 = some (.goto (-56), 3) := by decide +kernel
theorem iX7_singingsBack_68 : ins MX7_singingsBack 68 = some (.iconst (-1), 1) := by decide +kernel
theorem iX7_singingsBack_69 : ins MX7_singingsBack 69 = some (.ireturn, 1) := by decide +kernel
theorem iX7_sungFrom_0 : ins MX7_sungFrom 0 = some (.lload_n 1, 1) := by decide +kernel
theorem iX7_sungFrom_1 : ins MX7_sungFrom 1 = some (.lstore 7, 2) := by decide +kernel
theorem iX7_sungFrom_3 : ins MX7_sungFrom 3 = some (.iconst 0, 1) := by decide +kernel
theorem iX7_sungFrom_4 : ins MX7_sungFrom 4 = some (.istore 9, 2) := by decide +kernel
theorem iX7_sungFrom_6 : ins MX7_sungFrom 6 = some (.iload 9, 2) := by decide +kernel
theorem iX7_sungFrom_8 : ins MX7_sungFrom 8 = some (.aload_n 0, 1) := by decide +kernel
theorem iX7_sungFrom_9 : ins MX7_sungFrom 9 = some (.getfield 9, 3) := by decide +kernel
theorem iX7_sungFrom_12 : ins MX7_sungFrom 12 = some (.if_icmp .ge 53, 3) := by decide +kernel
theorem iX7_sungFrom_15 : ins MX7_sungFrom 15 = some (.aload_n 0, 1) := by decide +kernel
theorem iX7_sungFrom_16 : ins MX7_sungFrom 16 = some (.getfield 15, 3) := by decide +kernel
theorem iX7_sungFrom_19 : ins MX7_sungFrom 19 = some (.iload 9, 2) := by decide +kernel
theorem iX7_sungFrom_21 : ins MX7_sungFrom 21 = some (.iaload, 1) := by decide +kernel
theorem iX7_sungFrom_22 : ins MX7_sungFrom 22 = some (.istore 10, 2) := by decide +kernel
theorem iX7_sungFrom_24 : ins MX7_sungFrom 24 = some (.iload 10, 2) := by decide +kernel
theorem iX7_sungFrom_26 : ins MX7_sungFrom 26 = some (.invokestatic 25, 3) := by decide +kernel
theorem iX7_sungFrom_29 : ins MX7_sungFrom 29 = some (.ifCond .ne 18, 3) := by decide +kernel
theorem iX7_sungFrom_32 : ins MX7_sungFrom 32 = some (.lload 7, 2) := by decide +kernel
theorem iX7_sungFrom_34 : ins MX7_sungFrom 34 = some (.iload 10, 2) := by decide +kernel
theorem iX7_sungFrom_36 : ins MX7_sungFrom 36 = some (.invokestatic 31, 3) := by decide +kernel
theorem iX7_sungFrom_39 : ins MX7_sungFrom 39 = some (.invokestatic 35, 3) := by decide +kernel
theorem iX7_sungFrom_42 : ins MX7_sungFrom 42 = some (.iload 6, 2) := by decide +kernel
theorem iX7_sungFrom_44 : ins MX7_sungFrom 44 = some (.if_icmp .eq 15, 3) := by decide +kernel
theorem iX7_sungFrom_47 : ins MX7_sungFrom 47 = some (.lload 7, 2) := by decide +kernel
theorem iX7_sungFrom_49 : ins MX7_sungFrom 49 = some (.iload 10, 2) := by decide +kernel
theorem iX7_sungFrom_51 : ins MX7_sungFrom 51 = some (.lload_n 3, 1) := by decide +kernel
theorem iX7_sungFrom_52 : ins MX7_sungFrom 52 = some (.iload 5, 2) := by decide +kernel
theorem iX7_sungFrom_54 : ins MX7_sungFrom 54 = some (.invokestatic 41, 3) := by decide +kernel
theorem iX7_sungFrom_57 : ins MX7_sungFrom 57 = some (.lstore 7, 2) := by decide +kernel
theorem iX7_sungFrom_59 : ins MX7_sungFrom 59 = some (.iinc 9 1, 3) := by decide +kernel
theorem iX7_sungFrom_62 : ins MX7_sungFrom 62 = some (.goto (-56), 3) := by decide +kernel
theorem iX7_sungFrom_65 : ins MX7_sungFrom 65 = some (.lload 7, 2) := by decide +kernel
theorem iX7_sungFrom_67 : ins MX7_sungFrom 67 = some (.lreturn, 1) := by decide +kernel
theorem iX8_addRow_0 : ins MX8_addRow 0 = some (.aload_n 0, 1) := by decide +kernel
theorem iX8_addRow_1 : ins MX8_addRow 1 = some (.getfield 38, 3) := by decide +kernel
theorem iX8_addRow_4 : ins MX8_addRow 4 = some (.getfield 111, 3) := by decide +kernel
theorem iX8_addRow_7 : ins MX8_addRow 7 = some (.sipush 300, 3) := by decide +kernel
theorem iX8_addRow_10 : ins MX8_addRow 10 = some (.if_icmp .ge 40, 3) := by decide +kernel
theorem iX8_addRow_13 : ins MX8_addRow 13 = some (.aload_n 0, 1) := by decide +kernel
theorem iX8_addRow_14 : ins MX8_addRow 14 = some (.getfield 42, 3) := by decide +kernel
theorem iX8_addRow_17 : ins MX8_addRow 17 = some (.aload_n 0, 1) := by decide +kernel
theorem iX8_addRow_18 : ins MX8_addRow 18 = some (.getfield 38, 3) := by decide +kernel
theorem iX8_addRow_21 : ins MX8_addRow 21 = some (.getfield 111, 3) := by decide +kernel
theorem iX8_addRow_24 : ins MX8_addRow 24 = some (.iload_n 1, 1) := by decide +kernel
theorem iX8_addRow_25 : ins MX8_addRow 25 = some (.aload_n 0, 1) := by decide +kernel
theorem iX8_addRow_26 : ins MX8_addRow 26 = some (.getfield 18, 3) := by decide +kernel
theorem iX8_addRow_29 : ins MX8_addRow 29 = some (.iload_n 1, 1) := by decide +kernel
theorem iX8_addRow_30 : ins MX8_addRow 30 = some (.invokestatic 75, 3) := by decide +kernel
theorem iX8_addRow_33 : ins MX8_addRow 33 = some (.iconst 4, 1) := by decide +kernel
theorem iX8_addRow_34 : ins MX8_addRow 34 = some (.ishl, 1) := by decide +kernel
theorem iX8_addRow_35 : ins MX8_addRow 35 = some (.ior, 1) := by decide +kernel
theorem iX8_addRow_36 : ins MX8_addRow 36 = some (.iastore, 1) := by decide +kernel
theorem iX8_addRow_37 : ins MX8_addRow 37 = some (.aload_n 0, 1) := by decide +kernel
theorem iX8_addRow_38 : ins MX8_addRow 38 = some (.getfield 38, 3) := by decide +kernel
theorem iX8_addRow_41 : ins MX8_addRow 41 = some (.dup, 1) := by decide +kernel
theorem iX8_addRow_42 : ins MX8_addRow 42 = some (.getfield 111, 3) := by decide +kernel
theorem iX8_addRow_45 : ins MX8_addRow 45 = some (.iconst 1, 1) := by decide +kernel
theorem iX8_addRow_46 : ins MX8_addRow 46 = some (.iadd, 1) := by decide +kernel
theorem iX8_addRow_47 : ins MX8_addRow 47 = some (.putfield 111, 3) := by decide +kernel
theorem iX8_addRow_50 : ins MX8_addRow 50 = some (.return_, 1) := by decide +kernel
theorem iX8_copy_0 : ins MX8_copy 0 = some (.aload_n 0, 1) := by decide +kernel
theorem iX8_copy_1 : ins MX8_copy 1 = some (.aload_n 1, 1) := by decide +kernel
theorem iX8_copy_2 : ins MX8_copy 2 = some (.getfield 9, 3) := by decide +kernel
theorem iX8_copy_5 : ins MX8_copy 5 = some (.putfield 9, 3) := by decide +kernel
theorem iX8_copy_8 : ins MX8_copy 8 = some (.aload_n 0, 1) := by decide +kernel
theorem iX8_copy_9 : ins MX8_copy 9 = some (.aload_n 1, 1) := by decide +kernel
theorem iX8_copy_10 : ins MX8_copy 10 = some (.getfield 15, 3) := by decide +kernel
theorem iX8_copy_13 : ins MX8_copy 13 = some (.putfield 15, 3) := by decide +kernel
theorem iX8_copy_16 : ins MX8_copy 16 = some (.aload_n 0, 1) := by decide +kernel
theorem iX8_copy_17 : ins MX8_copy 17 = some (.aload_n 1, 1) := by decide +kernel
theorem iX8_copy_18 : ins MX8_copy 18 = some (.getfield 18, 3) := by decide +kernel
theorem iX8_copy_21 : ins MX8_copy 21 = some (.putfield 18, 3) := by decide +kernel
theorem iX8_copy_24 : ins MX8_copy 24 = some (.aload_n 0, 1) := by decide +kernel
theorem iX8_copy_25 : ins MX8_copy 25 = some (.aload_n 1, 1) := by decide +kernel
theorem iX8_copy_26 : ins MX8_copy 26 = some (.getfield 22, 3) := by decide +kernel
theorem iX8_copy_29 : ins MX8_copy 29 = some (.putfield 22, 3) := by decide +kernel
theorem iX8_copy_32 : ins MX8_copy 32 = some (.aload_n 1, 1) := by decide +kernel
theorem iX8_copy_33 : ins MX8_copy 33 = some (.getfield 25, 3) := by decide +kernel
theorem iX8_copy_36 : ins MX8_copy 36 = some (.iconst 0, 1) := by decide +kernel
theorem iX8_copy_37 : ins MX8_copy 37 = some (.aload_n 0, 1) := by decide +kernel
theorem iX8_copy_38 : ins MX8_copy 38 = some (.getfield 25, 3) := by decide +kernel
theorem iX8_copy_41 : ins MX8_copy 41 = some (.iconst 0, 1) := by decide +kernel
theorem iX8_copy_42 : ins MX8_copy 42 = some (.bipush 30, 2) := by decide +kernel
theorem iX8_copy_44 : ins MX8_copy 44 = some (.invokestatic 62, 3) := by decide +kernel
theorem iX8_copy_47 : ins MX8_copy 47 = some (.iconst 0, 1) := by decide +kernel
theorem iX8_copy_48 : ins MX8_copy 48 = some (.istore_n 2, 1) := by decide +kernel
theorem iX8_copy_49 : ins MX8_copy 49 = some (.iload_n 2, 1) := by decide +kernel
theorem iX8_copy_50 : ins MX8_copy 50 = some (.iconst 4, 1) := by decide +kernel
theorem iX8_copy_51 : ins MX8_copy 51 = some (.if_icmp .ge 24, 3) := by decide +kernel
theorem iX8_copy_54 : ins MX8_copy 54 = some (.aload_n 0, 1) := by decide +kernel
theorem iX8_copy_55 : ins MX8_copy 55 = some (.getfield 31, 3) := by decide +kernel
theorem iX8_copy_58 : ins MX8_copy 58 = some (.iload_n 2, 1) := by decide +kernel
theorem iX8_copy_59 : ins MX8_copy 59 = some (.aaload, 1) := by decide +kernel
theorem iX8_copy_60 : ins MX8_copy 60 = some (.aload_n 1, 1) := by decide +kernel
theorem iX8_copy_61 : ins MX8_copy 61 = some (.getfield 31, 3) := by decide +kernel
theorem iX8_copy_64 : ins MX8_copy 64 = some (.iload_n 2, 1) := by decide +kernel
theorem iX8_copy_65 : ins MX8_copy 65 = some (.aaload, 1) := by decide +kernel
theorem iX8_copy_66 : ins MX8_copy 66 = some (.invokevirtual 68, 3) := by decide +kernel
theorem iX8_copy_69 : ins MX8_copy 69 = some (.iinc 2 1, 3) := by decide +kernel
theorem iX8_copy_72 : ins MX8_copy 72 = some (.goto (-23), 3) := by decide +kernel
theorem iX8_copy_75 : ins MX8_copy 75 = some (.aload_n 0, 1) := by decide +kernel
theorem iX8_copy_76 : ins MX8_copy 76 = some (.getfield 38, 3) := by decide +kernel
theorem iX8_copy_79 : ins MX8_copy 79 = some (.aload_n 1, 1) := by decide +kernel
theorem iX8_copy_80 : ins MX8_copy 80 = some (.getfield 38, 3) := by decide +kernel
theorem iX8_copy_83 : ins MX8_copy 83 = some (.invokevirtual 72, 3) := by decide +kernel
theorem iX8_copy_86 : ins MX8_copy 86 = some (.aload_n 1, 1) := by decide +kernel
theorem iX8_copy_87 : ins MX8_copy 87 = some (.getfield 42, 3) := by decide +kernel
theorem iX8_copy_90 : ins MX8_copy 90 = some (.iconst 0, 1) := by decide +kernel
theorem iX8_copy_91 : ins MX8_copy 91 = some (.aload_n 0, 1) := by decide +kernel
theorem iX8_copy_92 : ins MX8_copy 92 = some (.getfield 42, 3) := by decide +kernel
theorem iX8_copy_95 : ins MX8_copy 95 = some (.iconst 0, 1) := by decide +kernel
theorem iX8_copy_96 : ins MX8_copy 96 = some (.sipush 300, 3) := by decide +kernel
theorem iX8_copy_99 : ins MX8_copy 99 = some (.invokestatic 62, 3) := by decide +kernel
theorem iX8_copy_102 : ins MX8_copy 102 = some (.return_, 1) := by decide +kernel
theorem iX8_countUnlike_0 : ins MX8_countUnlike 0 = some (.iconst 0, 1) := by decide +kernel
theorem iX8_countUnlike_1 : ins MX8_countUnlike 1 = some (.istore_n 3, 1) := by decide +kernel
theorem iX8_countUnlike_2 : ins MX8_countUnlike 2 = some (.iconst 0, 1) := by decide +kernel
theorem iX8_countUnlike_3 : ins MX8_countUnlike 3 = some (.istore 4, 2) := by decide +kernel
theorem iX8_countUnlike_5 : ins MX8_countUnlike 5 = some (.iload 4, 2) := by decide +kernel
theorem iX8_countUnlike_7 : ins MX8_countUnlike 7 = some (.aload_n 0, 1) := by decide +kernel
theorem iX8_countUnlike_8 : ins MX8_countUnlike 8 = some (.getfield 9, 3) := by decide +kernel
theorem iX8_countUnlike_11 : ins MX8_countUnlike 11 = some (.if_icmp .ge 30, 3) := by decide +kernel
theorem iX8_countUnlike_14 : ins MX8_countUnlike 14 = some (.lload_n 1, 1) := by decide +kernel
theorem iX8_countUnlike_15 : ins MX8_countUnlike 15 = some (.iload 4, 2) := by decide +kernel
theorem iX8_countUnlike_17 : ins MX8_countUnlike 17 = some (.invokestatic 75, 3) := by decide +kernel
theorem iX8_countUnlike_20 : ins MX8_countUnlike 20 = some (.aload_n 0, 1) := by decide +kernel
theorem iX8_countUnlike_21 : ins MX8_countUnlike 21 = some (.getfield 18, 3) := by decide +kernel
theorem iX8_countUnlike_24 : ins MX8_countUnlike 24 = some (.iload 4, 2) := by decide +kernel
theorem iX8_countUnlike_26 : ins MX8_countUnlike 26 = some (.invokestatic 75, 3) := by decide +kernel
theorem iX8_countUnlike_29 : ins MX8_countUnlike 29 = some (.if_icmp .eq 6, 3) := by decide +kernel
theorem iX8_countUnlike_32 : ins MX8_countUnlike 32 = some (.iinc 3 1, 3) := by decide +kernel
theorem iX8_countUnlike_35 : ins MX8_countUnlike 35 = some (.iinc 4 1, 3) := by decide +kernel
theorem iX8_countUnlike_38 : ins MX8_countUnlike 38 = some (.goto (-33), 3) := by decide +kernel
theorem iX8_countUnlike_41 : ins MX8_countUnlike 41 = some (.iload_n 3, 1) := by decide +kernel
theorem iX8_countUnlike_42 : ins MX8_countUnlike 42 = some (.ireturn, 1) := by decide +kernel
theorem iX8_init_0 : ins MX8_init 0 = some (.aload_n 0, 1) := by decide +kernel
theorem iX8_init_1 : ins MX8_init 1 = some (.invokespecial 3, 3) := by decide +kernel
theorem iX8_init_4 : ins MX8_init 4 = some (.aload_n 0, 1) := by decide +kernel
theorem iX8_init_5 : ins MX8_init 5 = some (.bipush 8, 2) := by decide +kernel
theorem iX8_init_7 : ins MX8_init 7 = some (.putfield 9, 3) := by decide +kernel
theorem iX8_init_10 : ins MX8_init 10 = some (.aload_n 0, 1) := by decide +kernel
theorem iX8_init_11 : ins MX8_init 11 = some (.iconst 0, 1) := by decide +kernel
theorem iX8_init_12 : ins MX8_init 12 = some (.putfield 15, 3) := by decide +kernel
theorem iX8_init_15 : ins MX8_init 15 = some (.aload_n 0, 1) := by decide +kernel
theorem iX8_init_16 : ins MX8_init 16 = some (.lconst 0, 1) := by decide +kernel
theorem iX8_init_17 : ins MX8_init 17 = some (.putfield 18, 3) := by decide +kernel
theorem iX8_init_20 : ins MX8_init 20 = some (.aload_n 0, 1) := by decide +kernel
theorem iX8_init_21 : ins MX8_init 21 = some (.lconst 0, 1) := by decide +kernel
theorem iX8_init_22 : ins MX8_init 22 = some (.putfield 22, 3) := by decide +kernel
theorem iX8_init_25 : ins MX8_init 25 = some (.aload_n 0, 1) := by decide +kernel
theorem iX8_init_26 : ins MX8_init 26 = some (.bipush 30, 2) := by decide +kernel
theorem iX8_init_28 : ins MX8_init 28 = some (.newarray .int, 2) := by decide +kernel
theorem iX8_init_30 : ins MX8_init 30 = some (.putfield 25, 3) := by decide +kernel
theorem iX8_init_33 : ins MX8_init 33 = some (.aload_n 0, 1) := by decide +kernel
theorem iX8_init_34 : ins MX8_init 34 = some (.iconst 4, 1) := by decide +kernel
theorem iX8_init_35 : ins MX8_init 35 = some (.anewarray 29, 3) := by decide +kernel
theorem iX8_init_38 : ins MX8_init 38 = some (.putfield 31, 3) := by decide +kernel
theorem iX8_init_41 : ins MX8_init 41 = some (.aload_n 0, 1) := by decide +kernel
theorem iX8_init_42 : ins MX8_init 42 = some (.new 35, 3) := by decide +kernel
theorem iX8_init_45 : ins MX8_init 45 = some (.dup, 1) := by decide +kernel
theorem iX8_init_46 : ins MX8_init 46 = some (.invokespecial 37, 3) := by decide +kernel
theorem iX8_init_49 : ins MX8_init 49 = some (.putfield 38, 3) := by decide +kernel
theorem iX8_init_52 : ins MX8_init 52 = some (.aload_n 0, 1) := by decide +kernel
theorem iX8_init_53 : ins MX8_init 53 = some (.sipush 300, 3) := by decide +kernel
theorem iX8_init_56 : ins MX8_init 56 = some (.newarray .int, 2) := by decide +kernel
theorem iX8_init_58 : ins MX8_init 58 = some (.putfield 42, 3) := by decide +kernel
theorem iX8_init_61 : ins MX8_init 61 = some (.aload_n 0, 1) := by decide +kernel
theorem iX8_init_62 : ins MX8_init 62 = some (.bipush 30, 2) := by decide +kernel
theorem iX8_init_64 : ins MX8_init 64 = some (.newarray .int, 2) := by decide +kernel
theorem iX8_init_66 : ins MX8_init 66 = some (.putfield 45, 3) := by decide +kernel
theorem iX8_init_69 : ins MX8_init 69 = some (.aload_n 0, 1) := by decide +kernel
theorem iX8_init_70 : ins MX8_init 70 = some (.getfield 25, 3) := by decide +kernel
theorem iX8_init_73 : ins MX8_init 73 = some (.iconst (-1), 1) := by decide +kernel
theorem iX8_init_74 : ins MX8_init 74 = some (.invokestatic 48, 3) := by decide +kernel
theorem iX8_init_77 : ins MX8_init 77 = some (.iconst 0, 1) := by decide +kernel
theorem iX8_init_78 : ins MX8_init 78 = some (.istore_n 1, 1) := by decide +kernel
theorem iX8_init_79 : ins MX8_init 79 = some (.iload_n 1, 1) := by decide +kernel
theorem iX8_init_80 : ins MX8_init 80 = some (.iconst 4, 1) := by decide +kernel
theorem iX8_init_81 : ins MX8_init 81 = some (.if_icmp .ge 22, 3) := by decide +kernel
theorem iX8_init_84 : ins MX8_init 84 = some (.aload_n 0, 1) := by decide +kernel
theorem iX8_init_85 : ins MX8_init 85 = some (.getfield 31, 3) := by decide +kernel
theorem iX8_init_88 : ins MX8_init 88 = some (.iload_n 1, 1) := by decide +kernel
theorem iX8_init_89 : ins MX8_init 89 = some (.new 29, 3) := by decide +kernel
theorem iX8_init_92 : ins MX8_init 92 = some (.dup, 1) := by decide +kernel
theorem iX8_init_93 : ins MX8_init 93 = some (.invokespecial 54, 3) := by decide +kernel
theorem iX8_init_96 : ins MX8_init 96 = some (.aastore, 1) := by decide +kernel
theorem iX8_init_97 : ins MX8_init 97 = some (.iinc 1 1, 3) := by decide +kernel
theorem iX8_init_100 : ins MX8_init 100 = some (.goto (-21), 3) := by decide +kernel
theorem iX8_init_103 : ins MX8_init 103 = some (.return_, 1) := by decide +kernel
theorem iX8_layRows_0 : ins MX8_layRows 0 = some (.iconst 0, 1) := by decide +kernel
theorem iX8_layRows_1 : ins MX8_layRows 1 = some (.istore_n 2, 1) := by decide +kernel
theorem iX8_layRows_2 : ins MX8_layRows 2 = some (.aload_n 0, 1) := by decide +kernel
theorem iX8_layRows_3 : ins MX8_layRows 3 = some (.getfield 9, 3) := by decide +kernel
theorem iX8_layRows_6 : ins MX8_layRows 6 = some (.invokestatic 126, 3) := by decide +kernel
theorem iX8_layRows_9 : ins MX8_layRows 9 = some (.lstore_n 3, 1) := by decide +kernel
theorem iX8_layRows_10 : ins MX8_layRows 10 = some (.iconst 0, 1) := by decide +kernel
theorem iX8_layRows_11 : ins MX8_layRows 11 = some (.istore 5, 2) := by decide +kernel
theorem iX8_layRows_13 : ins MX8_layRows 13 = some (.iload 5, 2) := by decide +kernel
theorem iX8_layRows_15 : ins MX8_layRows 15 = some (.bipush 60, 2) := by decide +kernel
theorem iX8_layRows_17 : ins MX8_layRows 17 = some (.if_icmp .ge 92, 3) := by decide +kernel
theorem iX8_layRows_20 : ins MX8_layRows 20 = some (.iload_n 2, 1) := by decide +kernel
theorem iX8_layRows_21 : ins MX8_layRows 21 = some (.bipush 30, 2) := by decide +kernel
theorem iX8_layRows_23 : ins MX8_layRows 23 = some (.if_icmp .ge 86, 3) := by decide +kernel
theorem iX8_layRows_26 : ins MX8_layRows 26 = some (.iconst 0, 1) := by decide +kernel
theorem iX8_layRows_27 : ins MX8_layRows 27 = some (.istore 6, 2) := by decide +kernel
theorem iX8_layRows_29 : ins MX8_layRows 29 = some (.iload 6, 2) := by decide +kernel
theorem iX8_layRows_31 : ins MX8_layRows 31 = some (.aload_n 1, 1) := by decide +kernel
theorem iX8_layRows_32 : ins MX8_layRows 32 = some (.getfield 55, 3) := by decide +kernel
theorem iX8_layRows_35 : ins MX8_layRows 35 = some (.if_icmp .ge 68, 3) := by decide +kernel
theorem iX8_layRows_38 : ins MX8_layRows 38 = some (.iload_n 2, 1) := by decide +kernel
theorem iX8_layRows_39 : ins MX8_layRows 39 = some (.bipush 30, 2) := by decide +kernel
theorem iX8_layRows_41 : ins MX8_layRows 41 = some (.if_icmp .ge 62, 3) := by decide +kernel
theorem iX8_layRows_44 : ins MX8_layRows 44 = some (.aload_n 1, 1) := by decide +kernel
theorem iX8_layRows_45 : ins MX8_layRows 45 = some (.getfield 85, 3) := by decide +kernel
theorem iX8_layRows_48 : ins MX8_layRows 48 = some (.iload 6, 2) := by decide +kernel
theorem iX8_layRows_50 : ins MX8_layRows 50 = some (.iaload, 1) := by decide +kernel
theorem iX8_layRows_51 : ins MX8_layRows 51 = some (.invokestatic 130, 3) := by decide +kernel
theorem iX8_layRows_54 : ins MX8_layRows 54 = some (.istore 7, 2) := by decide +kernel
theorem iX8_layRows_56 : ins MX8_layRows 56 = some (.iload 7, 2) := by decide +kernel
theorem iX8_layRows_58 : ins MX8_layRows 58 = some (.invokestatic 97, 3) := by decide +kernel
theorem iX8_layRows_61 : ins MX8_layRows 61 = some (.ifCond .ne 21, 3) := by decide +kernel
theorem iX8_layRows_64 : ins MX8_layRows 64 = some (.aload_n 0, 1) := by decide +kernel
theorem iX8_layRows_65 : ins MX8_layRows 65 = some (.getfield 45, 3) := by decide +kernel
theorem iX8_layRows_68 : ins MX8_layRows 68 = some (.iload_n 2, 1) := by decide +kernel
theorem iX8_layRows_69 : ins MX8_layRows 69 = some (.lload_n 3, 1) := by decide +kernel
theorem iX8_layRows_70 : ins MX8_layRows 70 = some (.iload 7, 2) := by decide +kernel
theorem iX8_layRows_72 : ins MX8_layRows 72 = some (.invokestatic 91, 3) := by decide +kernel
theorem iX8_layRows_75 : ins MX8_layRows 75 = some (.invokestatic 75, 3) := by decide +kernel
theorem iX8_layRows_78 : ins MX8_layRows 78 = some (.iastore, 1) := by decide +kernel
theorem iX8_layRows_79 : ins MX8_layRows 79 = some (.iinc 2 1, 3) := by decide +kernel
theorem iX8_layRows_82 : ins MX8_layRows 82 = some (.lload_n 3, 1) := by decide +kernel
theorem iX8_layRows_83 : ins MX8_layRows 83 = some (.iload 7, 2) := by decide +kernel
theorem iX8_layRows_85 : ins MX8_layRows 85 = some (.aload_n 0, 1) := by decide +kernel
theorem iX8_layRows_86 : ins MX8_layRows 86 = some (.getfield 18, 3) := by decide +kernel
theorem iX8_layRows_89 : ins MX8_layRows 89 = some (.aload_n 0, 1) := by decide +kernel
theorem iX8_layRows_90 : ins MX8_layRows 90 = some (.getfield 9, 3) := by decide +kernel
theorem iX8_layRows_93 : ins MX8_layRows 93 = some (.invokestatic 133, 3) := by decide +kernel
theorem iX8_layRows_96 : ins MX8_layRows 96 = some (.lstore_n 3, 1) := by decide +kernel
theorem iX8_layRows_97 : ins MX8_layRows 97 = some (.iinc 6 1, 3) := by decide +kernel
theorem iX8_layRows_100 : ins MX8_layRows 100 = some (.goto (-71), 3) := by decide +kernel
theorem iX8_layRows_103 : ins MX8_layRows 103 = some (.iinc 5 1, 3) := by decide +kernel
theorem iX8_layRows_106 : ins MX8_layRows 106 = some (.goto (-93), 3) := by decide +kernel
theorem iX8_layRows_109 : ins MX8_layRows 109 = some (.iload_n 2, 1) := by decide +kernel
theorem iX8_layRows_110 : ins MX8_layRows 110 = some (.ireturn, 1) := by decide +kernel
theorem iX8_rowPart_0 : ins MX8_rowPart 0 = some (.iload_n 2, 1) := by decide +kernel
theorem iX8_rowPart_1 : ins MX8_rowPart 1 = some (.ifCond .ne 15, 3) := by decide +kernel
theorem iX8_rowPart_4 : ins MX8_rowPart 4 = some (.aload_n 0, 1) := by decide +kernel
theorem iX8_rowPart_5 : ins MX8_rowPart 5 = some (.getfield 42, 3) := by decide +kernel
theorem iX8_rowPart_8 : ins MX8_rowPart 8 = some (.iload_n 1, 1) := by decide +kernel
theorem iX8_rowPart_9 : ins MX8_rowPart 9 = some (.iaload, 1) := by decide +kernel
theorem iX8_rowPart_10 : ins MX8_rowPart 10 = some (.bipush 15, 2) := by decide +kernel
theorem iX8_rowPart_12 : ins MX8_rowPart 12 = some (.iand, 1) := by decide +kernel
theorem iX8_rowPart_13 : ins MX8_rowPart 13 = some (.goto 11, 3) := by decide +kernel
theorem iX8_rowPart_16 : ins MX8_rowPart 16 = some (.aload_n 0, 1) := by decide +kernel
theorem iX8_rowPart_17 : ins MX8_rowPart 17 = some (.getfield 42, 3) := by decide +kernel
theorem iX8_rowPart_20 : ins MX8_rowPart 20 = some (.iload_n 1, 1) := by decide +kernel
theorem iX8_rowPart_21 : ins MX8_rowPart 21 = some (.iaload, 1) := by decide +kernel
theorem iX8_rowPart_22 : ins MX8_rowPart 22 = some (.iconst 4, 1) := by decide +kernel
theorem iX8_rowPart_23 : ins MX8_rowPart 23 = some (.ishr, 1) := by decide +kernel
theorem iX8_rowPart_24 : ins MX8_rowPart 24 = some (.ireturn, 1) := by decide +kernel
theorem iX8_rowsComeAgain_0 : ins MX8_rowsComeAgain 0 = some (.iconst 0, 1) := by decide +kernel
theorem iX8_rowsComeAgain_1 : ins MX8_rowsComeAgain 1 = some (.istore_n 3, 1) := by decide +kernel
theorem iX8_rowsComeAgain_2 : ins MX8_rowsComeAgain 2 = some (.iload_n 3, 1) := by decide +kernel
theorem iX8_rowsComeAgain_3 : ins MX8_rowsComeAgain 3 = some (.iload_n 1, 1) := by decide +kernel
theorem iX8_rowsComeAgain_4 : ins MX8_rowsComeAgain 4 = some (.iadd, 1) := by decide +kernel
theorem iX8_rowsComeAgain_5 : ins MX8_rowsComeAgain 5 = some (.aload_n 0, 1) := by decide +kernel
theorem iX8_rowsComeAgain_6 : ins MX8_rowsComeAgain 6 = some (.getfield 38, 3) := by decide +kernel
theorem iX8_rowsComeAgain_9 : ins MX8_rowsComeAgain 9 = some (.getfield 111, 3) := by decide +kernel
theorem iX8_rowsComeAgain_12 : ins MX8_rowsComeAgain 12 = some (.if_icmp .ge 28, 3) := by decide +kernel
theorem iX8_rowsComeAgain_15 : ins MX8_rowsComeAgain 15 = some (.aload_n 0, 1) := by decide +kernel
theorem iX8_rowsComeAgain_16 : ins MX8_rowsComeAgain 16 = some (.iload_n 3, 1) := by decide +kernel
theorem iX8_rowsComeAgain_17 : ins MX8_rowsComeAgain 17 = some (.iload_n 2, 1) := by decide +kernel
theorem iX8_rowsComeAgain_18 : ins MX8_rowsComeAgain 18 = some (.invokevirtual 114, 3) := by decide +kernel
theorem iX8_rowsComeAgain_21 : ins MX8_rowsComeAgain 21 = some (.aload_n 0, 1) := by decide +kernel
theorem iX8_rowsComeAgain_22 : ins MX8_rowsComeAgain 22 = some (.iload_n 3, 1) := by decide +kernel
theorem iX8_rowsComeAgain_23 : ins MX8_rowsComeAgain 23 = some (.iload_n 1, 1) := by decide +kernel
theorem iX8_rowsComeAgain_24 : ins MX8_rowsComeAgain 24 = some (.iadd, 1) := by decide +kernel
theorem iX8_rowsComeAgain_25 : ins MX8_rowsComeAgain 25 = some (.iload_n 2, 1) := by decide +kernel
theorem iX8_rowsComeAgain_26 : ins MX8_rowsComeAgain 26 = some (.invokevirtual 114, 3) := by decide +kernel
theorem iX8_rowsComeAgain_29 : ins MX8_rowsComeAgain 29 = some (.if_icmp .eq 5, 3) := by decide +kernel
theorem iX8_rowsComeAgain_32 : ins MX8_rowsComeAgain 32 = some (.iconst 0, 1) := by decide +kernel
theorem iX8_rowsComeAgain_33 : ins MX8_rowsComeAgain 33 = some (.ireturn, 1) := by decide +kernel
theorem iX8_rowsComeAgain_34 : ins MX8_rowsComeAgain 34 = some (.iinc 3 1, 3) := by decide +kernel
theorem iX8_rowsComeAgain_37 : ins MX8_rowsComeAgain 37 = some (.goto (-35), 3) := by decide +kernel
theorem iX8_rowsComeAgain_40 : ins MX8_rowsComeAgain 40 = some (.iconst 1, 1) := by decide +kernel
theorem iX8_rowsComeAgain_41 : ins MX8_rowsComeAgain 41 = some (.ireturn, 1) := by decide +kernel
theorem iX8_seen_0 : ins MX8_seen 0 = some (.lconst 0, 1) := by decide +kernel
theorem iX8_seen_1 : ins MX8_seen 1 = some (.lstore_n 3, 1) := by decide +kernel
theorem iX8_seen_2 : ins MX8_seen 2 = some (.iconst 0, 1) := by decide +kernel
theorem iX8_seen_3 : ins MX8_seen 3 = some (.istore 5, 2) := by decide +kernel
theorem iX8_seen_5 : ins MX8_seen 5 = some (.iload 5, 2) := by decide +kernel
theorem iX8_seen_7 : ins MX8_seen 7 = some (.aload_n 0, 1) := by decide +kernel
theorem iX8_seen_8 : ins MX8_seen 8 = some (.getfield 9, 3) := by decide +kernel
theorem iX8_seen_11 : ins MX8_seen 11 = some (.if_icmp .ge 29, 3) := by decide +kernel
theorem iX8_seen_14 : ins MX8_seen 14 = some (.lload_n 3, 1) := by decide +kernel
theorem iX8_seen_15 : ins MX8_seen 15 = some (.iload 5, 2) := by decide +kernel
theorem iX8_seen_17 : ins MX8_seen 17 = some (.aload_n 0, 1) := by decide +kernel
theorem iX8_seen_18 : ins MX8_seen 18 = some (.getfield 18, 3) := by decide +kernel
theorem iX8_seen_21 : ins MX8_seen 21 = some (.lload_n 1, 1) := by decide +kernel
theorem iX8_seen_22 : ins MX8_seen 22 = some (.iload 5, 2) := by decide +kernel
theorem iX8_seen_24 : ins MX8_seen 24 = some (.invokestatic 75, 3) := by decide +kernel
theorem iX8_seen_27 : ins MX8_seen 27 = some (.invokestatic 75, 3) := by decide +kernel
theorem iX8_seen_30 : ins MX8_seen 30 = some (.invokestatic 81, 3) := by decide +kernel
theorem iX8_seen_33 : ins MX8_seen 33 = some (.lstore_n 3, 1) := by decide +kernel
theorem iX8_seen_34 : ins MX8_seen 34 = some (.iinc 5 1, 3) := by decide +kernel
theorem iX8_seen_37 : ins MX8_seen 37 = some (.goto (-32), 3) := by decide +kernel
theorem iX8_seen_40 : ins MX8_seen 40 = some (.lload_n 3, 1) := by decide +kernel
theorem iX8_seen_41 : ins MX8_seen 41 = some (.lreturn, 1) := by decide +kernel
theorem iX8_singOnce_0 : ins MX8_singOnce 0 = some (.iconst 0, 1) := by decide +kernel
theorem iX8_singOnce_1 : ins MX8_singOnce 1 = some (.istore_n 2, 1) := by decide +kernel
theorem iX8_singOnce_2 : ins MX8_singOnce 2 = some (.iconst 0, 1) := by decide +kernel
theorem iX8_singOnce_3 : ins MX8_singOnce 3 = some (.istore_n 3, 1) := by decide +kernel
theorem iX8_singOnce_4 : ins MX8_singOnce 4 = some (.iload_n 3, 1) := by decide +kernel
theorem iX8_singOnce_5 : ins MX8_singOnce 5 = some (.aload_n 1, 1) := by decide +kernel
theorem iX8_singOnce_6 : ins MX8_singOnce 6 = some (.getfield 55, 3) := by decide +kernel
theorem iX8_singOnce_9 : ins MX8_singOnce 9 = some (.if_icmp .ge 107, 3) := by decide +kernel
theorem iX8_singOnce_12 : ins MX8_singOnce 12 = some (.aload_n 1, 1) := by decide +kernel
theorem iX8_singOnce_13 : ins MX8_singOnce 13 = some (.getfield 85, 3) := by decide +kernel
theorem iX8_singOnce_16 : ins MX8_singOnce 16 = some (.iload_n 3, 1) := by decide +kernel
theorem iX8_singOnce_17 : ins MX8_singOnce 17 = some (.iaload, 1) := by decide +kernel
theorem iX8_singOnce_18 : ins MX8_singOnce 18 = some (.istore 4, 2) := by decide +kernel
theorem iX8_singOnce_20 : ins MX8_singOnce 20 = some (.aload_n 0, 1) := by decide +kernel
theorem iX8_singOnce_21 : ins MX8_singOnce 21 = some (.getfield 38, 3) := by decide +kernel
theorem iX8_singOnce_24 : ins MX8_singOnce 24 = some (.getfield 88, 3) := by decide +kernel
theorem iX8_singOnce_27 : ins MX8_singOnce 27 = some (.iload 4, 2) := by decide +kernel
theorem iX8_singOnce_29 : ins MX8_singOnce 29 = some (.invokestatic 91, 3) := by decide +kernel
theorem iX8_singOnce_32 : ins MX8_singOnce 32 = some (.invokestatic 75, 3) := by decide +kernel
theorem iX8_singOnce_35 : ins MX8_singOnce 35 = some (.istore 5, 2) := by decide +kernel
theorem iX8_singOnce_37 : ins MX8_singOnce 37 = some (.iload 4, 2) := by decide +kernel
theorem iX8_singOnce_39 : ins MX8_singOnce 39 = some (.invokestatic 97, 3) := by decide +kernel
theorem iX8_singOnce_42 : ins MX8_singOnce 42 = some (.ifCond .ne 31, 3) := by decide +kernel
theorem iX8_singOnce_45 : ins MX8_singOnce 45 = some (.aload_n 0, 1) := by decide +kernel
theorem iX8_singOnce_46 : ins MX8_singOnce 46 = some (.getfield 15, 3) := by decide +kernel
theorem iX8_singOnce_49 : ins MX8_singOnce 49 = some (.ifCond .le 24, 3) := by decide +kernel
theorem iX8_singOnce_52 : ins MX8_singOnce 52 = some (.aload_n 0, 1) := by decide +kernel
theorem iX8_singOnce_53 : ins MX8_singOnce 53 = some (.getfield 38, 3) := by decide +kernel
theorem iX8_singOnce_56 : ins MX8_singOnce 56 = some (.sipush 1000, 3) := by decide +kernel
theorem iX8_singOnce_59 : ins MX8_singOnce 59 = some (.invokevirtual 101, 3) := by decide +kernel
theorem iX8_singOnce_62 : ins MX8_singOnce 62 = some (.aload_n 0, 1) := by decide +kernel
theorem iX8_singOnce_63 : ins MX8_singOnce 63 = some (.getfield 15, 3) := by decide +kernel
theorem iX8_singOnce_66 : ins MX8_singOnce 66 = some (.if_icmp .ge 7, 3) := by decide +kernel
theorem iX8_singOnce_69 : ins MX8_singOnce 69 = some (.iconst 1, 1) := by decide +kernel
theorem iX8_singOnce_70 : ins MX8_singOnce 70 = some (.goto 4, 3) := by decide +kernel
theorem iX8_singOnce_73 : ins MX8_singOnce 73 = some (.iconst 0, 1) := by decide +kernel
theorem iX8_singOnce_74 : ins MX8_singOnce 74 = some (.istore 6, 2) := by decide +kernel
theorem iX8_singOnce_76 : ins MX8_singOnce 76 = some (.iload 6, 2) := by decide +kernel
theorem iX8_singOnce_78 : ins MX8_singOnce 78 = some (.ifCond .ne 32, 3) := by decide +kernel
theorem iX8_singOnce_81 : ins MX8_singOnce 81 = some (.aload_n 0, 1) := by decide +kernel
theorem iX8_singOnce_82 : ins MX8_singOnce 82 = some (.getfield 38, 3) := by decide +kernel
theorem iX8_singOnce_85 : ins MX8_singOnce 85 = some (.iload 4, 2) := by decide +kernel
theorem iX8_singOnce_87 : ins MX8_singOnce 87 = some (.aload_n 0, 1) := by decide +kernel
theorem iX8_singOnce_88 : ins MX8_singOnce 88 = some (.getfield 18, 3) := by decide +kernel
theorem iX8_singOnce_91 : ins MX8_singOnce 91 = some (.aload_n 0, 1) := by decide +kernel
theorem iX8_singOnce_92 : ins MX8_singOnce 92 = some (.getfield 9, 3) := by decide +kernel
theorem iX8_singOnce_95 : ins MX8_singOnce 95 = some (.invokevirtual 104, 3) := by decide +kernel
theorem iX8_singOnce_98 : ins MX8_singOnce 98 = some (.ifCond .eq 12, 3) := by decide +kernel
theorem iX8_singOnce_101 : ins MX8_singOnce 101 = some (.aload_n 0, 1) := by decide +kernel
theorem iX8_singOnce_102 : ins MX8_singOnce 102 = some (.iload 5, 2) := by decide +kernel
theorem iX8_singOnce_104 : ins MX8_singOnce 104 = some (.invokevirtual 108, 3) := by decide +kernel
theorem iX8_singOnce_107 : ins MX8_singOnce 107 = some (.iinc 2 1, 3) := by decide +kernel
theorem iX8_singOnce_110 : ins MX8_singOnce 110 = some (.iinc 3 1, 3) := by decide +kernel
theorem iX8_singOnce_113 : ins MX8_singOnce 113 = some (.goto (-109), 3) := by decide +kernel
theorem iX8_singOnce_116 : ins MX8_singOnce 116 = some (.iload_n 2, 1) := by decide +kernel
theorem iX8_singOnce_117 : ins MX8_singOnce 117 = some (.ireturn, 1) := by decide +kernel
theorem iX8_startAnew_0 : ins MX8_startAnew 0 = some (.aload_n 0, 1) := by decide +kernel
theorem iX8_startAnew_1 : ins MX8_startAnew 1 = some (.iload_n 1, 1) := by decide +kernel
theorem iX8_startAnew_2 : ins MX8_startAnew 2 = some (.putfield 9, 3) := by decide +kernel
theorem iX8_startAnew_5 : ins MX8_startAnew 5 = some (.aload_n 0, 1) := by decide +kernel
theorem iX8_startAnew_6 : ins MX8_startAnew 6 = some (.iconst 0, 1) := by decide +kernel
theorem iX8_startAnew_7 : ins MX8_startAnew 7 = some (.putfield 15, 3) := by decide +kernel
theorem iX8_startAnew_10 : ins MX8_startAnew 10 = some (.aload_n 0, 1) := by decide +kernel
theorem iX8_startAnew_11 : ins MX8_startAnew 11 = some (.lconst 0, 1) := by decide +kernel
theorem iX8_startAnew_12 : ins MX8_startAnew 12 = some (.putfield 18, 3) := by decide +kernel
theorem iX8_startAnew_15 : ins MX8_startAnew 15 = some (.aload_n 0, 1) := by decide +kernel
theorem iX8_startAnew_16 : ins MX8_startAnew 16 = some (.lconst 0, 1) := by decide +kernel
theorem iX8_startAnew_17 : ins MX8_startAnew 17 = some (.putfield 22, 3) := by decide +kernel
theorem iX8_startAnew_20 : ins MX8_startAnew 20 = some (.aload_n 0, 1) := by decide +kernel
theorem iX8_startAnew_21 : ins MX8_startAnew 21 = some (.getfield 25, 3) := by decide +kernel
theorem iX8_startAnew_24 : ins MX8_startAnew 24 = some (.iconst (-1), 1) := by decide +kernel
theorem iX8_startAnew_25 : ins MX8_startAnew 25 = some (.invokestatic 48, 3) := by decide +kernel
theorem iX8_startAnew_28 : ins MX8_startAnew 28 = some (.iconst 0, 1) := by decide +kernel
theorem iX8_startAnew_29 : ins MX8_startAnew 29 = some (.istore_n 2, 1) := by decide +kernel
theorem iX8_startAnew_30 : ins MX8_startAnew 30 = some (.iload_n 2, 1) := by decide +kernel
theorem iX8_startAnew_31 : ins MX8_startAnew 31 = some (.iconst 4, 1) := by decide +kernel
theorem iX8_startAnew_32 : ins MX8_startAnew 32 = some (.if_icmp .ge 19, 3) := by decide +kernel
theorem iX8_startAnew_35 : ins MX8_startAnew 35 = some (.aload_n 0, 1) := by decide +kernel
theorem iX8_startAnew_36 : ins MX8_startAnew 36 = some (.getfield 31, 3) := by decide +kernel
theorem iX8_startAnew_39 : ins MX8_startAnew 39 = some (.iload_n 2, 1) := by decide +kernel
theorem iX8_startAnew_40 : ins MX8_startAnew 40 = some (.aaload, 1) := by decide +kernel
theorem iX8_startAnew_41 : ins MX8_startAnew 41 = some (.iconst 0, 1) := by decide +kernel
theorem iX8_startAnew_42 : ins MX8_startAnew 42 = some (.putfield 55, 3) := by decide +kernel
theorem iX8_startAnew_45 : ins MX8_startAnew 45 = some (.iinc 2 1, 3) := by decide +kernel
theorem iX8_startAnew_48 : ins MX8_startAnew 48 = some (.goto (-18), 3) := by decide +kernel
theorem iX8_startAnew_51 : ins MX8_startAnew 51 = some (.aload_n 0, 1) := by decide +kernel
theorem iX8_startAnew_52 : ins MX8_startAnew 52 = some (.getfield 38, 3) := by decide +kernel
theorem iX8_startAnew_55 : ins MX8_startAnew 55 = some (.iload_n 1, 1) := by decide +kernel
theorem iX8_startAnew_56 : ins MX8_startAnew 56 = some (.invokevirtual 58, 3) := by decide +kernel
theorem iX8_startAnew_59 : ins MX8_startAnew 59 = some (.return_, 1) := by decide +kernel
theorem iX8_strandsToDye_0 : ins MX8_strandsToDye 0 = some (.aload_n 0, 1) := by decide +kernel
theorem iX8_strandsToDye_1 : ins MX8_strandsToDye 1 = some (.aload_n 1, 1) := by decide +kernel
theorem iX8_strandsToDye_2 : ins MX8_strandsToDye 2 = some (.invokevirtual 118, 3) := by decide +kernel
theorem iX8_strandsToDye_5 : ins MX8_strandsToDye 5 = some (.istore_n 2, 1) := by decide +kernel
theorem iX8_strandsToDye_6 : ins MX8_strandsToDye 6 = some (.aload_n 0, 1) := by decide +kernel
theorem iX8_strandsToDye_7 : ins MX8_strandsToDye 7 = some (.getfield 18, 3) := by decide +kernel
theorem iX8_strandsToDye_10 : ins MX8_strandsToDye 10 = some (.lstore_n 3, 1) := by decide +kernel
theorem iX8_strandsToDye_11 : ins MX8_strandsToDye 11 = some (.iconst 0, 1) := by decide +kernel
theorem iX8_strandsToDye_12 : ins MX8_strandsToDye 12 = some (.istore 5, 2) := by decide +kernel
theorem iX8_strandsToDye_14 : ins MX8_strandsToDye 14 = some (.iconst 0, 1) := by decide +kernel
theorem iX8_strandsToDye_15 : ins MX8_strandsToDye 15 = some (.istore 6, 2) := by decide +kernel
theorem iX8_strandsToDye_17 : ins MX8_strandsToDye 17 = some (.iload 6, 2) := by decide +kernel
theorem iX8_strandsToDye_19 : ins MX8_strandsToDye 19 = some (.bipush 30, 2) := by decide +kernel
theorem iX8_strandsToDye_21 : ins MX8_strandsToDye 21 = some (.if_icmp .ge 97, 3) := by decide +kernel
theorem iX8_strandsToDye_24 : ins MX8_strandsToDye 24 = some (.aload_n 0, 1) := by decide +kernel
theorem iX8_strandsToDye_25 : ins MX8_strandsToDye 25 = some (.getfield 25, 3) := by decide +kernel
theorem iX8_strandsToDye_28 : ins MX8_strandsToDye 28 = some (.iload 6, 2) := by decide +kernel
theorem iX8_strandsToDye_30 : ins MX8_strandsToDye 30 = some (.iaload, 1) := by decide +kernel
theorem iX8_strandsToDye_31 : ins MX8_strandsToDye 31 = some (.istore 7, 2) := by decide +kernel
theorem iX8_strandsToDye_33 : ins MX8_strandsToDye 33 = some (.iload 7, 2) := by decide +kernel
theorem iX8_strandsToDye_35 : ins MX8_strandsToDye 35 = some (.iconst (-1), 1) := by decide +kernel
theorem iX8_strandsToDye_36 : ins MX8_strandsToDye 36 = some (.if_icmp .ne 6, 3) := by decide +kernel
theorem iX8_strandsToDye_39 : ins MX8_strandsToDye 39 = some (.goto 73, 3) := by decide +kernel
theorem iX8_strandsToDye_42 : ins MX8_strandsToDye 42 = some (.iload 6, 2) := by decide +kernel
theorem iX8_strandsToDye_44 : ins MX8_strandsToDye 44 = some (.iload_n 2, 1) := by decide +kernel
theorem iX8_strandsToDye_45 : ins MX8_strandsToDye 45 = some (.if_icmp .lt 5, 3) := by decide +kernel
theorem iX8_strandsToDye_48 : ins MX8_strandsToDye 48 = some (.iconst (-1), 1) := by decide +kernel
theorem iX8_strandsToDye_49 : ins MX8_strandsToDye 49 = some (.ireturn, 1) := by decide +kernel
theorem iX8_strandsToDye_50 : ins MX8_strandsToDye 50 = some (.aload_n 0, 1) := by decide +kernel
theorem iX8_strandsToDye_51 : ins MX8_strandsToDye 51 = some (.getfield 45, 3) := by decide +kernel
theorem iX8_strandsToDye_54 : ins MX8_strandsToDye 54 = some (.iload 6, 2) := by decide +kernel
theorem iX8_strandsToDye_56 : ins MX8_strandsToDye 56 = some (.iaload, 1) := by decide +kernel
theorem iX8_strandsToDye_57 : ins MX8_strandsToDye 57 = some (.istore 8, 2) := by decide +kernel
theorem iX8_strandsToDye_59 : ins MX8_strandsToDye 59 = some (.iload 5, 2) := by decide +kernel
theorem iX8_strandsToDye_61 : ins MX8_strandsToDye 61 = some (.iconst 1, 1) := by decide +kernel
theorem iX8_strandsToDye_62 : ins MX8_strandsToDye 62 = some (.iload 8, 2) := by decide +kernel
theorem iX8_strandsToDye_64 : ins MX8_strandsToDye 64 = some (.ishl, 1) := by decide +kernel
theorem iX8_strandsToDye_65 : ins MX8_strandsToDye 65 = some (.iand, 1) := by decide +kernel
theorem iX8_strandsToDye_66 : ins MX8_strandsToDye 66 = some (.ifCond .eq 7, 3) := by decide +kernel
theorem iX8_strandsToDye_69 : ins MX8_strandsToDye 69 = some (.iconst 1, 1) := by decide +kernel
theorem iX8_strandsToDye_70 : ins MX8_strandsToDye 70 = some (.goto 4, 3) := by decide +kernel
theorem iX8_strandsToDye_73 : ins MX8_strandsToDye 73 = some (.iconst 0, 1) := by decide +kernel
theorem iX8_strandsToDye_74 : ins MX8_strandsToDye 74 = some (.istore 9, 2) := by decide +kernel
theorem iX8_strandsToDye_76 : ins MX8_strandsToDye 76 = some (.iload 9, 2) := by decide +kernel
theorem iX8_strandsToDye_78 : ins MX8_strandsToDye 78 = some (.ifCond .eq 16, 3) := by decide +kernel
theorem iX8_strandsToDye_81 : ins MX8_strandsToDye 81 = some (.lload_n 3, 1) := by decide +kernel
theorem iX8_strandsToDye_82 : ins MX8_strandsToDye 82 = some (.iload 8, 2) := by decide +kernel
theorem iX8_strandsToDye_84 : ins MX8_strandsToDye 84 = some (.invokestatic 75, 3) := by decide +kernel
theorem iX8_strandsToDye_87 : ins MX8_strandsToDye 87 = some (.iload 7, 2) := by decide +kernel
theorem iX8_strandsToDye_89 : ins MX8_strandsToDye 89 = some (.if_icmp .eq 5, 3) := by decide +kernel
theorem iX8_strandsToDye_92 : ins MX8_strandsToDye 92 = some (.iconst (-1), 1) := by decide +kernel
theorem iX8_strandsToDye_93 : ins MX8_strandsToDye 93 = some (.ireturn, 1) := by decide +kernel
theorem iX8_strandsToDye_94 : ins MX8_strandsToDye 94 = some (.lload_n 3, 1) := by decide +kernel
theorem iX8_strandsToDye_95 : ins MX8_strandsToDye 95 = some (.iload 8, 2) := by decide +kernel
theorem iX8_strandsToDye_97 : ins MX8_strandsToDye 97 = some (.iload 7, 2) := by decide +kernel
theorem iX8_strandsToDye_99 : ins MX8_strandsToDye 99 = some (.invokestatic 81, 3) := by decide +kernel
theorem iX8_strandsToDye_102 : ins MX8_strandsToDye 102 = some (.lstore_n 3, 1) := by decide +kernel
theorem iX8_strandsToDye_103 : ins MX8_strandsToDye 103 = some (.iload 5, 2) := by decide +kernel
theorem iX8_strandsToDye_105 : ins MX8_strandsToDye 105 = some (.iconst 1, 1) := by decide +kernel
theorem iX8_strandsToDye_106 : ins MX8_strandsToDye 106 = some (.iload 8, 2) := by decide +kernel
theorem iX8_strandsToDye_108 : ins MX8_strandsToDye 108 = some (.ishl, 1) := by decide +kernel
theorem iX8_strandsToDye_109 : ins MX8_strandsToDye 109 = some (.ior, 1) := by decide +kernel
theorem iX8_strandsToDye_110 : ins MX8_strandsToDye 110 = some (.istore 5, 2) := by decide +kernel
theorem iX8_strandsToDye_112 : ins MX8_strandsToDye 112 = some (.iinc 6 1, 3) := by decide +kernel
theorem iX8_strandsToDye_115 : ins MX8_strandsToDye 115 = some (.goto (-98), 3) := by decide +kernel
theorem iX8_strandsToDye_118 : ins MX8_strandsToDye 118 = some (.aload_n 0, 1) := by decide +kernel
theorem iX8_strandsToDye_119 : ins MX8_strandsToDye 119 = some (.lload_n 3, 1) := by decide +kernel
theorem iX8_strandsToDye_120 : ins MX8_strandsToDye 120 = some (.invokevirtual 122, 3) := by decide +kernel
theorem iX8_strandsToDye_123 : ins MX8_strandsToDye 123 = some (.ireturn, 1) := by decide +kernel
theorem iX9_add_0 : ins MX9_add 0 = some (.bipush 24, 2) := by decide +kernel
theorem iX9_add_2 : ins MX9_add 2 = some (.istore_n 2, 1) := by decide +kernel
theorem iX9_add_3 : ins MX9_add 3 = some (.iload_n 2, 1) := by decide +kernel
theorem iX9_add_4 : ins MX9_add 4 = some (.ifCond .lt 42, 3) := by decide +kernel
theorem iX9_add_7 : ins MX9_add 7 = some (.aload_n 0, 1) := by decide +kernel
theorem iX9_add_8 : ins MX9_add 8 = some (.getfield 9, 3) := by decide +kernel
theorem iX9_add_11 : ins MX9_add 11 = some (.sipush 400, 3) := by decide +kernel
theorem iX9_add_14 : ins MX9_add 14 = some (.if_icmp .ge 32, 3) := by decide +kernel
theorem iX9_add_17 : ins MX9_add 17 = some (.aload_n 0, 1) := by decide +kernel
theorem iX9_add_18 : ins MX9_add 18 = some (.getfield 28, 3) := by decide +kernel
theorem iX9_add_21 : ins MX9_add 21 = some (.aload_n 0, 1) := by decide +kernel
theorem iX9_add_22 : ins MX9_add 22 = some (.getfield 9, 3) := by decide +kernel
theorem iX9_add_25 : ins MX9_add 25 = some (.iload_n 1, 1) := by decide +kernel
theorem iX9_add_26 : ins MX9_add 26 = some (.iload_n 2, 1) := by decide +kernel
theorem iX9_add_27 : ins MX9_add 27 = some (.iushr, 1) := by decide +kernel
theorem iX9_add_28 : ins MX9_add 28 = some (.i2b, 1) := by decide +kernel
theorem iX9_add_29 : ins MX9_add 29 = some (.bastore, 1) := by decide +kernel
theorem iX9_add_30 : ins MX9_add 30 = some (.aload_n 0, 1) := by decide +kernel
theorem iX9_add_31 : ins MX9_add 31 = some (.dup, 1) := by decide +kernel
theorem iX9_add_32 : ins MX9_add 32 = some (.getfield 9, 3) := by decide +kernel
theorem iX9_add_35 : ins MX9_add 35 = some (.iconst 1, 1) := by decide +kernel
theorem iX9_add_36 : ins MX9_add 36 = some (.iadd, 1) := by decide +kernel
theorem iX9_add_37 : ins MX9_add 37 = some (.putfield 9, 3) := by decide +kernel
theorem iX9_add_40 : ins MX9_add 40 = some (.iinc 2 (-8), 3) := by decide +kernel
theorem iX9_add_43 : ins MX9_add 43 = some (.goto (-40), 3) := by decide +kernel
theorem iX9_add_46 : ins MX9_add 46 = some (.return_, 1) := by decide +kernel
theorem iX9_addToken_0 : ins MX9_addToken 0 = some (.aload_n 0, 1) := by decide +kernel
theorem iX9_addToken_1 : ins MX9_addToken 1 = some (.getfield 15, 3) := by decide +kernel
theorem iX9_addToken_4 : ins MX9_addToken 4 = some (.sipush 400, 3) := by decide +kernel
theorem iX9_addToken_7 : ins MX9_addToken 7 = some (.if_icmp .gt 43, 3) := by decide +kernel
theorem iX9_addToken_10 : ins MX9_addToken 10 = some (.aload_n 0, 1) := by decide +kernel
theorem iX9_addToken_11 : ins MX9_addToken 11 = some (.getfield 18, 3) := by decide +kernel
theorem iX9_addToken_14 : ins MX9_addToken 14 = some (.aload_n 0, 1) := by decide +kernel
theorem iX9_addToken_15 : ins MX9_addToken 15 = some (.getfield 15, 3) := by decide +kernel
theorem iX9_addToken_18 : ins MX9_addToken 18 = some (.iload_n 1, 1) := by decide +kernel
theorem iX9_addToken_19 : ins MX9_addToken 19 = some (.iastore, 1) := by decide +kernel
theorem iX9_addToken_20 : ins MX9_addToken 20 = some (.aload_n 0, 1) := by decide +kernel
theorem iX9_addToken_21 : ins MX9_addToken 21 = some (.getfield 22, 3) := by decide +kernel
theorem iX9_addToken_24 : ins MX9_addToken 24 = some (.aload_n 0, 1) := by decide +kernel
theorem iX9_addToken_25 : ins MX9_addToken 25 = some (.getfield 15, 3) := by decide +kernel
theorem iX9_addToken_28 : ins MX9_addToken 28 = some (.iload_n 2, 1) := by decide +kernel
theorem iX9_addToken_29 : ins MX9_addToken 29 = some (.iastore, 1) := by decide +kernel
theorem iX9_addToken_30 : ins MX9_addToken 30 = some (.aload_n 0, 1) := by decide +kernel
theorem iX9_addToken_31 : ins MX9_addToken 31 = some (.getfield 25, 3) := by decide +kernel
theorem iX9_addToken_34 : ins MX9_addToken 34 = some (.aload_n 0, 1) := by decide +kernel
theorem iX9_addToken_35 : ins MX9_addToken 35 = some (.getfield 15, 3) := by decide +kernel
theorem iX9_addToken_38 : ins MX9_addToken 38 = some (.iload_n 3, 1) := by decide +kernel
theorem iX9_addToken_39 : ins MX9_addToken 39 = some (.iastore, 1) := by decide +kernel
theorem iX9_addToken_40 : ins MX9_addToken 40 = some (.aload_n 0, 1) := by decide +kernel
theorem iX9_addToken_41 : ins MX9_addToken 41 = some (.dup, 1) := by decide +kernel
theorem iX9_addToken_42 : ins MX9_addToken 42 = some (.getfield 15, 3) := by decide +kernel
theorem iX9_addToken_45 : ins MX9_addToken 45 = some (.iconst 1, 1) := by decide +kernel
theorem iX9_addToken_46 : ins MX9_addToken 46 = some (.iadd, 1) := by decide +kernel
theorem iX9_addToken_47 : ins MX9_addToken 47 = some (.putfield 15, 3) := by decide +kernel
theorem iX9_addToken_50 : ins MX9_addToken 50 = some (.return_, 1) := by decide +kernel
theorem iX9_endOfRun_0 : ins MX9_endOfRun 0 = some (.iload_n 1, 1) := by decide +kernel
theorem iX9_endOfRun_1 : ins MX9_endOfRun 1 = some (.iconst 1, 1) := by decide +kernel
theorem iX9_endOfRun_2 : ins MX9_endOfRun 2 = some (.iadd, 1) := by decide +kernel
theorem iX9_endOfRun_3 : ins MX9_endOfRun 3 = some (.istore_n 2, 1) := by decide +kernel
theorem iX9_endOfRun_4 : ins MX9_endOfRun 4 = some (.aload_n 0, 1) := by decide +kernel
theorem iX9_endOfRun_5 : ins MX9_endOfRun 5 = some (.getfield 28, 3) := by decide +kernel
theorem iX9_endOfRun_8 : ins MX9_endOfRun 8 = some (.iload_n 1, 1) := by decide +kernel
theorem iX9_endOfRun_9 : ins MX9_endOfRun 9 = some (.baload, 1) := by decide +kernel
theorem iX9_endOfRun_10 : ins MX9_endOfRun 10 = some (.invokestatic 51, 3) := by decide +kernel
theorem iX9_endOfRun_13 : ins MX9_endOfRun 13 = some (.ifCond .eq 29, 3) := by decide +kernel
theorem iX9_endOfRun_16 : ins MX9_endOfRun 16 = some (.iload_n 2, 1) := by decide +kernel
theorem iX9_endOfRun_17 : ins MX9_endOfRun 17 = some (.aload_n 0, 1) := by decide +kernel
theorem iX9_endOfRun_18 : ins MX9_endOfRun 18 = some (.getfield 9, 3) := by decide +kernel
theorem iX9_endOfRun_21 : ins MX9_endOfRun 21 = some (.if_icmp .ge 59, 3) := by decide +kernel
theorem iX9_endOfRun_24 : ins MX9_endOfRun 24 = some (.aload_n 0, 1) := by decide +kernel
theorem iX9_endOfRun_25 : ins MX9_endOfRun 25 = some (.getfield 28, 3) := by decide +kernel
theorem iX9_endOfRun_28 : ins MX9_endOfRun 28 = some (.iload_n 2, 1) := by decide +kernel
theorem iX9_endOfRun_29 : ins MX9_endOfRun 29 = some (.baload, 1) := by decide +kernel
theorem iX9_endOfRun_30 : ins MX9_endOfRun 30 = some (.invokestatic 51, 3) := by decide +kernel
theorem iX9_endOfRun_33 : ins MX9_endOfRun 33 = some (.ifCond .eq 47, 3) := by decide +kernel
theorem iX9_endOfRun_36 : ins MX9_endOfRun 36 = some (.iinc 2 1, 3) := by decide +kernel
theorem iX9_endOfRun_39 : ins MX9_endOfRun 39 = some (.goto (-23), 3) := by decide +kernel
theorem iX9_endOfRun_42 : ins MX9_endOfRun 42 = some (.aload_n 0, 1) := by decide +kernel
theorem iX9_endOfRun_43 : ins MX9_endOfRun 43 = some (.getfield 28, 3) := by decide +kernel
theorem iX9_endOfRun_46 : ins MX9_endOfRun 46 = some (.iload_n 1, 1) := by decide +kernel
theorem iX9_endOfRun_47 : ins MX9_endOfRun 47 = some (.baload, 1) := by decide +kernel
theorem iX9_endOfRun_48 : ins MX9_endOfRun 48 = some (.invokestatic 54, 3) := by decide +kernel
theorem iX9_endOfRun_51 : ins MX9_endOfRun 51 = some (.ifCond .eq 29, 3) := by decide +kernel
theorem iX9_endOfRun_54 : ins MX9_endOfRun 54 = some (.iload_n 2, 1) := by decide +kernel
theorem iX9_endOfRun_55 : ins MX9_endOfRun 55 = some (.aload_n 0, 1) := by decide +kernel
theorem iX9_endOfRun_56 : ins MX9_endOfRun 56 = some (.getfield 9, 3) := by decide +kernel
theorem iX9_endOfRun_59 : ins MX9_endOfRun 59 = some (.if_icmp .ge 21, 3) := by decide +kernel
theorem iX9_endOfRun_62 : ins MX9_endOfRun 62 = some (.aload_n 0, 1) := by decide +kernel
theorem iX9_endOfRun_63 : ins MX9_endOfRun 63 = some (.getfield 28, 3) := by decide +kernel
theorem iX9_endOfRun_66 : ins MX9_endOfRun 66 = some (.iload_n 2, 1) := by decide +kernel
theorem iX9_endOfRun_67 : ins MX9_endOfRun 67 = some (.baload, 1) := by decide +kernel
theorem iX9_endOfRun_68 : ins MX9_endOfRun 68 = some (.invokestatic 54, 3) := by decide +kernel
theorem iX9_endOfRun_71 : ins MX9_endOfRun 71 = some (.ifCond .eq 9, 3) := by decide +kernel
theorem iX9_endOfRun_74 : ins MX9_endOfRun 74 = some (.iinc 2 1, 3) := by decide +kernel
theorem iX9_endOfRun_77 : ins MX9_endOfRun 77 = some (.goto (-23), 3) := by decide +kernel
theorem iX9_endOfRun_80 : ins MX9_endOfRun 80 = some (.iload_n 2, 1) := by decide +kernel
theorem iX9_endOfRun_81 : ins MX9_endOfRun 81 = some (.ireturn, 1) := by decide +kernel
theorem iX9_findTokens_0 : ins MX9_findTokens 0 = some (.aload_n 0, 1) := by decide +kernel
theorem iX9_findTokens_1 : ins MX9_findTokens 1 = some (.iconst 0, 1) := by decide +kernel
theorem iX9_findTokens_2 : ins MX9_findTokens 2 = some (.putfield 15, 3) := by decide +kernel
theorem iX9_findTokens_5 : ins MX9_findTokens 5 = some (.iconst 0, 1) := by decide +kernel
theorem iX9_findTokens_6 : ins MX9_findTokens 6 = some (.istore_n 1, 1) := by decide +kernel
theorem iX9_findTokens_7 : ins MX9_findTokens 7 = some (.iconst 0, 1) := by decide +kernel
theorem iX9_findTokens_8 : ins MX9_findTokens 8 = some (.istore_n 2, 1) := by decide +kernel
theorem iX9_findTokens_9 : ins MX9_findTokens 9 = some (.iload_n 2, 1) := by decide +kernel
theorem iX9_findTokens_10 : ins MX9_findTokens 10 = some (.aload_n 0, 1) := by decide +kernel
theorem iX9_findTokens_11 : ins MX9_findTokens 11 = some (.getfield 9, 3) := by decide +kernel
theorem iX9_findTokens_14 : ins MX9_findTokens 14 = some (.if_icmp .ge 49, 3) := by decide +kernel
theorem iX9_findTokens_17 : ins MX9_findTokens 17 = some (.iload_n 2, 1) := by decide +kernel
theorem iX9_findTokens_18 : ins MX9_findTokens 18 = some (.iload_n 1, 1) := by decide +kernel
theorem iX9_findTokens_19 : ins MX9_findTokens 19 = some (.if_icmp .ne 38, 3) := by decide +kernel
theorem iX9_findTokens_22 : ins MX9_findTokens 22 = some (.aload_n 0, 1) := by decide +kernel
theorem iX9_findTokens_23 : ins MX9_findTokens 23 = some (.iload_n 2, 1) := by decide +kernel
theorem iX9_findTokens_24 : ins MX9_findTokens 24 = some (.invokevirtual 32, 3) := by decide +kernel
theorem iX9_findTokens_27 : ins MX9_findTokens 27 = some (.istore_n 1, 1) := by decide +kernel
theorem iX9_findTokens_28 : ins MX9_findTokens 28 = some (.aload_n 0, 1) := by decide +kernel
theorem iX9_findTokens_29 : ins MX9_findTokens 29 = some (.getfield 28, 3) := by decide +kernel
theorem iX9_findTokens_32 : ins MX9_findTokens 32 = some (.iload_n 2, 1) := by decide +kernel
theorem iX9_findTokens_33 : ins MX9_findTokens 33 = some (.baload, 1) := by decide +kernel
theorem iX9_findTokens_34 : ins MX9_findTokens 34 = some (.invokestatic 36, 3) := by decide +kernel
theorem iX9_findTokens_37 : ins MX9_findTokens 37 = some (.ifCond .ne 20, 3) := by decide +kernel
theorem iX9_findTokens_40 : ins MX9_findTokens 40 = some (.aload_n 0, 1) := by decide +kernel
theorem iX9_findTokens_41 : ins MX9_findTokens 41 = some (.aload_n 0, 1) := by decide +kernel
theorem iX9_findTokens_42 : ins MX9_findTokens 42 = some (.iload_n 2, 1) := by decide +kernel
theorem iX9_findTokens_43 : ins MX9_findTokens 43 = some (.iload_n 1, 1) := by decide +kernel
theorem iX9_findTokens_44 : ins MX9_findTokens 44 = some (.invokevirtual 40, 3) := by decide +kernel
theorem iX9_findTokens_47 : ins MX9_findTokens 47 = some (.iload_n 2, 1) := by decide +kernel
theorem iX9_findTokens_48 : ins MX9_findTokens 48 = some (.aload_n 0, 1) := by decide +kernel
theorem iX9_findTokens_49 : ins MX9_findTokens 49 = some (.iload_n 2, 1) := by decide +kernel
theorem iX9_findTokens_50 : ins MX9_findTokens 50 = some (.iload_n 1, 1) := by decide +kernel
theorem iX9_findTokens_51 : ins MX9_findTokens 51 = some (.invokevirtual 44, 3) := by decide +kernel
theorem iX9_findTokens_54 : ins MX9_findTokens 54 = some (.invokevirtual 47, 3) := by decide +kernel
theorem iX9_findTokens_57 : ins MX9_findTokens 57 = some (.iinc 2 1, 3) := by decide +kernel
theorem iX9_findTokens_60 : ins MX9_findTokens 60 = some (.goto (-51), 3) := by decide +kernel
theorem iX9_findTokens_63 : ins MX9_findTokens 63 = some (.aload_n 0, 1) := by decide +kernel
theorem iX9_findTokens_64 : ins MX9_findTokens 64 = some (.iconst 0, 1) := by decide +kernel
theorem iX9_findTokens_65 : ins MX9_findTokens 65 = some (.aload_n 0, 1) := by decide +kernel
theorem iX9_findTokens_66 : ins MX9_findTokens 66 = some (.getfield 9, 3) := by decide +kernel
theorem iX9_findTokens_69 : ins MX9_findTokens 69 = some (.iconst 0, 1) := by decide +kernel
theorem iX9_findTokens_70 : ins MX9_findTokens 70 = some (.invokevirtual 47, 3) := by decide +kernel
theorem iX9_findTokens_73 : ins MX9_findTokens 73 = some (.return_, 1) := by decide +kernel
theorem iX9_init_0 : ins MX9_init 0 = some (.aload_n 0, 1) := by decide +kernel
theorem iX9_init_1 : ins MX9_init 1 = some (.invokespecial 3, 3) := by decide +kernel
theorem iX9_init_4 : ins MX9_init 4 = some (.aload_n 0, 1) := by decide +kernel
theorem iX9_init_5 : ins MX9_init 5 = some (.iconst 0, 1) := by decide +kernel
theorem iX9_init_6 : ins MX9_init 6 = some (.putfield 9, 3) := by decide +kernel
theorem iX9_init_9 : ins MX9_init 9 = some (.aload_n 0, 1) := by decide +kernel
theorem iX9_init_10 : ins MX9_init 10 = some (.iconst 0, 1) := by decide +kernel
theorem iX9_init_11 : ins MX9_init 11 = some (.putfield 15, 3) := by decide +kernel
theorem iX9_init_14 : ins MX9_init 14 = some (.aload_n 0, 1) := by decide +kernel
theorem iX9_init_15 : ins MX9_init 15 = some (.sipush 401, 3) := by decide +kernel
theorem iX9_init_18 : ins MX9_init 18 = some (.newarray .int, 2) := by decide +kernel
theorem iX9_init_20 : ins MX9_init 20 = some (.putfield 18, 3) := by decide +kernel
theorem iX9_init_23 : ins MX9_init 23 = some (.aload_n 0, 1) := by decide +kernel
theorem iX9_init_24 : ins MX9_init 24 = some (.sipush 401, 3) := by decide +kernel
theorem iX9_init_27 : ins MX9_init 27 = some (.newarray .int, 2) := by decide +kernel
theorem iX9_init_29 : ins MX9_init 29 = some (.putfield 22, 3) := by decide +kernel
theorem iX9_init_32 : ins MX9_init 32 = some (.aload_n 0, 1) := by decide +kernel
theorem iX9_init_33 : ins MX9_init 33 = some (.sipush 401, 3) := by decide +kernel
theorem iX9_init_36 : ins MX9_init 36 = some (.newarray .int, 2) := by decide +kernel
theorem iX9_init_38 : ins MX9_init 38 = some (.putfield 25, 3) := by decide +kernel
theorem iX9_init_41 : ins MX9_init 41 = some (.aload_n 0, 1) := by decide +kernel
theorem iX9_init_42 : ins MX9_init 42 = some (.sipush 400, 3) := by decide +kernel
theorem iX9_init_45 : ins MX9_init 45 = some (.newarray .byte, 2) := by decide +kernel
theorem iX9_init_47 : ins MX9_init 47 = some (.putfield 28, 3) := by decide +kernel
theorem iX9_init_50 : ins MX9_init 50 = some (.return_, 1) := by decide +kernel
theorem iX9_isBlank_0 : ins MX9_isBlank 0 = some (.iload_n 0, 1) := by decide +kernel
theorem iX9_isBlank_1 : ins MX9_isBlank 1 = some (.bipush 32, 2) := by decide +kernel
theorem iX9_isBlank_3 : ins MX9_isBlank 3 = some (.if_icmp .eq 9, 3) := by decide +kernel
theorem iX9_isBlank_6 : ins MX9_isBlank 6 = some (.iload_n 0, 1) := by decide +kernel
theorem iX9_isBlank_7 : ins MX9_isBlank 7 = some (.bipush 10, 2) := by decide +kernel
theorem iX9_isBlank_9 : ins MX9_isBlank 9 = some (.if_icmp .ne 7, 3) := by decide +kernel
theorem iX9_isBlank_12 : ins MX9_isBlank 12 = some (.iconst 1, 1) := by decide +kernel
theorem iX9_isBlank_13 : ins MX9_isBlank 13 = some (.goto 4, 3) := by decide +kernel
theorem iX9_isBlank_16 : ins MX9_isBlank 16 = some (.iconst 0, 1) := by decide +kernel
theorem iX9_isBlank_17 : ins MX9_isBlank 17 = some (.ireturn, 1) := by decide +kernel
theorem iX9_isDigit_0 : ins MX9_isDigit 0 = some (.iload_n 0, 1) := by decide +kernel
theorem iX9_isDigit_1 : ins MX9_isDigit 1 = some (.bipush 48, 2) := by decide +kernel
theorem iX9_isDigit_3 : ins MX9_isDigit 3 = some (.if_icmp .lt 13, 3) := by decide +kernel
theorem iX9_isDigit_6 : ins MX9_isDigit 6 = some (.iload_n 0, 1) := by decide +kernel
theorem iX9_isDigit_7 : ins MX9_isDigit 7 = some (.bipush 57, 2) := by decide +kernel
theorem iX9_isDigit_9 : ins MX9_isDigit 9 = some (.if_icmp .gt 7, 3) := by decide +kernel
theorem iX9_isDigit_12 : ins MX9_isDigit 12 = some (.iconst 1, 1) := by decide +kernel
theorem iX9_isDigit_13 : ins MX9_isDigit 13 = some (.goto 4, 3) := by decide +kernel
theorem iX9_isDigit_16 : ins MX9_isDigit 16 = some (.iconst 0, 1) := by decide +kernel
theorem iX9_isDigit_17 : ins MX9_isDigit 17 = some (.ireturn, 1) := by decide +kernel
theorem iX9_isLetter_0 : ins MX9_isLetter 0 = some (.iload_n 0, 1) := by decide +kernel
theorem iX9_isLetter_1 : ins MX9_isLetter 1 = some (.bipush 97, 2) := by decide +kernel
theorem iX9_isLetter_3 : ins MX9_isLetter 3 = some (.if_icmp .lt 9, 3) := by decide +kernel
theorem iX9_isLetter_6 : ins MX9_isLetter 6 = some (.iload_n 0, 1) := by decide +kernel
theorem iX9_isLetter_7 : ins MX9_isLetter 7 = some (.bipush 122, 2) := by decide +kernel
theorem iX9_isLetter_9 : ins MX9_isLetter 9 = some (.if_icmp .le 15, 3) := by decide +kernel
theorem iX9_isLetter_12 : ins MX9_isLetter 12 = some (.iload_n 0, 1) := by decide +kernel
theorem iX9_isLetter_13 : ins MX9_isLetter 13 = some (.bipush 65, 2) := by decide +kernel
theorem iX9_isLetter_15 : ins MX9_isLetter 15 = some (.if_icmp .lt 13, 3) := by decide +kernel
theorem iX9_isLetter_18 : ins MX9_isLetter 18 = some (.iload_n 0, 1) := by decide +kernel
theorem iX9_isLetter_19 : ins MX9_isLetter 19 = some (.bipush 90, 2) := by decide +kernel
theorem iX9_isLetter_21 : ins MX9_isLetter 21 = some (.if_icmp .gt 7, 3) := by decide +kernel
theorem iX9_isLetter_24 : ins MX9_isLetter 24 = some (.iconst 1, 1) := by decide +kernel
theorem iX9_isLetter_25 : ins MX9_isLetter 25 = some (.goto 4, 3) := by decide +kernel
theorem iX9_isLetter_28 : ins MX9_isLetter 28 = some (.iconst 0, 1) := by decide +kernel
theorem iX9_isLetter_29 : ins MX9_isLetter 29 = some (.ireturn, 1) := by decide +kernel
theorem iX9_isWord_0 : ins MX9_isWord 0 = some (.iload_n 3, 1) := by decide +kernel
theorem iX9_isWord_1 : ins MX9_isWord 1 = some (.iload_n 2, 1) := by decide +kernel
theorem iX9_isWord_2 : ins MX9_isWord 2 = some (.isub, 1) := by decide +kernel
theorem iX9_isWord_3 : ins MX9_isWord 3 = some (.aload_n 1, 1) := by decide +kernel
theorem iX9_isWord_4 : ins MX9_isWord 4 = some (.invokevirtual 76, 3) := by decide +kernel
theorem iX9_isWord_7 : ins MX9_isWord 7 = some (.if_icmp .eq 5, 3) := by decide +kernel
theorem iX9_isWord_10 : ins MX9_isWord 10 = some (.iconst 0, 1) := by decide +kernel
theorem iX9_isWord_11 : ins MX9_isWord 11 = some (.ireturn, 1) := by decide +kernel
theorem iX9_isWord_12 : ins MX9_isWord 12 = some (.iconst 0, 1) := by decide +kernel
theorem iX9_isWord_13 : ins MX9_isWord 13 = some (.istore 4, 2) := by decide +kernel
theorem iX9_isWord_15 : ins MX9_isWord 15 = some (.iload 4, 2) := by decide +kernel
theorem iX9_isWord_17 : ins MX9_isWord 17 = some (.aload_n 1, 1) := by decide +kernel
theorem iX9_isWord_18 : ins MX9_isWord 18 = some (.invokevirtual 76, 3) := by decide +kernel
theorem iX9_isWord_21 : ins MX9_isWord 21 = some (.if_icmp .ge 29, 3) := by decide +kernel
theorem iX9_isWord_24 : ins MX9_isWord 24 = some (.aload_n 0, 1) := by decide +kernel
theorem iX9_isWord_25 : ins MX9_isWord 25 = some (.getfield 28, 3) := by decide +kernel
theorem iX9_isWord_28 : ins MX9_isWord 28 = some (.iload_n 2, 1) := by decide +kernel
theorem iX9_isWord_29 : ins MX9_isWord 29 = some (.iload 4, 2) := by decide +kernel
theorem iX9_isWord_31 : ins MX9_isWord 31 = some (.iadd, 1) := by decide +kernel
theorem iX9_isWord_32 : ins MX9_isWord 32 = some (.baload, 1) := by decide +kernel
theorem iX9_isWord_33 : ins MX9_isWord 33 = some (.aload_n 1, 1) := by decide +kernel
theorem iX9_isWord_34 : ins MX9_isWord 34 = some (.iload 4, 2) := by decide +kernel
theorem iX9_isWord_36 : ins MX9_isWord 36 = some (.invokevirtual 81, 3) := by decide +kernel
theorem iX9_isWord_39 : ins MX9_isWord 39 = some (.if_icmp .eq 5, 3) := by decide +kernel
theorem iX9_isWord_42 : ins MX9_isWord 42 = some (.iconst 0, 1) := by decide +kernel
theorem iX9_isWord_43 : ins MX9_isWord 43 = some (.ireturn, 1) := by decide +kernel
theorem iX9_isWord_44 : ins MX9_isWord 44 = some (.iinc 4 1, 3) := by decide +kernel
theorem iX9_isWord_47 : ins MX9_isWord 47 = some (.goto (-32), 3) := by decide +kernel
theorem iX9_isWord_50 : ins MX9_isWord 50 = some (.iconst 1, 1) := by decide +kernel
theorem iX9_isWord_51 : ins MX9_isWord 51 = some (.ireturn, 1) := by decide +kernel
theorem iX9_kindOfRun_0 : ins MX9_kindOfRun 0 = some (.aload_n 0, 1) := by decide +kernel
theorem iX9_kindOfRun_1 : ins MX9_kindOfRun 1 = some (.getfield 28, 3) := by decide +kernel
theorem iX9_kindOfRun_4 : ins MX9_kindOfRun 4 = some (.iload_n 1, 1) := by decide +kernel
theorem iX9_kindOfRun_5 : ins MX9_kindOfRun 5 = some (.baload, 1) := by decide +kernel
theorem iX9_kindOfRun_6 : ins MX9_kindOfRun 6 = some (.invokestatic 51, 3) := by decide +kernel
theorem iX9_kindOfRun_9 : ins MX9_kindOfRun 9 = some (.ifCond .eq 10, 3) := by decide +kernel
theorem iX9_kindOfRun_12 : ins MX9_kindOfRun 12 = some (.aload_n 0, 1) := by decide +kernel
theorem iX9_kindOfRun_13 : ins MX9_kindOfRun 13 = some (.iload_n 1, 1) := by decide +kernel
theorem iX9_kindOfRun_14 : ins MX9_kindOfRun 14 = some (.iload_n 2, 1) := by decide +kernel
theorem iX9_kindOfRun_15 : ins MX9_kindOfRun 15 = some (.invokevirtual 57, 3) := by decide +kernel
theorem iX9_kindOfRun_18 : ins MX9_kindOfRun 18 = some (.ireturn, 1) := by decide +kernel
theorem iX9_kindOfRun_19 : ins MX9_kindOfRun 19 = some (.aload_n 0, 1) := by decide +kernel
theorem iX9_kindOfRun_20 : ins MX9_kindOfRun 20 = some (.getfield 28, 3) := by decide +kernel
theorem iX9_kindOfRun_23 : ins MX9_kindOfRun 23 = some (.iload_n 1, 1) := by decide +kernel
theorem iX9_kindOfRun_24 : ins MX9_kindOfRun 24 = some (.baload, 1) := by decide +kernel
theorem iX9_kindOfRun_25 : ins MX9_kindOfRun 25 = some (.invokestatic 54, 3) := by decide +kernel
theorem iX9_kindOfRun_28 : ins MX9_kindOfRun 28 = some (.ifCond .eq 16, 3) := by decide +kernel
theorem iX9_kindOfRun_31 : ins MX9_kindOfRun 31 = some (.iload_n 2, 1) := by decide +kernel
theorem iX9_kindOfRun_32 : ins MX9_kindOfRun 32 = some (.iload_n 1, 1) := by decide +kernel
theorem iX9_kindOfRun_33 : ins MX9_kindOfRun 33 = some (.isub, 1) := by decide +kernel
theorem iX9_kindOfRun_34 : ins MX9_kindOfRun 34 = some (.iconst 4, 1) := by decide +kernel
theorem iX9_kindOfRun_35 : ins MX9_kindOfRun 35 = some (.if_icmp .gt 7, 3) := by decide +kernel
theorem iX9_kindOfRun_38 : ins MX9_kindOfRun 38 = some (.iconst 2, 1) := by decide +kernel
theorem iX9_kindOfRun_39 : ins MX9_kindOfRun 39 = some (.goto 4, 3) := by decide +kernel
theorem iX9_kindOfRun_42 : ins MX9_kindOfRun 42 = some (.iconst 1, 1) := by decide +kernel
theorem iX9_kindOfRun_43 : ins MX9_kindOfRun 43 = some (.ireturn, 1) := by decide +kernel
theorem iX9_kindOfRun_44 : ins MX9_kindOfRun 44 = some (.aload_n 0, 1) := by decide +kernel
theorem iX9_kindOfRun_45 : ins MX9_kindOfRun 45 = some (.getfield 28, 3) := by decide +kernel
theorem iX9_kindOfRun_48 : ins MX9_kindOfRun 48 = some (.iload_n 1, 1) := by decide +kernel
theorem iX9_kindOfRun_49 : ins MX9_kindOfRun 49 = some (.baload, 1) := by decide +kernel
theorem iX9_kindOfRun_50 : ins MX9_kindOfRun 50 = some (.lookupswitch 40 #[(40, 36), (41, 38), (59, 34)], 34) := by decide +kernel
theorem iX9_kindOfRun_84 : ins MX9_kindOfRun 84 = some (.iconst 3, 1) := by decide +kernel
theorem iX9_kindOfRun_85 : ins MX9_kindOfRun 85 = some (.ireturn, 1) := by decide +kernel
theorem iX9_kindOfRun_86 : ins MX9_kindOfRun 86 = some (.iconst 4, 1) := by decide +kernel
theorem iX9_kindOfRun_87 : ins MX9_kindOfRun 87 = some (.ireturn, 1) := by decide +kernel
theorem iX9_kindOfRun_88 : ins MX9_kindOfRun 88 = some (.iconst 5, 1) := by decide +kernel
theorem iX9_kindOfRun_89 : ins MX9_kindOfRun 89 = some (.ireturn, 1) := by decide +kernel
theorem iX9_kindOfRun_90 : ins MX9_kindOfRun 90 = some (.iconst 1, 1) := by decide +kernel
theorem iX9_kindOfRun_91 : ins MX9_kindOfRun 91 = some (.ireturn, 1) := by decide +kernel
theorem iX9_kindOfWord_0 : ins MX9_kindOfWord 0 = some (.aload_n 0, 1) := by decide +kernel
theorem iX9_kindOfWord_1 : ins MX9_kindOfWord 1 = some (.ldc 60, 2) := by decide +kernel
theorem iX9_kindOfWord_3 : ins MX9_kindOfWord 3 = some (.iload_n 1, 1) := by decide +kernel
theorem iX9_kindOfWord_4 : ins MX9_kindOfWord 4 = some (.iload_n 2, 1) := by decide +kernel
theorem iX9_kindOfWord_5 : ins MX9_kindOfWord 5 = some (.invokevirtual 62, 3) := by decide +kernel
theorem iX9_kindOfWord_8 : ins MX9_kindOfWord 8 = some (.ifCond .eq 6, 3) := by decide +kernel
theorem iX9_kindOfWord_11 : ins MX9_kindOfWord 11 = some (.bipush 6, 2) := by decide +kernel
theorem iX9_kindOfWord_13 : ins MX9_kindOfWord 13 = some (.ireturn, 1) := by decide +kernel
theorem iX9_kindOfWord_14 : ins MX9_kindOfWord 14 = some (.aload_n 0, 1) := by decide +kernel
theorem iX9_kindOfWord_15 : ins MX9_kindOfWord 15 = some (.ldc 66, 2) := by decide +kernel
theorem iX9_kindOfWord_17 : ins MX9_kindOfWord 17 = some (.iload_n 1, 1) := by decide +kernel
theorem iX9_kindOfWord_18 : ins MX9_kindOfWord 18 = some (.iload_n 2, 1) := by decide +kernel
theorem iX9_kindOfWord_19 : ins MX9_kindOfWord 19 = some (.invokevirtual 62, 3) := by decide +kernel
theorem iX9_kindOfWord_22 : ins MX9_kindOfWord 22 = some (.ifCond .eq 6, 3) := by decide +kernel
theorem iX9_kindOfWord_25 : ins MX9_kindOfWord 25 = some (.bipush 7, 2) := by decide +kernel
theorem iX9_kindOfWord_27 : ins MX9_kindOfWord 27 = some (.ireturn, 1) := by decide +kernel
theorem iX9_kindOfWord_28 : ins MX9_kindOfWord 28 = some (.aload_n 0, 1) := by decide +kernel
theorem iX9_kindOfWord_29 : ins MX9_kindOfWord 29 = some (.ldc 68, 2) := by decide +kernel
theorem iX9_kindOfWord_31 : ins MX9_kindOfWord 31 = some (.iload_n 1, 1) := by decide +kernel
theorem iX9_kindOfWord_32 : ins MX9_kindOfWord 32 = some (.iload_n 2, 1) := by decide +kernel
theorem iX9_kindOfWord_33 : ins MX9_kindOfWord 33 = some (.invokevirtual 62, 3) := by decide +kernel
theorem iX9_kindOfWord_36 : ins MX9_kindOfWord 36 = some (.ifCond .eq 6, 3) := by decide +kernel
theorem iX9_kindOfWord_39 : ins MX9_kindOfWord 39 = some (.bipush 8, 2) := by decide +kernel
theorem iX9_kindOfWord_41 : ins MX9_kindOfWord 41 = some (.ireturn, 1) := by decide +kernel
theorem iX9_kindOfWord_42 : ins MX9_kindOfWord 42 = some (.aload_n 0, 1) := by decide +kernel
theorem iX9_kindOfWord_43 : ins MX9_kindOfWord 43 = some (.ldc 70, 2) := by decide +kernel
theorem iX9_kindOfWord_45 : ins MX9_kindOfWord 45 = some (.iload_n 1, 1) := by decide +kernel
theorem iX9_kindOfWord_46 : ins MX9_kindOfWord 46 = some (.iload_n 2, 1) := by decide +kernel
theorem iX9_kindOfWord_47 : ins MX9_kindOfWord 47 = some (.invokevirtual 62, 3) := by decide +kernel
theorem iX9_kindOfWord_50 : ins MX9_kindOfWord 50 = some (.ifCond .eq 6, 3) := by decide +kernel
theorem iX9_kindOfWord_53 : ins MX9_kindOfWord 53 = some (.bipush 9, 2) := by decide +kernel
theorem iX9_kindOfWord_55 : ins MX9_kindOfWord 55 = some (.ireturn, 1) := by decide +kernel
theorem iX9_kindOfWord_56 : ins MX9_kindOfWord 56 = some (.aload_n 0, 1) := by decide +kernel
theorem iX9_kindOfWord_57 : ins MX9_kindOfWord 57 = some (.ldc 72, 2) := by decide +kernel
theorem iX9_kindOfWord_59 : ins MX9_kindOfWord 59 = some (.iload_n 1, 1) := by decide +kernel
theorem iX9_kindOfWord_60 : ins MX9_kindOfWord 60 = some (.iload_n 2, 1) := by decide +kernel
theorem iX9_kindOfWord_61 : ins MX9_kindOfWord 61 = some (.invokevirtual 62, 3) := by decide +kernel
theorem iX9_kindOfWord_64 : ins MX9_kindOfWord 64 = some (.ifCond .eq 6, 3) := by decide +kernel
theorem iX9_kindOfWord_67 : ins MX9_kindOfWord 67 = some (.bipush 10, 2) := by decide +kernel
theorem iX9_kindOfWord_69 : ins MX9_kindOfWord 69 = some (.ireturn, 1) := by decide +kernel
theorem iX9_kindOfWord_70 : ins MX9_kindOfWord 70 = some (.aload_n 0, 1) := by decide +kernel
theorem iX9_kindOfWord_71 : ins MX9_kindOfWord 71 = some (.ldc 74, 2) := by decide +kernel
theorem iX9_kindOfWord_73 : ins MX9_kindOfWord 73 = some (.iload_n 1, 1) := by decide +kernel
theorem iX9_kindOfWord_74 : ins MX9_kindOfWord 74 = some (.iload_n 2, 1) := by decide +kernel
theorem iX9_kindOfWord_75 : ins MX9_kindOfWord 75 = some (.invokevirtual 62, 3) := by decide +kernel
theorem iX9_kindOfWord_78 : ins MX9_kindOfWord 78 = some (.ifCond .eq 8, 3) := by decide +kernel
theorem iX9_kindOfWord_81 : ins MX9_kindOfWord 81 = some (.bipush 11, 2) := by decide +kernel
theorem iX9_kindOfWord_83 : ins MX9_kindOfWord 83 = some (.goto 4, 3) := by decide +kernel
theorem iX9_kindOfWord_86 : ins MX9_kindOfWord 86 = some (.iconst 1, 1) := by decide +kernel
theorem iX9_kindOfWord_87 : ins MX9_kindOfWord 87 = some (.ireturn, 1) := by decide +kernel
theorem iX9_numberOfRun_0 : ins MX9_numberOfRun 0 = some (.iconst 0, 1) := by decide +kernel
theorem iX9_numberOfRun_1 : ins MX9_numberOfRun 1 = some (.istore_n 3, 1) := by decide +kernel
theorem iX9_numberOfRun_2 : ins MX9_numberOfRun 2 = some (.iload_n 1, 1) := by decide +kernel
theorem iX9_numberOfRun_3 : ins MX9_numberOfRun 3 = some (.istore 4, 2) := by decide +kernel
theorem iX9_numberOfRun_5 : ins MX9_numberOfRun 5 = some (.iload 4, 2) := by decide +kernel
theorem iX9_numberOfRun_7 : ins MX9_numberOfRun 7 = some (.iload_n 2, 1) := by decide +kernel
theorem iX9_numberOfRun_8 : ins MX9_numberOfRun 8 = some (.if_icmp .ge 46, 3) := by decide +kernel
theorem iX9_numberOfRun_11 : ins MX9_numberOfRun 11 = some (.aload_n 0, 1) := by decide +kernel
theorem iX9_numberOfRun_12 : ins MX9_numberOfRun 12 = some (.getfield 28, 3) := by decide +kernel
theorem iX9_numberOfRun_15 : ins MX9_numberOfRun 15 = some (.iload 4, 2) := by decide +kernel
theorem iX9_numberOfRun_17 : ins MX9_numberOfRun 17 = some (.baload, 1) := by decide +kernel
theorem iX9_numberOfRun_18 : ins MX9_numberOfRun 18 = some (.invokestatic 54, 3) := by decide +kernel
theorem iX9_numberOfRun_21 : ins MX9_numberOfRun 21 = some (.ifCond .eq 33, 3) := by decide +kernel
theorem iX9_numberOfRun_24 : ins MX9_numberOfRun 24 = some (.iload 4, 2) := by decide +kernel
theorem iX9_numberOfRun_26 : ins MX9_numberOfRun 26 = some (.iload_n 1, 1) := by decide +kernel
theorem iX9_numberOfRun_27 : ins MX9_numberOfRun 27 = some (.isub, 1) := by decide +kernel
theorem iX9_numberOfRun_28 : ins MX9_numberOfRun 28 = some (.iconst 4, 1) := by decide +kernel
theorem iX9_numberOfRun_29 : ins MX9_numberOfRun 29 = some (.if_icmp .ge 25, 3) := by decide +kernel
theorem iX9_numberOfRun_32 : ins MX9_numberOfRun 32 = some (.iload_n 3, 1) := by decide +kernel
theorem iX9_numberOfRun_33 : ins MX9_numberOfRun 33 = some (.bipush 10, 2) := by decide +kernel
theorem iX9_numberOfRun_35 : ins MX9_numberOfRun 35 = some (.imul, 1) := by decide +kernel
theorem iX9_numberOfRun_36 : ins MX9_numberOfRun 36 = some (.aload_n 0, 1) := by decide +kernel
theorem iX9_numberOfRun_37 : ins MX9_numberOfRun 37 = some (.getfield 28, 3) := by decide +kernel
theorem iX9_numberOfRun_40 : ins MX9_numberOfRun 40 = some (.iload 4, 2) := by decide +kernel
theorem iX9_numberOfRun_42 : ins MX9_numberOfRun 42 = some (.baload, 1) := by decide +kernel
theorem iX9_numberOfRun_43 : ins MX9_numberOfRun 43 = some (.iadd, 1) := by decide +kernel
theorem iX9_numberOfRun_44 : ins MX9_numberOfRun 44 = some (.bipush 48, 2) := by decide +kernel
theorem iX9_numberOfRun_46 : ins MX9_numberOfRun 46 = some (.isub, 1) := by decide +kernel
theorem iX9_numberOfRun_47 : ins MX9_numberOfRun 47 = some (.istore_n 3, 1) := by decide +kernel
theorem iX9_numberOfRun_48 : ins MX9_numberOfRun 48 = some (.iinc 4 1, 3) := by decide +kernel
theorem iX9_numberOfRun_51 : ins MX9_numberOfRun 51 = some (.goto (-46), 3) := by decide +kernel
theorem iX9_numberOfRun_54 : ins MX9_numberOfRun 54 = some (.iload_n 3, 1) := by decide +kernel
theorem iX9_numberOfRun_55 : ins MX9_numberOfRun 55 = some (.ireturn, 1) := by decide +kernel
theorem iX10_alike_0 : ins MX10_alike 0 = some (.iload_n 1, 1) := by decide +kernel
theorem iX10_alike_1 : ins MX10_alike 1 = some (.invokestatic 106, 3) := by decide +kernel
theorem iX10_alike_4 : ins MX10_alike 4 = some (.ifCond .eq 10, 3) := by decide +kernel
theorem iX10_alike_7 : ins MX10_alike 7 = some (.iload_n 2, 1) := by decide +kernel
theorem iX10_alike_8 : ins MX10_alike 8 = some (.invokestatic 106, 3) := by decide +kernel
theorem iX10_alike_11 : ins MX10_alike 11 = some (.ifCond .ne 5, 3) := by decide +kernel
theorem iX10_alike_14 : ins MX10_alike 14 = some (.iconst (-1), 1) := by decide +kernel
theorem iX10_alike_15 : ins MX10_alike 15 = some (.ireturn, 1) := by decide +kernel
theorem iX10_alike_16 : ins MX10_alike 16 = some (.aload_n 0, 1) := by decide +kernel
theorem iX10_alike_17 : ins MX10_alike 17 = some (.getfield 47, 3) := by decide +kernel
theorem iX10_alike_20 : ins MX10_alike 20 = some (.aload_n 0, 1) := by decide +kernel
theorem iX10_alike_21 : ins MX10_alike 21 = some (.getfield 19, 3) := by decide +kernel
theorem iX10_alike_24 : ins MX10_alike 24 = some (.getfield 109, 3) := by decide +kernel
theorem iX10_alike_27 : ins MX10_alike 27 = some (.invokevirtual 244, 3) := by decide +kernel
theorem iX10_alike_30 : ins MX10_alike 30 = some (.aload_n 0, 1) := by decide +kernel
theorem iX10_alike_31 : ins MX10_alike 31 = some (.getfield 47, 3) := by decide +kernel
theorem iX10_alike_34 : ins MX10_alike 34 = some (.aload_n 0, 1) := by decide +kernel
theorem iX10_alike_35 : ins MX10_alike 35 = some (.getfield 19, 3) := by decide +kernel
theorem iX10_alike_38 : ins MX10_alike 38 = some (.getfield 115, 3) := by decide +kernel
theorem iX10_alike_41 : ins MX10_alike 41 = some (.iload_n 1, 1) := by decide +kernel
theorem iX10_alike_42 : ins MX10_alike 42 = some (.aaload, 1) := by decide +kernel
theorem iX10_alike_43 : ins MX10_alike 43 = some (.aload_n 0, 1) := by decide +kernel
theorem iX10_alike_44 : ins MX10_alike 44 = some (.getfield 19, 3) := by decide +kernel
theorem iX10_alike_47 : ins MX10_alike 47 = some (.getfield 78, 3) := by decide +kernel
theorem iX10_alike_50 : ins MX10_alike 50 = some (.aload_n 0, 1) := by decide +kernel
theorem iX10_alike_51 : ins MX10_alike 51 = some (.getfield 19, 3) := by decide +kernel
theorem iX10_alike_54 : ins MX10_alike 54 = some (.getfield 109, 3) := by decide +kernel
theorem iX10_alike_57 : ins MX10_alike 57 = some (.invokevirtual 245, 3) := by decide +kernel
theorem iX10_alike_60 : ins MX10_alike 60 = some (.aload_n 0, 1) := by decide +kernel
theorem iX10_alike_61 : ins MX10_alike 61 = some (.getfield 51, 3) := by decide +kernel
theorem iX10_alike_64 : ins MX10_alike 64 = some (.aload_n 0, 1) := by decide +kernel
theorem iX10_alike_65 : ins MX10_alike 65 = some (.getfield 19, 3) := by decide +kernel
theorem iX10_alike_68 : ins MX10_alike 68 = some (.getfield 109, 3) := by decide +kernel
theorem iX10_alike_71 : ins MX10_alike 71 = some (.invokevirtual 244, 3) := by decide +kernel
theorem iX10_alike_74 : ins MX10_alike 74 = some (.aload_n 0, 1) := by decide +kernel
theorem iX10_alike_75 : ins MX10_alike 75 = some (.getfield 51, 3) := by decide +kernel
theorem iX10_alike_78 : ins MX10_alike 78 = some (.aload_n 0, 1) := by decide +kernel
theorem iX10_alike_79 : ins MX10_alike 79 = some (.getfield 19, 3) := by decide +kernel
theorem iX10_alike_82 : ins MX10_alike 82 = some (.getfield 115, 3) := by decide +kernel
theorem iX10_alike_85 : ins MX10_alike 85 = some (.iload_n 2, 1) := by decide +kernel
theorem iX10_alike_86 : ins MX10_alike 86 = some (.aaload, 1) := by decide +kernel
theorem iX10_alike_87 : ins MX10_alike 87 = some (.aload_n 0, 1) := by decide +kernel
theorem iX10_alike_88 : ins MX10_alike 88 = some (.getfield 19, 3) := by decide +kernel
theorem iX10_alike_91 : ins MX10_alike 91 = some (.getfield 78, 3) := by decide +kernel
theorem iX10_alike_94 : ins MX10_alike 94 = some (.aload_n 0, 1) := by decide +kernel
theorem iX10_alike_95 : ins MX10_alike 95 = some (.getfield 19, 3) := by decide +kernel
theorem iX10_alike_98 : ins MX10_alike 98 = some (.getfield 109, 3) := by decide +kernel
theorem iX10_alike_101 : ins MX10_alike 101 = some (.invokevirtual 245, 3) := by decide +kernel
theorem iX10_alike_104 : ins MX10_alike 104 = some (.aload_n 0, 1) := by decide +kernel
theorem iX10_alike_105 : ins MX10_alike 105 = some (.getfield 47, 3) := by decide +kernel
theorem iX10_alike_108 : ins MX10_alike 108 = some (.getfield 146, 3) := by decide +kernel
theorem iX10_alike_111 : ins MX10_alike 111 = some (.aload_n 0, 1) := by decide +kernel
theorem iX10_alike_112 : ins MX10_alike 112 = some (.getfield 51, 3) := by decide +kernel
theorem iX10_alike_115 : ins MX10_alike 115 = some (.getfield 146, 3) := by decide +kernel
theorem iX10_alike_118 : ins MX10_alike 118 = some (.lcmp, 1) := by decide +kernel
theorem iX10_alike_119 : ins MX10_alike 119 = some (.ifCond .eq 5, 3) := by decide +kernel
theorem iX10_alike_122 : ins MX10_alike 122 = some (.iconst 0, 1) := by decide +kernel
theorem iX10_alike_123 : ins MX10_alike 123 = some (.ireturn, 1) := by decide +kernel
theorem iX10_alike_124 : ins MX10_alike 124 = some (.aload_n 0, 1) := by decide +kernel
theorem iX10_alike_125 : ins MX10_alike 125 = some (.getfield 47, 3) := by decide +kernel
theorem iX10_alike_128 : ins MX10_alike 128 = some (.aload_n 0, 1) := by decide +kernel
theorem iX10_alike_129 : ins MX10_alike 129 = some (.getfield 51, 3) := by decide +kernel
theorem iX10_alike_132 : ins MX10_alike 132 = some (.invokevirtual 249, 3) := by decide +kernel
theorem iX10_alike_135 : ins MX10_alike 135 = some (.ifCond .eq 7, 3) := by decide +kernel
theorem iX10_alike_138 : ins MX10_alike 138 = some (.iconst 2, 1) := by decide +kernel
theorem iX10_alike_139 : ins MX10_alike 139 = some (.goto 4, 3) := by decide +kernel
theorem iX10_alike_142 : ins MX10_alike 142 = some (.iconst 1, 1) := by decide +kernel
theorem iX10_alike_143 : ins MX10_alike 143 = some (.ireturn, 1) := by decide +kernel
theorem iX10_at_0 : ins MX10_at 0 = some (.aload_n 0, 1) := by decide +kernel
theorem iX10_at_1 : ins MX10_at 1 = some (.iload_n 1, 1) := by decide +kernel
theorem iX10_at_2 : ins MX10_at 2 = some (.invokevirtual 71, 3) := by decide +kernel
theorem iX10_at_5 : ins MX10_at 5 = some (.ifCond .eq 12, 3) := by decide +kernel
theorem iX10_at_8 : ins MX10_at 8 = some (.iload_n 2, 1) := by decide +kernel
theorem iX10_at_9 : ins MX10_at 9 = some (.ifCond .lt 8, 3) := by decide +kernel
theorem iX10_at_12 : ins MX10_at 12 = some (.iload_n 2, 1) := by decide +kernel
theorem iX10_at_13 : ins MX10_at 13 = some (.iconst 1, 1) := by decide +kernel
theorem iX10_at_14 : ins MX10_at 14 = some (.if_icmp .le 5, 3) := by decide +kernel
theorem iX10_at_17 : ins MX10_at 17 = some (.iconst (-1), 1) := by decide +kernel
theorem iX10_at_18 : ins MX10_at 18 = some (.ireturn, 1) := by decide +kernel
theorem iX10_at_19 : ins MX10_at 19 = some (.aload_n 0, 1) := by decide +kernel
theorem iX10_at_20 : ins MX10_at 20 = some (.getfield 19, 3) := by decide +kernel
theorem iX10_at_23 : ins MX10_at 23 = some (.getfield 57, 3) := by decide +kernel
theorem iX10_at_26 : ins MX10_at 26 = some (.getfield 146, 3) := by decide +kernel
theorem iX10_at_29 : ins MX10_at 29 = some (.iload_n 1, 1) := by decide +kernel
theorem iX10_at_30 : ins MX10_at 30 = some (.invokestatic 149, 3) := by decide +kernel
theorem iX10_at_33 : ins MX10_at 33 = some (.istore_n 3, 1) := by decide +kernel
theorem iX10_at_34 : ins MX10_at 34 = some (.iload_n 2, 1) := by decide +kernel
theorem iX10_at_35 : ins MX10_at 35 = some (.ifCond .ne 7, 3) := by decide +kernel
theorem iX10_at_38 : ins MX10_at 38 = some (.iload_n 3, 1) := by decide +kernel
theorem iX10_at_39 : ins MX10_at 39 = some (.goto 14, 3) := by decide +kernel
theorem iX10_at_42 : ins MX10_at 42 = some (.aload_n 0, 1) := by decide +kernel
theorem iX10_at_43 : ins MX10_at 43 = some (.getfield 19, 3) := by decide +kernel
theorem iX10_at_46 : ins MX10_at 46 = some (.getfield 78, 3) := by decide +kernel
theorem iX10_at_49 : ins MX10_at 49 = some (.iload_n 3, 1) := by decide +kernel
theorem iX10_at_50 : ins MX10_at 50 = some (.invokestatic 149, 3) := by decide +kernel
theorem iX10_at_53 : ins MX10_at 53 = some (.ireturn, 1) := by decide +kernel
theorem iX10_back_0 : ins MX10_back 0 = some (.iload_n 1, 1) := by decide +kernel
theorem iX10_back_1 : ins MX10_back 1 = some (.invokestatic 106, 3) := by decide +kernel
theorem iX10_back_4 : ins MX10_back 4 = some (.ifCond .eq 12, 3) := by decide +kernel
theorem iX10_back_7 : ins MX10_back 7 = some (.iload_n 2, 1) := by decide +kernel
theorem iX10_back_8 : ins MX10_back 8 = some (.ifCond .lt 8, 3) := by decide +kernel
theorem iX10_back_11 : ins MX10_back 11 = some (.iload_n 2, 1) := by decide +kernel
theorem iX10_back_12 : ins MX10_back 12 = some (.iconst 1, 1) := by decide +kernel
theorem iX10_back_13 : ins MX10_back 13 = some (.if_icmp .le 5, 3) := by decide +kernel
theorem iX10_back_16 : ins MX10_back 16 = some (.iconst (-1), 1) := by decide +kernel
theorem iX10_back_17 : ins MX10_back 17 = some (.ireturn, 1) := by decide +kernel
theorem iX10_back_18 : ins MX10_back 18 = some (.iload_n 2, 1) := by decide +kernel
theorem iX10_back_19 : ins MX10_back 19 = some (.ifCond .ne 40, 3) := by decide +kernel
theorem iX10_back_22 : ins MX10_back 22 = some (.aload_n 0, 1) := by decide +kernel
theorem iX10_back_23 : ins MX10_back 23 = some (.getfield 19, 3) := by decide +kernel
theorem iX10_back_26 : ins MX10_back 26 = some (.getfield 115, 3) := by decide +kernel
theorem iX10_back_29 : ins MX10_back 29 = some (.iload_n 1, 1) := by decide +kernel
theorem iX10_back_30 : ins MX10_back 30 = some (.aaload, 1) := by decide +kernel
theorem iX10_back_31 : ins MX10_back 31 = some (.aload_n 0, 1) := by decide +kernel
theorem iX10_back_32 : ins MX10_back 32 = some (.getfield 19, 3) := by decide +kernel
theorem iX10_back_35 : ins MX10_back 35 = some (.getfield 57, 3) := by decide +kernel
theorem iX10_back_38 : ins MX10_back 38 = some (.getfield 146, 3) := by decide +kernel
theorem iX10_back_41 : ins MX10_back 41 = some (.aload_n 0, 1) := by decide +kernel
theorem iX10_back_42 : ins MX10_back 42 = some (.getfield 19, 3) := by decide +kernel
theorem iX10_back_45 : ins MX10_back 45 = some (.getfield 78, 3) := by decide +kernel
theorem iX10_back_48 : ins MX10_back 48 = some (.aload_n 0, 1) := by decide +kernel
theorem iX10_back_49 : ins MX10_back 49 = some (.getfield 19, 3) := by decide +kernel
theorem iX10_back_52 : ins MX10_back 52 = some (.getfield 109, 3) := by decide +kernel
theorem iX10_back_55 : ins MX10_back 55 = some (.invokevirtual 171, 3) := by decide +kernel
theorem iX10_back_58 : ins MX10_back 58 = some (.ireturn, 1) := by decide +kernel
theorem iX10_back_59 : ins MX10_back 59 = some (.aload_n 0, 1) := by decide +kernel
theorem iX10_back_60 : ins MX10_back 60 = some (.getfield 19, 3) := by decide +kernel
theorem iX10_back_63 : ins MX10_back 63 = some (.getfield 115, 3) := by decide +kernel
theorem iX10_back_66 : ins MX10_back 66 = some (.iload_n 1, 1) := by decide +kernel
theorem iX10_back_67 : ins MX10_back 67 = some (.aaload, 1) := by decide +kernel
theorem iX10_back_68 : ins MX10_back 68 = some (.aload_n 0, 1) := by decide +kernel
theorem iX10_back_69 : ins MX10_back 69 = some (.getfield 19, 3) := by decide +kernel
theorem iX10_back_72 : ins MX10_back 72 = some (.aload_n 0, 1) := by decide +kernel
theorem iX10_back_73 : ins MX10_back 73 = some (.getfield 19, 3) := by decide +kernel
theorem iX10_back_76 : ins MX10_back 76 = some (.getfield 57, 3) := by decide +kernel
theorem iX10_back_79 : ins MX10_back 79 = some (.getfield 146, 3) := by decide +kernel
theorem iX10_back_82 : ins MX10_back 82 = some (.invokevirtual 175, 3) := by decide +kernel
theorem iX10_back_85 : ins MX10_back 85 = some (.ldc2_w 179, 3) := by decide +kernel
theorem iX10_back_88 : ins MX10_back 88 = some (.aload_n 0, 1) := by decide +kernel
theorem iX10_back_89 : ins MX10_back 89 = some (.getfield 19, 3) := by decide +kernel
theorem iX10_back_92 : ins MX10_back 92 = some (.getfield 109, 3) := by decide +kernel
theorem iX10_back_95 : ins MX10_back 95 = some (.invokevirtual 171, 3) := by decide +kernel
theorem iX10_back_98 : ins MX10_back 98 = some (.ireturn, 1) := by decide +kernel
theorem iX10_beats_0 : ins MX10_beats 0 = some (.iload_n 1, 1) := by decide +kernel
theorem iX10_beats_1 : ins MX10_beats 1 = some (.invokestatic 106, 3) := by decide +kernel
theorem iX10_beats_4 : ins MX10_beats 4 = some (.ifCond .eq 14, 3) := by decide +kernel
theorem iX10_beats_7 : ins MX10_beats 7 = some (.iload_n 2, 1) := by decide +kernel
theorem iX10_beats_8 : ins MX10_beats 8 = some (.iconst 1, 1) := by decide +kernel
theorem iX10_beats_9 : ins MX10_beats 9 = some (.if_icmp .lt 9, 3) := by decide +kernel
theorem iX10_beats_12 : ins MX10_beats 12 = some (.iload_n 2, 1) := by decide +kernel
theorem iX10_beats_13 : ins MX10_beats 13 = some (.bipush 9, 2) := by decide +kernel
theorem iX10_beats_15 : ins MX10_beats 15 = some (.if_icmp .le 5, 3) := by decide +kernel
theorem iX10_beats_18 : ins MX10_beats 18 = some (.iconst (-1), 1) := by decide +kernel
theorem iX10_beats_19 : ins MX10_beats 19 = some (.ireturn, 1) := by decide +kernel
theorem iX10_beats_20 : ins MX10_beats 20 = some (.aload_n 0, 1) := by decide +kernel
theorem iX10_beats_21 : ins MX10_beats 21 = some (.getfield 40, 3) := by decide +kernel
theorem iX10_beats_24 : ins MX10_beats 24 = some (.aload_n 0, 1) := by decide +kernel
theorem iX10_beats_25 : ins MX10_beats 25 = some (.getfield 19, 3) := by decide +kernel
theorem iX10_beats_28 : ins MX10_beats 28 = some (.getfield 115, 3) := by decide +kernel
theorem iX10_beats_31 : ins MX10_beats 31 = some (.iload_n 1, 1) := by decide +kernel
theorem iX10_beats_32 : ins MX10_beats 32 = some (.aaload, 1) := by decide +kernel
theorem iX10_beats_33 : ins MX10_beats 33 = some (.iload_n 2, 1) := by decide +kernel
theorem iX10_beats_34 : ins MX10_beats 34 = some (.invokevirtual 220, 3) := by decide +kernel
theorem iX10_beats_37 : ins MX10_beats 37 = some (.ireturn, 1) := by decide +kernel
theorem iX10_colour_0 : ins MX10_colour 0 = some (.aload_n 0, 1) := by decide +kernel
theorem iX10_colour_1 : ins MX10_colour 1 = some (.iload_n 1, 1) := by decide +kernel
theorem iX10_colour_2 : ins MX10_colour 2 = some (.invokevirtual 71, 3) := by decide +kernel
theorem iX10_colour_5 : ins MX10_colour 5 = some (.ifCond .eq 10, 3) := by decide +kernel
theorem iX10_colour_8 : ins MX10_colour 8 = some (.iload_n 2, 1) := by decide +kernel
theorem iX10_colour_9 : ins MX10_colour 9 = some (.invokestatic 75, 3) := by decide +kernel
theorem iX10_colour_12 : ins MX10_colour 12 = some (.ifCond .ne 5, 3) := by decide +kernel
theorem iX10_colour_15 : ins MX10_colour 15 = some (.iconst 0, 1) := by decide +kernel
theorem iX10_colour_16 : ins MX10_colour 16 = some (.ireturn, 1) := by decide +kernel
theorem iX10_colour_17 : ins MX10_colour 17 = some (.aload_n 0, 1) := by decide +kernel
theorem iX10_colour_18 : ins MX10_colour 18 = some (.getfield 19, 3) := by decide +kernel
theorem iX10_colour_21 : ins MX10_colour 21 = some (.aload_n 0, 1) := by decide +kernel
theorem iX10_colour_22 : ins MX10_colour 22 = some (.getfield 19, 3) := by decide +kernel
theorem iX10_colour_25 : ins MX10_colour 25 = some (.getfield 78, 3) := by decide +kernel
theorem iX10_colour_28 : ins MX10_colour 28 = some (.iload_n 1, 1) := by decide +kernel
theorem iX10_colour_29 : ins MX10_colour 29 = some (.iload_n 2, 1) := by decide +kernel
theorem iX10_colour_30 : ins MX10_colour 30 = some (.invokestatic 82, 3) := by decide +kernel
theorem iX10_colour_33 : ins MX10_colour 33 = some (.putfield 78, 3) := by decide +kernel
theorem iX10_colour_36 : ins MX10_colour 36 = some (.aload_n 0, 1) := by decide +kernel
theorem iX10_colour_37 : ins MX10_colour 37 = some (.getfield 26, 3) := by decide +kernel
theorem iX10_colour_40 : ins MX10_colour 40 = some (.invokevirtual 64, 3) := by decide +kernel
theorem iX10_colour_43 : ins MX10_colour 43 = some (.iconst 1, 1) := by decide +kernel
theorem iX10_colour_44 : ins MX10_colour 44 = some (.ireturn, 1) := by decide +kernel
theorem iX10_countRings_0 : ins MX10_countRings 0 = some (.iconst 0, 1) := by decide +kernel
theorem iX10_countRings_1 : ins MX10_countRings 1 = some (.istore_n 1, 1) := by decide +kernel
theorem iX10_countRings_2 : ins MX10_countRings 2 = some (.iconst 0, 1) := by decide +kernel
theorem iX10_countRings_3 : ins MX10_countRings 3 = some (.istore_n 2, 1) := by decide +kernel
theorem iX10_countRings_4 : ins MX10_countRings 4 = some (.iconst 0, 1) := by decide +kernel
theorem iX10_countRings_5 : ins MX10_countRings 5 = some (.istore_n 3, 1) := by decide +kernel
theorem iX10_countRings_6 : ins MX10_countRings 6 = some (.iload_n 3, 1) := by decide +kernel
theorem iX10_countRings_7 : ins MX10_countRings 7 = some (.aload_n 0, 1) := by decide +kernel
theorem iX10_countRings_8 : ins MX10_countRings 8 = some (.getfield 19, 3) := by decide +kernel
theorem iX10_countRings_11 : ins MX10_countRings 11 = some (.getfield 109, 3) := by decide +kernel
theorem iX10_countRings_14 : ins MX10_countRings 14 = some (.if_icmp .ge 28, 3) := by decide +kernel
theorem iX10_countRings_17 : ins MX10_countRings 17 = some (.iload_n 2, 1) := by decide +kernel
theorem iX10_countRings_18 : ins MX10_countRings 18 = some (.iconst 1, 1) := by decide +kernel
theorem iX10_countRings_19 : ins MX10_countRings 19 = some (.iload_n 3, 1) := by decide +kernel
theorem iX10_countRings_20 : ins MX10_countRings 20 = some (.ishl, 1) := by decide +kernel
theorem iX10_countRings_21 : ins MX10_countRings 21 = some (.iand, 1) := by decide +kernel
theorem iX10_countRings_22 : ins MX10_countRings 22 = some (.ifCond .ne 14, 3) := by decide +kernel
theorem iX10_countRings_25 : ins MX10_countRings 25 = some (.iload_n 2, 1) := by decide +kernel
theorem iX10_countRings_26 : ins MX10_countRings 26 = some (.aload_n 0, 1) := by decide +kernel
theorem iX10_countRings_27 : ins MX10_countRings 27 = some (.iload_n 3, 1) := by decide +kernel
theorem iX10_countRings_28 : ins MX10_countRings 28 = some (.invokevirtual 236, 3) := by decide +kernel
theorem iX10_countRings_31 : ins MX10_countRings 31 = some (.ior, 1) := by decide +kernel
theorem iX10_countRings_32 : ins MX10_countRings 32 = some (.istore_n 2, 1) := by decide +kernel
theorem iX10_countRings_33 : ins MX10_countRings 33 = some (.iinc 1 1, 3) := by decide +kernel
theorem iX10_countRings_36 : ins MX10_countRings 36 = some (.iinc 3 1, 3) := by decide +kernel
theorem iX10_countRings_39 : ins MX10_countRings 39 = some (.goto (-33), 3) := by decide +kernel
theorem iX10_countRings_42 : ins MX10_countRings 42 = some (.iload_n 1, 1) := by decide +kernel
theorem iX10_countRings_43 : ins MX10_countRings 43 = some (.ireturn, 1) := by decide +kernel
theorem iX10_cut_0 : ins MX10_cut 0 = some (.iload_n 1, 1) := by decide +kernel
theorem iX10_cut_1 : ins MX10_cut 1 = some (.ifCond .lt 8, 3) := by decide +kernel
theorem iX10_cut_4 : ins MX10_cut 4 = some (.iload_n 1, 1) := by decide +kernel
theorem iX10_cut_5 : ins MX10_cut 5 = some (.iconst 2, 1) := by decide +kernel
theorem iX10_cut_6 : ins MX10_cut 6 = some (.if_icmp .le 5, 3) := by decide +kernel
theorem iX10_cut_9 : ins MX10_cut 9 = some (.iconst (-1), 1) := by decide +kernel
theorem iX10_cut_10 : ins MX10_cut 10 = some (.ireturn, 1) := by decide +kernel
theorem iX10_cut_11 : ins MX10_cut 11 = some (.iconst 0, 1) := by decide +kernel
theorem iX10_cut_12 : ins MX10_cut 12 = some (.istore_n 2, 1) := by decide +kernel
theorem iX10_cut_13 : ins MX10_cut 13 = some (.iconst (-1), 1) := by decide +kernel
theorem iX10_cut_14 : ins MX10_cut 14 = some (.istore_n 3, 1) := by decide +kernel
theorem iX10_cut_15 : ins MX10_cut 15 = some (.iconst (-1), 1) := by decide +kernel
theorem iX10_cut_16 : ins MX10_cut 16 = some (.istore 4, 2) := by decide +kernel
theorem iX10_cut_18 : ins MX10_cut 18 = some (.iconst 0, 1) := by decide +kernel
theorem iX10_cut_19 : ins MX10_cut 19 = some (.istore 5, 2) := by decide +kernel
theorem iX10_cut_21 : ins MX10_cut 21 = some (.iload 5, 2) := by decide +kernel
theorem iX10_cut_23 : ins MX10_cut 23 = some (.iconst 4, 1) := by decide +kernel
theorem iX10_cut_24 : ins MX10_cut 24 = some (.if_icmp .ge 102, 3) := by decide +kernel
theorem iX10_cut_27 : ins MX10_cut 27 = some (.aload_n 0, 1) := by decide +kernel
theorem iX10_cut_28 : ins MX10_cut 28 = some (.getfield 19, 3) := by decide +kernel
theorem iX10_cut_31 : ins MX10_cut 31 = some (.getfield 78, 3) := by decide +kernel
theorem iX10_cut_34 : ins MX10_cut 34 = some (.lstore 6, 2) := by decide +kernel
theorem iX10_cut_36 : ins MX10_cut 36 = some (.iconst 0, 1) := by decide +kernel
theorem iX10_cut_37 : ins MX10_cut 37 = some (.istore 8, 2) := by decide +kernel
theorem iX10_cut_39 : ins MX10_cut 39 = some (.iload 8, 2) := by decide +kernel
theorem iX10_cut_41 : ins MX10_cut 41 = some (.bipush 30, 2) := by decide +kernel
theorem iX10_cut_43 : ins MX10_cut 43 = some (.if_icmp .gt 77, 3) := by decide +kernel
theorem iX10_cut_46 : ins MX10_cut 46 = some (.lload 6, 2) := by decide +kernel
theorem iX10_cut_48 : ins MX10_cut 48 = some (.aload_n 0, 1) := by decide +kernel
theorem iX10_cut_49 : ins MX10_cut 49 = some (.getfield 19, 3) := by decide +kernel
theorem iX10_cut_52 : ins MX10_cut 52 = some (.getfield 189, 3) := by decide +kernel
theorem iX10_cut_55 : ins MX10_cut 55 = some (.lcmp, 1) := by decide +kernel
theorem iX10_cut_56 : ins MX10_cut 56 = some (.ifCond .ne 30, 3) := by decide +kernel
theorem iX10_cut_59 : ins MX10_cut 59 = some (.iload_n 2, 1) := by decide +kernel
theorem iX10_cut_60 : ins MX10_cut 60 = some (.ifCond .ne 8, 3) := by decide +kernel
theorem iX10_cut_63 : ins MX10_cut 63 = some (.iload 5, 2) := by decide +kernel
theorem iX10_cut_65 : ins MX10_cut 65 = some (.goto 4, 3) := by decide +kernel
theorem iX10_cut_68 : ins MX10_cut 68 = some (.iload_n 3, 1) := by decide +kernel
theorem iX10_cut_69 : ins MX10_cut 69 = some (.istore_n 3, 1) := by decide +kernel
theorem iX10_cut_70 : ins MX10_cut 70 = some (.iload_n 2, 1) := by decide +kernel
theorem iX10_cut_71 : ins MX10_cut 71 = some (.ifCond .ne 8, 3) := by decide +kernel
theorem iX10_cut_74 : ins MX10_cut 74 = some (.iload 8, 2) := by decide +kernel
theorem iX10_cut_76 : ins MX10_cut 76 = some (.goto 5, 3) := by decide +kernel
theorem iX10_cut_79 : ins MX10_cut 79 = some (.iload 4, 2) := by decide +kernel
theorem iX10_cut_81 : ins MX10_cut 81 = some (.istore 4, 2) := by decide +kernel
theorem iX10_cut_83 : ins MX10_cut 83 = some (.iinc 2 1, 3) := by decide +kernel
theorem iX10_cut_86 : ins MX10_cut 86 = some (.aload_n 0, 1) := by decide +kernel
theorem iX10_cut_87 : ins MX10_cut 87 = some (.getfield 19, 3) := by decide +kernel
theorem iX10_cut_90 : ins MX10_cut 90 = some (.getfield 115, 3) := by decide +kernel
theorem iX10_cut_93 : ins MX10_cut 93 = some (.iload 5, 2) := by decide +kernel
theorem iX10_cut_95 : ins MX10_cut 95 = some (.aaload, 1) := by decide +kernel
theorem iX10_cut_96 : ins MX10_cut 96 = some (.lload 6, 2) := by decide +kernel
theorem iX10_cut_98 : ins MX10_cut 98 = some (.ldc2_w 179, 3) := by decide +kernel
theorem iX10_cut_101 : ins MX10_cut 101 = some (.aload_n 0, 1) := by decide +kernel
theorem iX10_cut_102 : ins MX10_cut 102 = some (.getfield 19, 3) := by decide +kernel
theorem iX10_cut_105 : ins MX10_cut 105 = some (.getfield 109, 3) := by decide +kernel
theorem iX10_cut_108 : ins MX10_cut 108 = some (.iconst (-1), 1) := by decide +kernel
theorem iX10_cut_109 : ins MX10_cut 109 = some (.invokevirtual 185, 3) := by decide +kernel
theorem iX10_cut_112 : ins MX10_cut 112 = some (.lstore 6, 2) := by decide +kernel
theorem iX10_cut_114 : ins MX10_cut 114 = some (.iinc 8 1, 3) := by decide +kernel
theorem iX10_cut_117 : ins MX10_cut 117 = some (.goto (-78), 3) := by decide +kernel
theorem iX10_cut_120 : ins MX10_cut 120 = some (.iinc 5 1, 3) := by decide +kernel
theorem iX10_cut_123 : ins MX10_cut 123 = some (.goto (-102), 3) := by decide +kernel
theorem iX10_cut_126 : ins MX10_cut 126 = some (.iload_n 1, 1) := by decide +kernel
theorem iX10_cut_127 : ins MX10_cut 127 = some (.iload_n 2, 1) := by decide +kernel
theorem iX10_cut_128 : ins MX10_cut 128 = some (.iload_n 3, 1) := by decide +kernel
theorem iX10_cut_129 : ins MX10_cut 129 = some (.iload 4, 2) := by decide +kernel
theorem iX10_cut_131 : ins MX10_cut 131 = some (.invokestatic 208, 3) := by decide +kernel
theorem iX10_cut_134 : ins MX10_cut 134 = some (.ireturn, 1) := by decide +kernel
theorem iX10_dropped_0 : ins MX10_dropped 0 = some (.iload_n 1, 1) := by decide +kernel
theorem iX10_dropped_1 : ins MX10_dropped 1 = some (.invokestatic 106, 3) := by decide +kernel
theorem iX10_dropped_4 : ins MX10_dropped 4 = some (.ifCond .eq 23, 3) := by decide +kernel
theorem iX10_dropped_7 : ins MX10_dropped 7 = some (.iload_n 2, 1) := by decide +kernel
theorem iX10_dropped_8 : ins MX10_dropped 8 = some (.iconst 1, 1) := by decide +kernel
theorem iX10_dropped_9 : ins MX10_dropped 9 = some (.if_icmp .lt 18, 3) := by decide +kernel
theorem iX10_dropped_12 : ins MX10_dropped 12 = some (.iload_n 2, 1) := by decide +kernel
theorem iX10_dropped_13 : ins MX10_dropped 13 = some (.bipush 30, 2) := by decide +kernel
theorem iX10_dropped_15 : ins MX10_dropped 15 = some (.if_icmp .gt 12, 3) := by decide +kernel
theorem iX10_dropped_18 : ins MX10_dropped 18 = some (.iload_n 3, 1) := by decide +kernel
theorem iX10_dropped_19 : ins MX10_dropped 19 = some (.ifCond .lt 8, 3) := by decide +kernel
theorem iX10_dropped_22 : ins MX10_dropped 22 = some (.iload_n 3, 1) := by decide +kernel
theorem iX10_dropped_23 : ins MX10_dropped 23 = some (.iconst 2, 1) := by decide +kernel
theorem iX10_dropped_24 : ins MX10_dropped 24 = some (.if_icmp .le 5, 3) := by decide +kernel
theorem iX10_dropped_27 : ins MX10_dropped 27 = some (.iconst (-1), 1) := by decide +kernel
theorem iX10_dropped_28 : ins MX10_dropped 28 = some (.ireturn, 1) := by decide +kernel
theorem iX10_dropped_29 : ins MX10_dropped 29 = some (.iconst 0, 1) := by decide +kernel
theorem iX10_dropped_30 : ins MX10_dropped 30 = some (.istore 4, 2) := by decide +kernel
theorem iX10_dropped_32 : ins MX10_dropped 32 = some (.iconst (-1), 1) := by decide +kernel
theorem iX10_dropped_33 : ins MX10_dropped 33 = some (.istore 5, 2) := by decide +kernel
theorem iX10_dropped_35 : ins MX10_dropped 35 = some (.iconst (-1), 1) := by decide +kernel
theorem iX10_dropped_36 : ins MX10_dropped 36 = some (.istore 6, 2) := by decide +kernel
theorem iX10_dropped_38 : ins MX10_dropped 38 = some (.aload_n 0, 1) := by decide +kernel
theorem iX10_dropped_39 : ins MX10_dropped 39 = some (.getfield 19, 3) := by decide +kernel
theorem iX10_dropped_42 : ins MX10_dropped 42 = some (.getfield 109, 3) := by decide +kernel
theorem iX10_dropped_45 : ins MX10_dropped 45 = some (.invokestatic 212, 3) := by decide +kernel
theorem iX10_dropped_48 : ins MX10_dropped 48 = some (.lstore 7, 2) := by decide +kernel
theorem iX10_dropped_50 : ins MX10_dropped 50 = some (.iconst 1, 1) := by decide +kernel
theorem iX10_dropped_51 : ins MX10_dropped 51 = some (.istore 9, 2) := by decide +kernel
theorem iX10_dropped_53 : ins MX10_dropped 53 = some (.iload 9, 2) := by decide +kernel
theorem iX10_dropped_55 : ins MX10_dropped 55 = some (.iload_n 2, 1) := by decide +kernel
theorem iX10_dropped_56 : ins MX10_dropped 56 = some (.if_icmp .gt 137, 3) := by decide +kernel
theorem iX10_dropped_59 : ins MX10_dropped 59 = some (.iconst 0, 1) := by decide +kernel
theorem iX10_dropped_60 : ins MX10_dropped 60 = some (.istore 10, 2) := by decide +kernel
theorem iX10_dropped_62 : ins MX10_dropped 62 = some (.iload 10, 2) := by decide +kernel
theorem iX10_dropped_64 : ins MX10_dropped 64 = some (.aload_n 0, 1) := by decide +kernel
theorem iX10_dropped_65 : ins MX10_dropped 65 = some (.getfield 19, 3) := by decide +kernel
theorem iX10_dropped_68 : ins MX10_dropped 68 = some (.getfield 109, 3) := by decide +kernel
theorem iX10_dropped_71 : ins MX10_dropped 71 = some (.if_icmp .ge 85, 3) := by decide +kernel
theorem iX10_dropped_74 : ins MX10_dropped 74 = some (.aload_n 0, 1) := by decide +kernel
theorem iX10_dropped_75 : ins MX10_dropped 75 = some (.iload 10, 2) := by decide +kernel
theorem iX10_dropped_77 : ins MX10_dropped 77 = some (.lload 7, 2) := by decide +kernel
theorem iX10_dropped_79 : ins MX10_dropped 79 = some (.aload_n 0, 1) := by decide +kernel
theorem iX10_dropped_80 : ins MX10_dropped 80 = some (.getfield 19, 3) := by decide +kernel
theorem iX10_dropped_83 : ins MX10_dropped 83 = some (.getfield 115, 3) := by decide +kernel
theorem iX10_dropped_86 : ins MX10_dropped 86 = some (.iload_n 1, 1) := by decide +kernel
theorem iX10_dropped_87 : ins MX10_dropped 87 = some (.aaload, 1) := by decide +kernel
theorem iX10_dropped_88 : ins MX10_dropped 88 = some (.iload_n 2, 1) := by decide +kernel
theorem iX10_dropped_89 : ins MX10_dropped 89 = some (.iload 9, 2) := by decide +kernel
theorem iX10_dropped_91 : ins MX10_dropped 91 = some (.isub, 1) := by decide +kernel
theorem iX10_dropped_92 : ins MX10_dropped 92 = some (.iconst 1, 1) := by decide +kernel
theorem iX10_dropped_93 : ins MX10_dropped 93 = some (.iadd, 1) := by decide +kernel
theorem iX10_dropped_94 : ins MX10_dropped 94 = some (.invokevirtual 216, 3) := by decide +kernel
theorem iX10_dropped_97 : ins MX10_dropped 97 = some (.ifCond .eq 53, 3) := by decide +kernel
theorem iX10_dropped_100 : ins MX10_dropped 100 = some (.iload 4, 2) := by decide +kernel
theorem iX10_dropped_102 : ins MX10_dropped 102 = some (.ifCond .eq 10, 3) := by decide +kernel
theorem iX10_dropped_105 : ins MX10_dropped 105 = some (.iload 10, 2) := by decide +kernel
theorem iX10_dropped_107 : ins MX10_dropped 107 = some (.iload 5, 2) := by decide +kernel
theorem iX10_dropped_109 : ins MX10_dropped 109 = some (.if_icmp .ge 7, 3) := by decide +kernel
theorem iX10_dropped_112 : ins MX10_dropped 112 = some (.iconst 1, 1) := by decide +kernel
theorem iX10_dropped_113 : ins MX10_dropped 113 = some (.goto 4, 3) := by decide +kernel
theorem iX10_dropped_116 : ins MX10_dropped 116 = some (.iconst 0, 1) := by decide +kernel
theorem iX10_dropped_117 : ins MX10_dropped 117 = some (.istore 11, 2) := by decide +kernel
theorem iX10_dropped_119 : ins MX10_dropped 119 = some (.iload 11, 2) := by decide +kernel
theorem iX10_dropped_121 : ins MX10_dropped 121 = some (.ifCond .eq 8, 3) := by decide +kernel
theorem iX10_dropped_124 : ins MX10_dropped 124 = some (.iload 10, 2) := by decide +kernel
theorem iX10_dropped_126 : ins MX10_dropped 126 = some (.goto 5, 3) := by decide +kernel
theorem iX10_dropped_129 : ins MX10_dropped 129 = some (.iload 5, 2) := by decide +kernel
theorem iX10_dropped_131 : ins MX10_dropped 131 = some (.istore 5, 2) := by decide +kernel
theorem iX10_dropped_133 : ins MX10_dropped 133 = some (.iload 11, 2) := by decide +kernel
theorem iX10_dropped_135 : ins MX10_dropped 135 = some (.ifCond .eq 8, 3) := by decide +kernel
theorem iX10_dropped_138 : ins MX10_dropped 138 = some (.iload 9, 2) := by decide +kernel
theorem iX10_dropped_140 : ins MX10_dropped 140 = some (.goto 5, 3) := by decide +kernel
theorem iX10_dropped_143 : ins MX10_dropped 143 = some (.iload 6, 2) := by decide +kernel
theorem iX10_dropped_145 : ins MX10_dropped 145 = some (.istore 6, 2) := by decide +kernel
theorem iX10_dropped_147 : ins MX10_dropped 147 = some (.iinc 4 1, 3) := by decide +kernel
theorem iX10_dropped_150 : ins MX10_dropped 150 = some (.iinc 10 1, 3) := by decide +kernel
theorem iX10_dropped_153 : ins MX10_dropped 153 = some (.goto (-91), 3) := by decide +kernel
theorem iX10_dropped_156 : ins MX10_dropped 156 = some (.aload_n 0, 1) := by decide +kernel
theorem iX10_dropped_157 : ins MX10_dropped 157 = some (.getfield 19, 3) := by decide +kernel
theorem iX10_dropped_160 : ins MX10_dropped 160 = some (.getfield 115, 3) := by decide +kernel
theorem iX10_dropped_163 : ins MX10_dropped 163 = some (.iload_n 1, 1) := by decide +kernel
theorem iX10_dropped_164 : ins MX10_dropped 164 = some (.aaload, 1) := by decide +kernel
theorem iX10_dropped_165 : ins MX10_dropped 165 = some (.lload 7, 2) := by decide +kernel
theorem iX10_dropped_167 : ins MX10_dropped 167 = some (.aload_n 0, 1) := by decide +kernel
theorem iX10_dropped_168 : ins MX10_dropped 168 = some (.getfield 19, 3) := by decide +kernel
theorem iX10_dropped_171 : ins MX10_dropped 171 = some (.getfield 78, 3) := by decide +kernel
theorem iX10_dropped_174 : ins MX10_dropped 174 = some (.aload_n 0, 1) := by decide +kernel
theorem iX10_dropped_175 : ins MX10_dropped 175 = some (.getfield 19, 3) := by decide +kernel
theorem iX10_dropped_178 : ins MX10_dropped 178 = some (.getfield 109, 3) := by decide +kernel
theorem iX10_dropped_181 : ins MX10_dropped 181 = some (.iconst (-1), 1) := by decide +kernel
theorem iX10_dropped_182 : ins MX10_dropped 182 = some (.invokevirtual 185, 3) := by decide +kernel
theorem iX10_dropped_185 : ins MX10_dropped 185 = some (.lstore 7, 2) := by decide +kernel
theorem iX10_dropped_187 : ins MX10_dropped 187 = some (.iinc 9 1, 3) := by decide +kernel
theorem iX10_dropped_190 : ins MX10_dropped 190 = some (.goto (-137), 3) := by decide +kernel
theorem iX10_dropped_193 : ins MX10_dropped 193 = some (.aload_n 0, 1) := by decide +kernel
theorem iX10_dropped_194 : ins MX10_dropped 194 = some (.getfield 19, 3) := by decide +kernel
theorem iX10_dropped_197 : ins MX10_dropped 197 = some (.lload 7, 2) := by decide +kernel
theorem iX10_dropped_199 : ins MX10_dropped 199 = some (.invokevirtual 175, 3) := by decide +kernel
theorem iX10_dropped_202 : ins MX10_dropped 202 = some (.aload_n 0, 1) := by decide +kernel
theorem iX10_dropped_203 : ins MX10_dropped 203 = some (.getfield 19, 3) := by decide +kernel
theorem iX10_dropped_206 : ins MX10_dropped 206 = some (.getfield 189, 3) := by decide +kernel
theorem iX10_dropped_209 : ins MX10_dropped 209 = some (.lcmp, 1) := by decide +kernel
theorem iX10_dropped_210 : ins MX10_dropped 210 = some (.ifCond .ne 16, 3) := by decide +kernel
theorem iX10_dropped_213 : ins MX10_dropped 213 = some (.iload_n 3, 1) := by decide +kernel
theorem iX10_dropped_214 : ins MX10_dropped 214 = some (.iload 4, 2) := by decide +kernel
theorem iX10_dropped_216 : ins MX10_dropped 216 = some (.iconst 1, 1) := by decide +kernel
theorem iX10_dropped_217 : ins MX10_dropped 217 = some (.iadd, 1) := by decide +kernel
theorem iX10_dropped_218 : ins MX10_dropped 218 = some (.iconst (-1), 1) := by decide +kernel
theorem iX10_dropped_219 : ins MX10_dropped 219 = some (.iload_n 2, 1) := by decide +kernel
theorem iX10_dropped_220 : ins MX10_dropped 220 = some (.iconst 1, 1) := by decide +kernel
theorem iX10_dropped_221 : ins MX10_dropped 221 = some (.iadd, 1) := by decide +kernel
theorem iX10_dropped_222 : ins MX10_dropped 222 = some (.invokestatic 208, 3) := by decide +kernel
theorem iX10_dropped_225 : ins MX10_dropped 225 = some (.ireturn, 1) := by decide +kernel
theorem iX10_dropped_226 : ins MX10_dropped 226 = some (.iload_n 3, 1) := by decide +kernel
theorem iX10_dropped_227 : ins MX10_dropped 227 = some (.iload 4, 2) := by decide +kernel
theorem iX10_dropped_229 : ins MX10_dropped 229 = some (.iload 5, 2) := by decide +kernel
theorem iX10_dropped_231 : ins MX10_dropped 231 = some (.iload 6, 2) := by decide +kernel
theorem iX10_dropped_233 : ins MX10_dropped 233 = some (.invokestatic 208, 3) := by decide +kernel
theorem iX10_dropped_236 : ins MX10_dropped 236 = some (.ireturn, 1) := by decide +kernel
theorem iX10_end_0 : ins MX10_end 0 = some (.iload_n 1, 1) := by decide +kernel
theorem iX10_end_1 : ins MX10_end 1 = some (.ifCond .lt 17, 3) := by decide +kernel
theorem iX10_end_4 : ins MX10_end 4 = some (.iload_n 1, 1) := by decide +kernel
theorem iX10_end_5 : ins MX10_end 5 = some (.aload_n 0, 1) := by decide +kernel
theorem iX10_end_6 : ins MX10_end 6 = some (.getfield 10, 3) := by decide +kernel
theorem iX10_end_9 : ins MX10_end 9 = some (.getfield 91, 3) := by decide +kernel
theorem iX10_end_12 : ins MX10_end 12 = some (.getfield 95, 3) := by decide +kernel
theorem iX10_end_15 : ins MX10_end 15 = some (.if_icmp .le 5, 3) := by decide +kernel
theorem iX10_end_18 : ins MX10_end 18 = some (.iconst 0, 1) := by decide +kernel
theorem iX10_end_19 : ins MX10_end 19 = some (.ireturn, 1) := by decide +kernel
theorem iX10_end_20 : ins MX10_end 20 = some (.aload_n 0, 1) := by decide +kernel
theorem iX10_end_21 : ins MX10_end 21 = some (.getfield 10, 3) := by decide +kernel
theorem iX10_end_24 : ins MX10_end 24 = some (.getfield 91, 3) := by decide +kernel
theorem iX10_end_27 : ins MX10_end 27 = some (.iload_n 1, 1) := by decide +kernel
theorem iX10_end_28 : ins MX10_end 28 = some (.putfield 95, 3) := by decide +kernel
theorem iX10_end_31 : ins MX10_end 31 = some (.iconst 1, 1) := by decide +kernel
theorem iX10_end_32 : ins MX10_end 32 = some (.ireturn, 1) := by decide +kernel
theorem iX10_fault_0 : ins MX10_fault 0 = some (.iload_n 1, 1) := by decide +kernel
theorem iX10_fault_1 : ins MX10_fault 1 = some (.ifCond .ne 11, 3) := by decide +kernel
theorem iX10_fault_4 : ins MX10_fault 4 = some (.aload_n 0, 1) := by decide +kernel
theorem iX10_fault_5 : ins MX10_fault 5 = some (.getfield 10, 3) := by decide +kernel
theorem iX10_fault_8 : ins MX10_fault 8 = some (.getfield 132, 3) := by decide +kernel
theorem iX10_fault_11 : ins MX10_fault 11 = some (.ireturn, 1) := by decide +kernel
theorem iX10_fault_12 : ins MX10_fault 12 = some (.iload_n 1, 1) := by decide +kernel
theorem iX10_fault_13 : ins MX10_fault 13 = some (.iconst 1, 1) := by decide +kernel
theorem iX10_fault_14 : ins MX10_fault 14 = some (.if_icmp .ne 13, 3) := by decide +kernel
theorem iX10_fault_17 : ins MX10_fault 17 = some (.aload_n 0, 1) := by decide +kernel
theorem iX10_fault_18 : ins MX10_fault 18 = some (.getfield 10, 3) := by decide +kernel
theorem iX10_fault_21 : ins MX10_fault 21 = some (.getfield 135, 3) := by decide +kernel
theorem iX10_fault_24 : ins MX10_fault 24 = some (.goto 4, 3) := by decide +kernel
theorem iX10_fault_27 : ins MX10_fault 27 = some (.iconst (-1), 1) := by decide +kernel
theorem iX10_fault_28 : ins MX10_fault 28 = some (.ireturn, 1) := by decide +kernel
theorem iX10_feed_0 : ins MX10_feed 0 = some (.aload_n 0, 1) := by decide +kernel
theorem iX10_feed_1 : ins MX10_feed 1 = some (.getfield 10, 3) := by decide +kernel
theorem iX10_feed_4 : ins MX10_feed 4 = some (.getfield 91, 3) := by decide +kernel
theorem iX10_feed_7 : ins MX10_feed 7 = some (.astore 6, 2) := by decide +kernel
theorem iX10_feed_9 : ins MX10_feed 9 = some (.aload 6, 2) := by decide +kernel
theorem iX10_feed_11 : ins MX10_feed 11 = some (.getfield 95, 3) := by decide +kernel
theorem iX10_feed_14 : ins MX10_feed 14 = some (.sipush 380, 3) := by decide +kernel
theorem iX10_feed_17 : ins MX10_feed 17 = some (.if_icmp .le 5, 3) := by decide +kernel
theorem iX10_feed_20 : ins MX10_feed 20 = some (.iconst (-1), 1) := by decide +kernel
theorem iX10_feed_21 : ins MX10_feed 21 = some (.ireturn, 1) := by decide +kernel
theorem iX10_feed_22 : ins MX10_feed 22 = some (.aload 6, 2) := by decide +kernel
theorem iX10_feed_24 : ins MX10_feed 24 = some (.iload_n 1, 1) := by decide +kernel
theorem iX10_feed_25 : ins MX10_feed 25 = some (.invokevirtual 100, 3) := by decide +kernel
theorem iX10_feed_28 : ins MX10_feed 28 = some (.aload 6, 2) := by decide +kernel
theorem iX10_feed_30 : ins MX10_feed 30 = some (.iload_n 2, 1) := by decide +kernel
theorem iX10_feed_31 : ins MX10_feed 31 = some (.invokevirtual 100, 3) := by decide +kernel
theorem iX10_feed_34 : ins MX10_feed 34 = some (.aload 6, 2) := by decide +kernel
theorem iX10_feed_36 : ins MX10_feed 36 = some (.iload_n 3, 1) := by decide +kernel
theorem iX10_feed_37 : ins MX10_feed 37 = some (.invokevirtual 100, 3) := by decide +kernel
theorem iX10_feed_40 : ins MX10_feed 40 = some (.aload 6, 2) := by decide +kernel
theorem iX10_feed_42 : ins MX10_feed 42 = some (.iload 4, 2) := by decide +kernel
theorem iX10_feed_44 : ins MX10_feed 44 = some (.invokevirtual 100, 3) := by decide +kernel
theorem iX10_feed_47 : ins MX10_feed 47 = some (.aload 6, 2) := by decide +kernel
theorem iX10_feed_49 : ins MX10_feed 49 = some (.iload 5, 2) := by decide +kernel
theorem iX10_feed_51 : ins MX10_feed 51 = some (.invokevirtual 100, 3) := by decide +kernel
theorem iX10_feed_54 : ins MX10_feed 54 = some (.aload 6, 2) := by decide +kernel
theorem iX10_feed_56 : ins MX10_feed 56 = some (.getfield 95, 3) := by decide +kernel
theorem iX10_feed_59 : ins MX10_feed 59 = some (.ireturn, 1) := by decide +kernel
theorem iX10_fewest_0 : ins MX10_fewest 0 = some (.iload_n 1, 1) := by decide +kernel
theorem iX10_fewest_1 : ins MX10_fewest 1 = some (.ifCond .lt 20, 3) := by decide +kernel
theorem iX10_fewest_4 : ins MX10_fewest 4 = some (.iload_n 1, 1) := by decide +kernel
theorem iX10_fewest_5 : ins MX10_fewest 5 = some (.iconst 2, 1) := by decide +kernel
theorem iX10_fewest_6 : ins MX10_fewest 6 = some (.if_icmp .gt 15, 3) := by decide +kernel
theorem iX10_fewest_9 : ins MX10_fewest 9 = some (.aload_n 0, 1) := by decide +kernel
theorem iX10_fewest_10 : ins MX10_fewest 10 = some (.getfield 19, 3) := by decide +kernel
theorem iX10_fewest_13 : ins MX10_fewest 13 = some (.getfield 109, 3) := by decide +kernel
theorem iX10_fewest_16 : ins MX10_fewest 16 = some (.bipush 7, 2) := by decide +kernel
theorem iX10_fewest_18 : ins MX10_fewest 18 = some (.if_icmp .le 5, 3) := by decide +kernel
theorem iX10_fewest_21 : ins MX10_fewest 21 = some (.iconst (-1), 1) := by decide +kernel
theorem iX10_fewest_22 : ins MX10_fewest 22 = some (.ireturn, 1) := by decide +kernel
theorem iX10_fewest_23 : ins MX10_fewest 23 = some (.aload_n 0, 1) := by decide +kernel
theorem iX10_fewest_24 : ins MX10_fewest 24 = some (.getfield 19, 3) := by decide +kernel
theorem iX10_fewest_27 : ins MX10_fewest 27 = some (.aload_n 0, 1) := by decide +kernel
theorem iX10_fewest_28 : ins MX10_fewest 28 = some (.getfield 19, 3) := by decide +kernel
theorem iX10_fewest_31 : ins MX10_fewest 31 = some (.getfield 57, 3) := by decide +kernel
theorem iX10_fewest_34 : ins MX10_fewest 34 = some (.getfield 146, 3) := by decide +kernel
theorem iX10_fewest_37 : ins MX10_fewest 37 = some (.invokevirtual 175, 3) := by decide +kernel
theorem iX10_fewest_40 : ins MX10_fewest 40 = some (.lstore_n 2, 1) := by decide +kernel
theorem iX10_fewest_41 : ins MX10_fewest 41 = some (.aload_n 0, 1) := by decide +kernel
theorem iX10_fewest_42 : ins MX10_fewest 42 = some (.getfield 33, 3) := by decide +kernel
theorem iX10_fewest_45 : ins MX10_fewest 45 = some (.lload_n 2, 1) := by decide +kernel
theorem iX10_fewest_46 : ins MX10_fewest 46 = some (.aload_n 0, 1) := by decide +kernel
theorem iX10_fewest_47 : ins MX10_fewest 47 = some (.getfield 19, 3) := by decide +kernel
theorem iX10_fewest_50 : ins MX10_fewest 50 = some (.getfield 189, 3) := by decide +kernel
theorem iX10_fewest_53 : ins MX10_fewest 53 = some (.aload_n 0, 1) := by decide +kernel
theorem iX10_fewest_54 : ins MX10_fewest 54 = some (.getfield 19, 3) := by decide +kernel
theorem iX10_fewest_57 : ins MX10_fewest 57 = some (.getfield 109, 3) := by decide +kernel
theorem iX10_fewest_60 : ins MX10_fewest 60 = some (.invokevirtual 192, 3) := by decide +kernel
theorem iX10_fewest_63 : ins MX10_fewest 63 = some (.istore 4, 2) := by decide +kernel
theorem iX10_fewest_65 : ins MX10_fewest 65 = some (.iload_n 1, 1) := by decide +kernel
theorem iX10_fewest_66 : ins MX10_fewest 66 = some (.ifCond .eq 9, 3) := by decide +kernel
theorem iX10_fewest_69 : ins MX10_fewest 69 = some (.iload 4, 2) := by decide +kernel
theorem iX10_fewest_71 : ins MX10_fewest 71 = some (.iconst 1, 1) := by decide +kernel
theorem iX10_fewest_72 : ins MX10_fewest 72 = some (.if_icmp .ge 14, 3) := by decide +kernel
theorem iX10_fewest_75 : ins MX10_fewest 75 = some (.iload_n 1, 1) := by decide +kernel
theorem iX10_fewest_76 : ins MX10_fewest 76 = some (.ifCond .ne 8, 3) := by decide +kernel
theorem iX10_fewest_79 : ins MX10_fewest 79 = some (.iload 4, 2) := by decide +kernel
theorem iX10_fewest_81 : ins MX10_fewest 81 = some (.goto 4, 3) := by decide +kernel
theorem iX10_fewest_84 : ins MX10_fewest 84 = some (.iconst (-1), 1) := by decide +kernel
theorem iX10_fewest_85 : ins MX10_fewest 85 = some (.ireturn, 1) := by decide +kernel
theorem iX10_fewest_86 : ins MX10_fewest 86 = some (.aload_n 0, 1) := by decide +kernel
theorem iX10_fewest_87 : ins MX10_fewest 87 = some (.getfield 33, 3) := by decide +kernel
theorem iX10_fewest_90 : ins MX10_fewest 90 = some (.iload 4, 2) := by decide +kernel
theorem iX10_fewest_92 : ins MX10_fewest 92 = some (.lload_n 2, 1) := by decide +kernel
theorem iX10_fewest_93 : ins MX10_fewest 93 = some (.aload_n 0, 1) := by decide +kernel
theorem iX10_fewest_94 : ins MX10_fewest 94 = some (.getfield 19, 3) := by decide +kernel
theorem iX10_fewest_97 : ins MX10_fewest 97 = some (.getfield 189, 3) := by decide +kernel
theorem iX10_fewest_100 : ins MX10_fewest 100 = some (.aload_n 0, 1) := by decide +kernel
theorem iX10_fewest_101 : ins MX10_fewest 101 = some (.getfield 19, 3) := by decide +kernel
theorem iX10_fewest_104 : ins MX10_fewest 104 = some (.getfield 109, 3) := by decide +kernel
theorem iX10_fewest_107 : ins MX10_fewest 107 = some (.invokevirtual 195, 3) := by decide +kernel
theorem iX10_fewest_110 : ins MX10_fewest 110 = some (.istore 5, 2) := by decide +kernel
theorem iX10_fewest_112 : ins MX10_fewest 112 = some (.iload_n 1, 1) := by decide +kernel
theorem iX10_fewest_113 : ins MX10_fewest 113 = some (.iconst 1, 1) := by decide +kernel
theorem iX10_fewest_114 : ins MX10_fewest 114 = some (.if_icmp .ne 11, 3) := by decide +kernel
theorem iX10_fewest_117 : ins MX10_fewest 117 = some (.iload 5, 2) := by decide +kernel
theorem iX10_fewest_119 : ins MX10_fewest 119 = some (.invokestatic 199, 3) := by decide +kernel
theorem iX10_fewest_122 : ins MX10_fewest 122 = some (.goto 8, 3) := by decide +kernel
theorem iX10_fewest_125 : ins MX10_fewest 125 = some (.iload 5, 2) := by decide +kernel
theorem iX10_fewest_127 : ins MX10_fewest 127 = some (.invokestatic 205, 3) := by decide +kernel
theorem iX10_fewest_130 : ins MX10_fewest 130 = some (.ireturn, 1) := by decide +kernel
theorem iX10_fitsWithout_0 : ins MX10_fitsWithout 0 = some (.lload_n 2, 1) := by decide +kernel
theorem iX10_fitsWithout_1 : ins MX10_fitsWithout 1 = some (.lstore 6, 2) := by decide +kernel
theorem iX10_fitsWithout_3 : ins MX10_fitsWithout 3 = some (.iconst 0, 1) := by decide +kernel
theorem iX10_fitsWithout_4 : ins MX10_fitsWithout 4 = some (.istore 8, 2) := by decide +kernel
theorem iX10_fitsWithout_6 : ins MX10_fitsWithout 6 = some (.iload 8, 2) := by decide +kernel
theorem iX10_fitsWithout_8 : ins MX10_fitsWithout 8 = some (.iload 5, 2) := by decide +kernel
theorem iX10_fitsWithout_10 : ins MX10_fitsWithout 10 = some (.if_icmp .ge 33, 3) := by decide +kernel
theorem iX10_fitsWithout_13 : ins MX10_fitsWithout 13 = some (.aload 4, 2) := by decide +kernel
theorem iX10_fitsWithout_15 : ins MX10_fitsWithout 15 = some (.lload 6, 2) := by decide +kernel
theorem iX10_fitsWithout_17 : ins MX10_fitsWithout 17 = some (.aload_n 0, 1) := by decide +kernel
theorem iX10_fitsWithout_18 : ins MX10_fitsWithout 18 = some (.getfield 19, 3) := by decide +kernel
theorem iX10_fitsWithout_21 : ins MX10_fitsWithout 21 = some (.getfield 78, 3) := by decide +kernel
theorem iX10_fitsWithout_24 : ins MX10_fitsWithout 24 = some (.aload_n 0, 1) := by decide +kernel
theorem iX10_fitsWithout_25 : ins MX10_fitsWithout 25 = some (.getfield 19, 3) := by decide +kernel
theorem iX10_fitsWithout_28 : ins MX10_fitsWithout 28 = some (.getfield 109, 3) := by decide +kernel
theorem iX10_fitsWithout_31 : ins MX10_fitsWithout 31 = some (.iload_n 1, 1) := by decide +kernel
theorem iX10_fitsWithout_32 : ins MX10_fitsWithout 32 = some (.invokevirtual 185, 3) := by decide +kernel
theorem iX10_fitsWithout_35 : ins MX10_fitsWithout 35 = some (.lstore 6, 2) := by decide +kernel
theorem iX10_fitsWithout_37 : ins MX10_fitsWithout 37 = some (.iinc 8 1, 3) := by decide +kernel
theorem iX10_fitsWithout_40 : ins MX10_fitsWithout 40 = some (.goto (-34), 3) := by decide +kernel
theorem iX10_fitsWithout_43 : ins MX10_fitsWithout 43 = some (.aload_n 0, 1) := by decide +kernel
theorem iX10_fitsWithout_44 : ins MX10_fitsWithout 44 = some (.getfield 19, 3) := by decide +kernel
theorem iX10_fitsWithout_47 : ins MX10_fitsWithout 47 = some (.lload 6, 2) := by decide +kernel
theorem iX10_fitsWithout_49 : ins MX10_fitsWithout 49 = some (.invokevirtual 175, 3) := by decide +kernel
theorem iX10_fitsWithout_52 : ins MX10_fitsWithout 52 = some (.aload_n 0, 1) := by decide +kernel
theorem iX10_fitsWithout_53 : ins MX10_fitsWithout 53 = some (.getfield 19, 3) := by decide +kernel
theorem iX10_fitsWithout_56 : ins MX10_fitsWithout 56 = some (.getfield 189, 3) := by decide +kernel
theorem iX10_fitsWithout_59 : ins MX10_fitsWithout 59 = some (.lcmp, 1) := by decide +kernel
theorem iX10_fitsWithout_60 : ins MX10_fitsWithout 60 = some (.ifCond .ne 7, 3) := by decide +kernel
theorem iX10_fitsWithout_63 : ins MX10_fitsWithout 63 = some (.iconst 1, 1) := by decide +kernel
theorem iX10_fitsWithout_64 : ins MX10_fitsWithout 64 = some (.goto 4, 3) := by decide +kernel
theorem iX10_fitsWithout_67 : ins MX10_fitsWithout 67 = some (.iconst 0, 1) := by decide +kernel
theorem iX10_fitsWithout_68 : ins MX10_fitsWithout 68 = some (.ireturn, 1) := by decide +kernel
theorem iX10_image_0 : ins MX10_image 0 = some (.iload_n 1, 1) := by decide +kernel
theorem iX10_image_1 : ins MX10_image 1 = some (.ifCond .eq 34, 3) := by decide +kernel
theorem iX10_image_4 : ins MX10_image 4 = some (.aload_n 0, 1) := by decide +kernel
theorem iX10_image_5 : ins MX10_image 5 = some (.getfield 54, 3) := by decide +kernel
theorem iX10_image_8 : ins MX10_image 8 = some (.ifnonnull 14, 3) := by decide +kernel
theorem iX10_image_11 : ins MX10_image 11 = some (.aload_n 0, 1) := by decide +kernel
theorem iX10_image_12 : ins MX10_image 12 = some (.new 16, 3) := by decide +kernel
theorem iX10_image_15 : ins MX10_image 15 = some (.dup, 1) := by decide +kernel
theorem iX10_image_16 : ins MX10_image 16 = some (.invokespecial 18, 3) := by decide +kernel
theorem iX10_image_19 : ins MX10_image 19 = some (.putfield 54, 3) := by decide +kernel
theorem iX10_image_22 : ins MX10_image 22 = some (.aload_n 0, 1) := by decide +kernel
theorem iX10_image_23 : ins MX10_image 23 = some (.getfield 54, 3) := by decide +kernel
theorem iX10_image_26 : ins MX10_image 26 = some (.aload_n 0, 1) := by decide +kernel
theorem iX10_image_27 : ins MX10_image 27 = some (.getfield 19, 3) := by decide +kernel
theorem iX10_image_30 : ins MX10_image 30 = some (.invokevirtual 260, 3) := by decide +kernel
theorem iX10_image_33 : ins MX10_image 33 = some (.iconst 1, 1) := by decide +kernel
theorem iX10_image_34 : ins MX10_image 34 = some (.ireturn, 1) := by decide +kernel
theorem iX10_image_35 : ins MX10_image 35 = some (.aload_n 0, 1) := by decide +kernel
theorem iX10_image_36 : ins MX10_image 36 = some (.getfield 54, 3) := by decide +kernel
theorem iX10_image_39 : ins MX10_image 39 = some (.ifnonnull 5, 3) := by decide +kernel
theorem iX10_image_42 : ins MX10_image 42 = some (.iconst 0, 1) := by decide +kernel
theorem iX10_image_43 : ins MX10_image 43 = some (.ireturn, 1) := by decide +kernel
theorem iX10_image_44 : ins MX10_image 44 = some (.aload_n 0, 1) := by decide +kernel
theorem iX10_image_45 : ins MX10_image 45 = some (.getfield 19, 3) := by decide +kernel
theorem iX10_image_48 : ins MX10_image 48 = some (.aload_n 0, 1) := by decide +kernel
theorem iX10_image_49 : ins MX10_image 49 = some (.getfield 54, 3) := by decide +kernel
theorem iX10_image_52 : ins MX10_image 52 = some (.invokevirtual 260, 3) := by decide +kernel
theorem iX10_image_55 : ins MX10_image 55 = some (.aload_n 0, 1) := by decide +kernel
theorem iX10_image_56 : ins MX10_image 56 = some (.getfield 26, 3) := by decide +kernel
theorem iX10_image_59 : ins MX10_image 59 = some (.invokevirtual 64, 3) := by decide +kernel
theorem iX10_image_62 : ins MX10_image 62 = some (.iconst 1, 1) := by decide +kernel
theorem iX10_image_63 : ins MX10_image 63 = some (.ireturn, 1) := by decide +kernel
theorem iX10_init_0 : ins MX10_init 0 = some (.aload_n 0, 1) := by decide +kernel
theorem iX10_init_1 : ins MX10_init 1 = some (.invokespecial 1, 3) := by decide +kernel
theorem iX10_init_4 : ins MX10_init 4 = some (.aload_n 0, 1) := by decide +kernel
theorem iX10_init_5 : ins MX10_init 5 = some (.new 7, 3) := by decide +kernel
theorem iX10_init_8 : ins MX10_init 8 = some (.dup, 1) := by decide +kernel
theorem iX10_init_9 : ins MX10_init 9 = some (.invokespecial 9, 3) := by decide +kernel
theorem iX10_init_12 : ins MX10_init 12 = some (.putfield 10, 3) := by decide +kernel
theorem iX10_init_15 : ins MX10_init 15 = some (.aload_n 0, 1) := by decide +kernel
theorem iX10_init_16 : ins MX10_init 16 = some (.new 16, 3) := by decide +kernel
theorem iX10_init_19 : ins MX10_init 19 = some (.dup, 1) := by decide +kernel
theorem iX10_init_20 : ins MX10_init 20 = some (.invokespecial 18, 3) := by decide +kernel
theorem iX10_init_23 : ins MX10_init 23 = some (.putfield 19, 3) := by decide +kernel
theorem iX10_init_26 : ins MX10_init 26 = some (.aload_n 0, 1) := by decide +kernel
theorem iX10_init_27 : ins MX10_init 27 = some (.new 23, 3) := by decide +kernel
theorem iX10_init_30 : ins MX10_init 30 = some (.dup, 1) := by decide +kernel
theorem iX10_init_31 : ins MX10_init 31 = some (.invokespecial 25, 3) := by decide +kernel
theorem iX10_init_34 : ins MX10_init 34 = some (.putfield 26, 3) := by decide +kernel
theorem iX10_init_37 : ins MX10_init 37 = some (.aload_n 0, 1) := by decide +kernel
theorem iX10_init_38 : ins MX10_init 38 = some (.new 30, 3) := by decide +kernel
theorem iX10_init_41 : ins MX10_init 41 = some (.dup, 1) := by decide +kernel
theorem iX10_init_42 : ins MX10_init 42 = some (.invokespecial 32, 3) := by decide +kernel
theorem iX10_init_45 : ins MX10_init 45 = some (.putfield 33, 3) := by decide +kernel
theorem iX10_init_48 : ins MX10_init 48 = some (.aload_n 0, 1) := by decide +kernel
theorem iX10_init_49 : ins MX10_init 49 = some (.new 37, 3) := by decide +kernel
theorem iX10_init_52 : ins MX10_init 52 = some (.dup, 1) := by decide +kernel
theorem iX10_init_53 : ins MX10_init 53 = some (.invokespecial 39, 3) := by decide +kernel
theorem iX10_init_56 : ins MX10_init 56 = some (.putfield 40, 3) := by decide +kernel
theorem iX10_init_59 : ins MX10_init 59 = some (.aload_n 0, 1) := by decide +kernel
theorem iX10_init_60 : ins MX10_init 60 = some (.new 44, 3) := by decide +kernel
theorem iX10_init_63 : ins MX10_init 63 = some (.dup, 1) := by decide +kernel
theorem iX10_init_64 : ins MX10_init 64 = some (.invokespecial 46, 3) := by decide +kernel
theorem iX10_init_67 : ins MX10_init 67 = some (.putfield 47, 3) := by decide +kernel
theorem iX10_init_70 : ins MX10_init 70 = some (.aload_n 0, 1) := by decide +kernel
theorem iX10_init_71 : ins MX10_init 71 = some (.new 44, 3) := by decide +kernel
theorem iX10_init_74 : ins MX10_init 74 = some (.dup, 1) := by decide +kernel
theorem iX10_init_75 : ins MX10_init 75 = some (.invokespecial 46, 3) := by decide +kernel
theorem iX10_init_78 : ins MX10_init 78 = some (.putfield 51, 3) := by decide +kernel
theorem iX10_init_81 : ins MX10_init 81 = some (.aload_n 0, 1) := by decide +kernel
theorem iX10_init_82 : ins MX10_init 82 = some (.aconst_null, 1) := by decide +kernel
theorem iX10_init_83 : ins MX10_init 83 = some (.putfield 54, 3) := by decide +kernel
theorem iX10_init_86 : ins MX10_init 86 = some (.return_, 1) := by decide +kernel
theorem iX10_isColour_0 : ins MX10_isColour 0 = some (.iload_n 0, 1) := by decide +kernel
theorem iX10_isColour_1 : ins MX10_isColour 1 = some (.ifCond .lt 13, 3) := by decide +kernel
theorem iX10_isColour_4 : ins MX10_isColour 4 = some (.iload_n 0, 1) := by decide +kernel
theorem iX10_isColour_5 : ins MX10_isColour 5 = some (.bipush 10, 2) := by decide +kernel
theorem iX10_isColour_7 : ins MX10_isColour 7 = some (.if_icmp .ge 7, 3) := by decide +kernel
theorem iX10_isColour_10 : ins MX10_isColour 10 = some (.iconst 1, 1) := by decide +kernel
theorem iX10_isColour_11 : ins MX10_isColour 11 = some (.goto 4, 3) := by decide +kernel
theorem iX10_isColour_14 : ins MX10_isColour 14 = some (.iconst 0, 1) := by decide +kernel
theorem iX10_isColour_15 : ins MX10_isColour 15 = some (.ireturn, 1) := by decide +kernel
theorem iX10_isSlot_0 : ins MX10_isSlot 0 = some (.iload_n 1, 1) := by decide +kernel
theorem iX10_isSlot_1 : ins MX10_isSlot 1 = some (.ifCond .lt 18, 3) := by decide +kernel
theorem iX10_isSlot_4 : ins MX10_isSlot 4 = some (.iload_n 1, 1) := by decide +kernel
theorem iX10_isSlot_5 : ins MX10_isSlot 5 = some (.aload_n 0, 1) := by decide +kernel
theorem iX10_isSlot_6 : ins MX10_isSlot 6 = some (.getfield 19, 3) := by decide +kernel
theorem iX10_isSlot_9 : ins MX10_isSlot 9 = some (.getfield 109, 3) := by decide +kernel
theorem iX10_isSlot_12 : ins MX10_isSlot 12 = some (.if_icmp .ge 7, 3) := by decide +kernel
theorem iX10_isSlot_15 : ins MX10_isSlot 15 = some (.iconst 1, 1) := by decide +kernel
theorem iX10_isSlot_16 : ins MX10_isSlot 16 = some (.goto 4, 3) := by decide +kernel
theorem iX10_isSlot_19 : ins MX10_isSlot 19 = some (.iconst 0, 1) := by decide +kernel
theorem iX10_isSlot_20 : ins MX10_isSlot 20 = some (.ireturn, 1) := by decide +kernel
theorem iX10_isSong_0 : ins MX10_isSong 0 = some (.iload_n 0, 1) := by decide +kernel
theorem iX10_isSong_1 : ins MX10_isSong 1 = some (.ifCond .lt 12, 3) := by decide +kernel
theorem iX10_isSong_4 : ins MX10_isSong 4 = some (.iload_n 0, 1) := by decide +kernel
theorem iX10_isSong_5 : ins MX10_isSong 5 = some (.iconst 4, 1) := by decide +kernel
theorem iX10_isSong_6 : ins MX10_isSong 6 = some (.if_icmp .ge 7, 3) := by decide +kernel
theorem iX10_isSong_9 : ins MX10_isSong 9 = some (.iconst 1, 1) := by decide +kernel
theorem iX10_isSong_10 : ins MX10_isSong 10 = some (.goto 4, 3) := by decide +kernel
theorem iX10_isSong_13 : ins MX10_isSong 13 = some (.iconst 0, 1) := by decide +kernel
theorem iX10_isSong_14 : ins MX10_isSong 14 = some (.ireturn, 1) := by decide +kernel
theorem iX10_lay_0 : ins MX10_lay 0 = some (.iload_n 1, 1) := by decide +kernel
theorem iX10_lay_1 : ins MX10_lay 1 = some (.invokestatic 106, 3) := by decide +kernel
theorem iX10_lay_4 : ins MX10_lay 4 = some (.ifCond .ne 5, 3) := by decide +kernel
theorem iX10_lay_7 : ins MX10_lay 7 = some (.iconst (-1), 1) := by decide +kernel
theorem iX10_lay_8 : ins MX10_lay 8 = some (.ireturn, 1) := by decide +kernel
theorem iX10_lay_9 : ins MX10_lay 9 = some (.aload_n 0, 1) := by decide +kernel
theorem iX10_lay_10 : ins MX10_lay 10 = some (.getfield 19, 3) := by decide +kernel
theorem iX10_lay_13 : ins MX10_lay 13 = some (.aload_n 0, 1) := by decide +kernel
theorem iX10_lay_14 : ins MX10_lay 14 = some (.getfield 19, 3) := by decide +kernel
theorem iX10_lay_17 : ins MX10_lay 17 = some (.getfield 115, 3) := by decide +kernel
theorem iX10_lay_20 : ins MX10_lay 20 = some (.iload_n 1, 1) := by decide +kernel
theorem iX10_lay_21 : ins MX10_lay 21 = some (.aaload, 1) := by decide +kernel
theorem iX10_lay_22 : ins MX10_lay 22 = some (.invokevirtual 226, 3) := by decide +kernel
theorem iX10_lay_25 : ins MX10_lay 25 = some (.ireturn, 1) := by decide +kernel
theorem iX10_look_0 : ins MX10_look 0 = some (.iload_n 1, 1) := by decide +kernel
theorem iX10_look_1 : ins MX10_look 1 = some (.bipush 10, 2) := by decide +kernel
theorem iX10_look_3 : ins MX10_look 3 = some (.if_icmp .lt 25, 3) := by decide +kernel
theorem iX10_look_6 : ins MX10_look 6 = some (.iload_n 1, 1) := by decide +kernel
theorem iX10_look_7 : ins MX10_look 7 = some (.bipush 14, 2) := by decide +kernel
theorem iX10_look_9 : ins MX10_look 9 = some (.if_icmp .ge 19, 3) := by decide +kernel
theorem iX10_look_12 : ins MX10_look 12 = some (.aload_n 0, 1) := by decide +kernel
theorem iX10_look_13 : ins MX10_look 13 = some (.getfield 19, 3) := by decide +kernel
theorem iX10_look_16 : ins MX10_look 16 = some (.getfield 115, 3) := by decide +kernel
theorem iX10_look_19 : ins MX10_look 19 = some (.iload_n 1, 1) := by decide +kernel
theorem iX10_look_20 : ins MX10_look 20 = some (.bipush 10, 2) := by decide +kernel
theorem iX10_look_22 : ins MX10_look 22 = some (.isub, 1) := by decide +kernel
theorem iX10_look_23 : ins MX10_look 23 = some (.aaload, 1) := by decide +kernel
theorem iX10_look_24 : ins MX10_look 24 = some (.getfield 129, 3) := by decide +kernel
theorem iX10_look_27 : ins MX10_look 27 = some (.ireturn, 1) := by decide +kernel
theorem iX10_look_28 : ins MX10_look 28 = some (.iload_n 1, 1) := by decide +kernel
theorem iX10_look_29 : ins MX10_look 29 = some (.bipush 20, 2) := by decide +kernel
theorem iX10_look_31 : ins MX10_look 31 = some (.if_icmp .lt 32, 3) := by decide +kernel
theorem iX10_look_34 : ins MX10_look 34 = some (.iload_n 1, 1) := by decide +kernel
theorem iX10_look_35 : ins MX10_look 35 = some (.bipush 20, 2) := by decide +kernel
theorem iX10_look_37 : ins MX10_look 37 = some (.aload_n 0, 1) := by decide +kernel
theorem iX10_look_38 : ins MX10_look 38 = some (.getfield 19, 3) := by decide +kernel
theorem iX10_look_41 : ins MX10_look 41 = some (.getfield 109, 3) := by decide +kernel
theorem iX10_look_44 : ins MX10_look 44 = some (.iadd, 1) := by decide +kernel
theorem iX10_look_45 : ins MX10_look 45 = some (.if_icmp .ge 18, 3) := by decide +kernel
theorem iX10_look_48 : ins MX10_look 48 = some (.aload_n 0, 1) := by decide +kernel
theorem iX10_look_49 : ins MX10_look 49 = some (.getfield 19, 3) := by decide +kernel
theorem iX10_look_52 : ins MX10_look 52 = some (.getfield 189, 3) := by decide +kernel
theorem iX10_look_55 : ins MX10_look 55 = some (.iload_n 1, 1) := by decide +kernel
theorem iX10_look_56 : ins MX10_look 56 = some (.bipush 20, 2) := by decide +kernel
theorem iX10_look_58 : ins MX10_look 58 = some (.isub, 1) := by decide +kernel
theorem iX10_look_59 : ins MX10_look 59 = some (.invokestatic 149, 3) := by decide +kernel
theorem iX10_look_62 : ins MX10_look 62 = some (.ireturn, 1) := by decide +kernel
theorem iX10_look_63 : ins MX10_look 63 = some (.iload_n 1, 1) := by decide +kernel
theorem iX10_look_64 : ins MX10_look 64 = some (.bipush 40, 2) := by decide +kernel
theorem iX10_look_66 : ins MX10_look 66 = some (.if_icmp .lt 22, 3) := by decide +kernel
theorem iX10_look_69 : ins MX10_look 69 = some (.iload_n 1, 1) := by decide +kernel
theorem iX10_look_70 : ins MX10_look 70 = some (.bipush 70, 2) := by decide +kernel
theorem iX10_look_72 : ins MX10_look 72 = some (.if_icmp .ge 16, 3) := by decide +kernel
theorem iX10_look_75 : ins MX10_look 75 = some (.aload_n 0, 1) := by decide +kernel
theorem iX10_look_76 : ins MX10_look 76 = some (.getfield 19, 3) := by decide +kernel
theorem iX10_look_79 : ins MX10_look 79 = some (.getfield 223, 3) := by decide +kernel
theorem iX10_look_82 : ins MX10_look 82 = some (.iload_n 1, 1) := by decide +kernel
theorem iX10_look_83 : ins MX10_look 83 = some (.bipush 40, 2) := by decide +kernel
theorem iX10_look_85 : ins MX10_look 85 = some (.isub, 1) := by decide +kernel
theorem iX10_look_86 : ins MX10_look 86 = some (.iaload, 1) := by decide +kernel
theorem iX10_look_87 : ins MX10_look 87 = some (.ireturn, 1) := by decide +kernel
theorem iX10_look_88 : ins MX10_look 88 = some (.iload_n 1, 1) := by decide +kernel
theorem iX10_look_89 : ins MX10_look 89 = some (.tableswitch 96 0 5 #[39, 47, 55, 66, 77, 88], 39) := by decide +kernel
theorem iX10_look_128 : ins MX10_look 128 = some (.aload_n 0, 1) := by decide +kernel
theorem iX10_look_129 : ins MX10_look 129 = some (.getfield 19, 3) := by decide +kernel
theorem iX10_look_132 : ins MX10_look 132 = some (.getfield 109, 3) := by decide +kernel
theorem iX10_look_135 : ins MX10_look 135 = some (.ireturn, 1) := by decide +kernel
theorem iX10_look_136 : ins MX10_look 136 = some (.aload_n 0, 1) := by decide +kernel
theorem iX10_look_137 : ins MX10_look 137 = some (.getfield 19, 3) := by decide +kernel
theorem iX10_look_140 : ins MX10_look 140 = some (.getfield 88, 3) := by decide +kernel
theorem iX10_look_143 : ins MX10_look 143 = some (.ireturn, 1) := by decide +kernel
theorem iX10_look_144 : ins MX10_look 144 = some (.aload_n 0, 1) := by decide +kernel
theorem iX10_look_145 : ins MX10_look 145 = some (.getfield 19, 3) := by decide +kernel
theorem iX10_look_148 : ins MX10_look 148 = some (.getfield 57, 3) := by decide +kernel
theorem iX10_look_151 : ins MX10_look 151 = some (.getfield 165, 3) := by decide +kernel
theorem iX10_look_154 : ins MX10_look 154 = some (.ireturn, 1) := by decide +kernel
theorem iX10_look_155 : ins MX10_look 155 = some (.aload_n 0, 1) := by decide +kernel
theorem iX10_look_156 : ins MX10_look 156 = some (.getfield 19, 3) := by decide +kernel
theorem iX10_look_159 : ins MX10_look 159 = some (.getfield 57, 3) := by decide +kernel
theorem iX10_look_162 : ins MX10_look 162 = some (.getfield 263, 3) := by decide +kernel
theorem iX10_look_165 : ins MX10_look 165 = some (.ireturn, 1) := by decide +kernel
theorem iX10_look_166 : ins MX10_look 166 = some (.aload_n 0, 1) := by decide +kernel
theorem iX10_look_167 : ins MX10_look 167 = some (.getfield 19, 3) := by decide +kernel
theorem iX10_look_170 : ins MX10_look 170 = some (.getfield 57, 3) := by decide +kernel
theorem iX10_look_173 : ins MX10_look 173 = some (.getfield 60, 3) := by decide +kernel
theorem iX10_look_176 : ins MX10_look 176 = some (.ireturn, 1) := by decide +kernel
theorem iX10_look_177 : ins MX10_look 177 = some (.aload_n 0, 1) := by decide +kernel
theorem iX10_look_178 : ins MX10_look 178 = some (.getfield 26, 3) := by decide +kernel
theorem iX10_look_181 : ins MX10_look 181 = some (.getfield 266, 3) := by decide +kernel
theorem iX10_look_184 : ins MX10_look 184 = some (.ireturn, 1) := by decide +kernel
theorem iX10_look_185 : ins MX10_look 185 = some (.iconst (-1), 1) := by decide +kernel
theorem iX10_look_186 : ins MX10_look 186 = some (.ireturn, 1) := by decide +kernel
theorem iX10_loops_0 : ins MX10_loops 0 = some (.iload_n 1, 1) := by decide +kernel
theorem iX10_loops_1 : ins MX10_loops 1 = some (.iconst (-1), 1) := by decide +kernel
theorem iX10_loops_2 : ins MX10_loops 2 = some (.if_icmp .ne 8, 3) := by decide +kernel
theorem iX10_loops_5 : ins MX10_loops 5 = some (.aload_n 0, 1) := by decide +kernel
theorem iX10_loops_6 : ins MX10_loops 6 = some (.invokevirtual 232, 3) := by decide +kernel
theorem iX10_loops_9 : ins MX10_loops 9 = some (.ireturn, 1) := by decide +kernel
theorem iX10_loops_10 : ins MX10_loops 10 = some (.aload_n 0, 1) := by decide +kernel
theorem iX10_loops_11 : ins MX10_loops 11 = some (.iload_n 1, 1) := by decide +kernel
theorem iX10_loops_12 : ins MX10_loops 12 = some (.invokevirtual 71, 3) := by decide +kernel
theorem iX10_loops_15 : ins MX10_loops 15 = some (.ifCond .eq 14, 3) := by decide +kernel
theorem iX10_loops_18 : ins MX10_loops 18 = some (.aload_n 0, 1) := by decide +kernel
theorem iX10_loops_19 : ins MX10_loops 19 = some (.iload_n 1, 1) := by decide +kernel
theorem iX10_loops_20 : ins MX10_loops 20 = some (.invokevirtual 236, 3) := by decide +kernel
theorem iX10_loops_23 : ins MX10_loops 23 = some (.invokestatic 239, 3) := by decide +kernel
theorem iX10_loops_26 : ins MX10_loops 26 = some (.goto 4, 3) := by decide +kernel
theorem iX10_loops_29 : ins MX10_loops 29 = some (.iconst (-1), 1) := by decide +kernel
theorem iX10_loops_30 : ins MX10_loops 30 = some (.ireturn, 1) := by decide +kernel
theorem iX10_name_0 : ins MX10_name 0 = some (.iload_n 1, 1) := by decide +kernel
theorem iX10_name_1 : ins MX10_name 1 = some (.ifCond .lt 21, 3) := by decide +kernel
theorem iX10_name_4 : ins MX10_name 4 = some (.iload_n 1, 1) := by decide +kernel
theorem iX10_name_5 : ins MX10_name 5 = some (.bipush 30, 2) := by decide +kernel
theorem iX10_name_7 : ins MX10_name 7 = some (.if_icmp .ge 15, 3) := by decide +kernel
theorem iX10_name_10 : ins MX10_name 10 = some (.iload_n 2, 1) := by decide +kernel
theorem iX10_name_11 : ins MX10_name 11 = some (.iconst (-1), 1) := by decide +kernel
theorem iX10_name_12 : ins MX10_name 12 = some (.if_icmp .eq 12, 3) := by decide +kernel
theorem iX10_name_15 : ins MX10_name 15 = some (.iload_n 2, 1) := by decide +kernel
theorem iX10_name_16 : ins MX10_name 16 = some (.invokestatic 75, 3) := by decide +kernel
theorem iX10_name_19 : ins MX10_name 19 = some (.ifCond .ne 5, 3) := by decide +kernel
theorem iX10_name_22 : ins MX10_name 22 = some (.iconst 0, 1) := by decide +kernel
theorem iX10_name_23 : ins MX10_name 23 = some (.ireturn, 1) := by decide +kernel
theorem iX10_name_24 : ins MX10_name 24 = some (.aload_n 0, 1) := by decide +kernel
theorem iX10_name_25 : ins MX10_name 25 = some (.getfield 19, 3) := by decide +kernel
theorem iX10_name_28 : ins MX10_name 28 = some (.getfield 223, 3) := by decide +kernel
theorem iX10_name_31 : ins MX10_name 31 = some (.iload_n 1, 1) := by decide +kernel
theorem iX10_name_32 : ins MX10_name 32 = some (.iload_n 2, 1) := by decide +kernel
theorem iX10_name_33 : ins MX10_name 33 = some (.iastore, 1) := by decide +kernel
theorem iX10_name_34 : ins MX10_name 34 = some (.iconst 1, 1) := by decide +kernel
theorem iX10_name_35 : ins MX10_name 35 = some (.ireturn, 1) := by decide +kernel
theorem iX10_of_0 : ins MX10_of 0 = some (.aload_n 0, 1) := by decide +kernel
theorem iX10_of_1 : ins MX10_of 1 = some (.iload_n 1, 1) := by decide +kernel
theorem iX10_of_2 : ins MX10_of 2 = some (.invokevirtual 71, 3) := by decide +kernel
theorem iX10_of_5 : ins MX10_of 5 = some (.ifCond .ne 5, 3) := by decide +kernel
theorem iX10_of_8 : ins MX10_of 8 = some (.iconst (-1), 1) := by decide +kernel
theorem iX10_of_9 : ins MX10_of 9 = some (.ireturn, 1) := by decide +kernel
theorem iX10_of_10 : ins MX10_of 10 = some (.iload_n 2, 1) := by decide +kernel
theorem iX10_of_11 : ins MX10_of 11 = some (.tableswitch 72 0 2 #[25, 47, 59], 25) := by decide +kernel
theorem iX10_of_36 : ins MX10_of 36 = some (.aload_n 0, 1) := by decide +kernel
theorem iX10_of_37 : ins MX10_of 37 = some (.getfield 19, 3) := by decide +kernel
theorem iX10_of_40 : ins MX10_of 40 = some (.getfield 57, 3) := by decide +kernel
theorem iX10_of_43 : ins MX10_of 43 = some (.getfield 146, 3) := by decide +kernel
theorem iX10_of_46 : ins MX10_of 46 = some (.iload_n 1, 1) := by decide +kernel
theorem iX10_of_47 : ins MX10_of 47 = some (.aload_n 0, 1) := by decide +kernel
theorem iX10_of_48 : ins MX10_of 48 = some (.getfield 19, 3) := by decide +kernel
theorem iX10_of_51 : ins MX10_of 51 = some (.getfield 109, 3) := by decide +kernel
theorem iX10_of_54 : ins MX10_of 54 = some (.invokestatic 153, 3) := by decide +kernel
theorem iX10_of_57 : ins MX10_of 57 = some (.ireturn, 1) := by decide +kernel
theorem iX10_of_58 : ins MX10_of 58 = some (.aload_n 0, 1) := by decide +kernel
theorem iX10_of_59 : ins MX10_of 59 = some (.getfield 19, 3) := by decide +kernel
theorem iX10_of_62 : ins MX10_of 62 = some (.getfield 78, 3) := by decide +kernel
theorem iX10_of_65 : ins MX10_of 65 = some (.iload_n 1, 1) := by decide +kernel
theorem iX10_of_66 : ins MX10_of 66 = some (.invokestatic 149, 3) := by decide +kernel
theorem iX10_of_69 : ins MX10_of 69 = some (.ireturn, 1) := by decide +kernel
theorem iX10_of_70 : ins MX10_of 70 = some (.aload_n 0, 1) := by decide +kernel
theorem iX10_of_71 : ins MX10_of 71 = some (.getfield 19, 3) := by decide +kernel
theorem iX10_of_74 : ins MX10_of 74 = some (.getfield 57, 3) := by decide +kernel
theorem iX10_of_77 : ins MX10_of 77 = some (.getfield 157, 3) := by decide +kernel
theorem iX10_of_80 : ins MX10_of 80 = some (.iload_n 1, 1) := by decide +kernel
theorem iX10_of_81 : ins MX10_of 81 = some (.iaload, 1) := by decide +kernel
theorem iX10_of_82 : ins MX10_of 82 = some (.ireturn, 1) := by decide +kernel
theorem iX10_of_83 : ins MX10_of 83 = some (.iconst (-1), 1) := by decide +kernel
theorem iX10_of_84 : ins MX10_of 84 = some (.ireturn, 1) := by decide +kernel
theorem iX10_oneOfThree_0 : ins MX10_oneOfThree 0 = some (.iload_n 0, 1) := by decide +kernel
theorem iX10_oneOfThree_1 : ins MX10_oneOfThree 1 = some (.ifCond .ne 5, 3) := by decide +kernel
theorem iX10_oneOfThree_4 : ins MX10_oneOfThree 4 = some (.iload_n 1, 1) := by decide +kernel
theorem iX10_oneOfThree_5 : ins MX10_oneOfThree 5 = some (.ireturn, 1) := by decide +kernel
theorem iX10_oneOfThree_6 : ins MX10_oneOfThree 6 = some (.iload_n 0, 1) := by decide +kernel
theorem iX10_oneOfThree_7 : ins MX10_oneOfThree 7 = some (.iconst 1, 1) := by decide +kernel
theorem iX10_oneOfThree_8 : ins MX10_oneOfThree 8 = some (.if_icmp .ne 7, 3) := by decide +kernel
theorem iX10_oneOfThree_11 : ins MX10_oneOfThree 11 = some (.iload_n 2, 1) := by decide +kernel
theorem iX10_oneOfThree_12 : ins MX10_oneOfThree 12 = some (.goto 4, 3) := by decide +kernel
theorem iX10_oneOfThree_15 : ins MX10_oneOfThree 15 = some (.iload_n 3, 1) := by decide +kernel
theorem iX10_oneOfThree_16 : ins MX10_oneOfThree 16 = some (.ireturn, 1) := by decide +kernel
theorem iX10_outside_0 : ins MX10_outside 0 = some (.iload_n 1, 1) := by decide +kernel
theorem iX10_outside_1 : ins MX10_outside 1 = some (.ifCond .lt 26, 3) := by decide +kernel
theorem iX10_outside_4 : ins MX10_outside 4 = some (.iload_n 1, 1) := by decide +kernel
theorem iX10_outside_5 : ins MX10_outside 5 = some (.aload_n 0, 1) := by decide +kernel
theorem iX10_outside_6 : ins MX10_outside 6 = some (.getfield 19, 3) := by decide +kernel
theorem iX10_outside_9 : ins MX10_outside 9 = some (.getfield 57, 3) := by decide +kernel
theorem iX10_outside_12 : ins MX10_outside 12 = some (.getfield 165, 3) := by decide +kernel
theorem iX10_outside_15 : ins MX10_outside 15 = some (.if_icmp .ge 12, 3) := by decide +kernel
theorem iX10_outside_18 : ins MX10_outside 18 = some (.iload_n 2, 1) := by decide +kernel
theorem iX10_outside_19 : ins MX10_outside 19 = some (.ifCond .lt 8, 3) := by decide +kernel
theorem iX10_outside_22 : ins MX10_outside 22 = some (.iload_n 2, 1) := by decide +kernel
theorem iX10_outside_23 : ins MX10_outside 23 = some (.iconst 1, 1) := by decide +kernel
theorem iX10_outside_24 : ins MX10_outside 24 = some (.if_icmp .le 5, 3) := by decide +kernel
theorem iX10_outside_27 : ins MX10_outside 27 = some (.iconst (-1), 1) := by decide +kernel
theorem iX10_outside_28 : ins MX10_outside 28 = some (.ireturn, 1) := by decide +kernel
theorem iX10_outside_29 : ins MX10_outside 29 = some (.aload_n 0, 1) := by decide +kernel
theorem iX10_outside_30 : ins MX10_outside 30 = some (.getfield 19, 3) := by decide +kernel
theorem iX10_outside_33 : ins MX10_outside 33 = some (.iload_n 1, 1) := by decide +kernel
theorem iX10_outside_34 : ins MX10_outside 34 = some (.iload_n 2, 1) := by decide +kernel
theorem iX10_outside_35 : ins MX10_outside 35 = some (.invokevirtual 168, 3) := by decide +kernel
theorem iX10_outside_38 : ins MX10_outside 38 = some (.ireturn, 1) := by decide +kernel
theorem iX10_over_0 : ins MX10_over 0 = some (.aload_n 0, 1) := by decide +kernel
theorem iX10_over_1 : ins MX10_over 1 = some (.iload_n 1, 1) := by decide +kernel
theorem iX10_over_2 : ins MX10_over 2 = some (.invokevirtual 71, 3) := by decide +kernel
theorem iX10_over_5 : ins MX10_over 5 = some (.ifCond .eq 16, 3) := by decide +kernel
theorem iX10_over_8 : ins MX10_over 8 = some (.aload_n 0, 1) := by decide +kernel
theorem iX10_over_9 : ins MX10_over 9 = some (.iload_n 2, 1) := by decide +kernel
theorem iX10_over_10 : ins MX10_over 10 = some (.invokevirtual 71, 3) := by decide +kernel
theorem iX10_over_13 : ins MX10_over 13 = some (.ifCond .eq 8, 3) := by decide +kernel
theorem iX10_over_16 : ins MX10_over 16 = some (.iload_n 1, 1) := by decide +kernel
theorem iX10_over_17 : ins MX10_over 17 = some (.iload_n 2, 1) := by decide +kernel
theorem iX10_over_18 : ins MX10_over 18 = some (.if_icmp .ne 5, 3) := by decide +kernel
theorem iX10_over_21 : ins MX10_over 21 = some (.iconst (-1), 1) := by decide +kernel
theorem iX10_over_22 : ins MX10_over 22 = some (.ireturn, 1) := by decide +kernel
theorem iX10_over_23 : ins MX10_over 23 = some (.aload_n 0, 1) := by decide +kernel
theorem iX10_over_24 : ins MX10_over 24 = some (.getfield 19, 3) := by decide +kernel
theorem iX10_over_27 : ins MX10_over 27 = some (.getfield 57, 3) := by decide +kernel
theorem iX10_over_30 : ins MX10_over 30 = some (.iload_n 1, 1) := by decide +kernel
theorem iX10_over_31 : ins MX10_over 31 = some (.iload_n 2, 1) := by decide +kernel
theorem iX10_over_32 : ins MX10_over 32 = some (.invokevirtual 161, 3) := by decide +kernel
theorem iX10_over_35 : ins MX10_over 35 = some (.ireturn, 1) := by decide +kernel
theorem iX10_period_0 : ins MX10_period 0 = some (.iload_n 1, 1) := by decide +kernel
theorem iX10_period_1 : ins MX10_period 1 = some (.ifCond .lt 8, 3) := by decide +kernel
theorem iX10_period_4 : ins MX10_period 4 = some (.iload_n 1, 1) := by decide +kernel
theorem iX10_period_5 : ins MX10_period 5 = some (.iconst 1, 1) := by decide +kernel
theorem iX10_period_6 : ins MX10_period 6 = some (.if_icmp .le 5, 3) := by decide +kernel
theorem iX10_period_9 : ins MX10_period 9 = some (.iconst (-1), 1) := by decide +kernel
theorem iX10_period_10 : ins MX10_period 10 = some (.ireturn, 1) := by decide +kernel
theorem iX10_period_11 : ins MX10_period 11 = some (.iconst 1, 1) := by decide +kernel
theorem iX10_period_12 : ins MX10_period 12 = some (.istore_n 2, 1) := by decide +kernel
theorem iX10_period_13 : ins MX10_period 13 = some (.iload_n 2, 1) := by decide +kernel
theorem iX10_period_14 : ins MX10_period 14 = some (.aload_n 0, 1) := by decide +kernel
theorem iX10_period_15 : ins MX10_period 15 = some (.getfield 19, 3) := by decide +kernel
theorem iX10_period_18 : ins MX10_period 18 = some (.getfield 57, 3) := by decide +kernel
theorem iX10_period_21 : ins MX10_period 21 = some (.getfield 165, 3) := by decide +kernel
theorem iX10_period_24 : ins MX10_period 24 = some (.if_icmp .ge 23, 3) := by decide +kernel
theorem iX10_period_27 : ins MX10_period 27 = some (.aload_n 0, 1) := by decide +kernel
theorem iX10_period_28 : ins MX10_period 28 = some (.getfield 19, 3) := by decide +kernel
theorem iX10_period_31 : ins MX10_period 31 = some (.iload_n 2, 1) := by decide +kernel
theorem iX10_period_32 : ins MX10_period 32 = some (.iload_n 1, 1) := by decide +kernel
theorem iX10_period_33 : ins MX10_period 33 = some (.invokevirtual 253, 3) := by decide +kernel
theorem iX10_period_36 : ins MX10_period 36 = some (.ifCond .eq 5, 3) := by decide +kernel
theorem iX10_period_39 : ins MX10_period 39 = some (.iload_n 2, 1) := by decide +kernel
theorem iX10_period_40 : ins MX10_period 40 = some (.ireturn, 1) := by decide +kernel
theorem iX10_period_41 : ins MX10_period 41 = some (.iinc 2 1, 3) := by decide +kernel
theorem iX10_period_44 : ins MX10_period 44 = some (.goto (-31), 3) := by decide +kernel
theorem iX10_period_47 : ins MX10_period 47 = some (.aload_n 0, 1) := by decide +kernel
theorem iX10_period_48 : ins MX10_period 48 = some (.getfield 19, 3) := by decide +kernel
theorem iX10_period_51 : ins MX10_period 51 = some (.getfield 57, 3) := by decide +kernel
theorem iX10_period_54 : ins MX10_period 54 = some (.getfield 165, 3) := by decide +kernel
theorem iX10_period_57 : ins MX10_period 57 = some (.ireturn, 1) := by decide +kernel
theorem iX10_pulled_0 : ins MX10_pulled 0 = some (.iload_n 1, 1) := by decide +kernel
theorem iX10_pulled_1 : ins MX10_pulled 1 = some (.iconst (-1), 1) := by decide +kernel
theorem iX10_pulled_2 : ins MX10_pulled 2 = some (.if_icmp .ge 5, 3) := by decide +kernel
theorem iX10_pulled_5 : ins MX10_pulled 5 = some (.iconst (-1), 1) := by decide +kernel
theorem iX10_pulled_6 : ins MX10_pulled 6 = some (.ireturn, 1) := by decide +kernel
theorem iX10_pulled_7 : ins MX10_pulled 7 = some (.iconst 1, 1) := by decide +kernel
theorem iX10_pulled_8 : ins MX10_pulled 8 = some (.aload_n 0, 1) := by decide +kernel
theorem iX10_pulled_9 : ins MX10_pulled 9 = some (.getfield 19, 3) := by decide +kernel
theorem iX10_pulled_12 : ins MX10_pulled 12 = some (.getfield 109, 3) := by decide +kernel
theorem iX10_pulled_15 : ins MX10_pulled 15 = some (.ishl, 1) := by decide +kernel
theorem iX10_pulled_16 : ins MX10_pulled 16 = some (.iconst 1, 1) := by decide +kernel
theorem iX10_pulled_17 : ins MX10_pulled 17 = some (.isub, 1) := by decide +kernel
theorem iX10_pulled_18 : ins MX10_pulled 18 = some (.istore_n 2, 1) := by decide +kernel
theorem iX10_pulled_19 : ins MX10_pulled 19 = some (.iconst 0, 1) := by decide +kernel
theorem iX10_pulled_20 : ins MX10_pulled 20 = some (.istore_n 3, 1) := by decide +kernel
theorem iX10_pulled_21 : ins MX10_pulled 21 = some (.iconst 0, 1) := by decide +kernel
theorem iX10_pulled_22 : ins MX10_pulled 22 = some (.istore 4, 2) := by decide +kernel
theorem iX10_pulled_24 : ins MX10_pulled 24 = some (.iload 4, 2) := by decide +kernel
theorem iX10_pulled_26 : ins MX10_pulled 26 = some (.aload_n 0, 1) := by decide +kernel
theorem iX10_pulled_27 : ins MX10_pulled 27 = some (.getfield 19, 3) := by decide +kernel
theorem iX10_pulled_30 : ins MX10_pulled 30 = some (.getfield 109, 3) := by decide +kernel
theorem iX10_pulled_33 : ins MX10_pulled 33 = some (.if_icmp .ge 58, 3) := by decide +kernel
theorem iX10_pulled_36 : ins MX10_pulled 36 = some (.aload_n 0, 1) := by decide +kernel
theorem iX10_pulled_37 : ins MX10_pulled 37 = some (.getfield 19, 3) := by decide +kernel
theorem iX10_pulled_40 : ins MX10_pulled 40 = some (.getfield 57, 3) := by decide +kernel
theorem iX10_pulled_43 : ins MX10_pulled 43 = some (.iload_n 2, 1) := by decide +kernel
theorem iX10_pulled_44 : ins MX10_pulled 44 = some (.aload_n 0, 1) := by decide +kernel
theorem iX10_pulled_45 : ins MX10_pulled 45 = some (.getfield 19, 3) := by decide +kernel
theorem iX10_pulled_48 : ins MX10_pulled 48 = some (.getfield 109, 3) := by decide +kernel
theorem iX10_pulled_51 : ins MX10_pulled 51 = some (.invokevirtual 229, 3) := by decide +kernel
theorem iX10_pulled_54 : ins MX10_pulled 54 = some (.istore 5, 2) := by decide +kernel
theorem iX10_pulled_56 : ins MX10_pulled 56 = some (.iload 5, 2) := by decide +kernel
theorem iX10_pulled_58 : ins MX10_pulled 58 = some (.iconst (-1), 1) := by decide +kernel
theorem iX10_pulled_59 : ins MX10_pulled 59 = some (.if_icmp .ne 6, 3) := by decide +kernel
theorem iX10_pulled_62 : ins MX10_pulled 62 = some (.goto 29, 3) := by decide +kernel
theorem iX10_pulled_65 : ins MX10_pulled 65 = some (.iload_n 3, 1) := by decide +kernel
theorem iX10_pulled_66 : ins MX10_pulled 66 = some (.iload_n 1, 1) := by decide +kernel
theorem iX10_pulled_67 : ins MX10_pulled 67 = some (.if_icmp .ne 6, 3) := by decide +kernel
theorem iX10_pulled_70 : ins MX10_pulled 70 = some (.iload 5, 2) := by decide +kernel
theorem iX10_pulled_72 : ins MX10_pulled 72 = some (.ireturn, 1) := by decide +kernel
theorem iX10_pulled_73 : ins MX10_pulled 73 = some (.iload_n 2, 1) := by decide +kernel
theorem iX10_pulled_74 : ins MX10_pulled 74 = some (.iconst 1, 1) := by decide +kernel
theorem iX10_pulled_75 : ins MX10_pulled 75 = some (.iload 5, 2) := by decide +kernel
theorem iX10_pulled_77 : ins MX10_pulled 77 = some (.ishl, 1) := by decide +kernel
theorem iX10_pulled_78 : ins MX10_pulled 78 = some (.iconst (-1), 1) := by decide +kernel
theorem iX10_pulled_79 : ins MX10_pulled 79 = some (.ixor, 1) := by decide +kernel
theorem iX10_pulled_80 : ins MX10_pulled 80 = some (.iand, 1) := by decide +kernel
theorem iX10_pulled_81 : ins MX10_pulled 81 = some (.istore_n 2, 1) := by decide +kernel
theorem iX10_pulled_82 : ins MX10_pulled 82 = some (.iinc 3 1, 3) := by decide +kernel
theorem iX10_pulled_85 : ins MX10_pulled 85 = some (.iinc 4 1, 3) := by decide +kernel
theorem iX10_pulled_88 : ins MX10_pulled 88 = some (.goto (-64), 3) := by decide +kernel
theorem iX10_pulled_91 : ins MX10_pulled 91 = some (.iload_n 1, 1) := by decide +kernel
theorem iX10_pulled_92 : ins MX10_pulled 92 = some (.iconst (-1), 1) := by decide +kernel
theorem iX10_pulled_93 : ins MX10_pulled 93 = some (.if_icmp .ne 7, 3) := by decide +kernel
theorem iX10_pulled_96 : ins MX10_pulled 96 = some (.iload_n 3, 1) := by decide +kernel
theorem iX10_pulled_97 : ins MX10_pulled 97 = some (.goto 4, 3) := by decide +kernel
theorem iX10_pulled_100 : ins MX10_pulled 100 = some (.iconst (-1), 1) := by decide +kernel
theorem iX10_pulled_101 : ins MX10_pulled 101 = some (.ireturn, 1) := by decide +kernel
theorem iX10_ringOf_0 : ins MX10_ringOf 0 = some (.iconst 0, 1) := by decide +kernel
theorem iX10_ringOf_1 : ins MX10_ringOf 1 = some (.istore_n 2, 1) := by decide +kernel
theorem iX10_ringOf_2 : ins MX10_ringOf 2 = some (.iload_n 1, 1) := by decide +kernel
theorem iX10_ringOf_3 : ins MX10_ringOf 3 = some (.istore_n 3, 1) := by decide +kernel
theorem iX10_ringOf_4 : ins MX10_ringOf 4 = some (.iconst 0, 1) := by decide +kernel
theorem iX10_ringOf_5 : ins MX10_ringOf 5 = some (.istore 4, 2) := by decide +kernel
theorem iX10_ringOf_7 : ins MX10_ringOf 7 = some (.iload 4, 2) := by decide +kernel
theorem iX10_ringOf_9 : ins MX10_ringOf 9 = some (.aload_n 0, 1) := by decide +kernel
theorem iX10_ringOf_10 : ins MX10_ringOf 10 = some (.getfield 19, 3) := by decide +kernel
theorem iX10_ringOf_13 : ins MX10_ringOf 13 = some (.getfield 109, 3) := by decide +kernel
theorem iX10_ringOf_16 : ins MX10_ringOf 16 = some (.if_icmp .ge 37, 3) := by decide +kernel
theorem iX10_ringOf_19 : ins MX10_ringOf 19 = some (.iload_n 2, 1) := by decide +kernel
theorem iX10_ringOf_20 : ins MX10_ringOf 20 = some (.iconst 1, 1) := by decide +kernel
theorem iX10_ringOf_21 : ins MX10_ringOf 21 = some (.iload_n 3, 1) := by decide +kernel
theorem iX10_ringOf_22 : ins MX10_ringOf 22 = some (.ishl, 1) := by decide +kernel
theorem iX10_ringOf_23 : ins MX10_ringOf 23 = some (.ior, 1) := by decide +kernel
theorem iX10_ringOf_24 : ins MX10_ringOf 24 = some (.istore_n 2, 1) := by decide +kernel
theorem iX10_ringOf_25 : ins MX10_ringOf 25 = some (.aload_n 0, 1) := by decide +kernel
theorem iX10_ringOf_26 : ins MX10_ringOf 26 = some (.getfield 19, 3) := by decide +kernel
theorem iX10_ringOf_29 : ins MX10_ringOf 29 = some (.getfield 57, 3) := by decide +kernel
theorem iX10_ringOf_32 : ins MX10_ringOf 32 = some (.getfield 146, 3) := by decide +kernel
theorem iX10_ringOf_35 : ins MX10_ringOf 35 = some (.iload_n 3, 1) := by decide +kernel
theorem iX10_ringOf_36 : ins MX10_ringOf 36 = some (.aload_n 0, 1) := by decide +kernel
theorem iX10_ringOf_37 : ins MX10_ringOf 37 = some (.getfield 19, 3) := by decide +kernel
theorem iX10_ringOf_40 : ins MX10_ringOf 40 = some (.getfield 109, 3) := by decide +kernel
theorem iX10_ringOf_43 : ins MX10_ringOf 43 = some (.invokestatic 153, 3) := by decide +kernel
theorem iX10_ringOf_46 : ins MX10_ringOf 46 = some (.istore_n 3, 1) := by decide +kernel
theorem iX10_ringOf_47 : ins MX10_ringOf 47 = some (.iinc 4 1, 3) := by decide +kernel
theorem iX10_ringOf_50 : ins MX10_ringOf 50 = some (.goto (-43), 3) := by decide +kernel
theorem iX10_ringOf_53 : ins MX10_ringOf 53 = some (.iload_n 2, 1) := by decide +kernel
theorem iX10_ringOf_54 : ins MX10_ringOf 54 = some (.ireturn, 1) := by decide +kernel
theorem iX10_sing_0 : ins MX10_sing 0 = some (.iload_n 1, 1) := by decide +kernel
theorem iX10_sing_1 : ins MX10_sing 1 = some (.invokestatic 106, 3) := by decide +kernel
theorem iX10_sing_4 : ins MX10_sing 4 = some (.ifCond .eq 14, 3) := by decide +kernel
theorem iX10_sing_7 : ins MX10_sing 7 = some (.iload_n 2, 1) := by decide +kernel
theorem iX10_sing_8 : ins MX10_sing 8 = some (.iconst 1, 1) := by decide +kernel
theorem iX10_sing_9 : ins MX10_sing 9 = some (.if_icmp .lt 9, 3) := by decide +kernel
theorem iX10_sing_12 : ins MX10_sing 12 = some (.iload_n 2, 1) := by decide +kernel
theorem iX10_sing_13 : ins MX10_sing 13 = some (.bipush 50, 2) := by decide +kernel
theorem iX10_sing_15 : ins MX10_sing 15 = some (.if_icmp .le 5, 3) := by decide +kernel
theorem iX10_sing_18 : ins MX10_sing 18 = some (.iconst (-1), 1) := by decide +kernel
theorem iX10_sing_19 : ins MX10_sing 19 = some (.ireturn, 1) := by decide +kernel
theorem iX10_sing_20 : ins MX10_sing 20 = some (.iconst 0, 1) := by decide +kernel
theorem iX10_sing_21 : ins MX10_sing 21 = some (.istore_n 3, 1) := by decide +kernel
theorem iX10_sing_22 : ins MX10_sing 22 = some (.iconst 0, 1) := by decide +kernel
theorem iX10_sing_23 : ins MX10_sing 23 = some (.istore 4, 2) := by decide +kernel
theorem iX10_sing_25 : ins MX10_sing 25 = some (.iload 4, 2) := by decide +kernel
theorem iX10_sing_27 : ins MX10_sing 27 = some (.iload_n 2, 1) := by decide +kernel
theorem iX10_sing_28 : ins MX10_sing 28 = some (.if_icmp .ge 42, 3) := by decide +kernel
theorem iX10_sing_31 : ins MX10_sing 31 = some (.aload_n 0, 1) := by decide +kernel
theorem iX10_sing_32 : ins MX10_sing 32 = some (.getfield 26, 3) := by decide +kernel
theorem iX10_sing_35 : ins MX10_sing 35 = some (.aload_n 0, 1) := by decide +kernel
theorem iX10_sing_36 : ins MX10_sing 36 = some (.getfield 19, 3) := by decide +kernel
theorem iX10_sing_39 : ins MX10_sing 39 = some (.getfield 57, 3) := by decide +kernel
theorem iX10_sing_42 : ins MX10_sing 42 = some (.invokevirtual 138, 3) := by decide +kernel
theorem iX10_sing_45 : ins MX10_sing 45 = some (.iload_n 3, 1) := by decide +kernel
theorem iX10_sing_46 : ins MX10_sing 46 = some (.aload_n 0, 1) := by decide +kernel
theorem iX10_sing_47 : ins MX10_sing 47 = some (.getfield 19, 3) := by decide +kernel
theorem iX10_sing_50 : ins MX10_sing 50 = some (.aload_n 0, 1) := by decide +kernel
theorem iX10_sing_51 : ins MX10_sing 51 = some (.getfield 19, 3) := by decide +kernel
theorem iX10_sing_54 : ins MX10_sing 54 = some (.getfield 115, 3) := by decide +kernel
theorem iX10_sing_57 : ins MX10_sing 57 = some (.iload_n 1, 1) := by decide +kernel
theorem iX10_sing_58 : ins MX10_sing 58 = some (.aaload, 1) := by decide +kernel
theorem iX10_sing_59 : ins MX10_sing 59 = some (.invokevirtual 142, 3) := by decide +kernel
theorem iX10_sing_62 : ins MX10_sing 62 = some (.iadd, 1) := by decide +kernel
theorem iX10_sing_63 : ins MX10_sing 63 = some (.istore_n 3, 1) := by decide +kernel
theorem iX10_sing_64 : ins MX10_sing 64 = some (.iinc 4 1, 3) := by decide +kernel
theorem iX10_sing_67 : ins MX10_sing 67 = some (.goto (-42), 3) := by decide +kernel
theorem iX10_sing_70 : ins MX10_sing 70 = some (.iload_n 3, 1) := by decide +kernel
theorem iX10_sing_71 : ins MX10_sing 71 = some (.ireturn, 1) := by decide +kernel
theorem iX10_slip_0 : ins MX10_slip 0 = some (.iload_n 1, 1) := by decide +kernel
theorem iX10_slip_1 : ins MX10_slip 1 = some (.ifCond .lt 10, 3) := by decide +kernel
theorem iX10_slip_4 : ins MX10_slip 4 = some (.iload_n 1, 1) := by decide +kernel
theorem iX10_slip_5 : ins MX10_slip 5 = some (.sipush 1000, 3) := by decide +kernel
theorem iX10_slip_8 : ins MX10_slip 8 = some (.if_icmp .le 5, 3) := by decide +kernel
theorem iX10_slip_11 : ins MX10_slip 11 = some (.iconst 0, 1) := by decide +kernel
theorem iX10_slip_12 : ins MX10_slip 12 = some (.ireturn, 1) := by decide +kernel
theorem iX10_slip_13 : ins MX10_slip 13 = some (.aload_n 0, 1) := by decide +kernel
theorem iX10_slip_14 : ins MX10_slip 14 = some (.getfield 19, 3) := by decide +kernel
theorem iX10_slip_17 : ins MX10_slip 17 = some (.iload_n 1, 1) := by decide +kernel
theorem iX10_slip_18 : ins MX10_slip 18 = some (.putfield 88, 3) := by decide +kernel
theorem iX10_slip_21 : ins MX10_slip 21 = some (.aload_n 0, 1) := by decide +kernel
theorem iX10_slip_22 : ins MX10_slip 22 = some (.getfield 26, 3) := by decide +kernel
theorem iX10_slip_25 : ins MX10_slip 25 = some (.invokevirtual 64, 3) := by decide +kernel
theorem iX10_slip_28 : ins MX10_slip 28 = some (.iconst 1, 1) := by decide +kernel
theorem iX10_slip_29 : ins MX10_slip 29 = some (.ireturn, 1) := by decide +kernel
theorem iX10_state_0 : ins MX10_state 0 = some (.aload_n 0, 1) := by decide +kernel
theorem iX10_state_1 : ins MX10_state 1 = some (.getfield 19, 3) := by decide +kernel
theorem iX10_state_4 : ins MX10_state 4 = some (.getfield 57, 3) := by decide +kernel
theorem iX10_state_7 : ins MX10_state 7 = some (.getfield 60, 3) := by decide +kernel
theorem iX10_state_10 : ins MX10_state 10 = some (.istore_n 2, 1) := by decide +kernel
theorem iX10_state_11 : ins MX10_state 11 = some (.aload_n 0, 1) := by decide +kernel
theorem iX10_state_12 : ins MX10_state 12 = some (.getfield 19, 3) := by decide +kernel
theorem iX10_state_15 : ins MX10_state 15 = some (.getfield 57, 3) := by decide +kernel
theorem iX10_state_18 : ins MX10_state 18 = some (.iload_n 1, 1) := by decide +kernel
theorem iX10_state_19 : ins MX10_state 19 = some (.putfield 60, 3) := by decide +kernel
theorem iX10_state_22 : ins MX10_state 22 = some (.aload_n 0, 1) := by decide +kernel
theorem iX10_state_23 : ins MX10_state 23 = some (.getfield 26, 3) := by decide +kernel
theorem iX10_state_26 : ins MX10_state 26 = some (.invokevirtual 64, 3) := by decide +kernel
theorem iX10_state_29 : ins MX10_state 29 = some (.iload_n 2, 1) := by decide +kernel
theorem iX10_state_30 : ins MX10_state 30 = some (.ireturn, 1) := by decide +kernel
theorem iX10_stool_0 : ins MX10_stool 0 = some (.iload_n 1, 1) := by decide +kernel
theorem iX10_stool_1 : ins MX10_stool 1 = some (.iconst 4, 1) := by decide +kernel
theorem iX10_stool_2 : ins MX10_stool 2 = some (.if_icmp .lt 9, 3) := by decide +kernel
theorem iX10_stool_5 : ins MX10_stool 5 = some (.iload_n 1, 1) := by decide +kernel
theorem iX10_stool_6 : ins MX10_stool 6 = some (.bipush 16, 2) := by decide +kernel
theorem iX10_stool_8 : ins MX10_stool 8 = some (.if_icmp .le 5, 3) := by decide +kernel
theorem iX10_stool_11 : ins MX10_stool 11 = some (.iconst 0, 1) := by decide +kernel
theorem iX10_stool_12 : ins MX10_stool 12 = some (.ireturn, 1) := by decide +kernel
theorem iX10_stool_13 : ins MX10_stool 13 = some (.aload_n 0, 1) := by decide +kernel
theorem iX10_stool_14 : ins MX10_stool 14 = some (.getfield 19, 3) := by decide +kernel
theorem iX10_stool_17 : ins MX10_stool 17 = some (.iload_n 1, 1) := by decide +kernel
theorem iX10_stool_18 : ins MX10_stool 18 = some (.invokevirtual 67, 3) := by decide +kernel
theorem iX10_stool_21 : ins MX10_stool 21 = some (.aload_n 0, 1) := by decide +kernel
theorem iX10_stool_22 : ins MX10_stool 22 = some (.getfield 26, 3) := by decide +kernel
theorem iX10_stool_25 : ins MX10_stool 25 = some (.invokevirtual 64, 3) := by decide +kernel
theorem iX10_stool_28 : ins MX10_stool 28 = some (.iconst 1, 1) := by decide +kernel
theorem iX10_stool_29 : ins MX10_stool 29 = some (.ireturn, 1) := by decide +kernel
theorem iX10_text_0 : ins MX10_text 0 = some (.aload_n 0, 1) := by decide +kernel
theorem iX10_text_1 : ins MX10_text 1 = some (.getfield 10, 3) := by decide +kernel
theorem iX10_text_4 : ins MX10_text 4 = some (.invokevirtual 103, 3) := by decide +kernel
theorem iX10_text_7 : ins MX10_text 7 = some (.iconst (-1), 1) := by decide +kernel
theorem iX10_text_8 : ins MX10_text 8 = some (.istore_n 2, 1) := by decide +kernel
theorem iX10_text_9 : ins MX10_text 9 = some (.iload_n 1, 1) := by decide +kernel
theorem iX10_text_10 : ins MX10_text 10 = some (.invokestatic 106, 3) := by decide +kernel
theorem iX10_text_13 : ins MX10_text 13 = some (.ifCond .eq 52, 3) := by decide +kernel
theorem iX10_text_16 : ins MX10_text 16 = some (.aload_n 0, 1) := by decide +kernel
theorem iX10_text_17 : ins MX10_text 17 = some (.getfield 10, 3) := by decide +kernel
theorem iX10_text_20 : ins MX10_text 20 = some (.aload_n 0, 1) := by decide +kernel
theorem iX10_text_21 : ins MX10_text 21 = some (.getfield 19, 3) := by decide +kernel
theorem iX10_text_24 : ins MX10_text 24 = some (.getfield 109, 3) := by decide +kernel
theorem iX10_text_27 : ins MX10_text 27 = some (.invokevirtual 112, 3) := by decide +kernel
theorem iX10_text_30 : ins MX10_text 30 = some (.ifCond .eq 35, 3) := by decide +kernel
theorem iX10_text_33 : ins MX10_text 33 = some (.aload_n 0, 1) := by decide +kernel
theorem iX10_text_34 : ins MX10_text 34 = some (.getfield 19, 3) := by decide +kernel
theorem iX10_text_37 : ins MX10_text 37 = some (.getfield 115, 3) := by decide +kernel
theorem iX10_text_40 : ins MX10_text 40 = some (.iload_n 1, 1) := by decide +kernel
theorem iX10_text_41 : ins MX10_text 41 = some (.aaload, 1) := by decide +kernel
theorem iX10_text_42 : ins MX10_text 42 = some (.aload_n 0, 1) := by decide +kernel
theorem iX10_text_43 : ins MX10_text 43 = some (.getfield 10, 3) := by decide +kernel
theorem iX10_text_46 : ins MX10_text 46 = some (.getfield 119, 3) := by decide +kernel
theorem iX10_text_49 : ins MX10_text 49 = some (.invokevirtual 123, 3) := by decide +kernel
theorem iX10_text_52 : ins MX10_text 52 = some (.aload_n 0, 1) := by decide +kernel
theorem iX10_text_53 : ins MX10_text 53 = some (.getfield 19, 3) := by decide +kernel
theorem iX10_text_56 : ins MX10_text 56 = some (.getfield 115, 3) := by decide +kernel
theorem iX10_text_59 : ins MX10_text 59 = some (.iload_n 1, 1) := by decide +kernel
theorem iX10_text_60 : ins MX10_text 60 = some (.aaload, 1) := by decide +kernel
theorem iX10_text_61 : ins MX10_text 61 = some (.getfield 129, 3) := by decide +kernel
theorem iX10_text_64 : ins MX10_text 64 = some (.istore_n 2, 1) := by decide +kernel
theorem iX10_text_65 : ins MX10_text 65 = some (.aload_n 0, 1) := by decide +kernel
theorem iX10_text_66 : ins MX10_text 66 = some (.getfield 10, 3) := by decide +kernel
theorem iX10_text_69 : ins MX10_text 69 = some (.getfield 91, 3) := by decide +kernel
theorem iX10_text_72 : ins MX10_text 72 = some (.iconst 0, 1) := by decide +kernel
theorem iX10_text_73 : ins MX10_text 73 = some (.putfield 95, 3) := by decide +kernel
theorem iX10_text_76 : ins MX10_text 76 = some (.iload_n 2, 1) := by decide +kernel
theorem iX10_text_77 : ins MX10_text 77 = some (.ireturn, 1) := by decide +kernel
theorem iX10_undo_0 : ins MX10_undo 0 = some (.aload_n 0, 1) := by decide +kernel
theorem iX10_undo_1 : ins MX10_undo 1 = some (.getfield 26, 3) := by decide +kernel
theorem iX10_undo_4 : ins MX10_undo 4 = some (.aload_n 0, 1) := by decide +kernel
theorem iX10_undo_5 : ins MX10_undo 5 = some (.getfield 19, 3) := by decide +kernel
theorem iX10_undo_8 : ins MX10_undo 8 = some (.getfield 57, 3) := by decide +kernel
theorem iX10_undo_11 : ins MX10_undo 11 = some (.invokevirtual 257, 3) := by decide +kernel
theorem iX10_undo_14 : ins MX10_undo 14 = some (.ireturn, 1) := by decide +kernel
theorem iX10_want_0 : ins MX10_want 0 = some (.aload_n 0, 1) := by decide +kernel
theorem iX10_want_1 : ins MX10_want 1 = some (.iload_n 1, 1) := by decide +kernel
theorem iX10_want_2 : ins MX10_want 2 = some (.invokevirtual 71, 3) := by decide +kernel
theorem iX10_want_5 : ins MX10_want 5 = some (.ifCond .eq 10, 3) := by decide +kernel
theorem iX10_want_8 : ins MX10_want 8 = some (.iload_n 2, 1) := by decide +kernel
theorem iX10_want_9 : ins MX10_want 9 = some (.invokestatic 75, 3) := by decide +kernel
theorem iX10_want_12 : ins MX10_want 12 = some (.ifCond .ne 5, 3) := by decide +kernel
theorem iX10_want_15 : ins MX10_want 15 = some (.iconst 0, 1) := by decide +kernel
theorem iX10_want_16 : ins MX10_want 16 = some (.ireturn, 1) := by decide +kernel
theorem iX10_want_17 : ins MX10_want 17 = some (.aload_n 0, 1) := by decide +kernel
theorem iX10_want_18 : ins MX10_want 18 = some (.getfield 19, 3) := by decide +kernel
theorem iX10_want_21 : ins MX10_want 21 = some (.aload_n 0, 1) := by decide +kernel
theorem iX10_want_22 : ins MX10_want 22 = some (.getfield 19, 3) := by decide +kernel
theorem iX10_want_25 : ins MX10_want 25 = some (.getfield 189, 3) := by decide +kernel
theorem iX10_want_28 : ins MX10_want 28 = some (.iload_n 1, 1) := by decide +kernel
theorem iX10_want_29 : ins MX10_want 29 = some (.iload_n 2, 1) := by decide +kernel
theorem iX10_want_30 : ins MX10_want 30 = some (.invokestatic 82, 3) := by decide +kernel
theorem iX10_want_33 : ins MX10_want 33 = some (.putfield 189, 3) := by decide +kernel
theorem iX10_want_36 : ins MX10_want 36 = some (.iconst 1, 1) := by decide +kernel
theorem iX10_want_37 : ins MX10_want 37 = some (.ireturn, 1) := by decide +kernel
theorem iX10_where_0 : ins MX10_where 0 = some (.iload_n 1, 1) := by decide +kernel
theorem iX10_where_1 : ins MX10_where 1 = some (.invokestatic 106, 3) := by decide +kernel
theorem iX10_where_4 : ins MX10_where 4 = some (.ifCond .eq 21, 3) := by decide +kernel
theorem iX10_where_7 : ins MX10_where 7 = some (.aload_n 0, 1) := by decide +kernel
theorem iX10_where_8 : ins MX10_where 8 = some (.iload_n 2, 1) := by decide +kernel
theorem iX10_where_9 : ins MX10_where 9 = some (.invokevirtual 71, 3) := by decide +kernel
theorem iX10_where_12 : ins MX10_where 12 = some (.ifCond .eq 13, 3) := by decide +kernel
theorem iX10_where_15 : ins MX10_where 15 = some (.iload_n 3, 1) := by decide +kernel
theorem iX10_where_16 : ins MX10_where 16 = some (.ifCond .lt 9, 3) := by decide +kernel
theorem iX10_where_19 : ins MX10_where 19 = some (.iload_n 3, 1) := by decide +kernel
theorem iX10_where_20 : ins MX10_where 20 = some (.bipush 99, 2) := by decide +kernel
theorem iX10_where_22 : ins MX10_where 22 = some (.if_icmp .le 5, 3) := by decide +kernel
theorem iX10_where_25 : ins MX10_where 25 = some (.iconst (-1), 1) := by decide +kernel
theorem iX10_where_26 : ins MX10_where 26 = some (.ireturn, 1) := by decide +kernel
theorem iX10_where_27 : ins MX10_where 27 = some (.aload_n 0, 1) := by decide +kernel
theorem iX10_where_28 : ins MX10_where 28 = some (.getfield 19, 3) := by decide +kernel
theorem iX10_where_31 : ins MX10_where 31 = some (.getfield 115, 3) := by decide +kernel
theorem iX10_where_34 : ins MX10_where 34 = some (.iload_n 1, 1) := by decide +kernel
theorem iX10_where_35 : ins MX10_where 35 = some (.aaload, 1) := by decide +kernel
theorem iX10_where_36 : ins MX10_where 36 = some (.astore 5, 2) := by decide +kernel
theorem iX10_where_38 : ins MX10_where 38 = some (.aload_n 0, 1) := by decide +kernel
theorem iX10_where_39 : ins MX10_where 39 = some (.getfield 19, 3) := by decide +kernel
theorem iX10_where_42 : ins MX10_where 42 = some (.getfield 57, 3) := by decide +kernel
theorem iX10_where_45 : ins MX10_where 45 = some (.getfield 146, 3) := by decide +kernel
theorem iX10_where_48 : ins MX10_where 48 = some (.lstore 6, 2) := by decide +kernel
theorem iX10_where_50 : ins MX10_where 50 = some (.iconst 0, 1) := by decide +kernel
theorem iX10_where_51 : ins MX10_where 51 = some (.istore 8, 2) := by decide +kernel
theorem iX10_where_53 : ins MX10_where 53 = some (.iload 8, 2) := by decide +kernel
theorem iX10_where_55 : ins MX10_where 55 = some (.iload_n 3, 1) := by decide +kernel
theorem iX10_where_56 : ins MX10_where 56 = some (.if_icmp .ge 62, 3) := by decide +kernel
theorem iX10_where_59 : ins MX10_where 59 = some (.iload 4, 2) := by decide +kernel
theorem iX10_where_61 : ins MX10_where 61 = some (.ifCond .eq 27, 3) := by decide +kernel
theorem iX10_where_64 : ins MX10_where 64 = some (.aload 5, 2) := by decide +kernel
theorem iX10_where_66 : ins MX10_where 66 = some (.lload 6, 2) := by decide +kernel
theorem iX10_where_68 : ins MX10_where 68 = some (.aload_n 0, 1) := by decide +kernel
theorem iX10_where_69 : ins MX10_where 69 = some (.getfield 19, 3) := by decide +kernel
theorem iX10_where_72 : ins MX10_where 72 = some (.getfield 78, 3) := by decide +kernel
theorem iX10_where_75 : ins MX10_where 75 = some (.aload_n 0, 1) := by decide +kernel
theorem iX10_where_76 : ins MX10_where 76 = some (.getfield 19, 3) := by decide +kernel
theorem iX10_where_79 : ins MX10_where 79 = some (.getfield 109, 3) := by decide +kernel
theorem iX10_where_82 : ins MX10_where 82 = some (.invokevirtual 181, 3) := by decide +kernel
theorem iX10_where_85 : ins MX10_where 85 = some (.goto 25, 3) := by decide +kernel
theorem iX10_where_88 : ins MX10_where 88 = some (.aload 5, 2) := by decide +kernel
theorem iX10_where_90 : ins MX10_where 90 = some (.lload 6, 2) := by decide +kernel
theorem iX10_where_92 : ins MX10_where 92 = some (.aload_n 0, 1) := by decide +kernel
theorem iX10_where_93 : ins MX10_where 93 = some (.getfield 19, 3) := by decide +kernel
theorem iX10_where_96 : ins MX10_where 96 = some (.getfield 78, 3) := by decide +kernel
theorem iX10_where_99 : ins MX10_where 99 = some (.aload_n 0, 1) := by decide +kernel
theorem iX10_where_100 : ins MX10_where 100 = some (.getfield 19, 3) := by decide +kernel
theorem iX10_where_103 : ins MX10_where 103 = some (.getfield 109, 3) := by decide +kernel
theorem iX10_where_106 : ins MX10_where 106 = some (.iconst (-1), 1) := by decide +kernel
theorem iX10_where_107 : ins MX10_where 107 = some (.invokevirtual 185, 3) := by decide +kernel
theorem iX10_where_110 : ins MX10_where 110 = some (.lstore 6, 2) := by decide +kernel
theorem iX10_where_112 : ins MX10_where 112 = some (.iinc 8 1, 3) := by decide +kernel
theorem iX10_where_115 : ins MX10_where 115 = some (.goto (-62), 3) := by decide +kernel
theorem iX10_where_118 : ins MX10_where 118 = some (.lload 6, 2) := by decide +kernel
theorem iX10_where_120 : ins MX10_where 120 = some (.iload_n 2, 1) := by decide +kernel
theorem iX10_where_121 : ins MX10_where 121 = some (.aload_n 0, 1) := by decide +kernel
theorem iX10_where_122 : ins MX10_where 122 = some (.getfield 19, 3) := by decide +kernel
theorem iX10_where_125 : ins MX10_where 125 = some (.getfield 109, 3) := by decide +kernel
theorem iX10_where_128 : ins MX10_where 128 = some (.invokestatic 153, 3) := by decide +kernel
theorem iX10_where_131 : ins MX10_where 131 = some (.ireturn, 1) := by decide +kernel
theorem iX11_aMove_0 : ins MX11_aMove 0 = some (.aload_n 0, 1) := by decide +kernel
theorem iX11_aMove_1 : ins MX11_aMove 1 = some (.invokevirtual 145, 3) := by decide +kernel
theorem iX11_aMove_4 : ins MX11_aMove 4 = some (.aload_n 0, 1) := by decide +kernel
theorem iX11_aMove_5 : ins MX11_aMove 5 = some (.getfield 133, 3) := by decide +kernel
theorem iX11_aMove_8 : ins MX11_aMove 8 = some (.istore_n 2, 1) := by decide +kernel
theorem iX11_aMove_9 : ins MX11_aMove 9 = some (.aload_n 0, 1) := by decide +kernel
theorem iX11_aMove_10 : ins MX11_aMove 10 = some (.iconst 0, 1) := by decide +kernel
theorem iX11_aMove_11 : ins MX11_aMove 11 = some (.aload_n 0, 1) := by decide +kernel
theorem iX11_aMove_12 : ins MX11_aMove 12 = some (.getfield 7, 3) := by decide +kernel
theorem iX11_aMove_15 : ins MX11_aMove 15 = some (.iconst 0, 1) := by decide +kernel
theorem iX11_aMove_16 : ins MX11_aMove 16 = some (.iaload, 1) := by decide +kernel
theorem iX11_aMove_17 : ins MX11_aMove 17 = some (.iconst 1, 1) := by decide +kernel
theorem iX11_aMove_18 : ins MX11_aMove 18 = some (.isub, 1) := by decide +kernel
theorem iX11_aMove_19 : ins MX11_aMove 19 = some (.invokevirtual 151, 3) := by decide +kernel
theorem iX11_aMove_22 : ins MX11_aMove 22 = some (.ifCond .ne 5, 3) := by decide +kernel
theorem iX11_aMove_25 : ins MX11_aMove 25 = some (.iconst 0, 1) := by decide +kernel
theorem iX11_aMove_26 : ins MX11_aMove 26 = some (.ireturn, 1) := by decide +kernel
theorem iX11_aMove_27 : ins MX11_aMove 27 = some (.iload_n 1, 1) := by decide +kernel
theorem iX11_aMove_28 : ins MX11_aMove 28 = some (.ifCond .ne 13, 3) := by decide +kernel
theorem iX11_aMove_31 : ins MX11_aMove 31 = some (.aload_n 0, 1) := by decide +kernel
theorem iX11_aMove_32 : ins MX11_aMove 32 = some (.iconst 4, 1) := by decide +kernel
theorem iX11_aMove_33 : ins MX11_aMove 33 = some (.invokevirtual 155, 3) := by decide +kernel
theorem iX11_aMove_36 : ins MX11_aMove 36 = some (.ifCond .ne 5, 3) := by decide +kernel
theorem iX11_aMove_39 : ins MX11_aMove 39 = some (.iconst 0, 1) := by decide +kernel
theorem iX11_aMove_40 : ins MX11_aMove 40 = some (.ireturn, 1) := by decide +kernel
theorem iX11_aMove_41 : ins MX11_aMove 41 = some (.aload_n 0, 1) := by decide +kernel
theorem iX11_aMove_42 : ins MX11_aMove 42 = some (.getfield 133, 3) := by decide +kernel
theorem iX11_aMove_45 : ins MX11_aMove 45 = some (.istore_n 3, 1) := by decide +kernel
theorem iX11_aMove_46 : ins MX11_aMove 46 = some (.aload_n 0, 1) := by decide +kernel
theorem iX11_aMove_47 : ins MX11_aMove 47 = some (.iconst 0, 1) := by decide +kernel
theorem iX11_aMove_48 : ins MX11_aMove 48 = some (.aload_n 0, 1) := by decide +kernel
theorem iX11_aMove_49 : ins MX11_aMove 49 = some (.getfield 7, 3) := by decide +kernel
theorem iX11_aMove_52 : ins MX11_aMove 52 = some (.iconst 0, 1) := by decide +kernel
theorem iX11_aMove_53 : ins MX11_aMove 53 = some (.iaload, 1) := by decide +kernel
theorem iX11_aMove_54 : ins MX11_aMove 54 = some (.iconst 1, 1) := by decide +kernel
theorem iX11_aMove_55 : ins MX11_aMove 55 = some (.isub, 1) := by decide +kernel
theorem iX11_aMove_56 : ins MX11_aMove 56 = some (.invokevirtual 151, 3) := by decide +kernel
theorem iX11_aMove_59 : ins MX11_aMove 59 = some (.ifCond .ne 5, 3) := by decide +kernel
theorem iX11_aMove_62 : ins MX11_aMove 62 = some (.iconst 0, 1) := by decide +kernel
theorem iX11_aMove_63 : ins MX11_aMove 63 = some (.ireturn, 1) := by decide +kernel
theorem iX11_aMove_64 : ins MX11_aMove 64 = some (.iconst (-1), 1) := by decide +kernel
theorem iX11_aMove_65 : ins MX11_aMove 65 = some (.istore 4, 2) := by decide +kernel
theorem iX11_aMove_67 : ins MX11_aMove 67 = some (.aload_n 0, 1) := by decide +kernel
theorem iX11_aMove_68 : ins MX11_aMove 68 = some (.getfield 121, 3) := by decide +kernel
theorem iX11_aMove_71 : ins MX11_aMove 71 = some (.iconst 5, 1) := by decide +kernel
theorem iX11_aMove_72 : ins MX11_aMove 72 = some (.if_icmp .ne 25, 3) := by decide +kernel
theorem iX11_aMove_75 : ins MX11_aMove 75 = some (.aload_n 0, 1) := by decide +kernel
theorem iX11_aMove_76 : ins MX11_aMove 76 = some (.invokevirtual 145, 3) := by decide +kernel
theorem iX11_aMove_79 : ins MX11_aMove 79 = some (.aload_n 0, 1) := by decide +kernel
theorem iX11_aMove_80 : ins MX11_aMove 80 = some (.getfield 133, 3) := by decide +kernel
theorem iX11_aMove_83 : ins MX11_aMove 83 = some (.istore 4, 2) := by decide +kernel
theorem iX11_aMove_85 : ins MX11_aMove 85 = some (.aload_n 0, 1) := by decide +kernel
theorem iX11_aMove_86 : ins MX11_aMove 86 = some (.iconst 0, 1) := by decide +kernel
theorem iX11_aMove_87 : ins MX11_aMove 87 = some (.bipush 9, 2) := by decide +kernel
theorem iX11_aMove_89 : ins MX11_aMove 89 = some (.invokevirtual 151, 3) := by decide +kernel
theorem iX11_aMove_92 : ins MX11_aMove 92 = some (.ifCond .ne 5, 3) := by decide +kernel
theorem iX11_aMove_95 : ins MX11_aMove 95 = some (.iconst 0, 1) := by decide +kernel
theorem iX11_aMove_96 : ins MX11_aMove 96 = some (.ireturn, 1) := by decide +kernel
theorem iX11_aMove_97 : ins MX11_aMove 97 = some (.aload_n 0, 1) := by decide +kernel
theorem iX11_aMove_98 : ins MX11_aMove 98 = some (.sipush 159, 3) := by decide +kernel
theorem iX11_aMove_101 : ins MX11_aMove 101 = some (.invokevirtual 155, 3) := by decide +kernel
theorem iX11_aMove_104 : ins MX11_aMove 104 = some (.ifCond .ne 5, 3) := by decide +kernel
theorem iX11_aMove_107 : ins MX11_aMove 107 = some (.iconst 0, 1) := by decide +kernel
theorem iX11_aMove_108 : ins MX11_aMove 108 = some (.ireturn, 1) := by decide +kernel
theorem iX11_aMove_109 : ins MX11_aMove 109 = some (.aload_n 0, 1) := by decide +kernel
theorem iX11_aMove_110 : ins MX11_aMove 110 = some (.iload_n 1, 1) := by decide +kernel
theorem iX11_aMove_111 : ins MX11_aMove 111 = some (.iload_n 2, 1) := by decide +kernel
theorem iX11_aMove_112 : ins MX11_aMove 112 = some (.iload_n 3, 1) := by decide +kernel
theorem iX11_aMove_113 : ins MX11_aMove 113 = some (.iload 4, 2) := by decide +kernel
theorem iX11_aMove_115 : ins MX11_aMove 115 = some (.invokevirtual 158, 3) := by decide +kernel
theorem iX11_aMove_118 : ins MX11_aMove 118 = some (.iconst 1, 1) := by decide +kernel
theorem iX11_aMove_119 : ins MX11_aMove 119 = some (.ireturn, 1) := by decide +kernel
theorem iX11_aTurn_0 : ins MX11_aTurn 0 = some (.aload_n 0, 1) := by decide +kernel
theorem iX11_aTurn_1 : ins MX11_aTurn 1 = some (.invokevirtual 145, 3) := by decide +kernel
theorem iX11_aTurn_4 : ins MX11_aTurn 4 = some (.aload_n 0, 1) := by decide +kernel
theorem iX11_aTurn_5 : ins MX11_aTurn 5 = some (.getfield 133, 3) := by decide +kernel
theorem iX11_aTurn_8 : ins MX11_aTurn 8 = some (.istore_n 1, 1) := by decide +kernel
theorem iX11_aTurn_9 : ins MX11_aTurn 9 = some (.aload_n 0, 1) := by decide +kernel
theorem iX11_aTurn_10 : ins MX11_aTurn 10 = some (.iconst 0, 1) := by decide +kernel
theorem iX11_aTurn_11 : ins MX11_aTurn 11 = some (.bipush 15, 2) := by decide +kernel
theorem iX11_aTurn_13 : ins MX11_aTurn 13 = some (.invokevirtual 151, 3) := by decide +kernel
theorem iX11_aTurn_16 : ins MX11_aTurn 16 = some (.ifCond .eq 13, 3) := by decide +kernel
theorem iX11_aTurn_19 : ins MX11_aTurn 19 = some (.aload_n 0, 1) := by decide +kernel
theorem iX11_aTurn_20 : ins MX11_aTurn 20 = some (.sipush 159, 3) := by decide +kernel
theorem iX11_aTurn_23 : ins MX11_aTurn 23 = some (.invokevirtual 155, 3) := by decide +kernel
theorem iX11_aTurn_26 : ins MX11_aTurn 26 = some (.ifCond .ne 5, 3) := by decide +kernel
theorem iX11_aTurn_29 : ins MX11_aTurn 29 = some (.iconst 0, 1) := by decide +kernel
theorem iX11_aTurn_30 : ins MX11_aTurn 30 = some (.ireturn, 1) := by decide +kernel
theorem iX11_aTurn_31 : ins MX11_aTurn 31 = some (.aload_n 0, 1) := by decide +kernel
theorem iX11_aTurn_32 : ins MX11_aTurn 32 = some (.iconst 2, 1) := by decide +kernel
theorem iX11_aTurn_33 : ins MX11_aTurn 33 = some (.iload_n 1, 1) := by decide +kernel
theorem iX11_aTurn_34 : ins MX11_aTurn 34 = some (.iconst 0, 1) := by decide +kernel
theorem iX11_aTurn_35 : ins MX11_aTurn 35 = some (.iconst (-1), 1) := by decide +kernel
theorem iX11_aTurn_36 : ins MX11_aTurn 36 = some (.invokevirtual 158, 3) := by decide +kernel
theorem iX11_aTurn_39 : ins MX11_aTurn 39 = some (.iconst 1, 1) := by decide +kernel
theorem iX11_aTurn_40 : ins MX11_aTurn 40 = some (.ireturn, 1) := by decide +kernel
theorem iX11_alike_0 : ins MX11_alike 0 = some (.iload_n 1, 1) := by decide +kernel
theorem iX11_alike_1 : ins MX11_alike 1 = some (.invokestatic 178, 3) := by decide +kernel
theorem iX11_alike_4 : ins MX11_alike 4 = some (.ifCond .eq 10, 3) := by decide +kernel
theorem iX11_alike_7 : ins MX11_alike 7 = some (.iload_n 2, 1) := by decide +kernel
theorem iX11_alike_8 : ins MX11_alike 8 = some (.invokestatic 178, 3) := by decide +kernel
theorem iX11_alike_11 : ins MX11_alike 11 = some (.ifCond .ne 5, 3) := by decide +kernel
theorem iX11_alike_14 : ins MX11_alike 14 = some (.iconst (-1), 1) := by decide +kernel
theorem iX11_alike_15 : ins MX11_alike 15 = some (.ireturn, 1) := by decide +kernel
theorem iX11_alike_16 : ins MX11_alike 16 = some (.iconst 0, 1) := by decide +kernel
theorem iX11_alike_17 : ins MX11_alike 17 = some (.istore_n 3, 1) := by decide +kernel
theorem iX11_alike_18 : ins MX11_alike 18 = some (.iload_n 3, 1) := by decide +kernel
theorem iX11_alike_19 : ins MX11_alike 19 = some (.sipush 256, 3) := by decide +kernel
theorem iX11_alike_22 : ins MX11_alike 22 = some (.if_icmp .ge 24, 3) := by decide +kernel
theorem iX11_alike_25 : ins MX11_alike 25 = some (.aload_n 0, 1) := by decide +kernel
theorem iX11_alike_26 : ins MX11_alike 26 = some (.getfield 47, 3) := by decide +kernel
theorem iX11_alike_29 : ins MX11_alike 29 = some (.iload_n 3, 1) := by decide +kernel
theorem iX11_alike_30 : ins MX11_alike 30 = some (.aload_n 0, 1) := by decide +kernel
theorem iX11_alike_31 : ins MX11_alike 31 = some (.getfield 7, 3) := by decide +kernel
theorem iX11_alike_34 : ins MX11_alike 34 = some (.bipush 60, 2) := by decide +kernel
theorem iX11_alike_36 : ins MX11_alike 36 = some (.iload_n 3, 1) := by decide +kernel
theorem iX11_alike_37 : ins MX11_alike 37 = some (.iadd, 1) := by decide +kernel
theorem iX11_alike_38 : ins MX11_alike 38 = some (.iaload, 1) := by decide +kernel
theorem iX11_alike_39 : ins MX11_alike 39 = some (.iastore, 1) := by decide +kernel
theorem iX11_alike_40 : ins MX11_alike 40 = some (.iinc 3 1, 3) := by decide +kernel
theorem iX11_alike_43 : ins MX11_alike 43 = some (.goto (-25), 3) := by decide +kernel
theorem iX11_alike_46 : ins MX11_alike 46 = some (.aload_n 0, 1) := by decide +kernel
theorem iX11_alike_47 : ins MX11_alike 47 = some (.iload_n 1, 1) := by decide +kernel
theorem iX11_alike_48 : ins MX11_alike 48 = some (.invokevirtual 258, 3) := by decide +kernel
theorem iX11_alike_51 : ins MX11_alike 51 = some (.iconst 0, 1) := by decide +kernel
theorem iX11_alike_52 : ins MX11_alike 52 = some (.istore_n 3, 1) := by decide +kernel
theorem iX11_alike_53 : ins MX11_alike 53 = some (.iload_n 3, 1) := by decide +kernel
theorem iX11_alike_54 : ins MX11_alike 54 = some (.sipush 256, 3) := by decide +kernel
theorem iX11_alike_57 : ins MX11_alike 57 = some (.if_icmp .ge 24, 3) := by decide +kernel
theorem iX11_alike_60 : ins MX11_alike 60 = some (.aload_n 0, 1) := by decide +kernel
theorem iX11_alike_61 : ins MX11_alike 61 = some (.getfield 50, 3) := by decide +kernel
theorem iX11_alike_64 : ins MX11_alike 64 = some (.iload_n 3, 1) := by decide +kernel
theorem iX11_alike_65 : ins MX11_alike 65 = some (.aload_n 0, 1) := by decide +kernel
theorem iX11_alike_66 : ins MX11_alike 66 = some (.getfield 7, 3) := by decide +kernel
theorem iX11_alike_69 : ins MX11_alike 69 = some (.bipush 60, 2) := by decide +kernel
theorem iX11_alike_71 : ins MX11_alike 71 = some (.iload_n 3, 1) := by decide +kernel
theorem iX11_alike_72 : ins MX11_alike 72 = some (.iadd, 1) := by decide +kernel
theorem iX11_alike_73 : ins MX11_alike 73 = some (.iaload, 1) := by decide +kernel
theorem iX11_alike_74 : ins MX11_alike 74 = some (.iastore, 1) := by decide +kernel
theorem iX11_alike_75 : ins MX11_alike 75 = some (.iinc 3 1, 3) := by decide +kernel
theorem iX11_alike_78 : ins MX11_alike 78 = some (.goto (-25), 3) := by decide +kernel
theorem iX11_alike_81 : ins MX11_alike 81 = some (.iconst 0, 1) := by decide +kernel
theorem iX11_alike_82 : ins MX11_alike 82 = some (.istore_n 3, 1) := by decide +kernel
theorem iX11_alike_83 : ins MX11_alike 83 = some (.iload_n 3, 1) := by decide +kernel
theorem iX11_alike_84 : ins MX11_alike 84 = some (.aload_n 0, 1) := by decide +kernel
theorem iX11_alike_85 : ins MX11_alike 85 = some (.getfield 7, 3) := by decide +kernel
theorem iX11_alike_88 : ins MX11_alike 88 = some (.iconst 0, 1) := by decide +kernel
theorem iX11_alike_89 : ins MX11_alike 89 = some (.iaload, 1) := by decide +kernel
theorem iX11_alike_90 : ins MX11_alike 90 = some (.if_icmp .ge 21, 3) := by decide +kernel
theorem iX11_alike_93 : ins MX11_alike 93 = some (.aload_n 0, 1) := by decide +kernel
theorem iX11_alike_94 : ins MX11_alike 94 = some (.getfield 53, 3) := by decide +kernel
theorem iX11_alike_97 : ins MX11_alike 97 = some (.iload_n 3, 1) := by decide +kernel
theorem iX11_alike_98 : ins MX11_alike 98 = some (.aload_n 0, 1) := by decide +kernel
theorem iX11_alike_99 : ins MX11_alike 99 = some (.getfield 29, 3) := by decide +kernel
theorem iX11_alike_102 : ins MX11_alike 102 = some (.iload_n 3, 1) := by decide +kernel
theorem iX11_alike_103 : ins MX11_alike 103 = some (.iaload, 1) := by decide +kernel
theorem iX11_alike_104 : ins MX11_alike 104 = some (.iastore, 1) := by decide +kernel
theorem iX11_alike_105 : ins MX11_alike 105 = some (.iinc 3 1, 3) := by decide +kernel
theorem iX11_alike_108 : ins MX11_alike 108 = some (.goto (-25), 3) := by decide +kernel
theorem iX11_alike_111 : ins MX11_alike 111 = some (.aload_n 0, 1) := by decide +kernel
theorem iX11_alike_112 : ins MX11_alike 112 = some (.iload_n 2, 1) := by decide +kernel
theorem iX11_alike_113 : ins MX11_alike 113 = some (.invokevirtual 258, 3) := by decide +kernel
theorem iX11_alike_116 : ins MX11_alike 116 = some (.iconst 1, 1) := by decide +kernel
theorem iX11_alike_117 : ins MX11_alike 117 = some (.istore_n 3, 1) := by decide +kernel
theorem iX11_alike_118 : ins MX11_alike 118 = some (.iconst 1, 1) := by decide +kernel
theorem iX11_alike_119 : ins MX11_alike 119 = some (.istore 4, 2) := by decide +kernel
theorem iX11_alike_121 : ins MX11_alike 121 = some (.iconst 0, 1) := by decide +kernel
theorem iX11_alike_122 : ins MX11_alike 122 = some (.istore 5, 2) := by decide +kernel
theorem iX11_alike_124 : ins MX11_alike 124 = some (.iload 5, 2) := by decide +kernel
theorem iX11_alike_126 : ins MX11_alike 126 = some (.aload_n 0, 1) := by decide +kernel
theorem iX11_alike_127 : ins MX11_alike 127 = some (.getfield 7, 3) := by decide +kernel
theorem iX11_alike_130 : ins MX11_alike 130 = some (.iconst 0, 1) := by decide +kernel
theorem iX11_alike_131 : ins MX11_alike 131 = some (.iaload, 1) := by decide +kernel
theorem iX11_alike_132 : ins MX11_alike 132 = some (.if_icmp .ge 36, 3) := by decide +kernel
theorem iX11_alike_135 : ins MX11_alike 135 = some (.iload_n 3, 1) := by decide +kernel
theorem iX11_alike_136 : ins MX11_alike 136 = some (.ifCond .eq 24, 3) := by decide +kernel
theorem iX11_alike_139 : ins MX11_alike 139 = some (.aload_n 0, 1) := by decide +kernel
theorem iX11_alike_140 : ins MX11_alike 140 = some (.getfield 53, 3) := by decide +kernel
theorem iX11_alike_143 : ins MX11_alike 143 = some (.iload 5, 2) := by decide +kernel
theorem iX11_alike_145 : ins MX11_alike 145 = some (.iaload, 1) := by decide +kernel
theorem iX11_alike_146 : ins MX11_alike 146 = some (.aload_n 0, 1) := by decide +kernel
theorem iX11_alike_147 : ins MX11_alike 147 = some (.getfield 29, 3) := by decide +kernel
theorem iX11_alike_150 : ins MX11_alike 150 = some (.iload 5, 2) := by decide +kernel
theorem iX11_alike_152 : ins MX11_alike 152 = some (.iaload, 1) := by decide +kernel
theorem iX11_alike_153 : ins MX11_alike 153 = some (.if_icmp .ne 7, 3) := by decide +kernel
theorem iX11_alike_156 : ins MX11_alike 156 = some (.iconst 1, 1) := by decide +kernel
theorem iX11_alike_157 : ins MX11_alike 157 = some (.goto 4, 3) := by decide +kernel
theorem iX11_alike_160 : ins MX11_alike 160 = some (.iconst 0, 1) := by decide +kernel
theorem iX11_alike_161 : ins MX11_alike 161 = some (.istore_n 3, 1) := by decide +kernel
theorem iX11_alike_162 : ins MX11_alike 162 = some (.iinc 5 1, 3) := by decide +kernel
theorem iX11_alike_165 : ins MX11_alike 165 = some (.goto (-41), 3) := by decide +kernel
theorem iX11_alike_168 : ins MX11_alike 168 = some (.iconst 0, 1) := by decide +kernel
theorem iX11_alike_169 : ins MX11_alike 169 = some (.istore 5, 2) := by decide +kernel
theorem iX11_alike_171 : ins MX11_alike 171 = some (.iload 5, 2) := by decide +kernel
theorem iX11_alike_173 : ins MX11_alike 173 = some (.sipush 256, 3) := by decide +kernel
theorem iX11_alike_176 : ins MX11_alike 176 = some (.if_icmp .ge 41, 3) := by decide +kernel
theorem iX11_alike_179 : ins MX11_alike 179 = some (.iload 4, 2) := by decide +kernel
theorem iX11_alike_181 : ins MX11_alike 181 = some (.ifCond .eq 27, 3) := by decide +kernel
theorem iX11_alike_184 : ins MX11_alike 184 = some (.aload_n 0, 1) := by decide +kernel
theorem iX11_alike_185 : ins MX11_alike 185 = some (.getfield 50, 3) := by decide +kernel
theorem iX11_alike_188 : ins MX11_alike 188 = some (.iload 5, 2) := by decide +kernel
theorem iX11_alike_190 : ins MX11_alike 190 = some (.iaload, 1) := by decide +kernel
theorem iX11_alike_191 : ins MX11_alike 191 = some (.aload_n 0, 1) := by decide +kernel
theorem iX11_alike_192 : ins MX11_alike 192 = some (.getfield 7, 3) := by decide +kernel
theorem iX11_alike_195 : ins MX11_alike 195 = some (.bipush 60, 2) := by decide +kernel
theorem iX11_alike_197 : ins MX11_alike 197 = some (.iload 5, 2) := by decide +kernel
theorem iX11_alike_199 : ins MX11_alike 199 = some (.iadd, 1) := by decide +kernel
theorem iX11_alike_200 : ins MX11_alike 200 = some (.iaload, 1) := by decide +kernel
theorem iX11_alike_201 : ins MX11_alike 201 = some (.if_icmp .ne 7, 3) := by decide +kernel
theorem iX11_alike_204 : ins MX11_alike 204 = some (.iconst 1, 1) := by decide +kernel
theorem iX11_alike_205 : ins MX11_alike 205 = some (.goto 4, 3) := by decide +kernel
theorem iX11_alike_208 : ins MX11_alike 208 = some (.iconst 0, 1) := by decide +kernel
theorem iX11_alike_209 : ins MX11_alike 209 = some (.istore 4, 2) := by decide +kernel
theorem iX11_alike_211 : ins MX11_alike 211 = some (.iinc 5 1, 3) := by decide +kernel
theorem iX11_alike_214 : ins MX11_alike 214 = some (.goto (-43), 3) := by decide +kernel
theorem iX11_alike_217 : ins MX11_alike 217 = some (.iconst 0, 1) := by decide +kernel
theorem iX11_alike_218 : ins MX11_alike 218 = some (.istore 5, 2) := by decide +kernel
theorem iX11_alike_220 : ins MX11_alike 220 = some (.iload 5, 2) := by decide +kernel
theorem iX11_alike_222 : ins MX11_alike 222 = some (.sipush 256, 3) := by decide +kernel
theorem iX11_alike_225 : ins MX11_alike 225 = some (.if_icmp .ge 26, 3) := by decide +kernel
theorem iX11_alike_228 : ins MX11_alike 228 = some (.aload_n 0, 1) := by decide +kernel
theorem iX11_alike_229 : ins MX11_alike 229 = some (.getfield 7, 3) := by decide +kernel
theorem iX11_alike_232 : ins MX11_alike 232 = some (.bipush 60, 2) := by decide +kernel
theorem iX11_alike_234 : ins MX11_alike 234 = some (.iload 5, 2) := by decide +kernel
theorem iX11_alike_236 : ins MX11_alike 236 = some (.iadd, 1) := by decide +kernel
theorem iX11_alike_237 : ins MX11_alike 237 = some (.aload_n 0, 1) := by decide +kernel
theorem iX11_alike_238 : ins MX11_alike 238 = some (.getfield 47, 3) := by decide +kernel
theorem iX11_alike_241 : ins MX11_alike 241 = some (.iload 5, 2) := by decide +kernel
theorem iX11_alike_243 : ins MX11_alike 243 = some (.iaload, 1) := by decide +kernel
theorem iX11_alike_244 : ins MX11_alike 244 = some (.iastore, 1) := by decide +kernel
theorem iX11_alike_245 : ins MX11_alike 245 = some (.iinc 5 1, 3) := by decide +kernel
theorem iX11_alike_248 : ins MX11_alike 248 = some (.goto (-28), 3) := by decide +kernel
theorem iX11_alike_251 : ins MX11_alike 251 = some (.iload_n 3, 1) := by decide +kernel
theorem iX11_alike_252 : ins MX11_alike 252 = some (.ifCond .ne 7, 3) := by decide +kernel
theorem iX11_alike_255 : ins MX11_alike 255 = some (.iconst 0, 1) := by decide +kernel
theorem iX11_alike_256 : ins MX11_alike 256 = some (.goto 13, 3) := by decide +kernel
theorem iX11_alike_259 : ins MX11_alike 259 = some (.iload 4, 2) := by decide +kernel
theorem iX11_alike_261 : ins MX11_alike 261 = some (.ifCond .eq 7, 3) := by decide +kernel
theorem iX11_alike_264 : ins MX11_alike 264 = some (.iconst 2, 1) := by decide +kernel
theorem iX11_alike_265 : ins MX11_alike 265 = some (.goto 4, 3) := by decide +kernel
theorem iX11_alike_268 : ins MX11_alike 268 = some (.iconst 1, 1) := by decide +kernel
theorem iX11_alike_269 : ins MX11_alike 269 = some (.ireturn, 1) := by decide +kernel
theorem iX11_at_0 : ins MX11_at 0 = some (.aload_n 0, 1) := by decide +kernel
theorem iX11_at_1 : ins MX11_at 1 = some (.iload_n 1, 1) := by decide +kernel
theorem iX11_at_2 : ins MX11_at 2 = some (.invokevirtual 78, 3) := by decide +kernel
theorem iX11_at_5 : ins MX11_at 5 = some (.ifCond .eq 12, 3) := by decide +kernel
theorem iX11_at_8 : ins MX11_at 8 = some (.iload_n 2, 1) := by decide +kernel
theorem iX11_at_9 : ins MX11_at 9 = some (.iconst 0, 1) := by decide +kernel
theorem iX11_at_10 : ins MX11_at 10 = some (.iconst 1, 1) := by decide +kernel
theorem iX11_at_11 : ins MX11_at 11 = some (.invokestatic 72, 3) := by decide +kernel
theorem iX11_at_14 : ins MX11_at 14 = some (.ifCond .ne 5, 3) := by decide +kernel
theorem iX11_at_17 : ins MX11_at 17 = some (.iconst (-1), 1) := by decide +kernel
theorem iX11_at_18 : ins MX11_at 18 = some (.ireturn, 1) := by decide +kernel
theorem iX11_at_19 : ins MX11_at 19 = some (.iload_n 2, 1) := by decide +kernel
theorem iX11_at_20 : ins MX11_at 20 = some (.ifCond .ne 15, 3) := by decide +kernel
theorem iX11_at_23 : ins MX11_at 23 = some (.aload_n 0, 1) := by decide +kernel
theorem iX11_at_24 : ins MX11_at 24 = some (.getfield 7, 3) := by decide +kernel
theorem iX11_at_27 : ins MX11_at 27 = some (.bipush 42, 2) := by decide +kernel
theorem iX11_at_29 : ins MX11_at 29 = some (.iload_n 1, 1) := by decide +kernel
theorem iX11_at_30 : ins MX11_at 30 = some (.iadd, 1) := by decide +kernel
theorem iX11_at_31 : ins MX11_at 31 = some (.iaload, 1) := by decide +kernel
theorem iX11_at_32 : ins MX11_at 32 = some (.goto 20, 3) := by decide +kernel
theorem iX11_at_35 : ins MX11_at 35 = some (.aload_n 0, 1) := by decide +kernel
theorem iX11_at_36 : ins MX11_at 36 = some (.getfield 7, 3) := by decide +kernel
theorem iX11_at_39 : ins MX11_at 39 = some (.bipush 10, 2) := by decide +kernel
theorem iX11_at_41 : ins MX11_at 41 = some (.aload_n 0, 1) := by decide +kernel
theorem iX11_at_42 : ins MX11_at 42 = some (.getfield 7, 3) := by decide +kernel
theorem iX11_at_45 : ins MX11_at 45 = some (.bipush 42, 2) := by decide +kernel
theorem iX11_at_47 : ins MX11_at 47 = some (.iload_n 1, 1) := by decide +kernel
theorem iX11_at_48 : ins MX11_at 48 = some (.iadd, 1) := by decide +kernel
theorem iX11_at_49 : ins MX11_at 49 = some (.iaload, 1) := by decide +kernel
theorem iX11_at_50 : ins MX11_at 50 = some (.iadd, 1) := by decide +kernel
theorem iX11_at_51 : ins MX11_at 51 = some (.iaload, 1) := by decide +kernel
theorem iX11_at_52 : ins MX11_at 52 = some (.ireturn, 1) := by decide +kernel
theorem iX11_back_0 : ins MX11_back 0 = some (.iload_n 1, 1) := by decide +kernel
theorem iX11_back_1 : ins MX11_back 1 = some (.invokestatic 178, 3) := by decide +kernel
theorem iX11_back_4 : ins MX11_back 4 = some (.ifCond .eq 12, 3) := by decide +kernel
theorem iX11_back_7 : ins MX11_back 7 = some (.iload_n 2, 1) := by decide +kernel
theorem iX11_back_8 : ins MX11_back 8 = some (.iconst 0, 1) := by decide +kernel
theorem iX11_back_9 : ins MX11_back 9 = some (.iconst 1, 1) := by decide +kernel
theorem iX11_back_10 : ins MX11_back 10 = some (.invokestatic 72, 3) := by decide +kernel
theorem iX11_back_13 : ins MX11_back 13 = some (.ifCond .ne 5, 3) := by decide +kernel
theorem iX11_back_16 : ins MX11_back 16 = some (.iconst (-1), 1) := by decide +kernel
theorem iX11_back_17 : ins MX11_back 17 = some (.ireturn, 1) := by decide +kernel
theorem iX11_back_18 : ins MX11_back 18 = some (.aload_n 0, 1) := by decide +kernel
theorem iX11_back_19 : ins MX11_back 19 = some (.invokevirtual 202, 3) := by decide +kernel
theorem iX11_back_22 : ins MX11_back 22 = some (.iconst 1, 1) := by decide +kernel
theorem iX11_back_23 : ins MX11_back 23 = some (.istore_n 3, 1) := by decide +kernel
theorem iX11_back_24 : ins MX11_back 24 = some (.iload_n 3, 1) := by decide +kernel
theorem iX11_back_25 : ins MX11_back 25 = some (.sipush 5040, 3) := by decide +kernel
theorem iX11_back_28 : ins MX11_back 28 = some (.if_icmp .gt 26, 3) := by decide +kernel
theorem iX11_back_31 : ins MX11_back 31 = some (.aload_n 0, 1) := by decide +kernel
theorem iX11_back_32 : ins MX11_back 32 = some (.iload_n 1, 1) := by decide +kernel
theorem iX11_back_33 : ins MX11_back 33 = some (.iconst 0, 1) := by decide +kernel
theorem iX11_back_34 : ins MX11_back 34 = some (.iconst (-1), 1) := by decide +kernel
theorem iX11_back_35 : ins MX11_back 35 = some (.invokevirtual 220, 3) := by decide +kernel
theorem iX11_back_38 : ins MX11_back 38 = some (.aload_n 0, 1) := by decide +kernel
theorem iX11_back_39 : ins MX11_back 39 = some (.iload_n 2, 1) := by decide +kernel
theorem iX11_back_40 : ins MX11_back 40 = some (.invokevirtual 224, 3) := by decide +kernel
theorem iX11_back_43 : ins MX11_back 43 = some (.ifCond .eq 5, 3) := by decide +kernel
theorem iX11_back_46 : ins MX11_back 46 = some (.iload_n 3, 1) := by decide +kernel
theorem iX11_back_47 : ins MX11_back 47 = some (.ireturn, 1) := by decide +kernel
theorem iX11_back_48 : ins MX11_back 48 = some (.iinc 3 1, 3) := by decide +kernel
theorem iX11_back_51 : ins MX11_back 51 = some (.goto (-27), 3) := by decide +kernel
theorem iX11_back_54 : ins MX11_back 54 = some (.iconst (-1), 1) := by decide +kernel
theorem iX11_back_55 : ins MX11_back 55 = some (.ireturn, 1) := by decide +kernel
theorem iX11_bad_0 : ins MX11_bad 0 = some (.aload_n 0, 1) := by decide +kernel
theorem iX11_bad_1 : ins MX11_bad 1 = some (.iload_n 1, 1) := by decide +kernel
theorem iX11_bad_2 : ins MX11_bad 2 = some (.putfield 136, 3) := by decide +kernel
theorem iX11_bad_5 : ins MX11_bad 5 = some (.aload_n 0, 1) := by decide +kernel
theorem iX11_bad_6 : ins MX11_bad 6 = some (.aload_n 0, 1) := by decide +kernel
theorem iX11_bad_7 : ins MX11_bad 7 = some (.getfield 88, 3) := by decide +kernel
theorem iX11_bad_10 : ins MX11_bad 10 = some (.putfield 139, 3) := by decide +kernel
theorem iX11_bad_13 : ins MX11_bad 13 = some (.iconst 0, 1) := by decide +kernel
theorem iX11_bad_14 : ins MX11_bad 14 = some (.ireturn, 1) := by decide +kernel
theorem iX11_beats_0 : ins MX11_beats 0 = some (.iload_n 1, 1) := by decide +kernel
theorem iX11_beats_1 : ins MX11_beats 1 = some (.invokestatic 178, 3) := by decide +kernel
theorem iX11_beats_4 : ins MX11_beats 4 = some (.ifCond .eq 13, 3) := by decide +kernel
theorem iX11_beats_7 : ins MX11_beats 7 = some (.iload_n 2, 1) := by decide +kernel
theorem iX11_beats_8 : ins MX11_beats 8 = some (.iconst 1, 1) := by decide +kernel
theorem iX11_beats_9 : ins MX11_beats 9 = some (.bipush 9, 2) := by decide +kernel
theorem iX11_beats_11 : ins MX11_beats 11 = some (.invokestatic 72, 3) := by decide +kernel
theorem iX11_beats_14 : ins MX11_beats 14 = some (.ifCond .ne 5, 3) := by decide +kernel
theorem iX11_beats_17 : ins MX11_beats 17 = some (.iconst (-1), 1) := by decide +kernel
theorem iX11_beats_18 : ins MX11_beats 18 = some (.ireturn, 1) := by decide +kernel
theorem iX11_beats_19 : ins MX11_beats 19 = some (.iconst 0, 1) := by decide +kernel
theorem iX11_beats_20 : ins MX11_beats 20 = some (.istore_n 3, 1) := by decide +kernel
theorem iX11_beats_21 : ins MX11_beats 21 = some (.iload_n 3, 1) := by decide +kernel
theorem iX11_beats_22 : ins MX11_beats 22 = some (.sipush 202, 3) := by decide +kernel
theorem iX11_beats_25 : ins MX11_beats 25 = some (.if_icmp .ge 16, 3) := by decide +kernel
theorem iX11_beats_28 : ins MX11_beats 28 = some (.aload_n 0, 1) := by decide +kernel
theorem iX11_beats_29 : ins MX11_beats 29 = some (.getfield 59, 3) := by decide +kernel
theorem iX11_beats_32 : ins MX11_beats 32 = some (.iload_n 3, 1) := by decide +kernel
theorem iX11_beats_33 : ins MX11_beats 33 = some (.iconst 0, 1) := by decide +kernel
theorem iX11_beats_34 : ins MX11_beats 34 = some (.iastore, 1) := by decide +kernel
theorem iX11_beats_35 : ins MX11_beats 35 = some (.iinc 3 1, 3) := by decide +kernel
theorem iX11_beats_38 : ins MX11_beats 38 = some (.goto (-17), 3) := by decide +kernel
theorem iX11_beats_41 : ins MX11_beats 41 = some (.iconst 0, 1) := by decide +kernel
theorem iX11_beats_42 : ins MX11_beats 42 = some (.istore_n 3, 1) := by decide +kernel
theorem iX11_beats_43 : ins MX11_beats 43 = some (.iconst 0, 1) := by decide +kernel
theorem iX11_beats_44 : ins MX11_beats 44 = some (.istore 4, 2) := by decide +kernel
theorem iX11_beats_46 : ins MX11_beats 46 = some (.iload 4, 2) := by decide +kernel
theorem iX11_beats_48 : ins MX11_beats 48 = some (.aload_n 0, 1) := by decide +kernel
theorem iX11_beats_49 : ins MX11_beats 49 = some (.getfield 7, 3) := by decide +kernel
theorem iX11_beats_52 : ins MX11_beats 52 = some (.sipush 975, 3) := by decide +kernel
theorem iX11_beats_55 : ins MX11_beats 55 = some (.iload_n 1, 1) := by decide +kernel
theorem iX11_beats_56 : ins MX11_beats 56 = some (.iadd, 1) := by decide +kernel
theorem iX11_beats_57 : ins MX11_beats 57 = some (.iaload, 1) := by decide +kernel
theorem iX11_beats_58 : ins MX11_beats 58 = some (.if_icmp .ge 136, 3) := by decide +kernel
theorem iX11_beats_61 : ins MX11_beats 61 = some (.aload_n 0, 1) := by decide +kernel
theorem iX11_beats_62 : ins MX11_beats 62 = some (.getfield 56, 3) := by decide +kernel
theorem iX11_beats_65 : ins MX11_beats 65 = some (.iload 4, 2) := by decide +kernel
theorem iX11_beats_67 : ins MX11_beats 67 = some (.iconst 0, 1) := by decide +kernel
theorem iX11_beats_68 : ins MX11_beats 68 = some (.iastore, 1) := by decide +kernel
theorem iX11_beats_69 : ins MX11_beats 69 = some (.aload_n 0, 1) := by decide +kernel
theorem iX11_beats_70 : ins MX11_beats 70 = some (.iload_n 1, 1) := by decide +kernel
theorem iX11_beats_71 : ins MX11_beats 71 = some (.iload 4, 2) := by decide +kernel
theorem iX11_beats_73 : ins MX11_beats 73 = some (.iconst 0, 1) := by decide +kernel
theorem iX11_beats_74 : ins MX11_beats 74 = some (.invokevirtual 185, 3) := by decide +kernel
theorem iX11_beats_77 : ins MX11_beats 77 = some (.iconst 2, 1) := by decide +kernel
theorem iX11_beats_78 : ins MX11_beats 78 = some (.if_icmp .ne 6, 3) := by decide +kernel
theorem iX11_beats_81 : ins MX11_beats 81 = some (.goto 107, 3) := by decide +kernel
theorem iX11_beats_84 : ins MX11_beats 84 = some (.iconst 1, 1) := by decide +kernel
theorem iX11_beats_85 : ins MX11_beats 85 = some (.istore 5, 2) := by decide +kernel
theorem iX11_beats_87 : ins MX11_beats 87 = some (.iconst 0, 1) := by decide +kernel
theorem iX11_beats_88 : ins MX11_beats 88 = some (.istore 6, 2) := by decide +kernel
theorem iX11_beats_90 : ins MX11_beats 90 = some (.iload 6, 2) := by decide +kernel
theorem iX11_beats_92 : ins MX11_beats 92 = some (.iload 4, 2) := by decide +kernel
theorem iX11_beats_94 : ins MX11_beats 94 = some (.if_icmp .ge 44, 3) := by decide +kernel
theorem iX11_beats_97 : ins MX11_beats 97 = some (.aload_n 0, 1) := by decide +kernel
theorem iX11_beats_98 : ins MX11_beats 98 = some (.getfield 56, 3) := by decide +kernel
theorem iX11_beats_101 : ins MX11_beats 101 = some (.iload 6, 2) := by decide +kernel
theorem iX11_beats_103 : ins MX11_beats 103 = some (.iaload, 1) := by decide +kernel
theorem iX11_beats_104 : ins MX11_beats 104 = some (.iload 5, 2) := by decide +kernel
theorem iX11_beats_106 : ins MX11_beats 106 = some (.if_icmp .lt 26, 3) := by decide +kernel
theorem iX11_beats_109 : ins MX11_beats 109 = some (.aload_n 0, 1) := by decide +kernel
theorem iX11_beats_110 : ins MX11_beats 110 = some (.iload_n 1, 1) := by decide +kernel
theorem iX11_beats_111 : ins MX11_beats 111 = some (.iload 6, 2) := by decide +kernel
theorem iX11_beats_113 : ins MX11_beats 113 = some (.iload 4, 2) := by decide +kernel
theorem iX11_beats_115 : ins MX11_beats 115 = some (.invokevirtual 267, 3) := by decide +kernel
theorem iX11_beats_118 : ins MX11_beats 118 = some (.ifCond .eq 14, 3) := by decide +kernel
theorem iX11_beats_121 : ins MX11_beats 121 = some (.aload_n 0, 1) := by decide +kernel
theorem iX11_beats_122 : ins MX11_beats 122 = some (.getfield 56, 3) := by decide +kernel
theorem iX11_beats_125 : ins MX11_beats 125 = some (.iload 6, 2) := by decide +kernel
theorem iX11_beats_127 : ins MX11_beats 127 = some (.iaload, 1) := by decide +kernel
theorem iX11_beats_128 : ins MX11_beats 128 = some (.iconst 1, 1) := by decide +kernel
theorem iX11_beats_129 : ins MX11_beats 129 = some (.iadd, 1) := by decide +kernel
theorem iX11_beats_130 : ins MX11_beats 130 = some (.istore 5, 2) := by decide +kernel
theorem iX11_beats_132 : ins MX11_beats 132 = some (.iinc 6 1, 3) := by decide +kernel
theorem iX11_beats_135 : ins MX11_beats 135 = some (.goto (-45), 3) := by decide +kernel
theorem iX11_beats_138 : ins MX11_beats 138 = some (.aload_n 0, 1) := by decide +kernel
theorem iX11_beats_139 : ins MX11_beats 139 = some (.getfield 59, 3) := by decide +kernel
theorem iX11_beats_142 : ins MX11_beats 142 = some (.iload 5, 2) := by decide +kernel
theorem iX11_beats_144 : ins MX11_beats 144 = some (.iaload, 1) := by decide +kernel
theorem iX11_beats_145 : ins MX11_beats 145 = some (.iload_n 2, 1) := by decide +kernel
theorem iX11_beats_146 : ins MX11_beats 146 = some (.if_icmp .ne 9, 3) := by decide +kernel
theorem iX11_beats_149 : ins MX11_beats 149 = some (.iinc 5 1, 3) := by decide +kernel
theorem iX11_beats_152 : ins MX11_beats 152 = some (.goto (-14), 3) := by decide +kernel
theorem iX11_beats_155 : ins MX11_beats 155 = some (.aload_n 0, 1) := by decide +kernel
theorem iX11_beats_156 : ins MX11_beats 156 = some (.getfield 56, 3) := by decide +kernel
theorem iX11_beats_159 : ins MX11_beats 159 = some (.iload 4, 2) := by decide +kernel
theorem iX11_beats_161 : ins MX11_beats 161 = some (.iload 5, 2) := by decide +kernel
theorem iX11_beats_163 : ins MX11_beats 163 = some (.iastore, 1) := by decide +kernel
theorem iX11_beats_164 : ins MX11_beats 164 = some (.aload_n 0, 1) := by decide +kernel
theorem iX11_beats_165 : ins MX11_beats 165 = some (.getfield 59, 3) := by decide +kernel
theorem iX11_beats_168 : ins MX11_beats 168 = some (.iload 5, 2) := by decide +kernel
theorem iX11_beats_170 : ins MX11_beats 170 = some (.dup2, 1) := by decide +kernel
theorem iX11_beats_171 : ins MX11_beats 171 = some (.iaload, 1) := by decide +kernel
theorem iX11_beats_172 : ins MX11_beats 172 = some (.iconst 1, 1) := by decide +kernel
theorem iX11_beats_173 : ins MX11_beats 173 = some (.iadd, 1) := by decide +kernel
theorem iX11_beats_174 : ins MX11_beats 174 = some (.iastore, 1) := by decide +kernel
theorem iX11_beats_175 : ins MX11_beats 175 = some (.iload 5, 2) := by decide +kernel
theorem iX11_beats_177 : ins MX11_beats 177 = some (.iload_n 3, 1) := by decide +kernel
theorem iX11_beats_178 : ins MX11_beats 178 = some (.if_icmp .le 8, 3) := by decide +kernel
theorem iX11_beats_181 : ins MX11_beats 181 = some (.iload 5, 2) := by decide +kernel
theorem iX11_beats_183 : ins MX11_beats 183 = some (.goto 4, 3) := by decide +kernel
theorem iX11_beats_186 : ins MX11_beats 186 = some (.iload_n 3, 1) := by decide +kernel
theorem iX11_beats_187 : ins MX11_beats 187 = some (.istore_n 3, 1) := by decide +kernel
theorem iX11_beats_188 : ins MX11_beats 188 = some (.iinc 4 1, 3) := by decide +kernel
theorem iX11_beats_191 : ins MX11_beats 191 = some (.goto (-145), 3) := by decide +kernel
theorem iX11_beats_194 : ins MX11_beats 194 = some (.iload_n 3, 1) := by decide +kernel
theorem iX11_beats_195 : ins MX11_beats 195 = some (.ireturn, 1) := by decide +kernel
theorem iX11_begins_0 : ins MX11_begins 0 = some (.aload_n 0, 1) := by decide +kernel
theorem iX11_begins_1 : ins MX11_begins 1 = some (.getfield 7, 3) := by decide +kernel
theorem iX11_begins_4 : ins MX11_begins 4 = some (.iconst 2, 1) := by decide +kernel
theorem iX11_begins_5 : ins MX11_begins 5 = some (.iaload, 1) := by decide +kernel
theorem iX11_begins_6 : ins MX11_begins 6 = some (.istore_n 2, 1) := by decide +kernel
theorem iX11_begins_7 : ins MX11_begins 7 = some (.iconst 0, 1) := by decide +kernel
theorem iX11_begins_8 : ins MX11_begins 8 = some (.istore_n 3, 1) := by decide +kernel
theorem iX11_begins_9 : ins MX11_begins 9 = some (.iload_n 3, 1) := by decide +kernel
theorem iX11_begins_10 : ins MX11_begins 10 = some (.sipush 4180, 3) := by decide +kernel
theorem iX11_begins_13 : ins MX11_begins 13 = some (.if_icmp .ge 16, 3) := by decide +kernel
theorem iX11_begins_16 : ins MX11_begins 16 = some (.aload_n 0, 1) := by decide +kernel
theorem iX11_begins_17 : ins MX11_begins 17 = some (.getfield 7, 3) := by decide +kernel
theorem iX11_begins_20 : ins MX11_begins 20 = some (.iload_n 3, 1) := by decide +kernel
theorem iX11_begins_21 : ins MX11_begins 21 = some (.iconst 0, 1) := by decide +kernel
theorem iX11_begins_22 : ins MX11_begins 22 = some (.iastore, 1) := by decide +kernel
theorem iX11_begins_23 : ins MX11_begins 23 = some (.iinc 3 1, 3) := by decide +kernel
theorem iX11_begins_26 : ins MX11_begins 26 = some (.goto (-17), 3) := by decide +kernel
theorem iX11_begins_29 : ins MX11_begins 29 = some (.aload_n 0, 1) := by decide +kernel
theorem iX11_begins_30 : ins MX11_begins 30 = some (.getfield 7, 3) := by decide +kernel
theorem iX11_begins_33 : ins MX11_begins 33 = some (.iconst 2, 1) := by decide +kernel
theorem iX11_begins_34 : ins MX11_begins 34 = some (.iload_n 2, 1) := by decide +kernel
theorem iX11_begins_35 : ins MX11_begins 35 = some (.iastore, 1) := by decide +kernel
theorem iX11_begins_36 : ins MX11_begins 36 = some (.aload_n 0, 1) := by decide +kernel
theorem iX11_begins_37 : ins MX11_begins 37 = some (.getfield 7, 3) := by decide +kernel
theorem iX11_begins_40 : ins MX11_begins 40 = some (.iconst 0, 1) := by decide +kernel
theorem iX11_begins_41 : ins MX11_begins 41 = some (.iload_n 1, 1) := by decide +kernel
theorem iX11_begins_42 : ins MX11_begins 42 = some (.iastore, 1) := by decide +kernel
theorem iX11_begins_43 : ins MX11_begins 43 = some (.iconst 0, 1) := by decide +kernel
theorem iX11_begins_44 : ins MX11_begins 44 = some (.istore_n 3, 1) := by decide +kernel
theorem iX11_begins_45 : ins MX11_begins 45 = some (.iload_n 3, 1) := by decide +kernel
theorem iX11_begins_46 : ins MX11_begins 46 = some (.bipush 16, 2) := by decide +kernel
theorem iX11_begins_48 : ins MX11_begins 48 = some (.if_icmp .ge 19, 3) := by decide +kernel
theorem iX11_begins_51 : ins MX11_begins 51 = some (.aload_n 0, 1) := by decide +kernel
theorem iX11_begins_52 : ins MX11_begins 52 = some (.getfield 7, 3) := by decide +kernel
theorem iX11_begins_55 : ins MX11_begins 55 = some (.bipush 42, 2) := by decide +kernel
theorem iX11_begins_57 : ins MX11_begins 57 = some (.iload_n 3, 1) := by decide +kernel
theorem iX11_begins_58 : ins MX11_begins 58 = some (.iadd, 1) := by decide +kernel
theorem iX11_begins_59 : ins MX11_begins 59 = some (.iload_n 3, 1) := by decide +kernel
theorem iX11_begins_60 : ins MX11_begins 60 = some (.iastore, 1) := by decide +kernel
theorem iX11_begins_61 : ins MX11_begins 61 = some (.iinc 3 1, 3) := by decide +kernel
theorem iX11_begins_64 : ins MX11_begins 64 = some (.goto (-19), 3) := by decide +kernel
theorem iX11_begins_67 : ins MX11_begins 67 = some (.iconst 0, 1) := by decide +kernel
theorem iX11_begins_68 : ins MX11_begins 68 = some (.istore_n 3, 1) := by decide +kernel
theorem iX11_begins_69 : ins MX11_begins 69 = some (.iload_n 3, 1) := by decide +kernel
theorem iX11_begins_70 : ins MX11_begins 70 = some (.bipush 30, 2) := by decide +kernel
theorem iX11_begins_72 : ins MX11_begins 72 = some (.if_icmp .ge 20, 3) := by decide +kernel
theorem iX11_begins_75 : ins MX11_begins 75 = some (.aload_n 0, 1) := by decide +kernel
theorem iX11_begins_76 : ins MX11_begins 76 = some (.getfield 7, 3) := by decide +kernel
theorem iX11_begins_79 : ins MX11_begins 79 = some (.sipush 940, 3) := by decide +kernel
theorem iX11_begins_82 : ins MX11_begins 82 = some (.iload_n 3, 1) := by decide +kernel
theorem iX11_begins_83 : ins MX11_begins 83 = some (.iadd, 1) := by decide +kernel
theorem iX11_begins_84 : ins MX11_begins 84 = some (.iconst (-1), 1) := by decide +kernel
theorem iX11_begins_85 : ins MX11_begins 85 = some (.iastore, 1) := by decide +kernel
theorem iX11_begins_86 : ins MX11_begins 86 = some (.iinc 3 1, 3) := by decide +kernel
theorem iX11_begins_89 : ins MX11_begins 89 = some (.goto (-20), 3) := by decide +kernel
theorem iX11_begins_92 : ins MX11_begins 92 = some (.aload_n 0, 1) := by decide +kernel
theorem iX11_begins_93 : ins MX11_begins 93 = some (.iconst 0, 1) := by decide +kernel
theorem iX11_begins_94 : ins MX11_begins 94 = some (.putfield 69, 3) := by decide +kernel
theorem iX11_begins_97 : ins MX11_begins 97 = some (.return_, 1) := by decide +kernel
theorem iX11_colour_0 : ins MX11_colour 0 = some (.aload_n 0, 1) := by decide +kernel
theorem iX11_colour_1 : ins MX11_colour 1 = some (.iload_n 1, 1) := by decide +kernel
theorem iX11_colour_2 : ins MX11_colour 2 = some (.invokevirtual 78, 3) := by decide +kernel
theorem iX11_colour_5 : ins MX11_colour 5 = some (.ifCond .eq 13, 3) := by decide +kernel
theorem iX11_colour_8 : ins MX11_colour 8 = some (.iload_n 2, 1) := by decide +kernel
theorem iX11_colour_9 : ins MX11_colour 9 = some (.iconst 0, 1) := by decide +kernel
theorem iX11_colour_10 : ins MX11_colour 10 = some (.bipush 9, 2) := by decide +kernel
theorem iX11_colour_12 : ins MX11_colour 12 = some (.invokestatic 72, 3) := by decide +kernel
theorem iX11_colour_15 : ins MX11_colour 15 = some (.ifCond .ne 5, 3) := by decide +kernel
theorem iX11_colour_18 : ins MX11_colour 18 = some (.iconst 0, 1) := by decide +kernel
theorem iX11_colour_19 : ins MX11_colour 19 = some (.ireturn, 1) := by decide +kernel
theorem iX11_colour_20 : ins MX11_colour 20 = some (.aload_n 0, 1) := by decide +kernel
theorem iX11_colour_21 : ins MX11_colour 21 = some (.getfield 7, 3) := by decide +kernel
theorem iX11_colour_24 : ins MX11_colour 24 = some (.bipush 10, 2) := by decide +kernel
theorem iX11_colour_26 : ins MX11_colour 26 = some (.iload_n 1, 1) := by decide +kernel
theorem iX11_colour_27 : ins MX11_colour 27 = some (.iadd, 1) := by decide +kernel
theorem iX11_colour_28 : ins MX11_colour 28 = some (.iload_n 2, 1) := by decide +kernel
theorem iX11_colour_29 : ins MX11_colour 29 = some (.iastore, 1) := by decide +kernel
theorem iX11_colour_30 : ins MX11_colour 30 = some (.aload_n 0, 1) := by decide +kernel
theorem iX11_colour_31 : ins MX11_colour 31 = some (.iconst 0, 1) := by decide +kernel
theorem iX11_colour_32 : ins MX11_colour 32 = some (.putfield 69, 3) := by decide +kernel
theorem iX11_colour_35 : ins MX11_colour 35 = some (.iconst 1, 1) := by decide +kernel
theorem iX11_colour_36 : ins MX11_colour 36 = some (.ireturn, 1) := by decide +kernel
theorem iX11_comes_0 : ins MX11_comes 0 = some (.aload_n 0, 1) := by decide +kernel
theorem iX11_comes_1 : ins MX11_comes 1 = some (.iload_n 1, 1) := by decide +kernel
theorem iX11_comes_2 : ins MX11_comes 2 = some (.invokevirtual 229, 3) := by decide +kernel
theorem iX11_comes_5 : ins MX11_comes 5 = some (.istore_n 3, 1) := by decide +kernel
theorem iX11_comes_6 : ins MX11_comes 6 = some (.aload_n 0, 1) := by decide +kernel
theorem iX11_comes_7 : ins MX11_comes 7 = some (.getfield 35, 3) := by decide +kernel
theorem iX11_comes_10 : ins MX11_comes 10 = some (.iload_n 3, 1) := by decide +kernel
theorem iX11_comes_11 : ins MX11_comes 11 = some (.iaload, 1) := by decide +kernel
theorem iX11_comes_12 : ins MX11_comes 12 = some (.iload_n 1, 1) := by decide +kernel
theorem iX11_comes_13 : ins MX11_comes 13 = some (.if_icmp .ne 4, 3) := by decide +kernel
theorem iX11_comes_16 : ins MX11_comes 16 = some (.return_, 1) := by decide +kernel
theorem iX11_comes_17 : ins MX11_comes 17 = some (.aload_n 0, 1) := by decide +kernel
theorem iX11_comes_18 : ins MX11_comes 18 = some (.getfield 35, 3) := by decide +kernel
theorem iX11_comes_21 : ins MX11_comes 21 = some (.iload_n 3, 1) := by decide +kernel
theorem iX11_comes_22 : ins MX11_comes 22 = some (.iload_n 1, 1) := by decide +kernel
theorem iX11_comes_23 : ins MX11_comes 23 = some (.iastore, 1) := by decide +kernel
theorem iX11_comes_24 : ins MX11_comes 24 = some (.aload_n 0, 1) := by decide +kernel
theorem iX11_comes_25 : ins MX11_comes 25 = some (.getfield 38, 3) := by decide +kernel
theorem iX11_comes_28 : ins MX11_comes 28 = some (.iload_n 3, 1) := by decide +kernel
theorem iX11_comes_29 : ins MX11_comes 29 = some (.iload_n 2, 1) := by decide +kernel
theorem iX11_comes_30 : ins MX11_comes 30 = some (.iastore, 1) := by decide +kernel
theorem iX11_comes_31 : ins MX11_comes 31 = some (.aload_n 0, 1) := by decide +kernel
theorem iX11_comes_32 : ins MX11_comes 32 = some (.getfield 41, 3) := by decide +kernel
theorem iX11_comes_35 : ins MX11_comes 35 = some (.aload_n 0, 1) := by decide +kernel
theorem iX11_comes_36 : ins MX11_comes 36 = some (.getfield 232, 3) := by decide +kernel
theorem iX11_comes_39 : ins MX11_comes 39 = some (.iload_n 1, 1) := by decide +kernel
theorem iX11_comes_40 : ins MX11_comes 40 = some (.iastore, 1) := by decide +kernel
theorem iX11_comes_41 : ins MX11_comes 41 = some (.aload_n 0, 1) := by decide +kernel
theorem iX11_comes_42 : ins MX11_comes 42 = some (.dup, 1) := by decide +kernel
theorem iX11_comes_43 : ins MX11_comes 43 = some (.getfield 232, 3) := by decide +kernel
theorem iX11_comes_46 : ins MX11_comes 46 = some (.iconst 1, 1) := by decide +kernel
theorem iX11_comes_47 : ins MX11_comes 47 = some (.iadd, 1) := by decide +kernel
theorem iX11_comes_48 : ins MX11_comes 48 = some (.putfield 232, 3) := by decide +kernel
theorem iX11_comes_51 : ins MX11_comes 51 = some (.return_, 1) := by decide +kernel
theorem iX11_comesAgain_0 : ins MX11_comesAgain 0 = some (.iconst 0, 1) := by decide +kernel
theorem iX11_comesAgain_1 : ins MX11_comesAgain 1 = some (.istore_n 3, 1) := by decide +kernel
theorem iX11_comesAgain_2 : ins MX11_comesAgain 2 = some (.iload_n 3, 1) := by decide +kernel
theorem iX11_comesAgain_3 : ins MX11_comesAgain 3 = some (.iload_n 1, 1) := by decide +kernel
theorem iX11_comesAgain_4 : ins MX11_comesAgain 4 = some (.iadd, 1) := by decide +kernel
theorem iX11_comesAgain_5 : ins MX11_comesAgain 5 = some (.aload_n 0, 1) := by decide +kernel
theorem iX11_comesAgain_6 : ins MX11_comesAgain 6 = some (.getfield 7, 3) := by decide +kernel
theorem iX11_comesAgain_9 : ins MX11_comesAgain 9 = some (.iconst 3, 1) := by decide +kernel
theorem iX11_comesAgain_10 : ins MX11_comesAgain 10 = some (.iaload, 1) := by decide +kernel
theorem iX11_comesAgain_11 : ins MX11_comesAgain 11 = some (.if_icmp .ge 44, 3) := by decide +kernel
theorem iX11_comesAgain_14 : ins MX11_comesAgain 14 = some (.aload_n 0, 1) := by decide +kernel
theorem iX11_comesAgain_15 : ins MX11_comesAgain 15 = some (.getfield 7, 3) := by decide +kernel
theorem iX11_comesAgain_18 : ins MX11_comesAgain 18 = some (.sipush 320, 3) := by decide +kernel
theorem iX11_comesAgain_21 : ins MX11_comesAgain 21 = some (.iconst 2, 1) := by decide +kernel
theorem iX11_comesAgain_22 : ins MX11_comesAgain 22 = some (.iload_n 3, 1) := by decide +kernel
theorem iX11_comesAgain_23 : ins MX11_comesAgain 23 = some (.imul, 1) := by decide +kernel
theorem iX11_comesAgain_24 : ins MX11_comesAgain 24 = some (.iadd, 1) := by decide +kernel
theorem iX11_comesAgain_25 : ins MX11_comesAgain 25 = some (.iload_n 2, 1) := by decide +kernel
theorem iX11_comesAgain_26 : ins MX11_comesAgain 26 = some (.iadd, 1) := by decide +kernel
theorem iX11_comesAgain_27 : ins MX11_comesAgain 27 = some (.iaload, 1) := by decide +kernel
theorem iX11_comesAgain_28 : ins MX11_comesAgain 28 = some (.aload_n 0, 1) := by decide +kernel
theorem iX11_comesAgain_29 : ins MX11_comesAgain 29 = some (.getfield 7, 3) := by decide +kernel
theorem iX11_comesAgain_32 : ins MX11_comesAgain 32 = some (.sipush 320, 3) := by decide +kernel
theorem iX11_comesAgain_35 : ins MX11_comesAgain 35 = some (.iconst 2, 1) := by decide +kernel
theorem iX11_comesAgain_36 : ins MX11_comesAgain 36 = some (.iload_n 3, 1) := by decide +kernel
theorem iX11_comesAgain_37 : ins MX11_comesAgain 37 = some (.iload_n 1, 1) := by decide +kernel
theorem iX11_comesAgain_38 : ins MX11_comesAgain 38 = some (.iadd, 1) := by decide +kernel
theorem iX11_comesAgain_39 : ins MX11_comesAgain 39 = some (.imul, 1) := by decide +kernel
theorem iX11_comesAgain_40 : ins MX11_comesAgain 40 = some (.iadd, 1) := by decide +kernel
theorem iX11_comesAgain_41 : ins MX11_comesAgain 41 = some (.iload_n 2, 1) := by decide +kernel
theorem iX11_comesAgain_42 : ins MX11_comesAgain 42 = some (.iadd, 1) := by decide +kernel
theorem iX11_comesAgain_43 : ins MX11_comesAgain 43 = some (.iaload, 1) := by decide +kernel
theorem iX11_comesAgain_44 : ins MX11_comesAgain 44 = some (.if_icmp .eq 5, 3) := by decide +kernel
theorem iX11_comesAgain_47 : ins MX11_comesAgain 47 = some (.iconst 0, 1) := by decide +kernel
theorem iX11_comesAgain_48 : ins MX11_comesAgain 48 = some (.ireturn, 1) := by decide +kernel
theorem iX11_comesAgain_49 : ins MX11_comesAgain 49 = some (.iinc 3 1, 3) := by decide +kernel
theorem iX11_comesAgain_52 : ins MX11_comesAgain 52 = some (.goto (-50), 3) := by decide +kernel
theorem iX11_comesAgain_55 : ins MX11_comesAgain 55 = some (.iconst 1, 1) := by decide +kernel
theorem iX11_comesAgain_56 : ins MX11_comesAgain 56 = some (.ireturn, 1) := by decide +kernel
theorem iX11_cut_0 : ins MX11_cut 0 = some (.iload_n 1, 1) := by decide +kernel
theorem iX11_cut_1 : ins MX11_cut 1 = some (.iconst 0, 1) := by decide +kernel
theorem iX11_cut_2 : ins MX11_cut 2 = some (.iconst 2, 1) := by decide +kernel
theorem iX11_cut_3 : ins MX11_cut 3 = some (.invokestatic 72, 3) := by decide +kernel
theorem iX11_cut_6 : ins MX11_cut 6 = some (.ifCond .ne 5, 3) := by decide +kernel
theorem iX11_cut_9 : ins MX11_cut 9 = some (.iconst (-1), 1) := by decide +kernel
theorem iX11_cut_10 : ins MX11_cut 10 = some (.ireturn, 1) := by decide +kernel
theorem iX11_cut_11 : ins MX11_cut 11 = some (.iconst 0, 1) := by decide +kernel
theorem iX11_cut_12 : ins MX11_cut 12 = some (.istore_n 2, 1) := by decide +kernel
theorem iX11_cut_13 : ins MX11_cut 13 = some (.iconst (-1), 1) := by decide +kernel
theorem iX11_cut_14 : ins MX11_cut 14 = some (.istore_n 3, 1) := by decide +kernel
theorem iX11_cut_15 : ins MX11_cut 15 = some (.iconst (-1), 1) := by decide +kernel
theorem iX11_cut_16 : ins MX11_cut 16 = some (.istore 4, 2) := by decide +kernel
theorem iX11_cut_18 : ins MX11_cut 18 = some (.iconst 0, 1) := by decide +kernel
theorem iX11_cut_19 : ins MX11_cut 19 = some (.istore 5, 2) := by decide +kernel
theorem iX11_cut_21 : ins MX11_cut 21 = some (.iload 5, 2) := by decide +kernel
theorem iX11_cut_23 : ins MX11_cut 23 = some (.iconst 4, 1) := by decide +kernel
theorem iX11_cut_24 : ins MX11_cut 24 = some (.if_icmp .ge 79, 3) := by decide +kernel
theorem iX11_cut_27 : ins MX11_cut 27 = some (.aload_n 0, 1) := by decide +kernel
theorem iX11_cut_28 : ins MX11_cut 28 = some (.invokevirtual 248, 3) := by decide +kernel
theorem iX11_cut_31 : ins MX11_cut 31 = some (.iconst 0, 1) := by decide +kernel
theorem iX11_cut_32 : ins MX11_cut 32 = some (.istore 6, 2) := by decide +kernel
theorem iX11_cut_34 : ins MX11_cut 34 = some (.iload 6, 2) := by decide +kernel
theorem iX11_cut_36 : ins MX11_cut 36 = some (.bipush 30, 2) := by decide +kernel
theorem iX11_cut_38 : ins MX11_cut 38 = some (.if_icmp .gt 59, 3) := by decide +kernel
theorem iX11_cut_41 : ins MX11_cut 41 = some (.iload 6, 2) := by decide +kernel
theorem iX11_cut_43 : ins MX11_cut 43 = some (.ifCond .le 11, 3) := by decide +kernel
theorem iX11_cut_46 : ins MX11_cut 46 = some (.aload_n 0, 1) := by decide +kernel
theorem iX11_cut_47 : ins MX11_cut 47 = some (.iload 5, 2) := by decide +kernel
theorem iX11_cut_49 : ins MX11_cut 49 = some (.iconst 0, 1) := by decide +kernel
theorem iX11_cut_50 : ins MX11_cut 50 = some (.iconst (-1), 1) := by decide +kernel
theorem iX11_cut_51 : ins MX11_cut 51 = some (.invokevirtual 220, 3) := by decide +kernel
theorem iX11_cut_54 : ins MX11_cut 54 = some (.aload_n 0, 1) := by decide +kernel
theorem iX11_cut_55 : ins MX11_cut 55 = some (.invokevirtual 251, 3) := by decide +kernel
theorem iX11_cut_58 : ins MX11_cut 58 = some (.ifCond .ne 6, 3) := by decide +kernel
theorem iX11_cut_61 : ins MX11_cut 61 = some (.goto 30, 3) := by decide +kernel
theorem iX11_cut_64 : ins MX11_cut 64 = some (.iload_n 2, 1) := by decide +kernel
theorem iX11_cut_65 : ins MX11_cut 65 = some (.ifCond .ne 8, 3) := by decide +kernel
theorem iX11_cut_68 : ins MX11_cut 68 = some (.iload 5, 2) := by decide +kernel
theorem iX11_cut_70 : ins MX11_cut 70 = some (.goto 4, 3) := by decide +kernel
theorem iX11_cut_73 : ins MX11_cut 73 = some (.iload_n 3, 1) := by decide +kernel
theorem iX11_cut_74 : ins MX11_cut 74 = some (.istore_n 3, 1) := by decide +kernel
theorem iX11_cut_75 : ins MX11_cut 75 = some (.iload_n 2, 1) := by decide +kernel
theorem iX11_cut_76 : ins MX11_cut 76 = some (.ifCond .ne 8, 3) := by decide +kernel
theorem iX11_cut_79 : ins MX11_cut 79 = some (.iload 6, 2) := by decide +kernel
theorem iX11_cut_81 : ins MX11_cut 81 = some (.goto 5, 3) := by decide +kernel
theorem iX11_cut_84 : ins MX11_cut 84 = some (.iload 4, 2) := by decide +kernel
theorem iX11_cut_86 : ins MX11_cut 86 = some (.istore 4, 2) := by decide +kernel
theorem iX11_cut_88 : ins MX11_cut 88 = some (.iinc 2 1, 3) := by decide +kernel
theorem iX11_cut_91 : ins MX11_cut 91 = some (.iinc 6 1, 3) := by decide +kernel
theorem iX11_cut_94 : ins MX11_cut 94 = some (.goto (-60), 3) := by decide +kernel
theorem iX11_cut_97 : ins MX11_cut 97 = some (.iinc 5 1, 3) := by decide +kernel
theorem iX11_cut_100 : ins MX11_cut 100 = some (.goto (-79), 3) := by decide +kernel
theorem iX11_cut_103 : ins MX11_cut 103 = some (.iload_n 1, 1) := by decide +kernel
theorem iX11_cut_104 : ins MX11_cut 104 = some (.ifCond .ne 7, 3) := by decide +kernel
theorem iX11_cut_107 : ins MX11_cut 107 = some (.iload_n 2, 1) := by decide +kernel
theorem iX11_cut_108 : ins MX11_cut 108 = some (.goto 14, 3) := by decide +kernel
theorem iX11_cut_111 : ins MX11_cut 111 = some (.iload_n 1, 1) := by decide +kernel
theorem iX11_cut_112 : ins MX11_cut 112 = some (.iconst 1, 1) := by decide +kernel
theorem iX11_cut_113 : ins MX11_cut 113 = some (.if_icmp .ne 7, 3) := by decide +kernel
theorem iX11_cut_116 : ins MX11_cut 116 = some (.iload_n 3, 1) := by decide +kernel
theorem iX11_cut_117 : ins MX11_cut 117 = some (.goto 5, 3) := by decide +kernel
theorem iX11_cut_120 : ins MX11_cut 120 = some (.iload 4, 2) := by decide +kernel
theorem iX11_cut_122 : ins MX11_cut 122 = some (.ireturn, 1) := by decide +kernel
theorem iX11_doCross_0 : ins MX11_doCross 0 = some (.aload_n 0, 1) := by decide +kernel
theorem iX11_doCross_1 : ins MX11_doCross 1 = some (.iload_n 1, 1) := by decide +kernel
theorem iX11_doCross_2 : ins MX11_doCross 2 = some (.iload_n 2, 1) := by decide +kernel
theorem iX11_doCross_3 : ins MX11_doCross 3 = some (.iconst 1, 1) := by decide +kernel
theorem iX11_doCross_4 : ins MX11_doCross 4 = some (.invokevirtual 185, 3) := by decide +kernel
theorem iX11_doCross_7 : ins MX11_doCross 7 = some (.istore 4, 2) := by decide +kernel
theorem iX11_doCross_9 : ins MX11_doCross 9 = some (.aload_n 0, 1) := by decide +kernel
theorem iX11_doCross_10 : ins MX11_doCross 10 = some (.iload_n 1, 1) := by decide +kernel
theorem iX11_doCross_11 : ins MX11_doCross 11 = some (.iload_n 2, 1) := by decide +kernel
theorem iX11_doCross_12 : ins MX11_doCross 12 = some (.iconst 2, 1) := by decide +kernel
theorem iX11_doCross_13 : ins MX11_doCross 13 = some (.invokevirtual 185, 3) := by decide +kernel
theorem iX11_doCross_16 : ins MX11_doCross 16 = some (.istore 5, 2) := by decide +kernel
theorem iX11_doCross_18 : ins MX11_doCross 18 = some (.aload_n 0, 1) := by decide +kernel
theorem iX11_doCross_19 : ins MX11_doCross 19 = some (.iload_n 1, 1) := by decide +kernel
theorem iX11_doCross_20 : ins MX11_doCross 20 = some (.iload_n 3, 1) := by decide +kernel
theorem iX11_doCross_21 : ins MX11_doCross 21 = some (.iconst 1, 1) := by decide +kernel
theorem iX11_doCross_22 : ins MX11_doCross 22 = some (.invokevirtual 185, 3) := by decide +kernel
theorem iX11_doCross_25 : ins MX11_doCross 25 = some (.istore 6, 2) := by decide +kernel
theorem iX11_doCross_27 : ins MX11_doCross 27 = some (.aload_n 0, 1) := by decide +kernel
theorem iX11_doCross_28 : ins MX11_doCross 28 = some (.iload_n 1, 1) := by decide +kernel
theorem iX11_doCross_29 : ins MX11_doCross 29 = some (.iload_n 3, 1) := by decide +kernel
theorem iX11_doCross_30 : ins MX11_doCross 30 = some (.iconst 2, 1) := by decide +kernel
theorem iX11_doCross_31 : ins MX11_doCross 31 = some (.invokevirtual 185, 3) := by decide +kernel
theorem iX11_doCross_34 : ins MX11_doCross 34 = some (.istore 7, 2) := by decide +kernel
theorem iX11_doCross_36 : ins MX11_doCross 36 = some (.iload 4, 2) := by decide +kernel
theorem iX11_doCross_38 : ins MX11_doCross 38 = some (.iload 6, 2) := by decide +kernel
theorem iX11_doCross_40 : ins MX11_doCross 40 = some (.if_icmp .eq 45, 3) := by decide +kernel
theorem iX11_doCross_43 : ins MX11_doCross 43 = some (.iload 4, 2) := by decide +kernel
theorem iX11_doCross_45 : ins MX11_doCross 45 = some (.iload 7, 2) := by decide +kernel
theorem iX11_doCross_47 : ins MX11_doCross 47 = some (.if_icmp .eq 38, 3) := by decide +kernel
theorem iX11_doCross_50 : ins MX11_doCross 50 = some (.iload 5, 2) := by decide +kernel
theorem iX11_doCross_52 : ins MX11_doCross 52 = some (.iload 6, 2) := by decide +kernel
theorem iX11_doCross_54 : ins MX11_doCross 54 = some (.if_icmp .eq 31, 3) := by decide +kernel
theorem iX11_doCross_57 : ins MX11_doCross 57 = some (.iload 5, 2) := by decide +kernel
theorem iX11_doCross_59 : ins MX11_doCross 59 = some (.iload 7, 2) := by decide +kernel
theorem iX11_doCross_61 : ins MX11_doCross 61 = some (.if_icmp .eq 24, 3) := by decide +kernel
theorem iX11_doCross_64 : ins MX11_doCross 64 = some (.iload 6, 2) := by decide +kernel
theorem iX11_doCross_66 : ins MX11_doCross 66 = some (.iload 4, 2) := by decide +kernel
theorem iX11_doCross_68 : ins MX11_doCross 68 = some (.iload 5, 2) := by decide +kernel
theorem iX11_doCross_70 : ins MX11_doCross 70 = some (.invokestatic 264, 3) := by decide +kernel
theorem iX11_doCross_73 : ins MX11_doCross 73 = some (.iload 7, 2) := by decide +kernel
theorem iX11_doCross_75 : ins MX11_doCross 75 = some (.iload 4, 2) := by decide +kernel
theorem iX11_doCross_77 : ins MX11_doCross 77 = some (.iload 5, 2) := by decide +kernel
theorem iX11_doCross_79 : ins MX11_doCross 79 = some (.invokestatic 264, 3) := by decide +kernel
theorem iX11_doCross_82 : ins MX11_doCross 82 = some (.if_icmp .eq 7, 3) := by decide +kernel
theorem iX11_doCross_85 : ins MX11_doCross 85 = some (.iconst 1, 1) := by decide +kernel
theorem iX11_doCross_86 : ins MX11_doCross 86 = some (.goto 4, 3) := by decide +kernel
theorem iX11_doCross_89 : ins MX11_doCross 89 = some (.iconst 0, 1) := by decide +kernel
theorem iX11_doCross_90 : ins MX11_doCross 90 = some (.ireturn, 1) := by decide +kernel
theorem iX11_draw_0 : ins MX11_draw 0 = some (.aload_n 0, 1) := by decide +kernel
theorem iX11_draw_1 : ins MX11_draw 1 = some (.getfield 7, 3) := by decide +kernel
theorem iX11_draw_4 : ins MX11_draw 4 = some (.iconst 2, 1) := by decide +kernel
theorem iX11_draw_5 : ins MX11_draw 5 = some (.ldc 76, 2) := by decide +kernel
theorem iX11_draw_7 : ins MX11_draw 7 = some (.aload_n 0, 1) := by decide +kernel
theorem iX11_draw_8 : ins MX11_draw 8 = some (.getfield 7, 3) := by decide +kernel
theorem iX11_draw_11 : ins MX11_draw 11 = some (.iconst 2, 1) := by decide +kernel
theorem iX11_draw_12 : ins MX11_draw 12 = some (.iaload, 1) := by decide +kernel
theorem iX11_draw_13 : ins MX11_draw 13 = some (.imul, 1) := by decide +kernel
theorem iX11_draw_14 : ins MX11_draw 14 = some (.ldc 77, 2) := by decide +kernel
theorem iX11_draw_16 : ins MX11_draw 16 = some (.iadd, 1) := by decide +kernel
theorem iX11_draw_17 : ins MX11_draw 17 = some (.iastore, 1) := by decide +kernel
theorem iX11_draw_18 : ins MX11_draw 18 = some (.aload_n 0, 1) := by decide +kernel
theorem iX11_draw_19 : ins MX11_draw 19 = some (.getfield 7, 3) := by decide +kernel
theorem iX11_draw_22 : ins MX11_draw 22 = some (.iconst 2, 1) := by decide +kernel
theorem iX11_draw_23 : ins MX11_draw 23 = some (.iaload, 1) := by decide +kernel
theorem iX11_draw_24 : ins MX11_draw 24 = some (.bipush 8, 2) := by decide +kernel
theorem iX11_draw_26 : ins MX11_draw 26 = some (.iushr, 1) := by decide +kernel
theorem iX11_draw_27 : ins MX11_draw 27 = some (.iload_n 1, 1) := by decide +kernel
theorem iX11_draw_28 : ins MX11_draw 28 = some (.irem, 1) := by decide +kernel
theorem iX11_draw_29 : ins MX11_draw 29 = some (.ireturn, 1) := by decide +kernel
theorem iX11_dropped_0 : ins MX11_dropped 0 = some (.iload_n 1, 1) := by decide +kernel
theorem iX11_dropped_1 : ins MX11_dropped 1 = some (.invokestatic 178, 3) := by decide +kernel
theorem iX11_dropped_4 : ins MX11_dropped 4 = some (.ifCond .eq 22, 3) := by decide +kernel
theorem iX11_dropped_7 : ins MX11_dropped 7 = some (.iload_n 2, 1) := by decide +kernel
theorem iX11_dropped_8 : ins MX11_dropped 8 = some (.iconst 1, 1) := by decide +kernel
theorem iX11_dropped_9 : ins MX11_dropped 9 = some (.bipush 30, 2) := by decide +kernel
theorem iX11_dropped_11 : ins MX11_dropped 11 = some (.invokestatic 72, 3) := by decide +kernel
theorem iX11_dropped_14 : ins MX11_dropped 14 = some (.ifCond .eq 12, 3) := by decide +kernel
theorem iX11_dropped_17 : ins MX11_dropped 17 = some (.iload_n 3, 1) := by decide +kernel
theorem iX11_dropped_18 : ins MX11_dropped 18 = some (.iconst 0, 1) := by decide +kernel
theorem iX11_dropped_19 : ins MX11_dropped 19 = some (.iconst 2, 1) := by decide +kernel
theorem iX11_dropped_20 : ins MX11_dropped 20 = some (.invokestatic 72, 3) := by decide +kernel
theorem iX11_dropped_23 : ins MX11_dropped 23 = some (.ifCond .ne 5, 3) := by decide +kernel
theorem iX11_dropped_26 : ins MX11_dropped 26 = some (.iconst (-1), 1) := by decide +kernel
theorem iX11_dropped_27 : ins MX11_dropped 27 = some (.ireturn, 1) := by decide +kernel
theorem iX11_dropped_28 : ins MX11_dropped 28 = some (.iconst 0, 1) := by decide +kernel
theorem iX11_dropped_29 : ins MX11_dropped 29 = some (.istore 4, 2) := by decide +kernel
theorem iX11_dropped_31 : ins MX11_dropped 31 = some (.iconst (-1), 1) := by decide +kernel
theorem iX11_dropped_32 : ins MX11_dropped 32 = some (.istore 5, 2) := by decide +kernel
theorem iX11_dropped_34 : ins MX11_dropped 34 = some (.iconst (-1), 1) := by decide +kernel
theorem iX11_dropped_35 : ins MX11_dropped 35 = some (.istore 6, 2) := by decide +kernel
theorem iX11_dropped_37 : ins MX11_dropped 37 = some (.aload_n 0, 1) := by decide +kernel
theorem iX11_dropped_38 : ins MX11_dropped 38 = some (.iload_n 1, 1) := by decide +kernel
theorem iX11_dropped_39 : ins MX11_dropped 39 = some (.iload_n 2, 1) := by decide +kernel
theorem iX11_dropped_40 : ins MX11_dropped 40 = some (.iconst (-1), 1) := by decide +kernel
theorem iX11_dropped_41 : ins MX11_dropped 41 = some (.iload_n 2, 1) := by decide +kernel
theorem iX11_dropped_42 : ins MX11_dropped 42 = some (.iconst 1, 1) := by decide +kernel
theorem iX11_dropped_43 : ins MX11_dropped 43 = some (.iadd, 1) := by decide +kernel
theorem iX11_dropped_44 : ins MX11_dropped 44 = some (.invokevirtual 254, 3) := by decide +kernel
theorem iX11_dropped_47 : ins MX11_dropped 47 = some (.ifCond .eq 11, 3) := by decide +kernel
theorem iX11_dropped_50 : ins MX11_dropped 50 = some (.iload_n 2, 1) := by decide +kernel
theorem iX11_dropped_51 : ins MX11_dropped 51 = some (.iconst 1, 1) := by decide +kernel
theorem iX11_dropped_52 : ins MX11_dropped 52 = some (.iadd, 1) := by decide +kernel
theorem iX11_dropped_53 : ins MX11_dropped 53 = some (.istore 6, 2) := by decide +kernel
theorem iX11_dropped_55 : ins MX11_dropped 55 = some (.iinc 4 1, 3) := by decide +kernel
theorem iX11_dropped_58 : ins MX11_dropped 58 = some (.iconst 0, 1) := by decide +kernel
theorem iX11_dropped_59 : ins MX11_dropped 59 = some (.istore 7, 2) := by decide +kernel
theorem iX11_dropped_61 : ins MX11_dropped 61 = some (.iload 7, 2) := by decide +kernel
theorem iX11_dropped_63 : ins MX11_dropped 63 = some (.aload_n 0, 1) := by decide +kernel
theorem iX11_dropped_64 : ins MX11_dropped 64 = some (.getfield 7, 3) := by decide +kernel
theorem iX11_dropped_67 : ins MX11_dropped 67 = some (.iconst 0, 1) := by decide +kernel
theorem iX11_dropped_68 : ins MX11_dropped 68 = some (.iaload, 1) := by decide +kernel
theorem iX11_dropped_69 : ins MX11_dropped 69 = some (.if_icmp .ge 71, 3) := by decide +kernel
theorem iX11_dropped_72 : ins MX11_dropped 72 = some (.iconst 1, 1) := by decide +kernel
theorem iX11_dropped_73 : ins MX11_dropped 73 = some (.istore 8, 2) := by decide +kernel
theorem iX11_dropped_75 : ins MX11_dropped 75 = some (.iload 8, 2) := by decide +kernel
theorem iX11_dropped_77 : ins MX11_dropped 77 = some (.iload_n 2, 1) := by decide +kernel
theorem iX11_dropped_78 : ins MX11_dropped 78 = some (.if_icmp .gt 56, 3) := by decide +kernel
theorem iX11_dropped_81 : ins MX11_dropped 81 = some (.aload_n 0, 1) := by decide +kernel
theorem iX11_dropped_82 : ins MX11_dropped 82 = some (.iload_n 1, 1) := by decide +kernel
theorem iX11_dropped_83 : ins MX11_dropped 83 = some (.iload_n 2, 1) := by decide +kernel
theorem iX11_dropped_84 : ins MX11_dropped 84 = some (.iload 7, 2) := by decide +kernel
theorem iX11_dropped_86 : ins MX11_dropped 86 = some (.iload 8, 2) := by decide +kernel
theorem iX11_dropped_88 : ins MX11_dropped 88 = some (.invokevirtual 254, 3) := by decide +kernel
theorem iX11_dropped_91 : ins MX11_dropped 91 = some (.ifCond .ne 6, 3) := by decide +kernel
theorem iX11_dropped_94 : ins MX11_dropped 94 = some (.goto 34, 3) := by decide +kernel
theorem iX11_dropped_97 : ins MX11_dropped 97 = some (.iload 4, 2) := by decide +kernel
theorem iX11_dropped_99 : ins MX11_dropped 99 = some (.ifCond .ne 8, 3) := by decide +kernel
theorem iX11_dropped_102 : ins MX11_dropped 102 = some (.iload 7, 2) := by decide +kernel
theorem iX11_dropped_104 : ins MX11_dropped 104 = some (.goto 5, 3) := by decide +kernel
theorem iX11_dropped_107 : ins MX11_dropped 107 = some (.iload 5, 2) := by decide +kernel
theorem iX11_dropped_109 : ins MX11_dropped 109 = some (.istore 5, 2) := by decide +kernel
theorem iX11_dropped_111 : ins MX11_dropped 111 = some (.iload 4, 2) := by decide +kernel
theorem iX11_dropped_113 : ins MX11_dropped 113 = some (.ifCond .ne 8, 3) := by decide +kernel
theorem iX11_dropped_116 : ins MX11_dropped 116 = some (.iload 8, 2) := by decide +kernel
theorem iX11_dropped_118 : ins MX11_dropped 118 = some (.goto 5, 3) := by decide +kernel
theorem iX11_dropped_121 : ins MX11_dropped 121 = some (.iload 6, 2) := by decide +kernel
theorem iX11_dropped_123 : ins MX11_dropped 123 = some (.istore 6, 2) := by decide +kernel
theorem iX11_dropped_125 : ins MX11_dropped 125 = some (.iinc 4 1, 3) := by decide +kernel
theorem iX11_dropped_128 : ins MX11_dropped 128 = some (.iinc 8 1, 3) := by decide +kernel
theorem iX11_dropped_131 : ins MX11_dropped 131 = some (.goto (-56), 3) := by decide +kernel
theorem iX11_dropped_134 : ins MX11_dropped 134 = some (.iinc 7 1, 3) := by decide +kernel
theorem iX11_dropped_137 : ins MX11_dropped 137 = some (.goto (-76), 3) := by decide +kernel
theorem iX11_dropped_140 : ins MX11_dropped 140 = some (.iload_n 3, 1) := by decide +kernel
theorem iX11_dropped_141 : ins MX11_dropped 141 = some (.ifCond .ne 8, 3) := by decide +kernel
theorem iX11_dropped_144 : ins MX11_dropped 144 = some (.iload 4, 2) := by decide +kernel
theorem iX11_dropped_146 : ins MX11_dropped 146 = some (.goto 15, 3) := by decide +kernel
theorem iX11_dropped_149 : ins MX11_dropped 149 = some (.iload_n 3, 1) := by decide +kernel
theorem iX11_dropped_150 : ins MX11_dropped 150 = some (.iconst 1, 1) := by decide +kernel
theorem iX11_dropped_151 : ins MX11_dropped 151 = some (.if_icmp .ne 8, 3) := by decide +kernel
theorem iX11_dropped_154 : ins MX11_dropped 154 = some (.iload 5, 2) := by decide +kernel
theorem iX11_dropped_156 : ins MX11_dropped 156 = some (.goto 5, 3) := by decide +kernel
theorem iX11_dropped_159 : ins MX11_dropped 159 = some (.iload 6, 2) := by decide +kernel
theorem iX11_dropped_161 : ins MX11_dropped 161 = some (.ireturn, 1) := by decide +kernel
theorem iX11_end_0 : ins MX11_end 0 = some (.iload_n 1, 1) := by decide +kernel
theorem iX11_end_1 : ins MX11_end 1 = some (.iconst 0, 1) := by decide +kernel
theorem iX11_end_2 : ins MX11_end 2 = some (.aload_n 0, 1) := by decide +kernel
theorem iX11_end_3 : ins MX11_end 3 = some (.getfield 82, 3) := by decide +kernel
theorem iX11_end_6 : ins MX11_end 6 = some (.invokestatic 72, 3) := by decide +kernel
theorem iX11_end_9 : ins MX11_end 9 = some (.ifCond .ne 5, 3) := by decide +kernel
theorem iX11_end_12 : ins MX11_end 12 = some (.iconst 0, 1) := by decide +kernel
theorem iX11_end_13 : ins MX11_end 13 = some (.ireturn, 1) := by decide +kernel
theorem iX11_end_14 : ins MX11_end 14 = some (.aload_n 0, 1) := by decide +kernel
theorem iX11_end_15 : ins MX11_end 15 = some (.iload_n 1, 1) := by decide +kernel
theorem iX11_end_16 : ins MX11_end 16 = some (.putfield 82, 3) := by decide +kernel
theorem iX11_end_19 : ins MX11_end 19 = some (.iconst 1, 1) := by decide +kernel
theorem iX11_end_20 : ins MX11_end 20 = some (.ireturn, 1) := by decide +kernel
theorem iX11_farOf_0 : ins MX11_farOf 0 = some (.aload_n 0, 1) := by decide +kernel
theorem iX11_farOf_1 : ins MX11_farOf 1 = some (.iload_n 1, 1) := by decide +kernel
theorem iX11_farOf_2 : ins MX11_farOf 2 = some (.invokevirtual 229, 3) := by decide +kernel
theorem iX11_farOf_5 : ins MX11_farOf 5 = some (.istore_n 2, 1) := by decide +kernel
theorem iX11_farOf_6 : ins MX11_farOf 6 = some (.aload_n 0, 1) := by decide +kernel
theorem iX11_farOf_7 : ins MX11_farOf 7 = some (.getfield 35, 3) := by decide +kernel
theorem iX11_farOf_10 : ins MX11_farOf 10 = some (.iload_n 2, 1) := by decide +kernel
theorem iX11_farOf_11 : ins MX11_farOf 11 = some (.iaload, 1) := by decide +kernel
theorem iX11_farOf_12 : ins MX11_farOf 12 = some (.iload_n 1, 1) := by decide +kernel
theorem iX11_farOf_13 : ins MX11_farOf 13 = some (.if_icmp .ne 12, 3) := by decide +kernel
theorem iX11_farOf_16 : ins MX11_farOf 16 = some (.aload_n 0, 1) := by decide +kernel
theorem iX11_farOf_17 : ins MX11_farOf 17 = some (.getfield 38, 3) := by decide +kernel
theorem iX11_farOf_20 : ins MX11_farOf 20 = some (.iload_n 2, 1) := by decide +kernel
theorem iX11_farOf_21 : ins MX11_farOf 21 = some (.iaload, 1) := by decide +kernel
theorem iX11_farOf_22 : ins MX11_farOf 22 = some (.goto 4, 3) := by decide +kernel
theorem iX11_farOf_25 : ins MX11_farOf 25 = some (.iconst (-1), 1) := by decide +kernel
theorem iX11_farOf_26 : ins MX11_farOf 26 = some (.ireturn, 1) := by decide +kernel
theorem iX11_fault_0 : ins MX11_fault 0 = some (.iload_n 1, 1) := by decide +kernel
theorem iX11_fault_1 : ins MX11_fault 1 = some (.ifCond .ne 10, 3) := by decide +kernel
theorem iX11_fault_4 : ins MX11_fault 4 = some (.aload_n 0, 1) := by decide +kernel
theorem iX11_fault_5 : ins MX11_fault 5 = some (.getfield 175, 3) := by decide +kernel
theorem iX11_fault_8 : ins MX11_fault 8 = some (.goto 16, 3) := by decide +kernel
theorem iX11_fault_11 : ins MX11_fault 11 = some (.iload_n 1, 1) := by decide +kernel
theorem iX11_fault_12 : ins MX11_fault 12 = some (.iconst 1, 1) := by decide +kernel
theorem iX11_fault_13 : ins MX11_fault 13 = some (.if_icmp .ne 10, 3) := by decide +kernel
theorem iX11_fault_16 : ins MX11_fault 16 = some (.aload_n 0, 1) := by decide +kernel
theorem iX11_fault_17 : ins MX11_fault 17 = some (.getfield 25, 3) := by decide +kernel
theorem iX11_fault_20 : ins MX11_fault 20 = some (.goto 4, 3) := by decide +kernel
theorem iX11_fault_23 : ins MX11_fault 23 = some (.iconst (-1), 1) := by decide +kernel
theorem iX11_fault_24 : ins MX11_fault 24 = some (.ireturn, 1) := by decide +kernel
theorem iX11_feed_0 : ins MX11_feed 0 = some (.aload_n 0, 1) := by decide +kernel
theorem iX11_feed_1 : ins MX11_feed 1 = some (.getfield 82, 3) := by decide +kernel
theorem iX11_feed_4 : ins MX11_feed 4 = some (.bipush 20, 2) := by decide +kernel
theorem iX11_feed_6 : ins MX11_feed 6 = some (.iadd, 1) := by decide +kernel
theorem iX11_feed_7 : ins MX11_feed 7 = some (.sipush 400, 3) := by decide +kernel
theorem iX11_feed_10 : ins MX11_feed 10 = some (.if_icmp .le 5, 3) := by decide +kernel
theorem iX11_feed_13 : ins MX11_feed 13 = some (.iconst (-1), 1) := by decide +kernel
theorem iX11_feed_14 : ins MX11_feed 14 = some (.ireturn, 1) := by decide +kernel
theorem iX11_feed_15 : ins MX11_feed 15 = some (.iconst 0, 1) := by decide +kernel
theorem iX11_feed_16 : ins MX11_feed 16 = some (.istore 6, 2) := by decide +kernel
theorem iX11_feed_18 : ins MX11_feed 18 = some (.iload 6, 2) := by decide +kernel
theorem iX11_feed_20 : ins MX11_feed 20 = some (.bipush 20, 2) := by decide +kernel
theorem iX11_feed_22 : ins MX11_feed 22 = some (.if_icmp .ge 93, 3) := by decide +kernel
theorem iX11_feed_25 : ins MX11_feed 25 = some (.iload 6, 2) := by decide +kernel
theorem iX11_feed_27 : ins MX11_feed 27 = some (.iconst 4, 1) := by decide +kernel
theorem iX11_feed_28 : ins MX11_feed 28 = some (.if_icmp .ge 7, 3) := by decide +kernel
theorem iX11_feed_31 : ins MX11_feed 31 = some (.iload_n 1, 1) := by decide +kernel
theorem iX11_feed_32 : ins MX11_feed 32 = some (.goto 39, 3) := by decide +kernel
theorem iX11_feed_35 : ins MX11_feed 35 = some (.iload 6, 2) := by decide +kernel
theorem iX11_feed_37 : ins MX11_feed 37 = some (.bipush 8, 2) := by decide +kernel
theorem iX11_feed_39 : ins MX11_feed 39 = some (.if_icmp .ge 7, 3) := by decide +kernel
theorem iX11_feed_42 : ins MX11_feed 42 = some (.iload_n 2, 1) := by decide +kernel
theorem iX11_feed_43 : ins MX11_feed 43 = some (.goto 28, 3) := by decide +kernel
theorem iX11_feed_46 : ins MX11_feed 46 = some (.iload 6, 2) := by decide +kernel
theorem iX11_feed_48 : ins MX11_feed 48 = some (.bipush 12, 2) := by decide +kernel
theorem iX11_feed_50 : ins MX11_feed 50 = some (.if_icmp .ge 7, 3) := by decide +kernel
theorem iX11_feed_53 : ins MX11_feed 53 = some (.iload_n 3, 1) := by decide +kernel
theorem iX11_feed_54 : ins MX11_feed 54 = some (.goto 17, 3) := by decide +kernel
theorem iX11_feed_57 : ins MX11_feed 57 = some (.iload 6, 2) := by decide +kernel
theorem iX11_feed_59 : ins MX11_feed 59 = some (.bipush 16, 2) := by decide +kernel
theorem iX11_feed_61 : ins MX11_feed 61 = some (.if_icmp .ge 8, 3) := by decide +kernel
theorem iX11_feed_64 : ins MX11_feed 64 = some (.iload 4, 2) := by decide +kernel
theorem iX11_feed_66 : ins MX11_feed 66 = some (.goto 5, 3) := by decide +kernel
theorem iX11_feed_69 : ins MX11_feed 69 = some (.iload 5, 2) := by decide +kernel
theorem iX11_feed_71 : ins MX11_feed 71 = some (.istore 7, 2) := by decide +kernel
theorem iX11_feed_73 : ins MX11_feed 73 = some (.aload_n 0, 1) := by decide +kernel
theorem iX11_feed_74 : ins MX11_feed 74 = some (.getfield 22, 3) := by decide +kernel
theorem iX11_feed_77 : ins MX11_feed 77 = some (.aload_n 0, 1) := by decide +kernel
theorem iX11_feed_78 : ins MX11_feed 78 = some (.getfield 82, 3) := by decide +kernel
theorem iX11_feed_81 : ins MX11_feed 81 = some (.iload 7, 2) := by decide +kernel
theorem iX11_feed_83 : ins MX11_feed 83 = some (.bipush 24, 2) := by decide +kernel
theorem iX11_feed_85 : ins MX11_feed 85 = some (.bipush 8, 2) := by decide +kernel
theorem iX11_feed_87 : ins MX11_feed 87 = some (.iload 6, 2) := by decide +kernel
theorem iX11_feed_89 : ins MX11_feed 89 = some (.iconst 4, 1) := by decide +kernel
theorem iX11_feed_90 : ins MX11_feed 90 = some (.irem, 1) := by decide +kernel
theorem iX11_feed_91 : ins MX11_feed 91 = some (.imul, 1) := by decide +kernel
theorem iX11_feed_92 : ins MX11_feed 92 = some (.isub, 1) := by decide +kernel
theorem iX11_feed_93 : ins MX11_feed 93 = some (.ishr, 1) := by decide +kernel
theorem iX11_feed_94 : ins MX11_feed 94 = some (.sipush 255, 3) := by decide +kernel
theorem iX11_feed_97 : ins MX11_feed 97 = some (.iand, 1) := by decide +kernel
theorem iX11_feed_98 : ins MX11_feed 98 = some (.iastore, 1) := by decide +kernel
theorem iX11_feed_99 : ins MX11_feed 99 = some (.aload_n 0, 1) := by decide +kernel
theorem iX11_feed_100 : ins MX11_feed 100 = some (.dup, 1) := by decide +kernel
theorem iX11_feed_101 : ins MX11_feed 101 = some (.getfield 82, 3) := by decide +kernel
theorem iX11_feed_104 : ins MX11_feed 104 = some (.iconst 1, 1) := by decide +kernel
theorem iX11_feed_105 : ins MX11_feed 105 = some (.iadd, 1) := by decide +kernel
theorem iX11_feed_106 : ins MX11_feed 106 = some (.putfield 82, 3) := by decide +kernel
theorem iX11_feed_109 : ins MX11_feed 109 = some (.iinc 6 1, 3) := by decide +kernel
theorem iX11_feed_112 : ins MX11_feed 112 = some (.goto (-94), 3) := by decide +kernel
theorem iX11_feed_115 : ins MX11_feed 115 = some (.aload_n 0, 1) := by decide +kernel
theorem iX11_feed_116 : ins MX11_feed 116 = some (.getfield 82, 3) := by decide +kernel
theorem iX11_feed_119 : ins MX11_feed 119 = some (.ireturn, 1) := by decide +kernel
theorem iX11_fewest_0 : ins MX11_fewest 0 = some (.aload_n 0, 1) := by decide +kernel
theorem iX11_fewest_1 : ins MX11_fewest 1 = some (.getfield 7, 3) := by decide +kernel
theorem iX11_fewest_4 : ins MX11_fewest 4 = some (.iconst 0, 1) := by decide +kernel
theorem iX11_fewest_5 : ins MX11_fewest 5 = some (.iaload, 1) := by decide +kernel
theorem iX11_fewest_6 : ins MX11_fewest 6 = some (.istore_n 2, 1) := by decide +kernel
theorem iX11_fewest_7 : ins MX11_fewest 7 = some (.iload_n 1, 1) := by decide +kernel
theorem iX11_fewest_8 : ins MX11_fewest 8 = some (.iconst 0, 1) := by decide +kernel
theorem iX11_fewest_9 : ins MX11_fewest 9 = some (.iconst 2, 1) := by decide +kernel
theorem iX11_fewest_10 : ins MX11_fewest 10 = some (.invokestatic 72, 3) := by decide +kernel
theorem iX11_fewest_13 : ins MX11_fewest 13 = some (.ifCond .eq 9, 3) := by decide +kernel
theorem iX11_fewest_16 : ins MX11_fewest 16 = some (.iload_n 2, 1) := by decide +kernel
theorem iX11_fewest_17 : ins MX11_fewest 17 = some (.bipush 7, 2) := by decide +kernel
theorem iX11_fewest_19 : ins MX11_fewest 19 = some (.if_icmp .le 5, 3) := by decide +kernel
theorem iX11_fewest_22 : ins MX11_fewest 22 = some (.iconst (-1), 1) := by decide +kernel
theorem iX11_fewest_23 : ins MX11_fewest 23 = some (.ireturn, 1) := by decide +kernel
theorem iX11_fewest_24 : ins MX11_fewest 24 = some (.aload_n 0, 1) := by decide +kernel
theorem iX11_fewest_25 : ins MX11_fewest 25 = some (.invokevirtual 242, 3) := by decide +kernel
theorem iX11_fewest_28 : ins MX11_fewest 28 = some (.iconst 0, 1) := by decide +kernel
theorem iX11_fewest_29 : ins MX11_fewest 29 = some (.istore_n 3, 1) := by decide +kernel
theorem iX11_fewest_30 : ins MX11_fewest 30 = some (.iconst 0, 1) := by decide +kernel
theorem iX11_fewest_31 : ins MX11_fewest 31 = some (.istore 4, 2) := by decide +kernel
theorem iX11_fewest_33 : ins MX11_fewest 33 = some (.iload 4, 2) := by decide +kernel
theorem iX11_fewest_35 : ins MX11_fewest 35 = some (.iload_n 2, 1) := by decide +kernel
theorem iX11_fewest_36 : ins MX11_fewest 36 = some (.if_icmp .ge 33, 3) := by decide +kernel
theorem iX11_fewest_39 : ins MX11_fewest 39 = some (.bipush 10, 2) := by decide +kernel
theorem iX11_fewest_41 : ins MX11_fewest 41 = some (.iload_n 3, 1) := by decide +kernel
theorem iX11_fewest_42 : ins MX11_fewest 42 = some (.imul, 1) := by decide +kernel
theorem iX11_fewest_43 : ins MX11_fewest 43 = some (.aload_n 0, 1) := by decide +kernel
theorem iX11_fewest_44 : ins MX11_fewest 44 = some (.getfield 7, 3) := by decide +kernel
theorem iX11_fewest_47 : ins MX11_fewest 47 = some (.bipush 10, 2) := by decide +kernel
theorem iX11_fewest_49 : ins MX11_fewest 49 = some (.aload_n 0, 1) := by decide +kernel
theorem iX11_fewest_50 : ins MX11_fewest 50 = some (.getfield 7, 3) := by decide +kernel
theorem iX11_fewest_53 : ins MX11_fewest 53 = some (.bipush 42, 2) := by decide +kernel
theorem iX11_fewest_55 : ins MX11_fewest 55 = some (.iload 4, 2) := by decide +kernel
theorem iX11_fewest_57 : ins MX11_fewest 57 = some (.iadd, 1) := by decide +kernel
theorem iX11_fewest_58 : ins MX11_fewest 58 = some (.iaload, 1) := by decide +kernel
theorem iX11_fewest_59 : ins MX11_fewest 59 = some (.iadd, 1) := by decide +kernel
theorem iX11_fewest_60 : ins MX11_fewest 60 = some (.iaload, 1) := by decide +kernel
theorem iX11_fewest_61 : ins MX11_fewest 61 = some (.iadd, 1) := by decide +kernel
theorem iX11_fewest_62 : ins MX11_fewest 62 = some (.istore_n 3, 1) := by decide +kernel
theorem iX11_fewest_63 : ins MX11_fewest 63 = some (.iinc 4 1, 3) := by decide +kernel
theorem iX11_fewest_66 : ins MX11_fewest 66 = some (.goto (-33), 3) := by decide +kernel
theorem iX11_fewest_69 : ins MX11_fewest 69 = some (.aload_n 0, 1) := by decide +kernel
theorem iX11_fewest_70 : ins MX11_fewest 70 = some (.iload_n 3, 1) := by decide +kernel
theorem iX11_fewest_71 : ins MX11_fewest 71 = some (.invokevirtual 245, 3) := by decide +kernel
theorem iX11_fewest_74 : ins MX11_fewest 74 = some (.istore 4, 2) := by decide +kernel
theorem iX11_fewest_76 : ins MX11_fewest 76 = some (.iload 4, 2) := by decide +kernel
theorem iX11_fewest_78 : ins MX11_fewest 78 = some (.iconst (-1), 1) := by decide +kernel
theorem iX11_fewest_79 : ins MX11_fewest 79 = some (.if_icmp .eq 7, 3) := by decide +kernel
theorem iX11_fewest_82 : ins MX11_fewest 82 = some (.iload_n 1, 1) := by decide +kernel
theorem iX11_fewest_83 : ins MX11_fewest 83 = some (.ifCond .ne 6, 3) := by decide +kernel
theorem iX11_fewest_86 : ins MX11_fewest 86 = some (.iload 4, 2) := by decide +kernel
theorem iX11_fewest_88 : ins MX11_fewest 88 = some (.ireturn, 1) := by decide +kernel
theorem iX11_fewest_89 : ins MX11_fewest 89 = some (.iconst 0, 1) := by decide +kernel
theorem iX11_fewest_90 : ins MX11_fewest 90 = some (.istore 5, 2) := by decide +kernel
theorem iX11_fewest_92 : ins MX11_fewest 92 = some (.iload 5, 2) := by decide +kernel
theorem iX11_fewest_94 : ins MX11_fewest 94 = some (.iload_n 2, 1) := by decide +kernel
theorem iX11_fewest_95 : ins MX11_fewest 95 = some (.if_icmp .ge 69, 3) := by decide +kernel
theorem iX11_fewest_98 : ins MX11_fewest 98 = some (.iload 4, 2) := by decide +kernel
theorem iX11_fewest_100 : ins MX11_fewest 100 = some (.ifCond .le 64, 3) := by decide +kernel
theorem iX11_fewest_103 : ins MX11_fewest 103 = some (.iconst 0, 1) := by decide +kernel
theorem iX11_fewest_104 : ins MX11_fewest 104 = some (.istore 6, 2) := by decide +kernel
theorem iX11_fewest_106 : ins MX11_fewest 106 = some (.iload 6, 2) := by decide +kernel
theorem iX11_fewest_108 : ins MX11_fewest 108 = some (.iload_n 2, 1) := by decide +kernel
theorem iX11_fewest_109 : ins MX11_fewest 109 = some (.if_icmp .ge 49, 3) := by decide +kernel
theorem iX11_fewest_112 : ins MX11_fewest 112 = some (.iload 5, 2) := by decide +kernel
theorem iX11_fewest_114 : ins MX11_fewest 114 = some (.iload 6, 2) := by decide +kernel
theorem iX11_fewest_116 : ins MX11_fewest 116 = some (.if_icmp .eq 36, 3) := by decide +kernel
theorem iX11_fewest_119 : ins MX11_fewest 119 = some (.aload_n 0, 1) := by decide +kernel
theorem iX11_fewest_120 : ins MX11_fewest 120 = some (.aload_n 0, 1) := by decide +kernel
theorem iX11_fewest_121 : ins MX11_fewest 121 = some (.iload_n 3, 1) := by decide +kernel
theorem iX11_fewest_122 : ins MX11_fewest 122 = some (.iload 5, 2) := by decide +kernel
theorem iX11_fewest_124 : ins MX11_fewest 124 = some (.iload 6, 2) := by decide +kernel
theorem iX11_fewest_126 : ins MX11_fewest 126 = some (.invokevirtual 239, 3) := by decide +kernel
theorem iX11_fewest_129 : ins MX11_fewest 129 = some (.invokevirtual 245, 3) := by decide +kernel
theorem iX11_fewest_132 : ins MX11_fewest 132 = some (.iload 4, 2) := by decide +kernel
theorem iX11_fewest_134 : ins MX11_fewest 134 = some (.iconst 1, 1) := by decide +kernel
theorem iX11_fewest_135 : ins MX11_fewest 135 = some (.isub, 1) := by decide +kernel
theorem iX11_fewest_136 : ins MX11_fewest 136 = some (.if_icmp .ne 16, 3) := by decide +kernel
theorem iX11_fewest_139 : ins MX11_fewest 139 = some (.iload_n 1, 1) := by decide +kernel
theorem iX11_fewest_140 : ins MX11_fewest 140 = some (.iconst 1, 1) := by decide +kernel
theorem iX11_fewest_141 : ins MX11_fewest 141 = some (.if_icmp .ne 8, 3) := by decide +kernel
theorem iX11_fewest_144 : ins MX11_fewest 144 = some (.iload 5, 2) := by decide +kernel
theorem iX11_fewest_146 : ins MX11_fewest 146 = some (.goto 5, 3) := by decide +kernel
theorem iX11_fewest_149 : ins MX11_fewest 149 = some (.iload 6, 2) := by decide +kernel
theorem iX11_fewest_151 : ins MX11_fewest 151 = some (.ireturn, 1) := by decide +kernel
theorem iX11_fewest_152 : ins MX11_fewest 152 = some (.iinc 6 1, 3) := by decide +kernel
theorem iX11_fewest_155 : ins MX11_fewest 155 = some (.goto (-49), 3) := by decide +kernel
theorem iX11_fewest_158 : ins MX11_fewest 158 = some (.iinc 5 1, 3) := by decide +kernel
theorem iX11_fewest_161 : ins MX11_fewest 161 = some (.goto (-69), 3) := by decide +kernel
theorem iX11_fewest_164 : ins MX11_fewest 164 = some (.iconst (-1), 1) := by decide +kernel
theorem iX11_fewest_165 : ins MX11_fewest 165 = some (.ireturn, 1) := by decide +kernel
theorem iX11_goesOver_0 : ins MX11_goesOver 0 = some (.aload_n 0, 1) := by decide +kernel
theorem iX11_goesOver_1 : ins MX11_goesOver 1 = some (.getfield 7, 3) := by decide +kernel
theorem iX11_goesOver_4 : ins MX11_goesOver 4 = some (.bipush 60, 2) := by decide +kernel
theorem iX11_goesOver_6 : ins MX11_goesOver 6 = some (.bipush 16, 2) := by decide +kernel
theorem iX11_goesOver_8 : ins MX11_goesOver 8 = some (.iload_n 1, 1) := by decide +kernel
theorem iX11_goesOver_9 : ins MX11_goesOver 9 = some (.imul, 1) := by decide +kernel
theorem iX11_goesOver_10 : ins MX11_goesOver 10 = some (.iadd, 1) := by decide +kernel
theorem iX11_goesOver_11 : ins MX11_goesOver 11 = some (.iload_n 2, 1) := by decide +kernel
theorem iX11_goesOver_12 : ins MX11_goesOver 12 = some (.iadd, 1) := by decide +kernel
theorem iX11_goesOver_13 : ins MX11_goesOver 13 = some (.dup2, 1) := by decide +kernel
theorem iX11_goesOver_14 : ins MX11_goesOver 14 = some (.iaload, 1) := by decide +kernel
theorem iX11_goesOver_15 : ins MX11_goesOver 15 = some (.iload_n 3, 1) := by decide +kernel
theorem iX11_goesOver_16 : ins MX11_goesOver 16 = some (.ifCond .eq 7, 3) := by decide +kernel
theorem iX11_goesOver_19 : ins MX11_goesOver 19 = some (.iconst 1, 1) := by decide +kernel
theorem iX11_goesOver_20 : ins MX11_goesOver 20 = some (.goto 4, 3) := by decide +kernel
theorem iX11_goesOver_23 : ins MX11_goesOver 23 = some (.iconst 0, 1) := by decide +kernel
theorem iX11_goesOver_24 : ins MX11_goesOver 24 = some (.iadd, 1) := by decide +kernel
theorem iX11_goesOver_25 : ins MX11_goesOver 25 = some (.iastore, 1) := by decide +kernel
theorem iX11_goesOver_26 : ins MX11_goesOver 26 = some (.return_, 1) := by decide +kernel
theorem iX11_image_0 : ins MX11_image 0 = some (.iload_n 1, 1) := by decide +kernel
theorem iX11_image_1 : ins MX11_image 1 = some (.ifCond .ne 12, 3) := by decide +kernel
theorem iX11_image_4 : ins MX11_image 4 = some (.aload_n 0, 1) := by decide +kernel
theorem iX11_image_5 : ins MX11_image 5 = some (.getfield 279, 3) := by decide +kernel
theorem iX11_image_8 : ins MX11_image 8 = some (.ifCond .ne 5, 3) := by decide +kernel
theorem iX11_image_11 : ins MX11_image 11 = some (.iconst 0, 1) := by decide +kernel
theorem iX11_image_12 : ins MX11_image 12 = some (.ireturn, 1) := by decide +kernel
theorem iX11_image_13 : ins MX11_image 13 = some (.iconst 0, 1) := by decide +kernel
theorem iX11_image_14 : ins MX11_image 14 = some (.istore_n 2, 1) := by decide +kernel
theorem iX11_image_15 : ins MX11_image 15 = some (.iload_n 2, 1) := by decide +kernel
theorem iX11_image_16 : ins MX11_image 16 = some (.sipush 4180, 3) := by decide +kernel
theorem iX11_image_19 : ins MX11_image 19 = some (.if_icmp .ge 40, 3) := by decide +kernel
theorem iX11_image_22 : ins MX11_image 22 = some (.iload_n 1, 1) := by decide +kernel
theorem iX11_image_23 : ins MX11_image 23 = some (.ifCond .eq 18, 3) := by decide +kernel
theorem iX11_image_26 : ins MX11_image 26 = some (.aload_n 0, 1) := by decide +kernel
theorem iX11_image_27 : ins MX11_image 27 = some (.getfield 13, 3) := by decide +kernel
theorem iX11_image_30 : ins MX11_image 30 = some (.iload_n 2, 1) := by decide +kernel
theorem iX11_image_31 : ins MX11_image 31 = some (.aload_n 0, 1) := by decide +kernel
theorem iX11_image_32 : ins MX11_image 32 = some (.getfield 7, 3) := by decide +kernel
theorem iX11_image_35 : ins MX11_image 35 = some (.iload_n 2, 1) := by decide +kernel
theorem iX11_image_36 : ins MX11_image 36 = some (.iaload, 1) := by decide +kernel
theorem iX11_image_37 : ins MX11_image 37 = some (.iastore, 1) := by decide +kernel
theorem iX11_image_38 : ins MX11_image 38 = some (.goto 15, 3) := by decide +kernel
theorem iX11_image_41 : ins MX11_image 41 = some (.aload_n 0, 1) := by decide +kernel
theorem iX11_image_42 : ins MX11_image 42 = some (.getfield 7, 3) := by decide +kernel
theorem iX11_image_45 : ins MX11_image 45 = some (.iload_n 2, 1) := by decide +kernel
theorem iX11_image_46 : ins MX11_image 46 = some (.aload_n 0, 1) := by decide +kernel
theorem iX11_image_47 : ins MX11_image 47 = some (.getfield 13, 3) := by decide +kernel
theorem iX11_image_50 : ins MX11_image 50 = some (.iload_n 2, 1) := by decide +kernel
theorem iX11_image_51 : ins MX11_image 51 = some (.iaload, 1) := by decide +kernel
theorem iX11_image_52 : ins MX11_image 52 = some (.iastore, 1) := by decide +kernel
theorem iX11_image_53 : ins MX11_image 53 = some (.iinc 2 1, 3) := by decide +kernel
theorem iX11_image_56 : ins MX11_image 56 = some (.goto (-41), 3) := by decide +kernel
theorem iX11_image_59 : ins MX11_image 59 = some (.iload_n 1, 1) := by decide +kernel
theorem iX11_image_60 : ins MX11_image 60 = some (.ifCond .ne 8, 3) := by decide +kernel
theorem iX11_image_63 : ins MX11_image 63 = some (.aload_n 0, 1) := by decide +kernel
theorem iX11_image_64 : ins MX11_image 64 = some (.iconst 0, 1) := by decide +kernel
theorem iX11_image_65 : ins MX11_image 65 = some (.putfield 69, 3) := by decide +kernel
theorem iX11_image_68 : ins MX11_image 68 = some (.aload_n 0, 1) := by decide +kernel
theorem iX11_image_69 : ins MX11_image 69 = some (.iconst 1, 1) := by decide +kernel
theorem iX11_image_70 : ins MX11_image 70 = some (.putfield 279, 3) := by decide +kernel
theorem iX11_image_73 : ins MX11_image 73 = some (.iconst 1, 1) := by decide +kernel
theorem iX11_image_74 : ins MX11_image 74 = some (.ireturn, 1) := by decide +kernel
theorem iX11_init_0 : ins MX11_init 0 = some (.aload_n 0, 1) := by decide +kernel
theorem iX11_init_1 : ins MX11_init 1 = some (.invokespecial 1, 3) := by decide +kernel
theorem iX11_init_4 : ins MX11_init 4 = some (.aload_n 0, 1) := by decide +kernel
theorem iX11_init_5 : ins MX11_init 5 = some (.sipush 4180, 3) := by decide +kernel
theorem iX11_init_8 : ins MX11_init 8 = some (.newarray .int, 2) := by decide +kernel
theorem iX11_init_10 : ins MX11_init 10 = some (.putfield 7, 3) := by decide +kernel
theorem iX11_init_13 : ins MX11_init 13 = some (.aload_n 0, 1) := by decide +kernel
theorem iX11_init_14 : ins MX11_init 14 = some (.sipush 4180, 3) := by decide +kernel
theorem iX11_init_17 : ins MX11_init 17 = some (.newarray .int, 2) := by decide +kernel
theorem iX11_init_19 : ins MX11_init 19 = some (.putfield 13, 3) := by decide +kernel
theorem iX11_init_22 : ins MX11_init 22 = some (.aload_n 0, 1) := by decide +kernel
theorem iX11_init_23 : ins MX11_init 23 = some (.sipush 1896, 3) := by decide +kernel
theorem iX11_init_26 : ins MX11_init 26 = some (.newarray .int, 2) := by decide +kernel
theorem iX11_init_28 : ins MX11_init 28 = some (.putfield 16, 3) := by decide +kernel
theorem iX11_init_31 : ins MX11_init 31 = some (.aload_n 0, 1) := by decide +kernel
theorem iX11_init_32 : ins MX11_init 32 = some (.sipush 800, 3) := by decide +kernel
theorem iX11_init_35 : ins MX11_init 35 = some (.newarray .int, 2) := by decide +kernel
theorem iX11_init_37 : ins MX11_init 37 = some (.putfield 19, 3) := by decide +kernel
theorem iX11_init_40 : ins MX11_init 40 = some (.aload_n 0, 1) := by decide +kernel
theorem iX11_init_41 : ins MX11_init 41 = some (.sipush 400, 3) := by decide +kernel
theorem iX11_init_44 : ins MX11_init 44 = some (.newarray .int, 2) := by decide +kernel
theorem iX11_init_46 : ins MX11_init 46 = some (.putfield 22, 3) := by decide +kernel
theorem iX11_init_49 : ins MX11_init 49 = some (.aload_n 0, 1) := by decide +kernel
theorem iX11_init_50 : ins MX11_init 50 = some (.iconst (-1), 1) := by decide +kernel
theorem iX11_init_51 : ins MX11_init 51 = some (.putfield 25, 3) := by decide +kernel
theorem iX11_init_54 : ins MX11_init 54 = some (.aload_n 0, 1) := by decide +kernel
theorem iX11_init_55 : ins MX11_init 55 = some (.bipush 16, 2) := by decide +kernel
theorem iX11_init_57 : ins MX11_init 57 = some (.newarray .int, 2) := by decide +kernel
theorem iX11_init_59 : ins MX11_init 59 = some (.putfield 29, 3) := by decide +kernel
theorem iX11_init_62 : ins MX11_init 62 = some (.aload_n 0, 1) := by decide +kernel
theorem iX11_init_63 : ins MX11_init 63 = some (.bipush 16, 2) := by decide +kernel
theorem iX11_init_65 : ins MX11_init 65 = some (.newarray .int, 2) := by decide +kernel
theorem iX11_init_67 : ins MX11_init 67 = some (.putfield 32, 3) := by decide +kernel
theorem iX11_init_70 : ins MX11_init 70 = some (.aload_n 0, 1) := by decide +kernel
theorem iX11_init_71 : ins MX11_init 71 = some (.sipush 16384, 3) := by decide +kernel
theorem iX11_init_74 : ins MX11_init 74 = some (.newarray .int, 2) := by decide +kernel
theorem iX11_init_76 : ins MX11_init 76 = some (.putfield 35, 3) := by decide +kernel
theorem iX11_init_79 : ins MX11_init 79 = some (.aload_n 0, 1) := by decide +kernel
theorem iX11_init_80 : ins MX11_init 80 = some (.sipush 16384, 3) := by decide +kernel
theorem iX11_init_83 : ins MX11_init 83 = some (.newarray .int, 2) := by decide +kernel
theorem iX11_init_85 : ins MX11_init 85 = some (.putfield 38, 3) := by decide +kernel
theorem iX11_init_88 : ins MX11_init 88 = some (.aload_n 0, 1) := by decide +kernel
theorem iX11_init_89 : ins MX11_init 89 = some (.sipush 5040, 3) := by decide +kernel
theorem iX11_init_92 : ins MX11_init 92 = some (.newarray .int, 2) := by decide +kernel
theorem iX11_init_94 : ins MX11_init 94 = some (.putfield 41, 3) := by decide +kernel
theorem iX11_init_97 : ins MX11_init 97 = some (.aload_n 0, 1) := by decide +kernel
theorem iX11_init_98 : ins MX11_init 98 = some (.bipush 7, 2) := by decide +kernel
theorem iX11_init_100 : ins MX11_init 100 = some (.newarray .int, 2) := by decide +kernel
theorem iX11_init_102 : ins MX11_init 102 = some (.putfield 44, 3) := by decide +kernel
theorem iX11_init_105 : ins MX11_init 105 = some (.aload_n 0, 1) := by decide +kernel
theorem iX11_init_106 : ins MX11_init 106 = some (.sipush 256, 3) := by decide +kernel
theorem iX11_init_109 : ins MX11_init 109 = some (.newarray .int, 2) := by decide +kernel
theorem iX11_init_111 : ins MX11_init 111 = some (.putfield 47, 3) := by decide +kernel
theorem iX11_init_114 : ins MX11_init 114 = some (.aload_n 0, 1) := by decide +kernel
theorem iX11_init_115 : ins MX11_init 115 = some (.sipush 256, 3) := by decide +kernel
theorem iX11_init_118 : ins MX11_init 118 = some (.newarray .int, 2) := by decide +kernel
theorem iX11_init_120 : ins MX11_init 120 = some (.putfield 50, 3) := by decide +kernel
theorem iX11_init_123 : ins MX11_init 123 = some (.aload_n 0, 1) := by decide +kernel
theorem iX11_init_124 : ins MX11_init 124 = some (.bipush 16, 2) := by decide +kernel
theorem iX11_init_126 : ins MX11_init 126 = some (.newarray .int, 2) := by decide +kernel
theorem iX11_init_128 : ins MX11_init 128 = some (.putfield 53, 3) := by decide +kernel
theorem iX11_init_131 : ins MX11_init 131 = some (.aload_n 0, 1) := by decide +kernel
theorem iX11_init_132 : ins MX11_init 132 = some (.sipush 200, 3) := by decide +kernel
theorem iX11_init_135 : ins MX11_init 135 = some (.newarray .int, 2) := by decide +kernel
theorem iX11_init_137 : ins MX11_init 137 = some (.putfield 56, 3) := by decide +kernel
theorem iX11_init_140 : ins MX11_init 140 = some (.aload_n 0, 1) := by decide +kernel
theorem iX11_init_141 : ins MX11_init 141 = some (.sipush 202, 3) := by decide +kernel
theorem iX11_init_144 : ins MX11_init 144 = some (.newarray .int, 2) := by decide +kernel
theorem iX11_init_146 : ins MX11_init 146 = some (.putfield 59, 3) := by decide +kernel
theorem iX11_init_149 : ins MX11_init 149 = some (.aload_n 0, 1) := by decide +kernel
theorem iX11_init_150 : ins MX11_init 150 = some (.bipush 16, 2) := by decide +kernel
theorem iX11_init_152 : ins MX11_init 152 = some (.newarray .int, 2) := by decide +kernel
theorem iX11_init_154 : ins MX11_init 154 = some (.putfield 62, 3) := by decide +kernel
theorem iX11_init_157 : ins MX11_init 157 = some (.aload_n 0, 1) := by decide +kernel
theorem iX11_init_158 : ins MX11_init 158 = some (.bipush 8, 2) := by decide +kernel
theorem iX11_init_160 : ins MX11_init 160 = some (.invokevirtual 65, 3) := by decide +kernel
theorem iX11_init_163 : ins MX11_init 163 = some (.return_, 1) := by decide +kernel
theorem iX11_is_0 : ins MX11_is 0 = some (.aload_n 0, 1) := by decide +kernel
theorem iX11_is_1 : ins MX11_is 1 = some (.getfield 85, 3) := by decide +kernel
theorem iX11_is_4 : ins MX11_is 4 = some (.aload_n 0, 1) := by decide +kernel
theorem iX11_is_5 : ins MX11_is 5 = some (.getfield 88, 3) := by decide +kernel
theorem iX11_is_8 : ins MX11_is 8 = some (.isub, 1) := by decide +kernel
theorem iX11_is_9 : ins MX11_is 9 = some (.aload_n 1, 1) := by decide +kernel
theorem iX11_is_10 : ins MX11_is 10 = some (.invokevirtual 91, 3) := by decide +kernel
theorem iX11_is_13 : ins MX11_is 13 = some (.if_icmp .ne 7, 3) := by decide +kernel
theorem iX11_is_16 : ins MX11_is 16 = some (.iconst 1, 1) := by decide +kernel
theorem iX11_is_17 : ins MX11_is 17 = some (.goto 4, 3) := by decide +kernel
theorem iX11_is_20 : ins MX11_is 20 = some (.iconst 0, 1) := by decide +kernel
theorem iX11_is_21 : ins MX11_is 21 = some (.istore_n 2, 1) := by decide +kernel
theorem iX11_is_22 : ins MX11_is 22 = some (.iconst 0, 1) := by decide +kernel
theorem iX11_is_23 : ins MX11_is 23 = some (.istore_n 3, 1) := by decide +kernel
theorem iX11_is_24 : ins MX11_is 24 = some (.iload_n 3, 1) := by decide +kernel
theorem iX11_is_25 : ins MX11_is 25 = some (.aload_n 1, 1) := by decide +kernel
theorem iX11_is_26 : ins MX11_is 26 = some (.invokevirtual 91, 3) := by decide +kernel
theorem iX11_is_29 : ins MX11_is 29 = some (.if_icmp .ge 38, 3) := by decide +kernel
theorem iX11_is_32 : ins MX11_is 32 = some (.iload_n 2, 1) := by decide +kernel
theorem iX11_is_33 : ins MX11_is 33 = some (.ifCond .eq 34, 3) := by decide +kernel
theorem iX11_is_36 : ins MX11_is 36 = some (.aload_n 0, 1) := by decide +kernel
theorem iX11_is_37 : ins MX11_is 37 = some (.getfield 22, 3) := by decide +kernel
theorem iX11_is_40 : ins MX11_is 40 = some (.aload_n 0, 1) := by decide +kernel
theorem iX11_is_41 : ins MX11_is 41 = some (.getfield 88, 3) := by decide +kernel
theorem iX11_is_44 : ins MX11_is 44 = some (.iload_n 3, 1) := by decide +kernel
theorem iX11_is_45 : ins MX11_is 45 = some (.iadd, 1) := by decide +kernel
theorem iX11_is_46 : ins MX11_is 46 = some (.iaload, 1) := by decide +kernel
theorem iX11_is_47 : ins MX11_is 47 = some (.aload_n 1, 1) := by decide +kernel
theorem iX11_is_48 : ins MX11_is 48 = some (.iload_n 3, 1) := by decide +kernel
theorem iX11_is_49 : ins MX11_is 49 = some (.invokevirtual 97, 3) := by decide +kernel
theorem iX11_is_52 : ins MX11_is 52 = some (.if_icmp .ne 7, 3) := by decide +kernel
theorem iX11_is_55 : ins MX11_is 55 = some (.iconst 1, 1) := by decide +kernel
theorem iX11_is_56 : ins MX11_is 56 = some (.goto 4, 3) := by decide +kernel
theorem iX11_is_59 : ins MX11_is 59 = some (.iconst 0, 1) := by decide +kernel
theorem iX11_is_60 : ins MX11_is 60 = some (.istore_n 2, 1) := by decide +kernel
theorem iX11_is_61 : ins MX11_is 61 = some (.iinc 3 1, 3) := by decide +kernel
theorem iX11_is_64 : ins MX11_is 64 = some (.goto (-40), 3) := by decide +kernel
theorem iX11_is_67 : ins MX11_is 67 = some (.iload_n 2, 1) := by decide +kernel
theorem iX11_is_68 : ins MX11_is 68 = some (.ireturn, 1) := by decide +kernel
theorem iX11_isAsNow_0 : ins MX11_isAsNow 0 = some (.iconst 0, 1) := by decide +kernel
theorem iX11_isAsNow_1 : ins MX11_isAsNow 1 = some (.istore_n 2, 1) := by decide +kernel
theorem iX11_isAsNow_2 : ins MX11_isAsNow 2 = some (.iload_n 2, 1) := by decide +kernel
theorem iX11_isAsNow_3 : ins MX11_isAsNow 3 = some (.aload_n 0, 1) := by decide +kernel
theorem iX11_isAsNow_4 : ins MX11_isAsNow 4 = some (.getfield 7, 3) := by decide +kernel
theorem iX11_isAsNow_7 : ins MX11_isAsNow 7 = some (.iconst 0, 1) := by decide +kernel
theorem iX11_isAsNow_8 : ins MX11_isAsNow 8 = some (.iaload, 1) := by decide +kernel
theorem iX11_isAsNow_9 : ins MX11_isAsNow 9 = some (.if_icmp .ge 64, 3) := by decide +kernel
theorem iX11_isAsNow_12 : ins MX11_isAsNow 12 = some (.aload_n 0, 1) := by decide +kernel
theorem iX11_isAsNow_13 : ins MX11_isAsNow 13 = some (.getfield 7, 3) := by decide +kernel
theorem iX11_isAsNow_16 : ins MX11_isAsNow 16 = some (.bipush 42, 2) := by decide +kernel
theorem iX11_isAsNow_18 : ins MX11_isAsNow 18 = some (.iload_n 2, 1) := by decide +kernel
theorem iX11_isAsNow_19 : ins MX11_isAsNow 19 = some (.iadd, 1) := by decide +kernel
theorem iX11_isAsNow_20 : ins MX11_isAsNow 20 = some (.iaload, 1) := by decide +kernel
theorem iX11_isAsNow_21 : ins MX11_isAsNow 21 = some (.istore_n 3, 1) := by decide +kernel
theorem iX11_isAsNow_22 : ins MX11_isAsNow 22 = some (.iload_n 1, 1) := by decide +kernel
theorem iX11_isAsNow_23 : ins MX11_isAsNow 23 = some (.ifCond .ne 16, 3) := by decide +kernel
theorem iX11_isAsNow_26 : ins MX11_isAsNow 26 = some (.aload_n 0, 1) := by decide +kernel
theorem iX11_isAsNow_27 : ins MX11_isAsNow 27 = some (.getfield 29, 3) := by decide +kernel
theorem iX11_isAsNow_30 : ins MX11_isAsNow 30 = some (.iload_n 2, 1) := by decide +kernel
theorem iX11_isAsNow_31 : ins MX11_isAsNow 31 = some (.iaload, 1) := by decide +kernel
theorem iX11_isAsNow_32 : ins MX11_isAsNow 32 = some (.iload_n 3, 1) := by decide +kernel
theorem iX11_isAsNow_33 : ins MX11_isAsNow 33 = some (.if_icmp .eq 34, 3) := by decide +kernel
theorem iX11_isAsNow_36 : ins MX11_isAsNow 36 = some (.goto 29, 3) := by decide +kernel
theorem iX11_isAsNow_39 : ins MX11_isAsNow 39 = some (.aload_n 0, 1) := by decide +kernel
theorem iX11_isAsNow_40 : ins MX11_isAsNow 40 = some (.getfield 7, 3) := by decide +kernel
theorem iX11_isAsNow_43 : ins MX11_isAsNow 43 = some (.bipush 10, 2) := by decide +kernel
theorem iX11_isAsNow_45 : ins MX11_isAsNow 45 = some (.aload_n 0, 1) := by decide +kernel
theorem iX11_isAsNow_46 : ins MX11_isAsNow 46 = some (.getfield 29, 3) := by decide +kernel
theorem iX11_isAsNow_49 : ins MX11_isAsNow 49 = some (.iload_n 2, 1) := by decide +kernel
theorem iX11_isAsNow_50 : ins MX11_isAsNow 50 = some (.iaload, 1) := by decide +kernel
theorem iX11_isAsNow_51 : ins MX11_isAsNow 51 = some (.iadd, 1) := by decide +kernel
theorem iX11_isAsNow_52 : ins MX11_isAsNow 52 = some (.iaload, 1) := by decide +kernel
theorem iX11_isAsNow_53 : ins MX11_isAsNow 53 = some (.aload_n 0, 1) := by decide +kernel
theorem iX11_isAsNow_54 : ins MX11_isAsNow 54 = some (.getfield 7, 3) := by decide +kernel
theorem iX11_isAsNow_57 : ins MX11_isAsNow 57 = some (.bipush 10, 2) := by decide +kernel
theorem iX11_isAsNow_59 : ins MX11_isAsNow 59 = some (.iload_n 3, 1) := by decide +kernel
theorem iX11_isAsNow_60 : ins MX11_isAsNow 60 = some (.iadd, 1) := by decide +kernel
theorem iX11_isAsNow_61 : ins MX11_isAsNow 61 = some (.iaload, 1) := by decide +kernel
theorem iX11_isAsNow_62 : ins MX11_isAsNow 62 = some (.if_icmp .eq 5, 3) := by decide +kernel
theorem iX11_isAsNow_65 : ins MX11_isAsNow 65 = some (.iconst 0, 1) := by decide +kernel
theorem iX11_isAsNow_66 : ins MX11_isAsNow 66 = some (.ireturn, 1) := by decide +kernel
theorem iX11_isAsNow_67 : ins MX11_isAsNow 67 = some (.iinc 2 1, 3) := by decide +kernel
theorem iX11_isAsNow_70 : ins MX11_isAsNow 70 = some (.goto (-68), 3) := by decide +kernel
theorem iX11_isAsNow_73 : ins MX11_isAsNow 73 = some (.iconst 1, 1) := by decide +kernel
theorem iX11_isAsNow_74 : ins MX11_isAsNow 74 = some (.ireturn, 1) := by decide +kernel
theorem iX11_isDigit_0 : ins MX11_isDigit 0 = some (.iload_n 0, 1) := by decide +kernel
theorem iX11_isDigit_1 : ins MX11_isDigit 1 = some (.bipush 48, 2) := by decide +kernel
theorem iX11_isDigit_3 : ins MX11_isDigit 3 = some (.bipush 57, 2) := by decide +kernel
theorem iX11_isDigit_5 : ins MX11_isDigit 5 = some (.invokestatic 72, 3) := by decide +kernel
theorem iX11_isDigit_8 : ins MX11_isDigit 8 = some (.ireturn, 1) := by decide +kernel
theorem iX11_isFree_0 : ins MX11_isFree 0 = some (.iconst 0, 1) := by decide +kernel
theorem iX11_isFree_1 : ins MX11_isFree 1 = some (.istore_n 3, 1) := by decide +kernel
theorem iX11_isFree_2 : ins MX11_isFree 2 = some (.iload_n 3, 1) := by decide +kernel
theorem iX11_isFree_3 : ins MX11_isFree 3 = some (.aload_n 0, 1) := by decide +kernel
theorem iX11_isFree_4 : ins MX11_isFree 4 = some (.getfield 7, 3) := by decide +kernel
theorem iX11_isFree_7 : ins MX11_isFree 7 = some (.iconst 0, 1) := by decide +kernel
theorem iX11_isFree_8 : ins MX11_isFree 8 = some (.iaload, 1) := by decide +kernel
theorem iX11_isFree_9 : ins MX11_isFree 9 = some (.if_icmp .ge 42, 3) := by decide +kernel
theorem iX11_isFree_12 : ins MX11_isFree 12 = some (.iload_n 3, 1) := by decide +kernel
theorem iX11_isFree_13 : ins MX11_isFree 13 = some (.iload_n 1, 1) := by decide +kernel
theorem iX11_isFree_14 : ins MX11_isFree 14 = some (.if_icmp .eq 31, 3) := by decide +kernel
theorem iX11_isFree_17 : ins MX11_isFree 17 = some (.iload_n 2, 1) := by decide +kernel
theorem iX11_isFree_18 : ins MX11_isFree 18 = some (.iload_n 3, 1) := by decide +kernel
theorem iX11_isFree_19 : ins MX11_isFree 19 = some (.ishr, 1) := by decide +kernel
theorem iX11_isFree_20 : ins MX11_isFree 20 = some (.iconst 1, 1) := by decide +kernel
theorem iX11_isFree_21 : ins MX11_isFree 21 = some (.iand, 1) := by decide +kernel
theorem iX11_isFree_22 : ins MX11_isFree 22 = some (.iconst 1, 1) := by decide +kernel
theorem iX11_isFree_23 : ins MX11_isFree 23 = some (.if_icmp .ne 22, 3) := by decide +kernel
theorem iX11_isFree_26 : ins MX11_isFree 26 = some (.aload_n 0, 1) := by decide +kernel
theorem iX11_isFree_27 : ins MX11_isFree 27 = some (.getfield 7, 3) := by decide +kernel
theorem iX11_isFree_30 : ins MX11_isFree 30 = some (.bipush 60, 2) := by decide +kernel
theorem iX11_isFree_32 : ins MX11_isFree 32 = some (.bipush 16, 2) := by decide +kernel
theorem iX11_isFree_34 : ins MX11_isFree 34 = some (.iload_n 3, 1) := by decide +kernel
theorem iX11_isFree_35 : ins MX11_isFree 35 = some (.imul, 1) := by decide +kernel
theorem iX11_isFree_36 : ins MX11_isFree 36 = some (.iadd, 1) := by decide +kernel
theorem iX11_isFree_37 : ins MX11_isFree 37 = some (.iload_n 1, 1) := by decide +kernel
theorem iX11_isFree_38 : ins MX11_isFree 38 = some (.iadd, 1) := by decide +kernel
theorem iX11_isFree_39 : ins MX11_isFree 39 = some (.iaload, 1) := by decide +kernel
theorem iX11_isFree_40 : ins MX11_isFree 40 = some (.ifCond .le 5, 3) := by decide +kernel
theorem iX11_isFree_43 : ins MX11_isFree 43 = some (.iconst 0, 1) := by decide +kernel
theorem iX11_isFree_44 : ins MX11_isFree 44 = some (.ireturn, 1) := by decide +kernel
theorem iX11_isFree_45 : ins MX11_isFree 45 = some (.iinc 3 1, 3) := by decide +kernel
theorem iX11_isFree_48 : ins MX11_isFree 48 = some (.goto (-46), 3) := by decide +kernel
theorem iX11_isFree_51 : ins MX11_isFree 51 = some (.iconst 1, 1) := by decide +kernel
theorem iX11_isFree_52 : ins MX11_isFree 52 = some (.ireturn, 1) := by decide +kernel
theorem iX11_isIn_0 : ins MX11_isIn 0 = some (.iload_n 0, 1) := by decide +kernel
theorem iX11_isIn_1 : ins MX11_isIn 1 = some (.iload_n 1, 1) := by decide +kernel
theorem iX11_isIn_2 : ins MX11_isIn 2 = some (.if_icmp .lt 12, 3) := by decide +kernel
theorem iX11_isIn_5 : ins MX11_isIn 5 = some (.iload_n 0, 1) := by decide +kernel
theorem iX11_isIn_6 : ins MX11_isIn 6 = some (.iload_n 2, 1) := by decide +kernel
theorem iX11_isIn_7 : ins MX11_isIn 7 = some (.if_icmp .gt 7, 3) := by decide +kernel
theorem iX11_isIn_10 : ins MX11_isIn 10 = some (.iconst 1, 1) := by decide +kernel
theorem iX11_isIn_11 : ins MX11_isIn 11 = some (.goto 4, 3) := by decide +kernel
theorem iX11_isIn_14 : ins MX11_isIn 14 = some (.iconst 0, 1) := by decide +kernel
theorem iX11_isIn_15 : ins MX11_isIn 15 = some (.ireturn, 1) := by decide +kernel
theorem iX11_isLeast_0 : ins MX11_isLeast 0 = some (.aload_n 0, 1) := by decide +kernel
theorem iX11_isLeast_1 : ins MX11_isLeast 1 = some (.iload_n 1, 1) := by decide +kernel
theorem iX11_isLeast_2 : ins MX11_isLeast 2 = some (.invokevirtual 217, 3) := by decide +kernel
theorem iX11_isLeast_5 : ins MX11_isLeast 5 = some (.istore_n 2, 1) := by decide +kernel
theorem iX11_isLeast_6 : ins MX11_isLeast 6 = some (.iload_n 2, 1) := by decide +kernel
theorem iX11_isLeast_7 : ins MX11_isLeast 7 = some (.iload_n 1, 1) := by decide +kernel
theorem iX11_isLeast_8 : ins MX11_isLeast 8 = some (.if_icmp .eq 19, 3) := by decide +kernel
theorem iX11_isLeast_11 : ins MX11_isLeast 11 = some (.iload_n 2, 1) := by decide +kernel
theorem iX11_isLeast_12 : ins MX11_isLeast 12 = some (.iload_n 1, 1) := by decide +kernel
theorem iX11_isLeast_13 : ins MX11_isLeast 13 = some (.if_icmp .ge 5, 3) := by decide +kernel
theorem iX11_isLeast_16 : ins MX11_isLeast 16 = some (.iconst 0, 1) := by decide +kernel
theorem iX11_isLeast_17 : ins MX11_isLeast 17 = some (.ireturn, 1) := by decide +kernel
theorem iX11_isLeast_18 : ins MX11_isLeast 18 = some (.aload_n 0, 1) := by decide +kernel
theorem iX11_isLeast_19 : ins MX11_isLeast 19 = some (.iload_n 2, 1) := by decide +kernel
theorem iX11_isLeast_20 : ins MX11_isLeast 20 = some (.invokevirtual 217, 3) := by decide +kernel
theorem iX11_isLeast_23 : ins MX11_isLeast 23 = some (.istore_n 2, 1) := by decide +kernel
theorem iX11_isLeast_24 : ins MX11_isLeast 24 = some (.goto (-18), 3) := by decide +kernel
theorem iX11_isLeast_27 : ins MX11_isLeast 27 = some (.iconst 1, 1) := by decide +kernel
theorem iX11_isLeast_28 : ins MX11_isLeast 28 = some (.ireturn, 1) := by decide +kernel
theorem iX11_isLetter_0 : ins MX11_isLetter 0 = some (.iload_n 0, 1) := by decide +kernel
theorem iX11_isLetter_1 : ins MX11_isLetter 1 = some (.bipush 97, 2) := by decide +kernel
theorem iX11_isLetter_3 : ins MX11_isLetter 3 = some (.bipush 122, 2) := by decide +kernel
theorem iX11_isLetter_5 : ins MX11_isLetter 5 = some (.invokestatic 72, 3) := by decide +kernel
theorem iX11_isLetter_8 : ins MX11_isLetter 8 = some (.ifCond .ne 14, 3) := by decide +kernel
theorem iX11_isLetter_11 : ins MX11_isLetter 11 = some (.iload_n 0, 1) := by decide +kernel
theorem iX11_isLetter_12 : ins MX11_isLetter 12 = some (.bipush 65, 2) := by decide +kernel
theorem iX11_isLetter_14 : ins MX11_isLetter 14 = some (.bipush 90, 2) := by decide +kernel
theorem iX11_isLetter_16 : ins MX11_isLetter 16 = some (.invokestatic 72, 3) := by decide +kernel
theorem iX11_isLetter_19 : ins MX11_isLetter 19 = some (.ifCond .eq 7, 3) := by decide +kernel
theorem iX11_isLetter_22 : ins MX11_isLetter 22 = some (.iconst 1, 1) := by decide +kernel
theorem iX11_isLetter_23 : ins MX11_isLetter 23 = some (.goto 4, 3) := by decide +kernel
theorem iX11_isLetter_26 : ins MX11_isLetter 26 = some (.iconst 0, 1) := by decide +kernel
theorem iX11_isLetter_27 : ins MX11_isLetter 27 = some (.ireturn, 1) := by decide +kernel
theorem iX11_isSlot_0 : ins MX11_isSlot 0 = some (.iload_n 1, 1) := by decide +kernel
theorem iX11_isSlot_1 : ins MX11_isSlot 1 = some (.iconst 0, 1) := by decide +kernel
theorem iX11_isSlot_2 : ins MX11_isSlot 2 = some (.aload_n 0, 1) := by decide +kernel
theorem iX11_isSlot_3 : ins MX11_isSlot 3 = some (.getfield 7, 3) := by decide +kernel
theorem iX11_isSlot_6 : ins MX11_isSlot 6 = some (.iconst 0, 1) := by decide +kernel
theorem iX11_isSlot_7 : ins MX11_isSlot 7 = some (.iaload, 1) := by decide +kernel
theorem iX11_isSlot_8 : ins MX11_isSlot 8 = some (.iconst 1, 1) := by decide +kernel
theorem iX11_isSlot_9 : ins MX11_isSlot 9 = some (.isub, 1) := by decide +kernel
theorem iX11_isSlot_10 : ins MX11_isSlot 10 = some (.invokestatic 72, 3) := by decide +kernel
theorem iX11_isSlot_13 : ins MX11_isSlot 13 = some (.ireturn, 1) := by decide +kernel
theorem iX11_isSong_0 : ins MX11_isSong 0 = some (.iload_n 0, 1) := by decide +kernel
theorem iX11_isSong_1 : ins MX11_isSong 1 = some (.iconst 0, 1) := by decide +kernel
theorem iX11_isSong_2 : ins MX11_isSong 2 = some (.iconst 3, 1) := by decide +kernel
theorem iX11_isSong_3 : ins MX11_isSong 3 = some (.invokestatic 72, 3) := by decide +kernel
theorem iX11_isSong_6 : ins MX11_isSong 6 = some (.ireturn, 1) := by decide +kernel
theorem iX11_isWanted_0 : ins MX11_isWanted 0 = some (.iconst 0, 1) := by decide +kernel
theorem iX11_isWanted_1 : ins MX11_isWanted 1 = some (.istore_n 1, 1) := by decide +kernel
theorem iX11_isWanted_2 : ins MX11_isWanted 2 = some (.iload_n 1, 1) := by decide +kernel
theorem iX11_isWanted_3 : ins MX11_isWanted 3 = some (.aload_n 0, 1) := by decide +kernel
theorem iX11_isWanted_4 : ins MX11_isWanted 4 = some (.getfield 7, 3) := by decide +kernel
theorem iX11_isWanted_7 : ins MX11_isWanted 7 = some (.iconst 0, 1) := by decide +kernel
theorem iX11_isWanted_8 : ins MX11_isWanted 8 = some (.iaload, 1) := by decide +kernel
theorem iX11_isWanted_9 : ins MX11_isWanted 9 = some (.if_icmp .ge 38, 3) := by decide +kernel
theorem iX11_isWanted_12 : ins MX11_isWanted 12 = some (.aload_n 0, 1) := by decide +kernel
theorem iX11_isWanted_13 : ins MX11_isWanted 13 = some (.getfield 7, 3) := by decide +kernel
theorem iX11_isWanted_16 : ins MX11_isWanted 16 = some (.bipush 10, 2) := by decide +kernel
theorem iX11_isWanted_18 : ins MX11_isWanted 18 = some (.aload_n 0, 1) := by decide +kernel
theorem iX11_isWanted_19 : ins MX11_isWanted 19 = some (.getfield 29, 3) := by decide +kernel
theorem iX11_isWanted_22 : ins MX11_isWanted 22 = some (.iload_n 1, 1) := by decide +kernel
theorem iX11_isWanted_23 : ins MX11_isWanted 23 = some (.iaload, 1) := by decide +kernel
theorem iX11_isWanted_24 : ins MX11_isWanted 24 = some (.iadd, 1) := by decide +kernel
theorem iX11_isWanted_25 : ins MX11_isWanted 25 = some (.iaload, 1) := by decide +kernel
theorem iX11_isWanted_26 : ins MX11_isWanted 26 = some (.aload_n 0, 1) := by decide +kernel
theorem iX11_isWanted_27 : ins MX11_isWanted 27 = some (.getfield 7, 3) := by decide +kernel
theorem iX11_isWanted_30 : ins MX11_isWanted 30 = some (.sipush 920, 3) := by decide +kernel
theorem iX11_isWanted_33 : ins MX11_isWanted 33 = some (.iload_n 1, 1) := by decide +kernel
theorem iX11_isWanted_34 : ins MX11_isWanted 34 = some (.iadd, 1) := by decide +kernel
theorem iX11_isWanted_35 : ins MX11_isWanted 35 = some (.iaload, 1) := by decide +kernel
theorem iX11_isWanted_36 : ins MX11_isWanted 36 = some (.if_icmp .eq 5, 3) := by decide +kernel
theorem iX11_isWanted_39 : ins MX11_isWanted 39 = some (.iconst 0, 1) := by decide +kernel
theorem iX11_isWanted_40 : ins MX11_isWanted 40 = some (.ireturn, 1) := by decide +kernel
theorem iX11_isWanted_41 : ins MX11_isWanted 41 = some (.iinc 1 1, 3) := by decide +kernel
theorem iX11_isWanted_44 : ins MX11_isWanted 44 = some (.goto (-42), 3) := by decide +kernel
theorem iX11_isWanted_47 : ins MX11_isWanted 47 = some (.iconst 1, 1) := by decide +kernel
theorem iX11_isWanted_48 : ins MX11_isWanted 48 = some (.ireturn, 1) := by decide +kernel
theorem iX11_isWantedBehind_0 : ins MX11_isWantedBehind 0 = some (.aload_n 0, 1) := by decide +kernel
theorem iX11_isWantedBehind_1 : ins MX11_isWantedBehind 1 = some (.invokevirtual 248, 3) := by decide +kernel
theorem iX11_isWantedBehind_4 : ins MX11_isWantedBehind 4 = some (.iconst 1, 1) := by decide +kernel
theorem iX11_isWantedBehind_5 : ins MX11_isWantedBehind 5 = some (.istore 5, 2) := by decide +kernel
theorem iX11_isWantedBehind_7 : ins MX11_isWantedBehind 7 = some (.iload 5, 2) := by decide +kernel
theorem iX11_isWantedBehind_9 : ins MX11_isWantedBehind 9 = some (.iload_n 2, 1) := by decide +kernel
theorem iX11_isWantedBehind_10 : ins MX11_isWantedBehind 10 = some (.if_icmp .gt 27, 3) := by decide +kernel
theorem iX11_isWantedBehind_13 : ins MX11_isWantedBehind 13 = some (.aload_n 0, 1) := by decide +kernel
theorem iX11_isWantedBehind_14 : ins MX11_isWantedBehind 14 = some (.iload_n 1, 1) := by decide +kernel
theorem iX11_isWantedBehind_15 : ins MX11_isWantedBehind 15 = some (.iconst 0, 1) := by decide +kernel
theorem iX11_isWantedBehind_16 : ins MX11_isWantedBehind 16 = some (.iload 5, 2) := by decide +kernel
theorem iX11_isWantedBehind_18 : ins MX11_isWantedBehind 18 = some (.iload 4, 2) := by decide +kernel
theorem iX11_isWantedBehind_20 : ins MX11_isWantedBehind 20 = some (.if_icmp .ge 7, 3) := by decide +kernel
theorem iX11_isWantedBehind_23 : ins MX11_isWantedBehind 23 = some (.iconst (-1), 1) := by decide +kernel
theorem iX11_isWantedBehind_24 : ins MX11_isWantedBehind 24 = some (.goto 4, 3) := by decide +kernel
theorem iX11_isWantedBehind_27 : ins MX11_isWantedBehind 27 = some (.iload_n 3, 1) := by decide +kernel
theorem iX11_isWantedBehind_28 : ins MX11_isWantedBehind 28 = some (.invokevirtual 220, 3) := by decide +kernel
theorem iX11_isWantedBehind_31 : ins MX11_isWantedBehind 31 = some (.iinc 5 1, 3) := by decide +kernel
theorem iX11_isWantedBehind_34 : ins MX11_isWantedBehind 34 = some (.goto (-27), 3) := by decide +kernel
theorem iX11_isWantedBehind_37 : ins MX11_isWantedBehind 37 = some (.aload_n 0, 1) := by decide +kernel
theorem iX11_isWantedBehind_38 : ins MX11_isWantedBehind 38 = some (.invokevirtual 251, 3) := by decide +kernel
theorem iX11_isWantedBehind_41 : ins MX11_isWantedBehind 41 = some (.ireturn, 1) := by decide +kernel
theorem iX11_isWithin_0 : ins MX11_isWithin 0 = some (.iload_n 1, 1) := by decide +kernel
theorem iX11_isWithin_1 : ins MX11_isWithin 1 = some (.iload_n 2, 1) := by decide +kernel
theorem iX11_isWithin_2 : ins MX11_isWithin 2 = some (.if_icmp .ge 12, 3) := by decide +kernel
theorem iX11_isWithin_5 : ins MX11_isWithin 5 = some (.iload_n 0, 1) := by decide +kernel
theorem iX11_isWithin_6 : ins MX11_isWithin 6 = some (.iload_n 1, 1) := by decide +kernel
theorem iX11_isWithin_7 : ins MX11_isWithin 7 = some (.iload_n 2, 1) := by decide +kernel
theorem iX11_isWithin_8 : ins MX11_isWithin 8 = some (.invokestatic 72, 3) := by decide +kernel
theorem iX11_isWithin_11 : ins MX11_isWithin 11 = some (.goto 9, 3) := by decide +kernel
theorem iX11_isWithin_14 : ins MX11_isWithin 14 = some (.iload_n 0, 1) := by decide +kernel
theorem iX11_isWithin_15 : ins MX11_isWithin 15 = some (.iload_n 2, 1) := by decide +kernel
theorem iX11_isWithin_16 : ins MX11_isWithin 16 = some (.iload_n 1, 1) := by decide +kernel
theorem iX11_isWithin_17 : ins MX11_isWithin 17 = some (.invokestatic 72, 3) := by decide +kernel
theorem iX11_isWithin_20 : ins MX11_isWithin 20 = some (.ireturn, 1) := by decide +kernel
theorem iX11_keeps_0 : ins MX11_keeps 0 = some (.aload_n 0, 1) := by decide +kernel
theorem iX11_keeps_1 : ins MX11_keeps 1 = some (.getfield 69, 3) := by decide +kernel
theorem iX11_keeps_4 : ins MX11_keeps 4 = some (.bipush 6, 2) := by decide +kernel
theorem iX11_keeps_6 : ins MX11_keeps 6 = some (.if_icmp .ne 44, 3) := by decide +kernel
theorem iX11_keeps_9 : ins MX11_keeps 9 = some (.iconst 0, 1) := by decide +kernel
theorem iX11_keeps_10 : ins MX11_keeps 10 = some (.istore_n 1, 1) := by decide +kernel
theorem iX11_keeps_11 : ins MX11_keeps 11 = some (.iload_n 1, 1) := by decide +kernel
theorem iX11_keeps_12 : ins MX11_keeps 12 = some (.sipush 1580, 3) := by decide +kernel
theorem iX11_keeps_15 : ins MX11_keeps 15 = some (.if_icmp .ge 25, 3) := by decide +kernel
theorem iX11_keeps_18 : ins MX11_keeps 18 = some (.aload_n 0, 1) := by decide +kernel
theorem iX11_keeps_19 : ins MX11_keeps 19 = some (.getfield 16, 3) := by decide +kernel
theorem iX11_keeps_22 : ins MX11_keeps 22 = some (.iload_n 1, 1) := by decide +kernel
theorem iX11_keeps_23 : ins MX11_keeps 23 = some (.aload_n 0, 1) := by decide +kernel
theorem iX11_keeps_24 : ins MX11_keeps 24 = some (.getfield 16, 3) := by decide +kernel
theorem iX11_keeps_27 : ins MX11_keeps 27 = some (.iload_n 1, 1) := by decide +kernel
theorem iX11_keeps_28 : ins MX11_keeps 28 = some (.sipush 316, 3) := by decide +kernel
theorem iX11_keeps_31 : ins MX11_keeps 31 = some (.iadd, 1) := by decide +kernel
theorem iX11_keeps_32 : ins MX11_keeps 32 = some (.iaload, 1) := by decide +kernel
theorem iX11_keeps_33 : ins MX11_keeps 33 = some (.iastore, 1) := by decide +kernel
theorem iX11_keeps_34 : ins MX11_keeps 34 = some (.iinc 1 1, 3) := by decide +kernel
theorem iX11_keeps_37 : ins MX11_keeps 37 = some (.goto (-26), 3) := by decide +kernel
theorem iX11_keeps_40 : ins MX11_keeps 40 = some (.aload_n 0, 1) := by decide +kernel
theorem iX11_keeps_41 : ins MX11_keeps 41 = some (.dup, 1) := by decide +kernel
theorem iX11_keeps_42 : ins MX11_keeps 42 = some (.getfield 69, 3) := by decide +kernel
theorem iX11_keeps_45 : ins MX11_keeps 45 = some (.iconst 1, 1) := by decide +kernel
theorem iX11_keeps_46 : ins MX11_keeps 46 = some (.isub, 1) := by decide +kernel
theorem iX11_keeps_47 : ins MX11_keeps 47 = some (.putfield 69, 3) := by decide +kernel
theorem iX11_keeps_50 : ins MX11_keeps 50 = some (.iconst 0, 1) := by decide +kernel
theorem iX11_keeps_51 : ins MX11_keeps 51 = some (.istore_n 1, 1) := by decide +kernel
theorem iX11_keeps_52 : ins MX11_keeps 52 = some (.iload_n 1, 1) := by decide +kernel
theorem iX11_keeps_53 : ins MX11_keeps 53 = some (.sipush 316, 3) := by decide +kernel
theorem iX11_keeps_56 : ins MX11_keeps 56 = some (.if_icmp .ge 30, 3) := by decide +kernel
theorem iX11_keeps_59 : ins MX11_keeps 59 = some (.aload_n 0, 1) := by decide +kernel
theorem iX11_keeps_60 : ins MX11_keeps 60 = some (.getfield 16, 3) := by decide +kernel
theorem iX11_keeps_63 : ins MX11_keeps 63 = some (.sipush 316, 3) := by decide +kernel
theorem iX11_keeps_66 : ins MX11_keeps 66 = some (.aload_n 0, 1) := by decide +kernel
theorem iX11_keeps_67 : ins MX11_keeps 67 = some (.getfield 69, 3) := by decide +kernel
theorem iX11_keeps_70 : ins MX11_keeps 70 = some (.imul, 1) := by decide +kernel
theorem iX11_keeps_71 : ins MX11_keeps 71 = some (.iload_n 1, 1) := by decide +kernel
theorem iX11_keeps_72 : ins MX11_keeps 72 = some (.iadd, 1) := by decide +kernel
theorem iX11_keeps_73 : ins MX11_keeps 73 = some (.aload_n 0, 1) := by decide +kernel
theorem iX11_keeps_74 : ins MX11_keeps 74 = some (.getfield 7, 3) := by decide +kernel
theorem iX11_keeps_77 : ins MX11_keeps 77 = some (.iload_n 1, 1) := by decide +kernel
theorem iX11_keeps_78 : ins MX11_keeps 78 = some (.iaload, 1) := by decide +kernel
theorem iX11_keeps_79 : ins MX11_keeps 79 = some (.iastore, 1) := by decide +kernel
theorem iX11_keeps_80 : ins MX11_keeps 80 = some (.iinc 1 1, 3) := by decide +kernel
theorem iX11_keeps_83 : ins MX11_keeps 83 = some (.goto (-31), 3) := by decide +kernel
theorem iX11_keeps_86 : ins MX11_keeps 86 = some (.aload_n 0, 1) := by decide +kernel
theorem iX11_keeps_87 : ins MX11_keeps 87 = some (.dup, 1) := by decide +kernel
theorem iX11_keeps_88 : ins MX11_keeps 88 = some (.getfield 69, 3) := by decide +kernel
theorem iX11_keeps_91 : ins MX11_keeps 91 = some (.iconst 1, 1) := by decide +kernel
theorem iX11_keeps_92 : ins MX11_keeps 92 = some (.iadd, 1) := by decide +kernel
theorem iX11_keeps_93 : ins MX11_keeps 93 = some (.putfield 69, 3) := by decide +kernel
theorem iX11_keeps_96 : ins MX11_keeps 96 = some (.return_, 1) := by decide +kernel
theorem iX11_lay_0 : ins MX11_lay 0 = some (.iload_n 1, 1) := by decide +kernel
theorem iX11_lay_1 : ins MX11_lay 1 = some (.invokestatic 178, 3) := by decide +kernel
theorem iX11_lay_4 : ins MX11_lay 4 = some (.ifCond .ne 5, 3) := by decide +kernel
theorem iX11_lay_7 : ins MX11_lay 7 = some (.iconst (-1), 1) := by decide +kernel
theorem iX11_lay_8 : ins MX11_lay 8 = some (.ireturn, 1) := by decide +kernel
theorem iX11_lay_9 : ins MX11_lay 9 = some (.iconst 0, 1) := by decide +kernel
theorem iX11_lay_10 : ins MX11_lay 10 = some (.istore_n 2, 1) := by decide +kernel
theorem iX11_lay_11 : ins MX11_lay 11 = some (.iconst 0, 1) := by decide +kernel
theorem iX11_lay_12 : ins MX11_lay 12 = some (.istore_n 3, 1) := by decide +kernel
theorem iX11_lay_13 : ins MX11_lay 13 = some (.iload_n 3, 1) := by decide +kernel
theorem iX11_lay_14 : ins MX11_lay 14 = some (.bipush 30, 2) := by decide +kernel
theorem iX11_lay_16 : ins MX11_lay 16 = some (.if_icmp .ge 27, 3) := by decide +kernel
theorem iX11_lay_19 : ins MX11_lay 19 = some (.aload_n 0, 1) := by decide +kernel
theorem iX11_lay_20 : ins MX11_lay 20 = some (.getfield 7, 3) := by decide +kernel
theorem iX11_lay_23 : ins MX11_lay 23 = some (.sipush 940, 3) := by decide +kernel
theorem iX11_lay_26 : ins MX11_lay 26 = some (.iload_n 3, 1) := by decide +kernel
theorem iX11_lay_27 : ins MX11_lay 27 = some (.iadd, 1) := by decide +kernel
theorem iX11_lay_28 : ins MX11_lay 28 = some (.iaload, 1) := by decide +kernel
theorem iX11_lay_29 : ins MX11_lay 29 = some (.iconst (-1), 1) := by decide +kernel
theorem iX11_lay_30 : ins MX11_lay 30 = some (.if_icmp .eq 7, 3) := by decide +kernel
theorem iX11_lay_33 : ins MX11_lay 33 = some (.iload_n 3, 1) := by decide +kernel
theorem iX11_lay_34 : ins MX11_lay 34 = some (.iconst 1, 1) := by decide +kernel
theorem iX11_lay_35 : ins MX11_lay 35 = some (.iadd, 1) := by decide +kernel
theorem iX11_lay_36 : ins MX11_lay 36 = some (.istore_n 2, 1) := by decide +kernel
theorem iX11_lay_37 : ins MX11_lay 37 = some (.iinc 3 1, 3) := by decide +kernel
theorem iX11_lay_40 : ins MX11_lay 40 = some (.goto (-27), 3) := by decide +kernel
theorem iX11_lay_43 : ins MX11_lay 43 = some (.iconst 0, 1) := by decide +kernel
theorem iX11_lay_44 : ins MX11_lay 44 = some (.istore_n 3, 1) := by decide +kernel
theorem iX11_lay_45 : ins MX11_lay 45 = some (.iload_n 3, 1) := by decide +kernel
theorem iX11_lay_46 : ins MX11_lay 46 = some (.bipush 16, 2) := by decide +kernel
theorem iX11_lay_48 : ins MX11_lay 48 = some (.if_icmp .ge 16, 3) := by decide +kernel
theorem iX11_lay_51 : ins MX11_lay 51 = some (.aload_n 0, 1) := by decide +kernel
theorem iX11_lay_52 : ins MX11_lay 52 = some (.getfield 62, 3) := by decide +kernel
theorem iX11_lay_55 : ins MX11_lay 55 = some (.iload_n 3, 1) := by decide +kernel
theorem iX11_lay_56 : ins MX11_lay 56 = some (.iconst (-1), 1) := by decide +kernel
theorem iX11_lay_57 : ins MX11_lay 57 = some (.iastore, 1) := by decide +kernel
theorem iX11_lay_58 : ins MX11_lay 58 = some (.iinc 3 1, 3) := by decide +kernel
theorem iX11_lay_61 : ins MX11_lay 61 = some (.goto (-16), 3) := by decide +kernel
theorem iX11_lay_64 : ins MX11_lay 64 = some (.aload_n 0, 1) := by decide +kernel
theorem iX11_lay_65 : ins MX11_lay 65 = some (.invokevirtual 248, 3) := by decide +kernel
theorem iX11_lay_68 : ins MX11_lay 68 = some (.iconst 0, 1) := by decide +kernel
theorem iX11_lay_69 : ins MX11_lay 69 = some (.istore_n 3, 1) := by decide +kernel
theorem iX11_lay_70 : ins MX11_lay 70 = some (.iconst 0, 1) := by decide +kernel
theorem iX11_lay_71 : ins MX11_lay 71 = some (.istore 4, 2) := by decide +kernel
theorem iX11_lay_73 : ins MX11_lay 73 = some (.iload 4, 2) := by decide +kernel
theorem iX11_lay_75 : ins MX11_lay 75 = some (.bipush 60, 2) := by decide +kernel
theorem iX11_lay_77 : ins MX11_lay 77 = some (.if_icmp .ge 126, 3) := by decide +kernel
theorem iX11_lay_80 : ins MX11_lay 80 = some (.iload_n 3, 1) := by decide +kernel
theorem iX11_lay_81 : ins MX11_lay 81 = some (.iload_n 2, 1) := by decide +kernel
theorem iX11_lay_82 : ins MX11_lay 82 = some (.if_icmp .ge 121, 3) := by decide +kernel
theorem iX11_lay_85 : ins MX11_lay 85 = some (.iconst 0, 1) := by decide +kernel
theorem iX11_lay_86 : ins MX11_lay 86 = some (.istore 5, 2) := by decide +kernel
theorem iX11_lay_88 : ins MX11_lay 88 = some (.iload 5, 2) := by decide +kernel
theorem iX11_lay_90 : ins MX11_lay 90 = some (.aload_n 0, 1) := by decide +kernel
theorem iX11_lay_91 : ins MX11_lay 91 = some (.getfield 7, 3) := by decide +kernel
theorem iX11_lay_94 : ins MX11_lay 94 = some (.sipush 975, 3) := by decide +kernel
theorem iX11_lay_97 : ins MX11_lay 97 = some (.iload_n 1, 1) := by decide +kernel
theorem iX11_lay_98 : ins MX11_lay 98 = some (.iadd, 1) := by decide +kernel
theorem iX11_lay_99 : ins MX11_lay 99 = some (.iaload, 1) := by decide +kernel
theorem iX11_lay_100 : ins MX11_lay 100 = some (.if_icmp .ge 97, 3) := by decide +kernel
theorem iX11_lay_103 : ins MX11_lay 103 = some (.iload_n 3, 1) := by decide +kernel
theorem iX11_lay_104 : ins MX11_lay 104 = some (.iload_n 2, 1) := by decide +kernel
theorem iX11_lay_105 : ins MX11_lay 105 = some (.if_icmp .ge 92, 3) := by decide +kernel
theorem iX11_lay_108 : ins MX11_lay 108 = some (.aload_n 0, 1) := by decide +kernel
theorem iX11_lay_109 : ins MX11_lay 109 = some (.iload_n 1, 1) := by decide +kernel
theorem iX11_lay_110 : ins MX11_lay 110 = some (.iload 5, 2) := by decide +kernel
theorem iX11_lay_112 : ins MX11_lay 112 = some (.iconst 0, 1) := by decide +kernel
theorem iX11_lay_113 : ins MX11_lay 113 = some (.iconst 0, 1) := by decide +kernel
theorem iX11_lay_114 : ins MX11_lay 114 = some (.iconst (-1), 1) := by decide +kernel
theorem iX11_lay_115 : ins MX11_lay 115 = some (.iconst 0, 1) := by decide +kernel
theorem iX11_lay_116 : ins MX11_lay 116 = some (.invokevirtual 198, 3) := by decide +kernel
theorem iX11_lay_119 : ins MX11_lay 119 = some (.istore 6, 2) := by decide +kernel
theorem iX11_lay_121 : ins MX11_lay 121 = some (.iload 6, 2) := by decide +kernel
theorem iX11_lay_123 : ins MX11_lay 123 = some (.iconst (-1), 1) := by decide +kernel
theorem iX11_lay_124 : ins MX11_lay 124 = some (.if_icmp .ne 6, 3) := by decide +kernel
theorem iX11_lay_127 : ins MX11_lay 127 = some (.goto 64, 3) := by decide +kernel
theorem iX11_lay_130 : ins MX11_lay 130 = some (.aload_n 0, 1) := by decide +kernel
theorem iX11_lay_131 : ins MX11_lay 131 = some (.getfield 7, 3) := by decide +kernel
theorem iX11_lay_134 : ins MX11_lay 134 = some (.sipush 940, 3) := by decide +kernel
theorem iX11_lay_137 : ins MX11_lay 137 = some (.iload_n 3, 1) := by decide +kernel
theorem iX11_lay_138 : ins MX11_lay 138 = some (.iadd, 1) := by decide +kernel
theorem iX11_lay_139 : ins MX11_lay 139 = some (.iaload, 1) := by decide +kernel
theorem iX11_lay_140 : ins MX11_lay 140 = some (.istore 7, 2) := by decide +kernel
theorem iX11_lay_142 : ins MX11_lay 142 = some (.iload 7, 2) := by decide +kernel
theorem iX11_lay_144 : ins MX11_lay 144 = some (.iconst (-1), 1) := by decide +kernel
theorem iX11_lay_145 : ins MX11_lay 145 = some (.if_icmp .eq 28, 3) := by decide +kernel
theorem iX11_lay_148 : ins MX11_lay 148 = some (.aload_n 0, 1) := by decide +kernel
theorem iX11_lay_149 : ins MX11_lay 149 = some (.getfield 62, 3) := by decide +kernel
theorem iX11_lay_152 : ins MX11_lay 152 = some (.iload 6, 2) := by decide +kernel
theorem iX11_lay_154 : ins MX11_lay 154 = some (.iaload, 1) := by decide +kernel
theorem iX11_lay_155 : ins MX11_lay 155 = some (.iconst (-1), 1) := by decide +kernel
theorem iX11_lay_156 : ins MX11_lay 156 = some (.if_icmp .eq 17, 3) := by decide +kernel
theorem iX11_lay_159 : ins MX11_lay 159 = some (.aload_n 0, 1) := by decide +kernel
theorem iX11_lay_160 : ins MX11_lay 160 = some (.getfield 62, 3) := by decide +kernel
theorem iX11_lay_163 : ins MX11_lay 163 = some (.iload 6, 2) := by decide +kernel
theorem iX11_lay_165 : ins MX11_lay 165 = some (.iaload, 1) := by decide +kernel
theorem iX11_lay_166 : ins MX11_lay 166 = some (.iload 7, 2) := by decide +kernel
theorem iX11_lay_168 : ins MX11_lay 168 = some (.if_icmp .eq 5, 3) := by decide +kernel
theorem iX11_lay_171 : ins MX11_lay 171 = some (.iconst (-1), 1) := by decide +kernel
theorem iX11_lay_172 : ins MX11_lay 172 = some (.ireturn, 1) := by decide +kernel
theorem iX11_lay_173 : ins MX11_lay 173 = some (.iload 7, 2) := by decide +kernel
theorem iX11_lay_175 : ins MX11_lay 175 = some (.iconst (-1), 1) := by decide +kernel
theorem iX11_lay_176 : ins MX11_lay 176 = some (.if_icmp .eq 12, 3) := by decide +kernel
theorem iX11_lay_179 : ins MX11_lay 179 = some (.aload_n 0, 1) := by decide +kernel
theorem iX11_lay_180 : ins MX11_lay 180 = some (.getfield 62, 3) := by decide +kernel
theorem iX11_lay_183 : ins MX11_lay 183 = some (.iload 6, 2) := by decide +kernel
theorem iX11_lay_185 : ins MX11_lay 185 = some (.iload 7, 2) := by decide +kernel
theorem iX11_lay_187 : ins MX11_lay 187 = some (.iastore, 1) := by decide +kernel
theorem iX11_lay_188 : ins MX11_lay 188 = some (.iinc 3 1, 3) := by decide +kernel
theorem iX11_lay_191 : ins MX11_lay 191 = some (.iinc 5 1, 3) := by decide +kernel
theorem iX11_lay_194 : ins MX11_lay 194 = some (.goto (-106), 3) := by decide +kernel
theorem iX11_lay_197 : ins MX11_lay 197 = some (.iinc 4 1, 3) := by decide +kernel
theorem iX11_lay_200 : ins MX11_lay 200 = some (.goto (-127), 3) := by decide +kernel
theorem iX11_lay_203 : ins MX11_lay 203 = some (.iload_n 3, 1) := by decide +kernel
theorem iX11_lay_204 : ins MX11_lay 204 = some (.iload_n 2, 1) := by decide +kernel
theorem iX11_lay_205 : ins MX11_lay 205 = some (.if_icmp .ge 5, 3) := by decide +kernel
theorem iX11_lay_208 : ins MX11_lay 208 = some (.iconst (-1), 1) := by decide +kernel
theorem iX11_lay_209 : ins MX11_lay 209 = some (.ireturn, 1) := by decide +kernel
theorem iX11_lay_210 : ins MX11_lay 210 = some (.iconst 0, 1) := by decide +kernel
theorem iX11_lay_211 : ins MX11_lay 211 = some (.istore 4, 2) := by decide +kernel
theorem iX11_lay_213 : ins MX11_lay 213 = some (.iconst 0, 1) := by decide +kernel
theorem iX11_lay_214 : ins MX11_lay 214 = some (.istore 5, 2) := by decide +kernel
theorem iX11_lay_216 : ins MX11_lay 216 = some (.iload 5, 2) := by decide +kernel
theorem iX11_lay_218 : ins MX11_lay 218 = some (.aload_n 0, 1) := by decide +kernel
theorem iX11_lay_219 : ins MX11_lay 219 = some (.getfield 7, 3) := by decide +kernel
theorem iX11_lay_222 : ins MX11_lay 222 = some (.iconst 0, 1) := by decide +kernel
theorem iX11_lay_223 : ins MX11_lay 223 = some (.iaload, 1) := by decide +kernel
theorem iX11_lay_224 : ins MX11_lay 224 = some (.if_icmp .ge 50, 3) := by decide +kernel
theorem iX11_lay_227 : ins MX11_lay 227 = some (.iload 4, 2) := by decide +kernel
theorem iX11_lay_229 : ins MX11_lay 229 = some (.aload_n 0, 1) := by decide +kernel
theorem iX11_lay_230 : ins MX11_lay 230 = some (.getfield 62, 3) := by decide +kernel
theorem iX11_lay_233 : ins MX11_lay 233 = some (.iload 5, 2) := by decide +kernel
theorem iX11_lay_235 : ins MX11_lay 235 = some (.iaload, 1) := by decide +kernel
theorem iX11_lay_236 : ins MX11_lay 236 = some (.iconst (-1), 1) := by decide +kernel
theorem iX11_lay_237 : ins MX11_lay 237 = some (.if_icmp .eq 27, 3) := by decide +kernel
theorem iX11_lay_240 : ins MX11_lay 240 = some (.aload_n 0, 1) := by decide +kernel
theorem iX11_lay_241 : ins MX11_lay 241 = some (.getfield 62, 3) := by decide +kernel
theorem iX11_lay_244 : ins MX11_lay 244 = some (.iload 5, 2) := by decide +kernel
theorem iX11_lay_246 : ins MX11_lay 246 = some (.iaload, 1) := by decide +kernel
theorem iX11_lay_247 : ins MX11_lay 247 = some (.aload_n 0, 1) := by decide +kernel
theorem iX11_lay_248 : ins MX11_lay 248 = some (.getfield 7, 3) := by decide +kernel
theorem iX11_lay_251 : ins MX11_lay 251 = some (.bipush 10, 2) := by decide +kernel
theorem iX11_lay_253 : ins MX11_lay 253 = some (.iload 5, 2) := by decide +kernel
theorem iX11_lay_255 : ins MX11_lay 255 = some (.iadd, 1) := by decide +kernel
theorem iX11_lay_256 : ins MX11_lay 256 = some (.iaload, 1) := by decide +kernel
theorem iX11_lay_257 : ins MX11_lay 257 = some (.if_icmp .eq 7, 3) := by decide +kernel
theorem iX11_lay_260 : ins MX11_lay 260 = some (.iconst 1, 1) := by decide +kernel
theorem iX11_lay_261 : ins MX11_lay 261 = some (.goto 4, 3) := by decide +kernel
theorem iX11_lay_264 : ins MX11_lay 264 = some (.iconst 0, 1) := by decide +kernel
theorem iX11_lay_265 : ins MX11_lay 265 = some (.iadd, 1) := by decide +kernel
theorem iX11_lay_266 : ins MX11_lay 266 = some (.istore 4, 2) := by decide +kernel
theorem iX11_lay_268 : ins MX11_lay 268 = some (.iinc 5 1, 3) := by decide +kernel
theorem iX11_lay_271 : ins MX11_lay 271 = some (.goto (-55), 3) := by decide +kernel
theorem iX11_lay_274 : ins MX11_lay 274 = some (.iload 4, 2) := by decide +kernel
theorem iX11_lay_276 : ins MX11_lay 276 = some (.ireturn, 1) := by decide +kernel
theorem iX11_laysFar_0 : ins MX11_laysFar 0 = some (.aload_n 0, 1) := by decide +kernel
theorem iX11_laysFar_1 : ins MX11_laysFar 1 = some (.getfield 7, 3) := by decide +kernel
theorem iX11_laysFar_4 : ins MX11_laysFar 4 = some (.iconst 0, 1) := by decide +kernel
theorem iX11_laysFar_5 : ins MX11_laysFar 5 = some (.iaload, 1) := by decide +kernel
theorem iX11_laysFar_6 : ins MX11_laysFar 6 = some (.istore_n 1, 1) := by decide +kernel
theorem iX11_laysFar_7 : ins MX11_laysFar 7 = some (.iconst 0, 1) := by decide +kernel
theorem iX11_laysFar_8 : ins MX11_laysFar 8 = some (.istore_n 2, 1) := by decide +kernel
theorem iX11_laysFar_9 : ins MX11_laysFar 9 = some (.iload_n 2, 1) := by decide +kernel
theorem iX11_laysFar_10 : ins MX11_laysFar 10 = some (.sipush 16384, 3) := by decide +kernel
theorem iX11_laysFar_13 : ins MX11_laysFar 13 = some (.if_icmp .ge 16, 3) := by decide +kernel
theorem iX11_laysFar_16 : ins MX11_laysFar 16 = some (.aload_n 0, 1) := by decide +kernel
theorem iX11_laysFar_17 : ins MX11_laysFar 17 = some (.getfield 35, 3) := by decide +kernel
theorem iX11_laysFar_20 : ins MX11_laysFar 20 = some (.iload_n 2, 1) := by decide +kernel
theorem iX11_laysFar_21 : ins MX11_laysFar 21 = some (.iconst (-1), 1) := by decide +kernel
theorem iX11_laysFar_22 : ins MX11_laysFar 22 = some (.iastore, 1) := by decide +kernel
theorem iX11_laysFar_23 : ins MX11_laysFar 23 = some (.iinc 2 1, 3) := by decide +kernel
theorem iX11_laysFar_26 : ins MX11_laysFar 26 = some (.goto (-17), 3) := by decide +kernel
theorem iX11_laysFar_29 : ins MX11_laysFar 29 = some (.aload_n 0, 1) := by decide +kernel
theorem iX11_laysFar_30 : ins MX11_laysFar 30 = some (.iconst 0, 1) := by decide +kernel
theorem iX11_laysFar_31 : ins MX11_laysFar 31 = some (.putfield 232, 3) := by decide +kernel
theorem iX11_laysFar_34 : ins MX11_laysFar 34 = some (.iconst 0, 1) := by decide +kernel
theorem iX11_laysFar_35 : ins MX11_laysFar 35 = some (.istore_n 2, 1) := by decide +kernel
theorem iX11_laysFar_36 : ins MX11_laysFar 36 = some (.iconst 0, 1) := by decide +kernel
theorem iX11_laysFar_37 : ins MX11_laysFar 37 = some (.istore_n 3, 1) := by decide +kernel
theorem iX11_laysFar_38 : ins MX11_laysFar 38 = some (.iload_n 3, 1) := by decide +kernel
theorem iX11_laysFar_39 : ins MX11_laysFar 39 = some (.iload_n 1, 1) := by decide +kernel
theorem iX11_laysFar_40 : ins MX11_laysFar 40 = some (.if_icmp .ge 25, 3) := by decide +kernel
theorem iX11_laysFar_43 : ins MX11_laysFar 43 = some (.bipush 10, 2) := by decide +kernel
theorem iX11_laysFar_45 : ins MX11_laysFar 45 = some (.iload_n 2, 1) := by decide +kernel
theorem iX11_laysFar_46 : ins MX11_laysFar 46 = some (.imul, 1) := by decide +kernel
theorem iX11_laysFar_47 : ins MX11_laysFar 47 = some (.aload_n 0, 1) := by decide +kernel
theorem iX11_laysFar_48 : ins MX11_laysFar 48 = some (.getfield 7, 3) := by decide +kernel
theorem iX11_laysFar_51 : ins MX11_laysFar 51 = some (.sipush 920, 3) := by decide +kernel
theorem iX11_laysFar_54 : ins MX11_laysFar 54 = some (.iload_n 3, 1) := by decide +kernel
theorem iX11_laysFar_55 : ins MX11_laysFar 55 = some (.iadd, 1) := by decide +kernel
theorem iX11_laysFar_56 : ins MX11_laysFar 56 = some (.iaload, 1) := by decide +kernel
theorem iX11_laysFar_57 : ins MX11_laysFar 57 = some (.iadd, 1) := by decide +kernel
theorem iX11_laysFar_58 : ins MX11_laysFar 58 = some (.istore_n 2, 1) := by decide +kernel
theorem iX11_laysFar_59 : ins MX11_laysFar 59 = some (.iinc 3 1, 3) := by decide +kernel
theorem iX11_laysFar_62 : ins MX11_laysFar 62 = some (.goto (-24), 3) := by decide +kernel
theorem iX11_laysFar_65 : ins MX11_laysFar 65 = some (.aload_n 0, 1) := by decide +kernel
theorem iX11_laysFar_66 : ins MX11_laysFar 66 = some (.iload_n 2, 1) := by decide +kernel
theorem iX11_laysFar_67 : ins MX11_laysFar 67 = some (.iconst 0, 1) := by decide +kernel
theorem iX11_laysFar_68 : ins MX11_laysFar 68 = some (.invokevirtual 235, 3) := by decide +kernel
theorem iX11_laysFar_71 : ins MX11_laysFar 71 = some (.iconst 0, 1) := by decide +kernel
theorem iX11_laysFar_72 : ins MX11_laysFar 72 = some (.istore_n 3, 1) := by decide +kernel
theorem iX11_laysFar_73 : ins MX11_laysFar 73 = some (.iload_n 3, 1) := by decide +kernel
theorem iX11_laysFar_74 : ins MX11_laysFar 74 = some (.aload_n 0, 1) := by decide +kernel
theorem iX11_laysFar_75 : ins MX11_laysFar 75 = some (.getfield 232, 3) := by decide +kernel
theorem iX11_laysFar_78 : ins MX11_laysFar 78 = some (.if_icmp .ge 85, 3) := by decide +kernel
theorem iX11_laysFar_81 : ins MX11_laysFar 81 = some (.aload_n 0, 1) := by decide +kernel
theorem iX11_laysFar_82 : ins MX11_laysFar 82 = some (.getfield 38, 3) := by decide +kernel
theorem iX11_laysFar_85 : ins MX11_laysFar 85 = some (.aload_n 0, 1) := by decide +kernel
theorem iX11_laysFar_86 : ins MX11_laysFar 86 = some (.aload_n 0, 1) := by decide +kernel
theorem iX11_laysFar_87 : ins MX11_laysFar 87 = some (.getfield 41, 3) := by decide +kernel
theorem iX11_laysFar_90 : ins MX11_laysFar 90 = some (.iload_n 3, 1) := by decide +kernel
theorem iX11_laysFar_91 : ins MX11_laysFar 91 = some (.iaload, 1) := by decide +kernel
theorem iX11_laysFar_92 : ins MX11_laysFar 92 = some (.invokevirtual 229, 3) := by decide +kernel
theorem iX11_laysFar_95 : ins MX11_laysFar 95 = some (.iaload, 1) := by decide +kernel
theorem iX11_laysFar_96 : ins MX11_laysFar 96 = some (.istore 4, 2) := by decide +kernel
theorem iX11_laysFar_98 : ins MX11_laysFar 98 = some (.iconst 0, 1) := by decide +kernel
theorem iX11_laysFar_99 : ins MX11_laysFar 99 = some (.istore 5, 2) := by decide +kernel
theorem iX11_laysFar_101 : ins MX11_laysFar 101 = some (.iload 5, 2) := by decide +kernel
theorem iX11_laysFar_103 : ins MX11_laysFar 103 = some (.iload_n 1, 1) := by decide +kernel
theorem iX11_laysFar_104 : ins MX11_laysFar 104 = some (.if_icmp .ge 53, 3) := by decide +kernel
theorem iX11_laysFar_107 : ins MX11_laysFar 107 = some (.iconst 0, 1) := by decide +kernel
theorem iX11_laysFar_108 : ins MX11_laysFar 108 = some (.istore 6, 2) := by decide +kernel
theorem iX11_laysFar_110 : ins MX11_laysFar 110 = some (.iload 6, 2) := by decide +kernel
theorem iX11_laysFar_112 : ins MX11_laysFar 112 = some (.iload_n 1, 1) := by decide +kernel
theorem iX11_laysFar_113 : ins MX11_laysFar 113 = some (.if_icmp .ge 38, 3) := by decide +kernel
theorem iX11_laysFar_116 : ins MX11_laysFar 116 = some (.iload 5, 2) := by decide +kernel
theorem iX11_laysFar_118 : ins MX11_laysFar 118 = some (.iload 6, 2) := by decide +kernel
theorem iX11_laysFar_120 : ins MX11_laysFar 120 = some (.if_icmp .eq 25, 3) := by decide +kernel
theorem iX11_laysFar_123 : ins MX11_laysFar 123 = some (.aload_n 0, 1) := by decide +kernel
theorem iX11_laysFar_124 : ins MX11_laysFar 124 = some (.aload_n 0, 1) := by decide +kernel
theorem iX11_laysFar_125 : ins MX11_laysFar 125 = some (.aload_n 0, 1) := by decide +kernel
theorem iX11_laysFar_126 : ins MX11_laysFar 126 = some (.getfield 41, 3) := by decide +kernel
theorem iX11_laysFar_129 : ins MX11_laysFar 129 = some (.iload_n 3, 1) := by decide +kernel
theorem iX11_laysFar_130 : ins MX11_laysFar 130 = some (.iaload, 1) := by decide +kernel
theorem iX11_laysFar_131 : ins MX11_laysFar 131 = some (.iload 5, 2) := by decide +kernel
theorem iX11_laysFar_133 : ins MX11_laysFar 133 = some (.iload 6, 2) := by decide +kernel
theorem iX11_laysFar_135 : ins MX11_laysFar 135 = some (.invokevirtual 239, 3) := by decide +kernel
theorem iX11_laysFar_138 : ins MX11_laysFar 138 = some (.iload 4, 2) := by decide +kernel
theorem iX11_laysFar_140 : ins MX11_laysFar 140 = some (.iconst 1, 1) := by decide +kernel
theorem iX11_laysFar_141 : ins MX11_laysFar 141 = some (.iadd, 1) := by decide +kernel
theorem iX11_laysFar_142 : ins MX11_laysFar 142 = some (.invokevirtual 235, 3) := by decide +kernel
theorem iX11_laysFar_145 : ins MX11_laysFar 145 = some (.iinc 6 1, 3) := by decide +kernel
theorem iX11_laysFar_148 : ins MX11_laysFar 148 = some (.goto (-38), 3) := by decide +kernel
theorem iX11_laysFar_151 : ins MX11_laysFar 151 = some (.iinc 5 1, 3) := by decide +kernel
theorem iX11_laysFar_154 : ins MX11_laysFar 154 = some (.goto (-53), 3) := by decide +kernel
theorem iX11_laysFar_157 : ins MX11_laysFar 157 = some (.iinc 3 1, 3) := by decide +kernel
theorem iX11_laysFar_160 : ins MX11_laysFar 160 = some (.goto (-87), 3) := by decide +kernel
theorem iX11_laysFar_163 : ins MX11_laysFar 163 = some (.return_, 1) := by decide +kernel
theorem iX11_liftedOf_0 : ins MX11_liftedOf 0 = some (.aload_n 0, 1) := by decide +kernel
theorem iX11_liftedOf_1 : ins MX11_liftedOf 1 = some (.getfield 7, 3) := by decide +kernel
theorem iX11_liftedOf_4 : ins MX11_liftedOf 4 = some (.iconst 0, 1) := by decide +kernel
theorem iX11_liftedOf_5 : ins MX11_liftedOf 5 = some (.iaload, 1) := by decide +kernel
theorem iX11_liftedOf_6 : ins MX11_liftedOf 6 = some (.istore 4, 2) := by decide +kernel
theorem iX11_liftedOf_8 : ins MX11_liftedOf 8 = some (.iload_n 1, 1) := by decide +kernel
theorem iX11_liftedOf_9 : ins MX11_liftedOf 9 = some (.istore 5, 2) := by decide +kernel
theorem iX11_liftedOf_11 : ins MX11_liftedOf 11 = some (.iload 4, 2) := by decide +kernel
theorem iX11_liftedOf_13 : ins MX11_liftedOf 13 = some (.iconst 1, 1) := by decide +kernel
theorem iX11_liftedOf_14 : ins MX11_liftedOf 14 = some (.isub, 1) := by decide +kernel
theorem iX11_liftedOf_15 : ins MX11_liftedOf 15 = some (.istore 6, 2) := by decide +kernel
theorem iX11_liftedOf_17 : ins MX11_liftedOf 17 = some (.iload 6, 2) := by decide +kernel
theorem iX11_liftedOf_19 : ins MX11_liftedOf 19 = some (.ifCond .lt 28, 3) := by decide +kernel
theorem iX11_liftedOf_22 : ins MX11_liftedOf 22 = some (.aload_n 0, 1) := by decide +kernel
theorem iX11_liftedOf_23 : ins MX11_liftedOf 23 = some (.getfield 44, 3) := by decide +kernel
theorem iX11_liftedOf_26 : ins MX11_liftedOf 26 = some (.iload 6, 2) := by decide +kernel
theorem iX11_liftedOf_28 : ins MX11_liftedOf 28 = some (.iload 5, 2) := by decide +kernel
theorem iX11_liftedOf_30 : ins MX11_liftedOf 30 = some (.bipush 10, 2) := by decide +kernel
theorem iX11_liftedOf_32 : ins MX11_liftedOf 32 = some (.irem, 1) := by decide +kernel
theorem iX11_liftedOf_33 : ins MX11_liftedOf 33 = some (.iastore, 1) := by decide +kernel
theorem iX11_liftedOf_34 : ins MX11_liftedOf 34 = some (.iload 5, 2) := by decide +kernel
theorem iX11_liftedOf_36 : ins MX11_liftedOf 36 = some (.bipush 10, 2) := by decide +kernel
theorem iX11_liftedOf_38 : ins MX11_liftedOf 38 = some (.idiv, 1) := by decide +kernel
theorem iX11_liftedOf_39 : ins MX11_liftedOf 39 = some (.istore 5, 2) := by decide +kernel
theorem iX11_liftedOf_41 : ins MX11_liftedOf 41 = some (.iinc 6 (-1), 3) := by decide +kernel
theorem iX11_liftedOf_44 : ins MX11_liftedOf 44 = some (.goto (-27), 3) := by decide +kernel
theorem iX11_liftedOf_47 : ins MX11_liftedOf 47 = some (.aload_n 0, 1) := by decide +kernel
theorem iX11_liftedOf_48 : ins MX11_liftedOf 48 = some (.getfield 44, 3) := by decide +kernel
theorem iX11_liftedOf_51 : ins MX11_liftedOf 51 = some (.iload_n 2, 1) := by decide +kernel
theorem iX11_liftedOf_52 : ins MX11_liftedOf 52 = some (.iaload, 1) := by decide +kernel
theorem iX11_liftedOf_53 : ins MX11_liftedOf 53 = some (.istore 6, 2) := by decide +kernel
theorem iX11_liftedOf_55 : ins MX11_liftedOf 55 = some (.iload_n 2, 1) := by decide +kernel
theorem iX11_liftedOf_56 : ins MX11_liftedOf 56 = some (.iload_n 3, 1) := by decide +kernel
theorem iX11_liftedOf_57 : ins MX11_liftedOf 57 = some (.if_icmp .ge 7, 3) := by decide +kernel
theorem iX11_liftedOf_60 : ins MX11_liftedOf 60 = some (.iconst 1, 1) := by decide +kernel
theorem iX11_liftedOf_61 : ins MX11_liftedOf 61 = some (.goto 4, 3) := by decide +kernel
theorem iX11_liftedOf_64 : ins MX11_liftedOf 64 = some (.iconst (-1), 1) := by decide +kernel
theorem iX11_liftedOf_65 : ins MX11_liftedOf 65 = some (.istore 7, 2) := by decide +kernel
theorem iX11_liftedOf_67 : ins MX11_liftedOf 67 = some (.iload_n 2, 1) := by decide +kernel
theorem iX11_liftedOf_68 : ins MX11_liftedOf 68 = some (.istore 8, 2) := by decide +kernel
theorem iX11_liftedOf_70 : ins MX11_liftedOf 70 = some (.iload 8, 2) := by decide +kernel
theorem iX11_liftedOf_72 : ins MX11_liftedOf 72 = some (.iload_n 3, 1) := by decide +kernel
theorem iX11_liftedOf_73 : ins MX11_liftedOf 73 = some (.if_icmp .eq 30, 3) := by decide +kernel
theorem iX11_liftedOf_76 : ins MX11_liftedOf 76 = some (.aload_n 0, 1) := by decide +kernel
theorem iX11_liftedOf_77 : ins MX11_liftedOf 77 = some (.getfield 44, 3) := by decide +kernel
theorem iX11_liftedOf_80 : ins MX11_liftedOf 80 = some (.iload 8, 2) := by decide +kernel
theorem iX11_liftedOf_82 : ins MX11_liftedOf 82 = some (.aload_n 0, 1) := by decide +kernel
theorem iX11_liftedOf_83 : ins MX11_liftedOf 83 = some (.getfield 44, 3) := by decide +kernel
theorem iX11_liftedOf_86 : ins MX11_liftedOf 86 = some (.iload 8, 2) := by decide +kernel
theorem iX11_liftedOf_88 : ins MX11_liftedOf 88 = some (.iload 7, 2) := by decide +kernel
theorem iX11_liftedOf_90 : ins MX11_liftedOf 90 = some (.iadd, 1) := by decide +kernel
theorem iX11_liftedOf_91 : ins MX11_liftedOf 91 = some (.iaload, 1) := by decide +kernel
theorem iX11_liftedOf_92 : ins MX11_liftedOf 92 = some (.iastore, 1) := by decide +kernel
theorem iX11_liftedOf_93 : ins MX11_liftedOf 93 = some (.iload 8, 2) := by decide +kernel
theorem iX11_liftedOf_95 : ins MX11_liftedOf 95 = some (.iload 7, 2) := by decide +kernel
theorem iX11_liftedOf_97 : ins MX11_liftedOf 97 = some (.iadd, 1) := by decide +kernel
theorem iX11_liftedOf_98 : ins MX11_liftedOf 98 = some (.istore 8, 2) := by decide +kernel
theorem iX11_liftedOf_100 : ins MX11_liftedOf 100 = some (.goto (-30), 3) := by decide +kernel
theorem iX11_liftedOf_103 : ins MX11_liftedOf 103 = some (.aload_n 0, 1) := by decide +kernel
theorem iX11_liftedOf_104 : ins MX11_liftedOf 104 = some (.getfield 44, 3) := by decide +kernel
theorem iX11_liftedOf_107 : ins MX11_liftedOf 107 = some (.iload_n 3, 1) := by decide +kernel
theorem iX11_liftedOf_108 : ins MX11_liftedOf 108 = some (.iload 6, 2) := by decide +kernel
theorem iX11_liftedOf_110 : ins MX11_liftedOf 110 = some (.iastore, 1) := by decide +kernel
theorem iX11_liftedOf_111 : ins MX11_liftedOf 111 = some (.iconst 0, 1) := by decide +kernel
theorem iX11_liftedOf_112 : ins MX11_liftedOf 112 = some (.istore 8, 2) := by decide +kernel
theorem iX11_liftedOf_114 : ins MX11_liftedOf 114 = some (.iconst 0, 1) := by decide +kernel
theorem iX11_liftedOf_115 : ins MX11_liftedOf 115 = some (.istore 9, 2) := by decide +kernel
theorem iX11_liftedOf_117 : ins MX11_liftedOf 117 = some (.iload 9, 2) := by decide +kernel
theorem iX11_liftedOf_119 : ins MX11_liftedOf 119 = some (.iload 4, 2) := by decide +kernel
theorem iX11_liftedOf_121 : ins MX11_liftedOf 121 = some (.if_icmp .ge 24, 3) := by decide +kernel
theorem iX11_liftedOf_124 : ins MX11_liftedOf 124 = some (.bipush 10, 2) := by decide +kernel
theorem iX11_liftedOf_126 : ins MX11_liftedOf 126 = some (.iload 8, 2) := by decide +kernel
theorem iX11_liftedOf_128 : ins MX11_liftedOf 128 = some (.imul, 1) := by decide +kernel
theorem iX11_liftedOf_129 : ins MX11_liftedOf 129 = some (.aload_n 0, 1) := by decide +kernel
theorem iX11_liftedOf_130 : ins MX11_liftedOf 130 = some (.getfield 44, 3) := by decide +kernel
theorem iX11_liftedOf_133 : ins MX11_liftedOf 133 = some (.iload 9, 2) := by decide +kernel
theorem iX11_liftedOf_135 : ins MX11_liftedOf 135 = some (.iaload, 1) := by decide +kernel
theorem iX11_liftedOf_136 : ins MX11_liftedOf 136 = some (.iadd, 1) := by decide +kernel
theorem iX11_liftedOf_137 : ins MX11_liftedOf 137 = some (.istore 8, 2) := by decide +kernel
theorem iX11_liftedOf_139 : ins MX11_liftedOf 139 = some (.iinc 9 1, 3) := by decide +kernel
theorem iX11_liftedOf_142 : ins MX11_liftedOf 142 = some (.goto (-25), 3) := by decide +kernel
theorem iX11_liftedOf_145 : ins MX11_liftedOf 145 = some (.iload 8, 2) := by decide +kernel
theorem iX11_liftedOf_147 : ins MX11_liftedOf 147 = some (.ireturn, 1) := by decide +kernel
theorem iX11_lifts_0 : ins MX11_lifts 0 = some (.aload_n 0, 1) := by decide +kernel
theorem iX11_lifts_1 : ins MX11_lifts 1 = some (.getfield 29, 3) := by decide +kernel
theorem iX11_lifts_4 : ins MX11_lifts 4 = some (.iload_n 1, 1) := by decide +kernel
theorem iX11_lifts_5 : ins MX11_lifts 5 = some (.iaload, 1) := by decide +kernel
theorem iX11_lifts_6 : ins MX11_lifts 6 = some (.istore 4, 2) := by decide +kernel
theorem iX11_lifts_8 : ins MX11_lifts 8 = some (.iload_n 1, 1) := by decide +kernel
theorem iX11_lifts_9 : ins MX11_lifts 9 = some (.iload_n 2, 1) := by decide +kernel
theorem iX11_lifts_10 : ins MX11_lifts 10 = some (.if_icmp .ge 7, 3) := by decide +kernel
theorem iX11_lifts_13 : ins MX11_lifts 13 = some (.iconst 1, 1) := by decide +kernel
theorem iX11_lifts_14 : ins MX11_lifts 14 = some (.goto 4, 3) := by decide +kernel
theorem iX11_lifts_17 : ins MX11_lifts 17 = some (.iconst (-1), 1) := by decide +kernel
theorem iX11_lifts_18 : ins MX11_lifts 18 = some (.istore 5, 2) := by decide +kernel
theorem iX11_lifts_20 : ins MX11_lifts 20 = some (.iload_n 1, 1) := by decide +kernel
theorem iX11_lifts_21 : ins MX11_lifts 21 = some (.istore 6, 2) := by decide +kernel
theorem iX11_lifts_23 : ins MX11_lifts 23 = some (.iload 6, 2) := by decide +kernel
theorem iX11_lifts_25 : ins MX11_lifts 25 = some (.iload_n 2, 1) := by decide +kernel
theorem iX11_lifts_26 : ins MX11_lifts 26 = some (.if_icmp .eq 44, 3) := by decide +kernel
theorem iX11_lifts_29 : ins MX11_lifts 29 = some (.aload_n 0, 1) := by decide +kernel
theorem iX11_lifts_30 : ins MX11_lifts 30 = some (.getfield 29, 3) := by decide +kernel
theorem iX11_lifts_33 : ins MX11_lifts 33 = some (.iload 6, 2) := by decide +kernel
theorem iX11_lifts_35 : ins MX11_lifts 35 = some (.aload_n 0, 1) := by decide +kernel
theorem iX11_lifts_36 : ins MX11_lifts 36 = some (.getfield 29, 3) := by decide +kernel
theorem iX11_lifts_39 : ins MX11_lifts 39 = some (.iload 6, 2) := by decide +kernel
theorem iX11_lifts_41 : ins MX11_lifts 41 = some (.iload 5, 2) := by decide +kernel
theorem iX11_lifts_43 : ins MX11_lifts 43 = some (.iadd, 1) := by decide +kernel
theorem iX11_lifts_44 : ins MX11_lifts 44 = some (.iaload, 1) := by decide +kernel
theorem iX11_lifts_45 : ins MX11_lifts 45 = some (.iastore, 1) := by decide +kernel
theorem iX11_lifts_46 : ins MX11_lifts 46 = some (.aload_n 0, 1) := by decide +kernel
theorem iX11_lifts_47 : ins MX11_lifts 47 = some (.iload 4, 2) := by decide +kernel
theorem iX11_lifts_49 : ins MX11_lifts 49 = some (.aload_n 0, 1) := by decide +kernel
theorem iX11_lifts_50 : ins MX11_lifts 50 = some (.getfield 29, 3) := by decide +kernel
theorem iX11_lifts_53 : ins MX11_lifts 53 = some (.iload 6, 2) := by decide +kernel
theorem iX11_lifts_55 : ins MX11_lifts 55 = some (.iaload, 1) := by decide +kernel
theorem iX11_lifts_56 : ins MX11_lifts 56 = some (.iload_n 3, 1) := by decide +kernel
theorem iX11_lifts_57 : ins MX11_lifts 57 = some (.invokevirtual 181, 3) := by decide +kernel
theorem iX11_lifts_60 : ins MX11_lifts 60 = some (.iload 6, 2) := by decide +kernel
theorem iX11_lifts_62 : ins MX11_lifts 62 = some (.iload 5, 2) := by decide +kernel
theorem iX11_lifts_64 : ins MX11_lifts 64 = some (.iadd, 1) := by decide +kernel
theorem iX11_lifts_65 : ins MX11_lifts 65 = some (.istore 6, 2) := by decide +kernel
theorem iX11_lifts_67 : ins MX11_lifts 67 = some (.goto (-44), 3) := by decide +kernel
theorem iX11_lifts_70 : ins MX11_lifts 70 = some (.aload_n 0, 1) := by decide +kernel
theorem iX11_lifts_71 : ins MX11_lifts 71 = some (.getfield 29, 3) := by decide +kernel
theorem iX11_lifts_74 : ins MX11_lifts 74 = some (.iload_n 2, 1) := by decide +kernel
theorem iX11_lifts_75 : ins MX11_lifts 75 = some (.iload 4, 2) := by decide +kernel
theorem iX11_lifts_77 : ins MX11_lifts 77 = some (.iastore, 1) := by decide +kernel
theorem iX11_lifts_78 : ins MX11_lifts 78 = some (.return_, 1) := by decide +kernel
theorem iX11_look_0 : ins MX11_look 0 = some (.iload_n 1, 1) := by decide +kernel
theorem iX11_look_1 : ins MX11_look 1 = some (.tableswitch 79 0 5 #[39, 46, 53, 60, 67, 74], 39) := by decide +kernel
theorem iX11_look_40 : ins MX11_look 40 = some (.aload_n 0, 1) := by decide +kernel
theorem iX11_look_41 : ins MX11_look 41 = some (.getfield 7, 3) := by decide +kernel
theorem iX11_look_44 : ins MX11_look 44 = some (.iconst 0, 1) := by decide +kernel
theorem iX11_look_45 : ins MX11_look 45 = some (.iaload, 1) := by decide +kernel
theorem iX11_look_46 : ins MX11_look 46 = some (.ireturn, 1) := by decide +kernel
theorem iX11_look_47 : ins MX11_look 47 = some (.aload_n 0, 1) := by decide +kernel
theorem iX11_look_48 : ins MX11_look 48 = some (.getfield 7, 3) := by decide +kernel
theorem iX11_look_51 : ins MX11_look 51 = some (.iconst 1, 1) := by decide +kernel
theorem iX11_look_52 : ins MX11_look 52 = some (.iaload, 1) := by decide +kernel
theorem iX11_look_53 : ins MX11_look 53 = some (.ireturn, 1) := by decide +kernel
theorem iX11_look_54 : ins MX11_look 54 = some (.aload_n 0, 1) := by decide +kernel
theorem iX11_look_55 : ins MX11_look 55 = some (.getfield 7, 3) := by decide +kernel
theorem iX11_look_58 : ins MX11_look 58 = some (.iconst 3, 1) := by decide +kernel
theorem iX11_look_59 : ins MX11_look 59 = some (.iaload, 1) := by decide +kernel
theorem iX11_look_60 : ins MX11_look 60 = some (.ireturn, 1) := by decide +kernel
theorem iX11_look_61 : ins MX11_look 61 = some (.aload_n 0, 1) := by decide +kernel
theorem iX11_look_62 : ins MX11_look 62 = some (.getfield 7, 3) := by decide +kernel
theorem iX11_look_65 : ins MX11_look 65 = some (.iconst 4, 1) := by decide +kernel
theorem iX11_look_66 : ins MX11_look 66 = some (.iaload, 1) := by decide +kernel
theorem iX11_look_67 : ins MX11_look 67 = some (.ireturn, 1) := by decide +kernel
theorem iX11_look_68 : ins MX11_look 68 = some (.aload_n 0, 1) := by decide +kernel
theorem iX11_look_69 : ins MX11_look 69 = some (.getfield 7, 3) := by decide +kernel
theorem iX11_look_72 : ins MX11_look 72 = some (.iconst 2, 1) := by decide +kernel
theorem iX11_look_73 : ins MX11_look 73 = some (.iaload, 1) := by decide +kernel
theorem iX11_look_74 : ins MX11_look 74 = some (.ireturn, 1) := by decide +kernel
theorem iX11_look_75 : ins MX11_look 75 = some (.aload_n 0, 1) := by decide +kernel
theorem iX11_look_76 : ins MX11_look 76 = some (.getfield 69, 3) := by decide +kernel
theorem iX11_look_79 : ins MX11_look 79 = some (.ireturn, 1) := by decide +kernel
theorem iX11_look_80 : ins MX11_look 80 = some (.iload_n 1, 1) := by decide +kernel
theorem iX11_look_81 : ins MX11_look 81 = some (.bipush 10, 2) := by decide +kernel
theorem iX11_look_83 : ins MX11_look 83 = some (.bipush 13, 2) := by decide +kernel
theorem iX11_look_85 : ins MX11_look 85 = some (.invokestatic 72, 3) := by decide +kernel
theorem iX11_look_88 : ins MX11_look 88 = some (.ifCond .eq 17, 3) := by decide +kernel
theorem iX11_look_91 : ins MX11_look 91 = some (.aload_n 0, 1) := by decide +kernel
theorem iX11_look_92 : ins MX11_look 92 = some (.getfield 7, 3) := by decide +kernel
theorem iX11_look_95 : ins MX11_look 95 = some (.sipush 975, 3) := by decide +kernel
theorem iX11_look_98 : ins MX11_look 98 = some (.iload_n 1, 1) := by decide +kernel
theorem iX11_look_99 : ins MX11_look 99 = some (.iadd, 1) := by decide +kernel
theorem iX11_look_100 : ins MX11_look 100 = some (.bipush 10, 2) := by decide +kernel
theorem iX11_look_102 : ins MX11_look 102 = some (.isub, 1) := by decide +kernel
theorem iX11_look_103 : ins MX11_look 103 = some (.iaload, 1) := by decide +kernel
theorem iX11_look_104 : ins MX11_look 104 = some (.ireturn, 1) := by decide +kernel
theorem iX11_look_105 : ins MX11_look 105 = some (.iload_n 1, 1) := by decide +kernel
theorem iX11_look_106 : ins MX11_look 106 = some (.bipush 20, 2) := by decide +kernel
theorem iX11_look_108 : ins MX11_look 108 = some (.bipush 19, 2) := by decide +kernel
theorem iX11_look_110 : ins MX11_look 110 = some (.aload_n 0, 1) := by decide +kernel
theorem iX11_look_111 : ins MX11_look 111 = some (.getfield 7, 3) := by decide +kernel
theorem iX11_look_114 : ins MX11_look 114 = some (.iconst 0, 1) := by decide +kernel
theorem iX11_look_115 : ins MX11_look 115 = some (.iaload, 1) := by decide +kernel
theorem iX11_look_116 : ins MX11_look 116 = some (.iadd, 1) := by decide +kernel
theorem iX11_look_117 : ins MX11_look 117 = some (.invokestatic 72, 3) := by decide +kernel
theorem iX11_look_120 : ins MX11_look 120 = some (.ifCond .eq 17, 3) := by decide +kernel
theorem iX11_look_123 : ins MX11_look 123 = some (.aload_n 0, 1) := by decide +kernel
theorem iX11_look_124 : ins MX11_look 124 = some (.getfield 7, 3) := by decide +kernel
theorem iX11_look_127 : ins MX11_look 127 = some (.sipush 920, 3) := by decide +kernel
theorem iX11_look_130 : ins MX11_look 130 = some (.iload_n 1, 1) := by decide +kernel
theorem iX11_look_131 : ins MX11_look 131 = some (.iadd, 1) := by decide +kernel
theorem iX11_look_132 : ins MX11_look 132 = some (.bipush 20, 2) := by decide +kernel
theorem iX11_look_134 : ins MX11_look 134 = some (.isub, 1) := by decide +kernel
theorem iX11_look_135 : ins MX11_look 135 = some (.iaload, 1) := by decide +kernel
theorem iX11_look_136 : ins MX11_look 136 = some (.ireturn, 1) := by decide +kernel
theorem iX11_look_137 : ins MX11_look 137 = some (.iload_n 1, 1) := by decide +kernel
theorem iX11_look_138 : ins MX11_look 138 = some (.bipush 40, 2) := by decide +kernel
theorem iX11_look_140 : ins MX11_look 140 = some (.bipush 69, 2) := by decide +kernel
theorem iX11_look_142 : ins MX11_look 142 = some (.invokestatic 72, 3) := by decide +kernel
theorem iX11_look_145 : ins MX11_look 145 = some (.ifCond .eq 19, 3) := by decide +kernel
theorem iX11_look_148 : ins MX11_look 148 = some (.aload_n 0, 1) := by decide +kernel
theorem iX11_look_149 : ins MX11_look 149 = some (.getfield 7, 3) := by decide +kernel
theorem iX11_look_152 : ins MX11_look 152 = some (.sipush 940, 3) := by decide +kernel
theorem iX11_look_155 : ins MX11_look 155 = some (.iload_n 1, 1) := by decide +kernel
theorem iX11_look_156 : ins MX11_look 156 = some (.iadd, 1) := by decide +kernel
theorem iX11_look_157 : ins MX11_look 157 = some (.bipush 40, 2) := by decide +kernel
theorem iX11_look_159 : ins MX11_look 159 = some (.isub, 1) := by decide +kernel
theorem iX11_look_160 : ins MX11_look 160 = some (.iaload, 1) := by decide +kernel
theorem iX11_look_161 : ins MX11_look 161 = some (.goto 4, 3) := by decide +kernel
theorem iX11_look_164 : ins MX11_look 164 = some (.iconst (-1), 1) := by decide +kernel
theorem iX11_look_165 : ins MX11_look 165 = some (.ireturn, 1) := by decide +kernel
theorem iX11_loops_0 : ins MX11_loops 0 = some (.iload_n 1, 1) := by decide +kernel
theorem iX11_loops_1 : ins MX11_loops 1 = some (.iconst (-1), 1) := by decide +kernel
theorem iX11_loops_2 : ins MX11_loops 2 = some (.if_icmp .eq 21, 3) := by decide +kernel
theorem iX11_loops_5 : ins MX11_loops 5 = some (.aload_n 0, 1) := by decide +kernel
theorem iX11_loops_6 : ins MX11_loops 6 = some (.iload_n 1, 1) := by decide +kernel
theorem iX11_loops_7 : ins MX11_loops 7 = some (.invokevirtual 78, 3) := by decide +kernel
theorem iX11_loops_10 : ins MX11_loops 10 = some (.ifCond .eq 11, 3) := by decide +kernel
theorem iX11_loops_13 : ins MX11_loops 13 = some (.aload_n 0, 1) := by decide +kernel
theorem iX11_loops_14 : ins MX11_loops 14 = some (.iload_n 1, 1) := by decide +kernel
theorem iX11_loops_15 : ins MX11_loops 15 = some (.invokevirtual 273, 3) := by decide +kernel
theorem iX11_loops_18 : ins MX11_loops 18 = some (.goto 4, 3) := by decide +kernel
theorem iX11_loops_21 : ins MX11_loops 21 = some (.iconst (-1), 1) := by decide +kernel
theorem iX11_loops_22 : ins MX11_loops 22 = some (.ireturn, 1) := by decide +kernel
theorem iX11_loops_23 : ins MX11_loops 23 = some (.iconst 0, 1) := by decide +kernel
theorem iX11_loops_24 : ins MX11_loops 24 = some (.istore_n 2, 1) := by decide +kernel
theorem iX11_loops_25 : ins MX11_loops 25 = some (.iconst 0, 1) := by decide +kernel
theorem iX11_loops_26 : ins MX11_loops 26 = some (.istore_n 3, 1) := by decide +kernel
theorem iX11_loops_27 : ins MX11_loops 27 = some (.iload_n 3, 1) := by decide +kernel
theorem iX11_loops_28 : ins MX11_loops 28 = some (.aload_n 0, 1) := by decide +kernel
theorem iX11_loops_29 : ins MX11_loops 29 = some (.getfield 7, 3) := by decide +kernel
theorem iX11_loops_32 : ins MX11_loops 32 = some (.iconst 0, 1) := by decide +kernel
theorem iX11_loops_33 : ins MX11_loops 33 = some (.iaload, 1) := by decide +kernel
theorem iX11_loops_34 : ins MX11_loops 34 = some (.if_icmp .ge 25, 3) := by decide +kernel
theorem iX11_loops_37 : ins MX11_loops 37 = some (.iload_n 2, 1) := by decide +kernel
theorem iX11_loops_38 : ins MX11_loops 38 = some (.aload_n 0, 1) := by decide +kernel
theorem iX11_loops_39 : ins MX11_loops 39 = some (.iload_n 3, 1) := by decide +kernel
theorem iX11_loops_40 : ins MX11_loops 40 = some (.invokevirtual 276, 3) := by decide +kernel
theorem iX11_loops_43 : ins MX11_loops 43 = some (.ifCond .eq 7, 3) := by decide +kernel
theorem iX11_loops_46 : ins MX11_loops 46 = some (.iconst 1, 1) := by decide +kernel
theorem iX11_loops_47 : ins MX11_loops 47 = some (.goto 4, 3) := by decide +kernel
theorem iX11_loops_50 : ins MX11_loops 50 = some (.iconst 0, 1) := by decide +kernel
theorem iX11_loops_51 : ins MX11_loops 51 = some (.iadd, 1) := by decide +kernel
theorem iX11_loops_52 : ins MX11_loops 52 = some (.istore_n 2, 1) := by decide +kernel
theorem iX11_loops_53 : ins MX11_loops 53 = some (.iinc 3 1, 3) := by decide +kernel
theorem iX11_loops_56 : ins MX11_loops 56 = some (.goto (-29), 3) := by decide +kernel
theorem iX11_loops_59 : ins MX11_loops 59 = some (.iload_n 2, 1) := by decide +kernel
theorem iX11_loops_60 : ins MX11_loops 60 = some (.ireturn, 1) := by decide +kernel
theorem iX11_moves_0 : ins MX11_moves 0 = some (.aload_n 0, 1) := by decide +kernel
theorem iX11_moves_1 : ins MX11_moves 1 = some (.iload_n 1, 1) := by decide +kernel
theorem iX11_moves_2 : ins MX11_moves 2 = some (.iload_n 2, 1) := by decide +kernel
theorem iX11_moves_3 : ins MX11_moves 3 = some (.iconst 0, 1) := by decide +kernel
theorem iX11_moves_4 : ins MX11_moves 4 = some (.invokevirtual 185, 3) := by decide +kernel
theorem iX11_moves_7 : ins MX11_moves 7 = some (.istore 7, 2) := by decide +kernel
theorem iX11_moves_9 : ins MX11_moves 9 = some (.aload_n 0, 1) := by decide +kernel
theorem iX11_moves_10 : ins MX11_moves 10 = some (.iload_n 1, 1) := by decide +kernel
theorem iX11_moves_11 : ins MX11_moves 11 = some (.iload_n 2, 1) := by decide +kernel
theorem iX11_moves_12 : ins MX11_moves 12 = some (.iconst 1, 1) := by decide +kernel
theorem iX11_moves_13 : ins MX11_moves 13 = some (.invokevirtual 185, 3) := by decide +kernel
theorem iX11_moves_16 : ins MX11_moves 16 = some (.istore 8, 2) := by decide +kernel
theorem iX11_moves_18 : ins MX11_moves 18 = some (.iload 7, 2) := by decide +kernel
theorem iX11_moves_20 : ins MX11_moves 20 = some (.iconst 2, 1) := by decide +kernel
theorem iX11_moves_21 : ins MX11_moves 21 = some (.if_icmp .ne 40, 3) := by decide +kernel
theorem iX11_moves_24 : ins MX11_moves 24 = some (.aload_n 0, 1) := by decide +kernel
theorem iX11_moves_25 : ins MX11_moves 25 = some (.getfield 7, 3) := by decide +kernel
theorem iX11_moves_28 : ins MX11_moves 28 = some (.iconst 0, 1) := by decide +kernel
theorem iX11_moves_29 : ins MX11_moves 29 = some (.iaload, 1) := by decide +kernel
theorem iX11_moves_30 : ins MX11_moves 30 = some (.istore 9, 2) := by decide +kernel
theorem iX11_moves_32 : ins MX11_moves 32 = some (.aload_n 0, 1) := by decide +kernel
theorem iX11_moves_33 : ins MX11_moves 33 = some (.iload_n 3, 1) := by decide +kernel
theorem iX11_moves_34 : ins MX11_moves 34 = some (.ifCond .eq 17, 3) := by decide +kernel
theorem iX11_moves_37 : ins MX11_moves 37 = some (.iload 9, 2) := by decide +kernel
theorem iX11_moves_39 : ins MX11_moves 39 = some (.iload 8, 2) := by decide +kernel
theorem iX11_moves_41 : ins MX11_moves 41 = some (.iload 9, 2) := by decide +kernel
theorem iX11_moves_43 : ins MX11_moves 43 = some (.irem, 1) := by decide +kernel
theorem iX11_moves_44 : ins MX11_moves 44 = some (.isub, 1) := by decide +kernel
theorem iX11_moves_45 : ins MX11_moves 45 = some (.iload 9, 2) := by decide +kernel
theorem iX11_moves_47 : ins MX11_moves 47 = some (.irem, 1) := by decide +kernel
theorem iX11_moves_48 : ins MX11_moves 48 = some (.goto 8, 3) := by decide +kernel
theorem iX11_moves_51 : ins MX11_moves 51 = some (.iload 8, 2) := by decide +kernel
theorem iX11_moves_53 : ins MX11_moves 53 = some (.iload 9, 2) := by decide +kernel
theorem iX11_moves_55 : ins MX11_moves 55 = some (.irem, 1) := by decide +kernel
theorem iX11_moves_56 : ins MX11_moves 56 = some (.invokevirtual 189, 3) := by decide +kernel
theorem iX11_moves_59 : ins MX11_moves 59 = some (.iconst (-1), 1) := by decide +kernel
theorem iX11_moves_60 : ins MX11_moves 60 = some (.ireturn, 1) := by decide +kernel
theorem iX11_moves_61 : ins MX11_moves 61 = some (.aload_n 0, 1) := by decide +kernel
theorem iX11_moves_62 : ins MX11_moves 62 = some (.iload_n 1, 1) := by decide +kernel
theorem iX11_moves_63 : ins MX11_moves 63 = some (.iload_n 2, 1) := by decide +kernel
theorem iX11_moves_64 : ins MX11_moves 64 = some (.iconst 2, 1) := by decide +kernel
theorem iX11_moves_65 : ins MX11_moves 65 = some (.invokevirtual 185, 3) := by decide +kernel
theorem iX11_moves_68 : ins MX11_moves 68 = some (.istore 9, 2) := by decide +kernel
theorem iX11_moves_70 : ins MX11_moves 70 = some (.iload_n 3, 1) := by decide +kernel
theorem iX11_moves_71 : ins MX11_moves 71 = some (.ifCond .eq 29, 3) := by decide +kernel
theorem iX11_moves_74 : ins MX11_moves 74 = some (.aload_n 0, 1) := by decide +kernel
theorem iX11_moves_75 : ins MX11_moves 75 = some (.getfield 7, 3) := by decide +kernel
theorem iX11_moves_78 : ins MX11_moves 78 = some (.iconst 0, 1) := by decide +kernel
theorem iX11_moves_79 : ins MX11_moves 79 = some (.iaload, 1) := by decide +kernel
theorem iX11_moves_80 : ins MX11_moves 80 = some (.iconst 1, 1) := by decide +kernel
theorem iX11_moves_81 : ins MX11_moves 81 = some (.isub, 1) := by decide +kernel
theorem iX11_moves_82 : ins MX11_moves 82 = some (.iload 8, 2) := by decide +kernel
theorem iX11_moves_84 : ins MX11_moves 84 = some (.isub, 1) := by decide +kernel
theorem iX11_moves_85 : ins MX11_moves 85 = some (.istore 8, 2) := by decide +kernel
theorem iX11_moves_87 : ins MX11_moves 87 = some (.aload_n 0, 1) := by decide +kernel
theorem iX11_moves_88 : ins MX11_moves 88 = some (.getfield 7, 3) := by decide +kernel
theorem iX11_moves_91 : ins MX11_moves 91 = some (.iconst 0, 1) := by decide +kernel
theorem iX11_moves_92 : ins MX11_moves 92 = some (.iaload, 1) := by decide +kernel
theorem iX11_moves_93 : ins MX11_moves 93 = some (.iconst 1, 1) := by decide +kernel
theorem iX11_moves_94 : ins MX11_moves 94 = some (.isub, 1) := by decide +kernel
theorem iX11_moves_95 : ins MX11_moves 95 = some (.iload 9, 2) := by decide +kernel
theorem iX11_moves_97 : ins MX11_moves 97 = some (.isub, 1) := by decide +kernel
theorem iX11_moves_98 : ins MX11_moves 98 = some (.istore 9, 2) := by decide +kernel
theorem iX11_moves_100 : ins MX11_moves 100 = some (.aload_n 0, 1) := by decide +kernel
theorem iX11_moves_101 : ins MX11_moves 101 = some (.getfield 29, 3) := by decide +kernel
theorem iX11_moves_104 : ins MX11_moves 104 = some (.iload 8, 2) := by decide +kernel
theorem iX11_moves_106 : ins MX11_moves 106 = some (.iaload, 1) := by decide +kernel
theorem iX11_moves_107 : ins MX11_moves 107 = some (.istore 10, 2) := by decide +kernel
theorem iX11_moves_109 : ins MX11_moves 109 = some (.aload_n 0, 1) := by decide +kernel
theorem iX11_moves_110 : ins MX11_moves 110 = some (.iload_n 1, 1) := by decide +kernel
theorem iX11_moves_111 : ins MX11_moves 111 = some (.iload_n 2, 1) := by decide +kernel
theorem iX11_moves_112 : ins MX11_moves 112 = some (.iconst 3, 1) := by decide +kernel
theorem iX11_moves_113 : ins MX11_moves 113 = some (.invokevirtual 185, 3) := by decide +kernel
theorem iX11_moves_116 : ins MX11_moves 116 = some (.istore 11, 2) := by decide +kernel
theorem iX11_moves_118 : ins MX11_moves 118 = some (.iload 10, 2) := by decide +kernel
theorem iX11_moves_120 : ins MX11_moves 120 = some (.iload 5, 2) := by decide +kernel
theorem iX11_moves_122 : ins MX11_moves 122 = some (.if_icmp .eq 29, 3) := by decide +kernel
theorem iX11_moves_125 : ins MX11_moves 125 = some (.iload 4, 2) := by decide +kernel
theorem iX11_moves_127 : ins MX11_moves 127 = some (.ifCond .eq 26, 3) := by decide +kernel
theorem iX11_moves_130 : ins MX11_moves 130 = some (.iload 11, 2) := by decide +kernel
theorem iX11_moves_132 : ins MX11_moves 132 = some (.iconst (-1), 1) := by decide +kernel
theorem iX11_moves_133 : ins MX11_moves 133 = some (.if_icmp .eq 20, 3) := by decide +kernel
theorem iX11_moves_136 : ins MX11_moves 136 = some (.aload_n 0, 1) := by decide +kernel
theorem iX11_moves_137 : ins MX11_moves 137 = some (.getfield 7, 3) := by decide +kernel
theorem iX11_moves_140 : ins MX11_moves 140 = some (.bipush 10, 2) := by decide +kernel
theorem iX11_moves_142 : ins MX11_moves 142 = some (.iload 10, 2) := by decide +kernel
theorem iX11_moves_144 : ins MX11_moves 144 = some (.iadd, 1) := by decide +kernel
theorem iX11_moves_145 : ins MX11_moves 145 = some (.iaload, 1) := by decide +kernel
theorem iX11_moves_146 : ins MX11_moves 146 = some (.iload 11, 2) := by decide +kernel
theorem iX11_moves_148 : ins MX11_moves 148 = some (.if_icmp .eq 5, 3) := by decide +kernel
theorem iX11_moves_151 : ins MX11_moves 151 = some (.iconst (-1), 1) := by decide +kernel
theorem iX11_moves_152 : ins MX11_moves 152 = some (.ireturn, 1) := by decide +kernel
theorem iX11_moves_153 : ins MX11_moves 153 = some (.iload 7, 2) := by decide +kernel
theorem iX11_moves_155 : ins MX11_moves 155 = some (.ifCond .ne 16, 3) := by decide +kernel
theorem iX11_moves_158 : ins MX11_moves 158 = some (.aload_n 0, 1) := by decide +kernel
theorem iX11_moves_159 : ins MX11_moves 159 = some (.iload 8, 2) := by decide +kernel
theorem iX11_moves_161 : ins MX11_moves 161 = some (.iload 9, 2) := by decide +kernel
theorem iX11_moves_163 : ins MX11_moves 163 = some (.iload 6, 2) := by decide +kernel
theorem iX11_moves_165 : ins MX11_moves 165 = some (.invokevirtual 192, 3) := by decide +kernel
theorem iX11_moves_168 : ins MX11_moves 168 = some (.goto 13, 3) := by decide +kernel
theorem iX11_moves_171 : ins MX11_moves 171 = some (.aload_n 0, 1) := by decide +kernel
theorem iX11_moves_172 : ins MX11_moves 172 = some (.iload 8, 2) := by decide +kernel
theorem iX11_moves_174 : ins MX11_moves 174 = some (.iload 9, 2) := by decide +kernel
theorem iX11_moves_176 : ins MX11_moves 176 = some (.iload 6, 2) := by decide +kernel
theorem iX11_moves_178 : ins MX11_moves 178 = some (.invokevirtual 195, 3) := by decide +kernel
theorem iX11_moves_181 : ins MX11_moves 181 = some (.iload 10, 2) := by decide +kernel
theorem iX11_moves_183 : ins MX11_moves 183 = some (.ireturn, 1) := by decide +kernel
theorem iX11_name_0 : ins MX11_name 0 = some (.iload_n 1, 1) := by decide +kernel
theorem iX11_name_1 : ins MX11_name 1 = some (.iconst 0, 1) := by decide +kernel
theorem iX11_name_2 : ins MX11_name 2 = some (.bipush 29, 2) := by decide +kernel
theorem iX11_name_4 : ins MX11_name 4 = some (.invokestatic 72, 3) := by decide +kernel
theorem iX11_name_7 : ins MX11_name 7 = some (.ifCond .eq 13, 3) := by decide +kernel
theorem iX11_name_10 : ins MX11_name 10 = some (.iload_n 2, 1) := by decide +kernel
theorem iX11_name_11 : ins MX11_name 11 = some (.iconst (-1), 1) := by decide +kernel
theorem iX11_name_12 : ins MX11_name 12 = some (.bipush 9, 2) := by decide +kernel
theorem iX11_name_14 : ins MX11_name 14 = some (.invokestatic 72, 3) := by decide +kernel
theorem iX11_name_17 : ins MX11_name 17 = some (.ifCond .ne 5, 3) := by decide +kernel
theorem iX11_name_20 : ins MX11_name 20 = some (.iconst 0, 1) := by decide +kernel
theorem iX11_name_21 : ins MX11_name 21 = some (.ireturn, 1) := by decide +kernel
theorem iX11_name_22 : ins MX11_name 22 = some (.aload_n 0, 1) := by decide +kernel
theorem iX11_name_23 : ins MX11_name 23 = some (.getfield 7, 3) := by decide +kernel
theorem iX11_name_26 : ins MX11_name 26 = some (.sipush 940, 3) := by decide +kernel
theorem iX11_name_29 : ins MX11_name 29 = some (.iload_n 1, 1) := by decide +kernel
theorem iX11_name_30 : ins MX11_name 30 = some (.iadd, 1) := by decide +kernel
theorem iX11_name_31 : ins MX11_name 31 = some (.iload_n 2, 1) := by decide +kernel
theorem iX11_name_32 : ins MX11_name 32 = some (.iastore, 1) := by decide +kernel
theorem iX11_name_33 : ins MX11_name 33 = some (.iconst 1, 1) := by decide +kernel
theorem iX11_name_34 : ins MX11_name 34 = some (.ireturn, 1) := by decide +kernel
theorem iX11_need_0 : ins MX11_need 0 = some (.aload_n 0, 1) := by decide +kernel
theorem iX11_need_1 : ins MX11_need 1 = some (.getfield 121, 3) := by decide +kernel
theorem iX11_need_4 : ins MX11_need 4 = some (.iload_n 1, 1) := by decide +kernel
theorem iX11_need_5 : ins MX11_need 5 = some (.if_icmp .eq 9, 3) := by decide +kernel
theorem iX11_need_8 : ins MX11_need 8 = some (.aload_n 0, 1) := by decide +kernel
theorem iX11_need_9 : ins MX11_need 9 = some (.iconst 1, 1) := by decide +kernel
theorem iX11_need_10 : ins MX11_need 10 = some (.invokevirtual 142, 3) := by decide +kernel
theorem iX11_need_13 : ins MX11_need 13 = some (.ireturn, 1) := by decide +kernel
theorem iX11_need_14 : ins MX11_need 14 = some (.aload_n 0, 1) := by decide +kernel
theorem iX11_need_15 : ins MX11_need 15 = some (.invokevirtual 145, 3) := by decide +kernel
theorem iX11_need_18 : ins MX11_need 18 = some (.iconst 1, 1) := by decide +kernel
theorem iX11_need_19 : ins MX11_need 19 = some (.ireturn, 1) := by decide +kernel
theorem iX11_next0_0 : ins MX11_next0 0 = some (.aload_n 0, 1) := by decide +kernel
theorem iX11_next0_1 : ins MX11_next0 1 = some (.aload_n 0, 1) := by decide +kernel
theorem iX11_next0_2 : ins MX11_next0 2 = some (.getfield 85, 3) := by decide +kernel
theorem iX11_next0_5 : ins MX11_next0 5 = some (.invokevirtual 117, 3) := by decide +kernel
theorem iX11_next0_8 : ins MX11_next0 8 = some (.bipush 32, 2) := by decide +kernel
theorem iX11_next0_10 : ins MX11_next0 10 = some (.if_icmp .eq 16, 3) := by decide +kernel
theorem iX11_next0_13 : ins MX11_next0 13 = some (.aload_n 0, 1) := by decide +kernel
theorem iX11_next0_14 : ins MX11_next0 14 = some (.aload_n 0, 1) := by decide +kernel
theorem iX11_next0_15 : ins MX11_next0 15 = some (.getfield 85, 3) := by decide +kernel
theorem iX11_next0_18 : ins MX11_next0 18 = some (.invokevirtual 117, 3) := by decide +kernel
theorem iX11_next0_21 : ins MX11_next0 21 = some (.bipush 10, 2) := by decide +kernel
theorem iX11_next0_23 : ins MX11_next0 23 = some (.if_icmp .ne 16, 3) := by decide +kernel
theorem iX11_next0_26 : ins MX11_next0 26 = some (.aload_n 0, 1) := by decide +kernel
theorem iX11_next0_27 : ins MX11_next0 27 = some (.dup, 1) := by decide +kernel
theorem iX11_next0_28 : ins MX11_next0 28 = some (.getfield 85, 3) := by decide +kernel
theorem iX11_next0_31 : ins MX11_next0 31 = some (.iconst 1, 1) := by decide +kernel
theorem iX11_next0_32 : ins MX11_next0 32 = some (.iadd, 1) := by decide +kernel
theorem iX11_next0_33 : ins MX11_next0 33 = some (.putfield 85, 3) := by decide +kernel
theorem iX11_next0_36 : ins MX11_next0 36 = some (.goto (-36), 3) := by decide +kernel
theorem iX11_next0_39 : ins MX11_next0 39 = some (.aload_n 0, 1) := by decide +kernel
theorem iX11_next0_40 : ins MX11_next0 40 = some (.aload_n 0, 1) := by decide +kernel
theorem iX11_next0_41 : ins MX11_next0 41 = some (.getfield 85, 3) := by decide +kernel
theorem iX11_next0_44 : ins MX11_next0 44 = some (.putfield 88, 3) := by decide +kernel
theorem iX11_next0_47 : ins MX11_next0 47 = some (.aload_n 0, 1) := by decide +kernel
theorem iX11_next0_48 : ins MX11_next0 48 = some (.aload_n 0, 1) := by decide +kernel
theorem iX11_next0_49 : ins MX11_next0 49 = some (.getfield 85, 3) := by decide +kernel
theorem iX11_next0_52 : ins MX11_next0 52 = some (.invokevirtual 117, 3) := by decide +kernel
theorem iX11_next0_55 : ins MX11_next0 55 = some (.istore_n 1, 1) := by decide +kernel
theorem iX11_next0_56 : ins MX11_next0 56 = some (.iload_n 1, 1) := by decide +kernel
theorem iX11_next0_57 : ins MX11_next0 57 = some (.iconst (-1), 1) := by decide +kernel
theorem iX11_next0_58 : ins MX11_next0 58 = some (.if_icmp .ne 11, 3) := by decide +kernel
theorem iX11_next0_61 : ins MX11_next0 61 = some (.aload_n 0, 1) := by decide +kernel
theorem iX11_next0_62 : ins MX11_next0 62 = some (.iconst 0, 1) := by decide +kernel
theorem iX11_next0_63 : ins MX11_next0 63 = some (.putfield 121, 3) := by decide +kernel
theorem iX11_next0_66 : ins MX11_next0 66 = some (.goto 198, 3) := by decide +kernel
theorem iX11_next0_69 : ins MX11_next0 69 = some (.iload_n 1, 1) := by decide +kernel
theorem iX11_next0_70 : ins MX11_next0 70 = some (.invokestatic 124, 3) := by decide +kernel
theorem iX11_next0_73 : ins MX11_next0 73 = some (.ifCond .eq 41, 3) := by decide +kernel
theorem iX11_next0_76 : ins MX11_next0 76 = some (.aload_n 0, 1) := by decide +kernel
theorem iX11_next0_77 : ins MX11_next0 77 = some (.aload_n 0, 1) := by decide +kernel
theorem iX11_next0_78 : ins MX11_next0 78 = some (.getfield 85, 3) := by decide +kernel
theorem iX11_next0_81 : ins MX11_next0 81 = some (.invokevirtual 117, 3) := by decide +kernel
theorem iX11_next0_84 : ins MX11_next0 84 = some (.invokestatic 124, 3) := by decide +kernel
theorem iX11_next0_87 : ins MX11_next0 87 = some (.ifCond .eq 16, 3) := by decide +kernel
theorem iX11_next0_90 : ins MX11_next0 90 = some (.aload_n 0, 1) := by decide +kernel
theorem iX11_next0_91 : ins MX11_next0 91 = some (.dup, 1) := by decide +kernel
theorem iX11_next0_92 : ins MX11_next0 92 = some (.getfield 85, 3) := by decide +kernel
theorem iX11_next0_95 : ins MX11_next0 95 = some (.iconst 1, 1) := by decide +kernel
theorem iX11_next0_96 : ins MX11_next0 96 = some (.iadd, 1) := by decide +kernel
theorem iX11_next0_97 : ins MX11_next0 97 = some (.putfield 85, 3) := by decide +kernel
theorem iX11_next0_100 : ins MX11_next0 100 = some (.goto (-24), 3) := by decide +kernel
theorem iX11_next0_103 : ins MX11_next0 103 = some (.aload_n 0, 1) := by decide +kernel
theorem iX11_next0_104 : ins MX11_next0 104 = some (.aload_n 0, 1) := by decide +kernel
theorem iX11_next0_105 : ins MX11_next0 105 = some (.invokevirtual 127, 3) := by decide +kernel
theorem iX11_next0_108 : ins MX11_next0 108 = some (.putfield 121, 3) := by decide +kernel
theorem iX11_next0_111 : ins MX11_next0 111 = some (.goto 153, 3) := by decide +kernel
theorem iX11_next0_114 : ins MX11_next0 114 = some (.iload_n 1, 1) := by decide +kernel
theorem iX11_next0_115 : ins MX11_next0 115 = some (.invokestatic 130, 3) := by decide +kernel
theorem iX11_next0_118 : ins MX11_next0 118 = some (.ifCond .eq 96, 3) := by decide +kernel
theorem iX11_next0_121 : ins MX11_next0 121 = some (.aload_n 0, 1) := by decide +kernel
theorem iX11_next0_122 : ins MX11_next0 122 = some (.iconst 0, 1) := by decide +kernel
theorem iX11_next0_123 : ins MX11_next0 123 = some (.putfield 133, 3) := by decide +kernel
theorem iX11_next0_126 : ins MX11_next0 126 = some (.aload_n 0, 1) := by decide +kernel
theorem iX11_next0_127 : ins MX11_next0 127 = some (.aload_n 0, 1) := by decide +kernel
theorem iX11_next0_128 : ins MX11_next0 128 = some (.getfield 85, 3) := by decide +kernel
theorem iX11_next0_131 : ins MX11_next0 131 = some (.invokevirtual 117, 3) := by decide +kernel
theorem iX11_next0_134 : ins MX11_next0 134 = some (.invokestatic 130, 3) := by decide +kernel
theorem iX11_next0_137 : ins MX11_next0 137 = some (.ifCond .eq 52, 3) := by decide +kernel
theorem iX11_next0_140 : ins MX11_next0 140 = some (.aload_n 0, 1) := by decide +kernel
theorem iX11_next0_141 : ins MX11_next0 141 = some (.getfield 85, 3) := by decide +kernel
theorem iX11_next0_144 : ins MX11_next0 144 = some (.aload_n 0, 1) := by decide +kernel
theorem iX11_next0_145 : ins MX11_next0 145 = some (.getfield 88, 3) := by decide +kernel
theorem iX11_next0_148 : ins MX11_next0 148 = some (.iconst 4, 1) := by decide +kernel
theorem iX11_next0_149 : ins MX11_next0 149 = some (.iadd, 1) := by decide +kernel
theorem iX11_next0_150 : ins MX11_next0 150 = some (.if_icmp .ge 26, 3) := by decide +kernel
theorem iX11_next0_153 : ins MX11_next0 153 = some (.aload_n 0, 1) := by decide +kernel
theorem iX11_next0_154 : ins MX11_next0 154 = some (.bipush 10, 2) := by decide +kernel
theorem iX11_next0_156 : ins MX11_next0 156 = some (.aload_n 0, 1) := by decide +kernel
theorem iX11_next0_157 : ins MX11_next0 157 = some (.getfield 133, 3) := by decide +kernel
theorem iX11_next0_160 : ins MX11_next0 160 = some (.imul, 1) := by decide +kernel
theorem iX11_next0_161 : ins MX11_next0 161 = some (.aload_n 0, 1) := by decide +kernel
theorem iX11_next0_162 : ins MX11_next0 162 = some (.aload_n 0, 1) := by decide +kernel
theorem iX11_next0_163 : ins MX11_next0 163 = some (.getfield 85, 3) := by decide +kernel
theorem iX11_next0_166 : ins MX11_next0 166 = some (.invokevirtual 117, 3) := by decide +kernel
theorem iX11_next0_169 : ins MX11_next0 169 = some (.iadd, 1) := by decide +kernel
theorem iX11_next0_170 : ins MX11_next0 170 = some (.bipush 48, 2) := by decide +kernel
theorem iX11_next0_172 : ins MX11_next0 172 = some (.isub, 1) := by decide +kernel
theorem iX11_next0_173 : ins MX11_next0 173 = some (.putfield 133, 3) := by decide +kernel
theorem iX11_next0_176 : ins MX11_next0 176 = some (.aload_n 0, 1) := by decide +kernel
theorem iX11_next0_177 : ins MX11_next0 177 = some (.dup, 1) := by decide +kernel
theorem iX11_next0_178 : ins MX11_next0 178 = some (.getfield 85, 3) := by decide +kernel
theorem iX11_next0_181 : ins MX11_next0 181 = some (.iconst 1, 1) := by decide +kernel
theorem iX11_next0_182 : ins MX11_next0 182 = some (.iadd, 1) := by decide +kernel
theorem iX11_next0_183 : ins MX11_next0 183 = some (.putfield 85, 3) := by decide +kernel
theorem iX11_next0_186 : ins MX11_next0 186 = some (.goto (-60), 3) := by decide +kernel
theorem iX11_next0_189 : ins MX11_next0 189 = some (.aload_n 0, 1) := by decide +kernel
theorem iX11_next0_190 : ins MX11_next0 190 = some (.aload_n 0, 1) := by decide +kernel
theorem iX11_next0_191 : ins MX11_next0 191 = some (.getfield 85, 3) := by decide +kernel
theorem iX11_next0_194 : ins MX11_next0 194 = some (.aload_n 0, 1) := by decide +kernel
theorem iX11_next0_195 : ins MX11_next0 195 = some (.getfield 88, 3) := by decide +kernel
theorem iX11_next0_198 : ins MX11_next0 198 = some (.isub, 1) := by decide +kernel
theorem iX11_next0_199 : ins MX11_next0 199 = some (.iconst 5, 1) := by decide +kernel
theorem iX11_next0_200 : ins MX11_next0 200 = some (.if_icmp .ge 7, 3) := by decide +kernel
theorem iX11_next0_203 : ins MX11_next0 203 = some (.iconst 2, 1) := by decide +kernel
theorem iX11_next0_204 : ins MX11_next0 204 = some (.goto 4, 3) := by decide +kernel
theorem iX11_next0_207 : ins MX11_next0 207 = some (.iconst 1, 1) := by decide +kernel
theorem iX11_next0_208 : ins MX11_next0 208 = some (.putfield 121, 3) := by decide +kernel
theorem iX11_next0_211 : ins MX11_next0 211 = some (.goto 53, 3) := by decide +kernel
theorem iX11_next0_214 : ins MX11_next0 214 = some (.aload_n 0, 1) := by decide +kernel
theorem iX11_next0_215 : ins MX11_next0 215 = some (.dup, 1) := by decide +kernel
theorem iX11_next0_216 : ins MX11_next0 216 = some (.getfield 85, 3) := by decide +kernel
theorem iX11_next0_219 : ins MX11_next0 219 = some (.iconst 1, 1) := by decide +kernel
theorem iX11_next0_220 : ins MX11_next0 220 = some (.iadd, 1) := by decide +kernel
theorem iX11_next0_221 : ins MX11_next0 221 = some (.putfield 85, 3) := by decide +kernel
theorem iX11_next0_224 : ins MX11_next0 224 = some (.iload_n 1, 1) := by decide +kernel
theorem iX11_next0_225 : ins MX11_next0 225 = some (.bipush 59, 2) := by decide +kernel
theorem iX11_next0_227 : ins MX11_next0 227 = some (.if_icmp .eq 15, 3) := by decide +kernel
theorem iX11_next0_230 : ins MX11_next0 230 = some (.iload_n 1, 1) := by decide +kernel
theorem iX11_next0_231 : ins MX11_next0 231 = some (.bipush 40, 2) := by decide +kernel
theorem iX11_next0_233 : ins MX11_next0 233 = some (.if_icmp .eq 9, 3) := by decide +kernel
theorem iX11_next0_236 : ins MX11_next0 236 = some (.iload_n 1, 1) := by decide +kernel
theorem iX11_next0_237 : ins MX11_next0 237 = some (.bipush 41, 2) := by decide +kernel
theorem iX11_next0_239 : ins MX11_next0 239 = some (.if_icmp .ne 7, 3) := by decide +kernel
theorem iX11_next0_242 : ins MX11_next0 242 = some (.iconst 1, 1) := by decide +kernel
theorem iX11_next0_243 : ins MX11_next0 243 = some (.goto 4, 3) := by decide +kernel
theorem iX11_next0_246 : ins MX11_next0 246 = some (.iconst 0, 1) := by decide +kernel
theorem iX11_next0_247 : ins MX11_next0 247 = some (.istore_n 2, 1) := by decide +kernel
theorem iX11_next0_248 : ins MX11_next0 248 = some (.aload_n 0, 1) := by decide +kernel
theorem iX11_next0_249 : ins MX11_next0 249 = some (.iload_n 2, 1) := by decide +kernel
theorem iX11_next0_250 : ins MX11_next0 250 = some (.ifCond .eq 10, 3) := by decide +kernel
theorem iX11_next0_253 : ins MX11_next0 253 = some (.bipush 100, 2) := by decide +kernel
theorem iX11_next0_255 : ins MX11_next0 255 = some (.iload_n 1, 1) := by decide +kernel
theorem iX11_next0_256 : ins MX11_next0 256 = some (.iadd, 1) := by decide +kernel
theorem iX11_next0_257 : ins MX11_next0 257 = some (.goto 4, 3) := by decide +kernel
theorem iX11_next0_260 : ins MX11_next0 260 = some (.iconst 1, 1) := by decide +kernel
theorem iX11_next0_261 : ins MX11_next0 261 = some (.putfield 121, 3) := by decide +kernel
theorem iX11_next0_264 : ins MX11_next0 264 = some (.return_, 1) := by decide +kernel
theorem iX11_number_0 : ins MX11_number 0 = some (.aload_n 0, 1) := by decide +kernel
theorem iX11_number_1 : ins MX11_number 1 = some (.getfield 121, 3) := by decide +kernel
theorem iX11_number_4 : ins MX11_number 4 = some (.iconst 2, 1) := by decide +kernel
theorem iX11_number_5 : ins MX11_number 5 = some (.if_icmp .eq 9, 3) := by decide +kernel
theorem iX11_number_8 : ins MX11_number 8 = some (.aload_n 0, 1) := by decide +kernel
theorem iX11_number_9 : ins MX11_number 9 = some (.iconst 1, 1) := by decide +kernel
theorem iX11_number_10 : ins MX11_number 10 = some (.invokevirtual 142, 3) := by decide +kernel
theorem iX11_number_13 : ins MX11_number 13 = some (.ireturn, 1) := by decide +kernel
theorem iX11_number_14 : ins MX11_number 14 = some (.aload_n 0, 1) := by decide +kernel
theorem iX11_number_15 : ins MX11_number 15 = some (.getfield 133, 3) := by decide +kernel
theorem iX11_number_18 : ins MX11_number 18 = some (.iload_n 1, 1) := by decide +kernel
theorem iX11_number_19 : ins MX11_number 19 = some (.iload_n 2, 1) := by decide +kernel
theorem iX11_number_20 : ins MX11_number 20 = some (.invokestatic 72, 3) := by decide +kernel
theorem iX11_number_23 : ins MX11_number 23 = some (.ifCond .ne 9, 3) := by decide +kernel
theorem iX11_number_26 : ins MX11_number 26 = some (.aload_n 0, 1) := by decide +kernel
theorem iX11_number_27 : ins MX11_number 27 = some (.iconst 2, 1) := by decide +kernel
theorem iX11_number_28 : ins MX11_number 28 = some (.invokevirtual 142, 3) := by decide +kernel
theorem iX11_number_31 : ins MX11_number 31 = some (.ireturn, 1) := by decide +kernel
theorem iX11_number_32 : ins MX11_number 32 = some (.aload_n 0, 1) := by decide +kernel
theorem iX11_number_33 : ins MX11_number 33 = some (.invokevirtual 145, 3) := by decide +kernel
theorem iX11_number_36 : ins MX11_number 36 = some (.iconst 1, 1) := by decide +kernel
theorem iX11_number_37 : ins MX11_number 37 = some (.ireturn, 1) := by decide +kernel
theorem iX11_of_0 : ins MX11_of 0 = some (.aload_n 0, 1) := by decide +kernel
theorem iX11_of_1 : ins MX11_of 1 = some (.iload_n 1, 1) := by decide +kernel
theorem iX11_of_2 : ins MX11_of 2 = some (.invokevirtual 78, 3) := by decide +kernel
theorem iX11_of_5 : ins MX11_of 5 = some (.ifCond .ne 5, 3) := by decide +kernel
theorem iX11_of_8 : ins MX11_of 8 = some (.iconst (-1), 1) := by decide +kernel
theorem iX11_of_9 : ins MX11_of 9 = some (.ireturn, 1) := by decide +kernel
theorem iX11_of_10 : ins MX11_of 10 = some (.iload_n 2, 1) := by decide +kernel
theorem iX11_of_11 : ins MX11_of 11 = some (.ifCond .ne 11, 3) := by decide +kernel
theorem iX11_of_14 : ins MX11_of 14 = some (.aload_n 0, 1) := by decide +kernel
theorem iX11_of_15 : ins MX11_of 15 = some (.iload_n 1, 1) := by decide +kernel
theorem iX11_of_16 : ins MX11_of 16 = some (.invokevirtual 217, 3) := by decide +kernel
theorem iX11_of_19 : ins MX11_of 19 = some (.goto 38, 3) := by decide +kernel
theorem iX11_of_22 : ins MX11_of 22 = some (.iload_n 2, 1) := by decide +kernel
theorem iX11_of_23 : ins MX11_of 23 = some (.iconst 1, 1) := by decide +kernel
theorem iX11_of_24 : ins MX11_of 24 = some (.if_icmp .ne 15, 3) := by decide +kernel
theorem iX11_of_27 : ins MX11_of 27 = some (.aload_n 0, 1) := by decide +kernel
theorem iX11_of_28 : ins MX11_of 28 = some (.getfield 7, 3) := by decide +kernel
theorem iX11_of_31 : ins MX11_of 31 = some (.bipush 10, 2) := by decide +kernel
theorem iX11_of_33 : ins MX11_of 33 = some (.iload_n 1, 1) := by decide +kernel
theorem iX11_of_34 : ins MX11_of 34 = some (.iadd, 1) := by decide +kernel
theorem iX11_of_35 : ins MX11_of 35 = some (.iaload, 1) := by decide +kernel
theorem iX11_of_36 : ins MX11_of 36 = some (.goto 21, 3) := by decide +kernel
theorem iX11_of_39 : ins MX11_of 39 = some (.iload_n 2, 1) := by decide +kernel
theorem iX11_of_40 : ins MX11_of 40 = some (.iconst 2, 1) := by decide +kernel
theorem iX11_of_41 : ins MX11_of 41 = some (.if_icmp .ne 15, 3) := by decide +kernel
theorem iX11_of_44 : ins MX11_of 44 = some (.aload_n 0, 1) := by decide +kernel
theorem iX11_of_45 : ins MX11_of 45 = some (.getfield 7, 3) := by decide +kernel
theorem iX11_of_48 : ins MX11_of 48 = some (.bipush 26, 2) := by decide +kernel
theorem iX11_of_50 : ins MX11_of 50 = some (.iload_n 1, 1) := by decide +kernel
theorem iX11_of_51 : ins MX11_of 51 = some (.iadd, 1) := by decide +kernel
theorem iX11_of_52 : ins MX11_of 52 = some (.iaload, 1) := by decide +kernel
theorem iX11_of_53 : ins MX11_of 53 = some (.goto 4, 3) := by decide +kernel
theorem iX11_of_56 : ins MX11_of 56 = some (.iconst (-1), 1) := by decide +kernel
theorem iX11_of_57 : ins MX11_of 57 = some (.ireturn, 1) := by decide +kernel
theorem iX11_ofMove_0 : ins MX11_ofMove 0 = some (.aload_n 0, 1) := by decide +kernel
theorem iX11_ofMove_1 : ins MX11_ofMove 1 = some (.getfield 7, 3) := by decide +kernel
theorem iX11_ofMove_4 : ins MX11_ofMove 4 = some (.sipush 980, 3) := by decide +kernel
theorem iX11_ofMove_7 : ins MX11_ofMove 7 = some (.iconst 4, 1) := by decide +kernel
theorem iX11_ofMove_8 : ins MX11_ofMove 8 = some (.sipush 200, 3) := by decide +kernel
theorem iX11_ofMove_11 : ins MX11_ofMove 11 = some (.iload_n 1, 1) := by decide +kernel
theorem iX11_ofMove_12 : ins MX11_ofMove 12 = some (.imul, 1) := by decide +kernel
theorem iX11_ofMove_13 : ins MX11_ofMove 13 = some (.iload_n 2, 1) := by decide +kernel
theorem iX11_ofMove_14 : ins MX11_ofMove 14 = some (.iadd, 1) := by decide +kernel
theorem iX11_ofMove_15 : ins MX11_ofMove 15 = some (.imul, 1) := by decide +kernel
theorem iX11_ofMove_16 : ins MX11_ofMove 16 = some (.iadd, 1) := by decide +kernel
theorem iX11_ofMove_17 : ins MX11_ofMove 17 = some (.iload_n 3, 1) := by decide +kernel
theorem iX11_ofMove_18 : ins MX11_ofMove 18 = some (.iadd, 1) := by decide +kernel
theorem iX11_ofMove_19 : ins MX11_ofMove 19 = some (.iaload, 1) := by decide +kernel
theorem iX11_ofMove_20 : ins MX11_ofMove 20 = some (.ireturn, 1) := by decide +kernel
theorem iX11_outside_0 : ins MX11_outside 0 = some (.iload_n 1, 1) := by decide +kernel
theorem iX11_outside_1 : ins MX11_outside 1 = some (.iconst 0, 1) := by decide +kernel
theorem iX11_outside_2 : ins MX11_outside 2 = some (.aload_n 0, 1) := by decide +kernel
theorem iX11_outside_3 : ins MX11_outside 3 = some (.getfield 7, 3) := by decide +kernel
theorem iX11_outside_6 : ins MX11_outside 6 = some (.iconst 3, 1) := by decide +kernel
theorem iX11_outside_7 : ins MX11_outside 7 = some (.iaload, 1) := by decide +kernel
theorem iX11_outside_8 : ins MX11_outside 8 = some (.iconst 1, 1) := by decide +kernel
theorem iX11_outside_9 : ins MX11_outside 9 = some (.isub, 1) := by decide +kernel
theorem iX11_outside_10 : ins MX11_outside 10 = some (.invokestatic 72, 3) := by decide +kernel
theorem iX11_outside_13 : ins MX11_outside 13 = some (.ifCond .eq 29, 3) := by decide +kernel
theorem iX11_outside_16 : ins MX11_outside 16 = some (.iload_n 2, 1) := by decide +kernel
theorem iX11_outside_17 : ins MX11_outside 17 = some (.iconst 0, 1) := by decide +kernel
theorem iX11_outside_18 : ins MX11_outside 18 = some (.iconst 1, 1) := by decide +kernel
theorem iX11_outside_19 : ins MX11_outside 19 = some (.invokestatic 72, 3) := by decide +kernel
theorem iX11_outside_22 : ins MX11_outside 22 = some (.ifCond .eq 20, 3) := by decide +kernel
theorem iX11_outside_25 : ins MX11_outside 25 = some (.aload_n 0, 1) := by decide +kernel
theorem iX11_outside_26 : ins MX11_outside 26 = some (.getfield 7, 3) := by decide +kernel
theorem iX11_outside_29 : ins MX11_outside 29 = some (.sipush 320, 3) := by decide +kernel
theorem iX11_outside_32 : ins MX11_outside 32 = some (.iconst 2, 1) := by decide +kernel
theorem iX11_outside_33 : ins MX11_outside 33 = some (.iload_n 1, 1) := by decide +kernel
theorem iX11_outside_34 : ins MX11_outside 34 = some (.imul, 1) := by decide +kernel
theorem iX11_outside_35 : ins MX11_outside 35 = some (.iadd, 1) := by decide +kernel
theorem iX11_outside_36 : ins MX11_outside 36 = some (.iload_n 2, 1) := by decide +kernel
theorem iX11_outside_37 : ins MX11_outside 37 = some (.iadd, 1) := by decide +kernel
theorem iX11_outside_38 : ins MX11_outside 38 = some (.iaload, 1) := by decide +kernel
theorem iX11_outside_39 : ins MX11_outside 39 = some (.goto 4, 3) := by decide +kernel
theorem iX11_outside_42 : ins MX11_outside 42 = some (.iconst (-1), 1) := by decide +kernel
theorem iX11_outside_43 : ins MX11_outside 43 = some (.ireturn, 1) := by decide +kernel
theorem iX11_over_0 : ins MX11_over 0 = some (.aload_n 0, 1) := by decide +kernel
theorem iX11_over_1 : ins MX11_over 1 = some (.iload_n 1, 1) := by decide +kernel
theorem iX11_over_2 : ins MX11_over 2 = some (.invokevirtual 78, 3) := by decide +kernel
theorem iX11_over_5 : ins MX11_over 5 = some (.ifCond .eq 33, 3) := by decide +kernel
theorem iX11_over_8 : ins MX11_over 8 = some (.aload_n 0, 1) := by decide +kernel
theorem iX11_over_9 : ins MX11_over 9 = some (.iload_n 2, 1) := by decide +kernel
theorem iX11_over_10 : ins MX11_over 10 = some (.invokevirtual 78, 3) := by decide +kernel
theorem iX11_over_13 : ins MX11_over 13 = some (.ifCond .eq 25, 3) := by decide +kernel
theorem iX11_over_16 : ins MX11_over 16 = some (.iload_n 1, 1) := by decide +kernel
theorem iX11_over_17 : ins MX11_over 17 = some (.iload_n 2, 1) := by decide +kernel
theorem iX11_over_18 : ins MX11_over 18 = some (.if_icmp .eq 20, 3) := by decide +kernel
theorem iX11_over_21 : ins MX11_over 21 = some (.aload_n 0, 1) := by decide +kernel
theorem iX11_over_22 : ins MX11_over 22 = some (.getfield 7, 3) := by decide +kernel
theorem iX11_over_25 : ins MX11_over 25 = some (.bipush 60, 2) := by decide +kernel
theorem iX11_over_27 : ins MX11_over 27 = some (.bipush 16, 2) := by decide +kernel
theorem iX11_over_29 : ins MX11_over 29 = some (.iload_n 1, 1) := by decide +kernel
theorem iX11_over_30 : ins MX11_over 30 = some (.imul, 1) := by decide +kernel
theorem iX11_over_31 : ins MX11_over 31 = some (.iadd, 1) := by decide +kernel
theorem iX11_over_32 : ins MX11_over 32 = some (.iload_n 2, 1) := by decide +kernel
theorem iX11_over_33 : ins MX11_over 33 = some (.iadd, 1) := by decide +kernel
theorem iX11_over_34 : ins MX11_over 34 = some (.iaload, 1) := by decide +kernel
theorem iX11_over_35 : ins MX11_over 35 = some (.goto 4, 3) := by decide +kernel
theorem iX11_over_38 : ins MX11_over 38 = some (.iconst (-1), 1) := by decide +kernel
theorem iX11_over_39 : ins MX11_over 39 = some (.ireturn, 1) := by decide +kernel
theorem iX11_period_0 : ins MX11_period 0 = some (.iload_n 1, 1) := by decide +kernel
theorem iX11_period_1 : ins MX11_period 1 = some (.iconst 0, 1) := by decide +kernel
theorem iX11_period_2 : ins MX11_period 2 = some (.iconst 1, 1) := by decide +kernel
theorem iX11_period_3 : ins MX11_period 3 = some (.invokestatic 72, 3) := by decide +kernel
theorem iX11_period_6 : ins MX11_period 6 = some (.ifCond .ne 5, 3) := by decide +kernel
theorem iX11_period_9 : ins MX11_period 9 = some (.iconst (-1), 1) := by decide +kernel
theorem iX11_period_10 : ins MX11_period 10 = some (.ireturn, 1) := by decide +kernel
theorem iX11_period_11 : ins MX11_period 11 = some (.aload_n 0, 1) := by decide +kernel
theorem iX11_period_12 : ins MX11_period 12 = some (.getfield 7, 3) := by decide +kernel
theorem iX11_period_15 : ins MX11_period 15 = some (.iconst 3, 1) := by decide +kernel
theorem iX11_period_16 : ins MX11_period 16 = some (.iaload, 1) := by decide +kernel
theorem iX11_period_17 : ins MX11_period 17 = some (.ifCond .ne 7, 3) := by decide +kernel
theorem iX11_period_20 : ins MX11_period 20 = some (.iconst 0, 1) := by decide +kernel
theorem iX11_period_21 : ins MX11_period 21 = some (.goto 4, 3) := by decide +kernel
theorem iX11_period_24 : ins MX11_period 24 = some (.iconst 1, 1) := by decide +kernel
theorem iX11_period_25 : ins MX11_period 25 = some (.istore_n 2, 1) := by decide +kernel
theorem iX11_period_26 : ins MX11_period 26 = some (.iload_n 2, 1) := by decide +kernel
theorem iX11_period_27 : ins MX11_period 27 = some (.ifCond .le 18, 3) := by decide +kernel
theorem iX11_period_30 : ins MX11_period 30 = some (.aload_n 0, 1) := by decide +kernel
theorem iX11_period_31 : ins MX11_period 31 = some (.iload_n 2, 1) := by decide +kernel
theorem iX11_period_32 : ins MX11_period 32 = some (.iload_n 1, 1) := by decide +kernel
theorem iX11_period_33 : ins MX11_period 33 = some (.invokevirtual 261, 3) := by decide +kernel
theorem iX11_period_36 : ins MX11_period 36 = some (.ifCond .ne 9, 3) := by decide +kernel
theorem iX11_period_39 : ins MX11_period 39 = some (.iinc 2 1, 3) := by decide +kernel
theorem iX11_period_42 : ins MX11_period 42 = some (.goto (-16), 3) := by decide +kernel
theorem iX11_period_45 : ins MX11_period 45 = some (.iload_n 2, 1) := by decide +kernel
theorem iX11_period_46 : ins MX11_period 46 = some (.ireturn, 1) := by decide +kernel
theorem iX11_placeOf_0 : ins MX11_placeOf 0 = some (.iload_n 1, 1) := by decide +kernel
theorem iX11_placeOf_1 : ins MX11_placeOf 1 = some (.ldc 227, 2) := by decide +kernel
theorem iX11_placeOf_3 : ins MX11_placeOf 3 = some (.imul, 1) := by decide +kernel
theorem iX11_placeOf_4 : ins MX11_placeOf 4 = some (.ldc 228, 2) := by decide +kernel
theorem iX11_placeOf_6 : ins MX11_placeOf 6 = some (.iand, 1) := by decide +kernel
theorem iX11_placeOf_7 : ins MX11_placeOf 7 = some (.sipush 16384, 3) := by decide +kernel
theorem iX11_placeOf_10 : ins MX11_placeOf 10 = some (.irem, 1) := by decide +kernel
theorem iX11_placeOf_11 : ins MX11_placeOf 11 = some (.istore_n 2, 1) := by decide +kernel
theorem iX11_placeOf_12 : ins MX11_placeOf 12 = some (.aload_n 0, 1) := by decide +kernel
theorem iX11_placeOf_13 : ins MX11_placeOf 13 = some (.getfield 35, 3) := by decide +kernel
theorem iX11_placeOf_16 : ins MX11_placeOf 16 = some (.iload_n 2, 1) := by decide +kernel
theorem iX11_placeOf_17 : ins MX11_placeOf 17 = some (.iaload, 1) := by decide +kernel
theorem iX11_placeOf_18 : ins MX11_placeOf 18 = some (.iconst (-1), 1) := by decide +kernel
theorem iX11_placeOf_19 : ins MX11_placeOf 19 = some (.if_icmp .eq 24, 3) := by decide +kernel
theorem iX11_placeOf_22 : ins MX11_placeOf 22 = some (.aload_n 0, 1) := by decide +kernel
theorem iX11_placeOf_23 : ins MX11_placeOf 23 = some (.getfield 35, 3) := by decide +kernel
theorem iX11_placeOf_26 : ins MX11_placeOf 26 = some (.iload_n 2, 1) := by decide +kernel
theorem iX11_placeOf_27 : ins MX11_placeOf 27 = some (.iaload, 1) := by decide +kernel
theorem iX11_placeOf_28 : ins MX11_placeOf 28 = some (.iload_n 1, 1) := by decide +kernel
theorem iX11_placeOf_29 : ins MX11_placeOf 29 = some (.if_icmp .eq 14, 3) := by decide +kernel
theorem iX11_placeOf_32 : ins MX11_placeOf 32 = some (.iload_n 2, 1) := by decide +kernel
theorem iX11_placeOf_33 : ins MX11_placeOf 33 = some (.iconst 1, 1) := by decide +kernel
theorem iX11_placeOf_34 : ins MX11_placeOf 34 = some (.iadd, 1) := by decide +kernel
theorem iX11_placeOf_35 : ins MX11_placeOf 35 = some (.sipush 16384, 3) := by decide +kernel
theorem iX11_placeOf_38 : ins MX11_placeOf 38 = some (.irem, 1) := by decide +kernel
theorem iX11_placeOf_39 : ins MX11_placeOf 39 = some (.istore_n 2, 1) := by decide +kernel
theorem iX11_placeOf_40 : ins MX11_placeOf 40 = some (.goto (-28), 3) := by decide +kernel
theorem iX11_placeOf_43 : ins MX11_placeOf 43 = some (.iload_n 2, 1) := by decide +kernel
theorem iX11_placeOf_44 : ins MX11_placeOf 44 = some (.ireturn, 1) := by decide +kernel
theorem iX11_pulled_0 : ins MX11_pulled 0 = some (.iload_n 1, 1) := by decide +kernel
theorem iX11_pulled_1 : ins MX11_pulled 1 = some (.iconst (-1), 1) := by decide +kernel
theorem iX11_pulled_2 : ins MX11_pulled 2 = some (.if_icmp .ge 5, 3) := by decide +kernel
theorem iX11_pulled_5 : ins MX11_pulled 5 = some (.iconst (-1), 1) := by decide +kernel
theorem iX11_pulled_6 : ins MX11_pulled 6 = some (.ireturn, 1) := by decide +kernel
theorem iX11_pulled_7 : ins MX11_pulled 7 = some (.iconst 1, 1) := by decide +kernel
theorem iX11_pulled_8 : ins MX11_pulled 8 = some (.aload_n 0, 1) := by decide +kernel
theorem iX11_pulled_9 : ins MX11_pulled 9 = some (.getfield 7, 3) := by decide +kernel
theorem iX11_pulled_12 : ins MX11_pulled 12 = some (.iconst 0, 1) := by decide +kernel
theorem iX11_pulled_13 : ins MX11_pulled 13 = some (.iaload, 1) := by decide +kernel
theorem iX11_pulled_14 : ins MX11_pulled 14 = some (.ishl, 1) := by decide +kernel
theorem iX11_pulled_15 : ins MX11_pulled 15 = some (.iconst 1, 1) := by decide +kernel
theorem iX11_pulled_16 : ins MX11_pulled 16 = some (.isub, 1) := by decide +kernel
theorem iX11_pulled_17 : ins MX11_pulled 17 = some (.istore_n 2, 1) := by decide +kernel
theorem iX11_pulled_18 : ins MX11_pulled 18 = some (.iconst 0, 1) := by decide +kernel
theorem iX11_pulled_19 : ins MX11_pulled 19 = some (.istore_n 3, 1) := by decide +kernel
theorem iX11_pulled_20 : ins MX11_pulled 20 = some (.iload_n 3, 1) := by decide +kernel
theorem iX11_pulled_21 : ins MX11_pulled 21 = some (.aload_n 0, 1) := by decide +kernel
theorem iX11_pulled_22 : ins MX11_pulled 22 = some (.getfield 7, 3) := by decide +kernel
theorem iX11_pulled_25 : ins MX11_pulled 25 = some (.iconst 0, 1) := by decide +kernel
theorem iX11_pulled_26 : ins MX11_pulled 26 = some (.iaload, 1) := by decide +kernel
theorem iX11_pulled_27 : ins MX11_pulled 27 = some (.if_icmp .ge 87, 3) := by decide +kernel
theorem iX11_pulled_30 : ins MX11_pulled 30 = some (.iconst 0, 1) := by decide +kernel
theorem iX11_pulled_31 : ins MX11_pulled 31 = some (.istore 4, 2) := by decide +kernel
theorem iX11_pulled_33 : ins MX11_pulled 33 = some (.iload 4, 2) := by decide +kernel
theorem iX11_pulled_35 : ins MX11_pulled 35 = some (.aload_n 0, 1) := by decide +kernel
theorem iX11_pulled_36 : ins MX11_pulled 36 = some (.getfield 7, 3) := by decide +kernel
theorem iX11_pulled_39 : ins MX11_pulled 39 = some (.iconst 0, 1) := by decide +kernel
theorem iX11_pulled_40 : ins MX11_pulled 40 = some (.iaload, 1) := by decide +kernel
theorem iX11_pulled_41 : ins MX11_pulled 41 = some (.if_icmp .ge 28, 3) := by decide +kernel
theorem iX11_pulled_44 : ins MX11_pulled 44 = some (.iload_n 2, 1) := by decide +kernel
theorem iX11_pulled_45 : ins MX11_pulled 45 = some (.iload 4, 2) := by decide +kernel
theorem iX11_pulled_47 : ins MX11_pulled 47 = some (.ishr, 1) := by decide +kernel
theorem iX11_pulled_48 : ins MX11_pulled 48 = some (.iconst 1, 1) := by decide +kernel
theorem iX11_pulled_49 : ins MX11_pulled 49 = some (.iand, 1) := by decide +kernel
theorem iX11_pulled_50 : ins MX11_pulled 50 = some (.ifCond .eq 13, 3) := by decide +kernel
theorem iX11_pulled_53 : ins MX11_pulled 53 = some (.aload_n 0, 1) := by decide +kernel
theorem iX11_pulled_54 : ins MX11_pulled 54 = some (.iload 4, 2) := by decide +kernel
theorem iX11_pulled_56 : ins MX11_pulled 56 = some (.iload_n 2, 1) := by decide +kernel
theorem iX11_pulled_57 : ins MX11_pulled 57 = some (.invokevirtual 270, 3) := by decide +kernel
theorem iX11_pulled_60 : ins MX11_pulled 60 = some (.ifCond .ne 9, 3) := by decide +kernel
theorem iX11_pulled_63 : ins MX11_pulled 63 = some (.iinc 4 1, 3) := by decide +kernel
theorem iX11_pulled_66 : ins MX11_pulled 66 = some (.goto (-33), 3) := by decide +kernel
theorem iX11_pulled_69 : ins MX11_pulled 69 = some (.iload 4, 2) := by decide +kernel
theorem iX11_pulled_71 : ins MX11_pulled 71 = some (.aload_n 0, 1) := by decide +kernel
theorem iX11_pulled_72 : ins MX11_pulled 72 = some (.getfield 7, 3) := by decide +kernel
theorem iX11_pulled_75 : ins MX11_pulled 75 = some (.iconst 0, 1) := by decide +kernel
theorem iX11_pulled_76 : ins MX11_pulled 76 = some (.iaload, 1) := by decide +kernel
theorem iX11_pulled_77 : ins MX11_pulled 77 = some (.if_icmp .ne 14, 3) := by decide +kernel
theorem iX11_pulled_80 : ins MX11_pulled 80 = some (.iload_n 1, 1) := by decide +kernel
theorem iX11_pulled_81 : ins MX11_pulled 81 = some (.iconst (-1), 1) := by decide +kernel
theorem iX11_pulled_82 : ins MX11_pulled 82 = some (.if_icmp .ne 7, 3) := by decide +kernel
theorem iX11_pulled_85 : ins MX11_pulled 85 = some (.iload_n 3, 1) := by decide +kernel
theorem iX11_pulled_86 : ins MX11_pulled 86 = some (.goto 4, 3) := by decide +kernel
theorem iX11_pulled_89 : ins MX11_pulled 89 = some (.iconst (-1), 1) := by decide +kernel
theorem iX11_pulled_90 : ins MX11_pulled 90 = some (.ireturn, 1) := by decide +kernel
theorem iX11_pulled_91 : ins MX11_pulled 91 = some (.iload_n 3, 1) := by decide +kernel
theorem iX11_pulled_92 : ins MX11_pulled 92 = some (.iload_n 1, 1) := by decide +kernel
theorem iX11_pulled_93 : ins MX11_pulled 93 = some (.if_icmp .ne 6, 3) := by decide +kernel
theorem iX11_pulled_96 : ins MX11_pulled 96 = some (.iload 4, 2) := by decide +kernel
theorem iX11_pulled_98 : ins MX11_pulled 98 = some (.ireturn, 1) := by decide +kernel
theorem iX11_pulled_99 : ins MX11_pulled 99 = some (.iload_n 2, 1) := by decide +kernel
theorem iX11_pulled_100 : ins MX11_pulled 100 = some (.iconst 1, 1) := by decide +kernel
theorem iX11_pulled_101 : ins MX11_pulled 101 = some (.iload 4, 2) := by decide +kernel
theorem iX11_pulled_103 : ins MX11_pulled 103 = some (.ishl, 1) := by decide +kernel
theorem iX11_pulled_104 : ins MX11_pulled 104 = some (.iconst (-1), 1) := by decide +kernel
theorem iX11_pulled_105 : ins MX11_pulled 105 = some (.ixor, 1) := by decide +kernel
theorem iX11_pulled_106 : ins MX11_pulled 106 = some (.iand, 1) := by decide +kernel
theorem iX11_pulled_107 : ins MX11_pulled 107 = some (.istore_n 2, 1) := by decide +kernel
theorem iX11_pulled_108 : ins MX11_pulled 108 = some (.iinc 3 1, 3) := by decide +kernel
theorem iX11_pulled_111 : ins MX11_pulled 111 = some (.goto (-91), 3) := by decide +kernel
theorem iX11_pulled_114 : ins MX11_pulled 114 = some (.iload_n 1, 1) := by decide +kernel
theorem iX11_pulled_115 : ins MX11_pulled 115 = some (.iconst (-1), 1) := by decide +kernel
theorem iX11_pulled_116 : ins MX11_pulled 116 = some (.if_icmp .ne 12, 3) := by decide +kernel
theorem iX11_pulled_119 : ins MX11_pulled 119 = some (.aload_n 0, 1) := by decide +kernel
theorem iX11_pulled_120 : ins MX11_pulled 120 = some (.getfield 7, 3) := by decide +kernel
theorem iX11_pulled_123 : ins MX11_pulled 123 = some (.iconst 0, 1) := by decide +kernel
theorem iX11_pulled_124 : ins MX11_pulled 124 = some (.iaload, 1) := by decide +kernel
theorem iX11_pulled_125 : ins MX11_pulled 125 = some (.goto 4, 3) := by decide +kernel
theorem iX11_pulled_128 : ins MX11_pulled 128 = some (.iconst (-1), 1) := by decide +kernel
theorem iX11_pulled_129 : ins MX11_pulled 129 = some (.ireturn, 1) := by decide +kernel
theorem iX11_puts_0 : ins MX11_puts 0 = some (.aload_n 0, 1) := by decide +kernel
theorem iX11_puts_1 : ins MX11_puts 1 = some (.getfield 148, 3) := by decide +kernel
theorem iX11_puts_4 : ins MX11_puts 4 = some (.sipush 200, 3) := by decide +kernel
theorem iX11_puts_7 : ins MX11_puts 7 = some (.if_icmp .ge 58, 3) := by decide +kernel
theorem iX11_puts_10 : ins MX11_puts 10 = some (.aload_n 0, 1) := by decide +kernel
theorem iX11_puts_11 : ins MX11_puts 11 = some (.getfield 19, 3) := by decide +kernel
theorem iX11_puts_14 : ins MX11_puts 14 = some (.iconst 4, 1) := by decide +kernel
theorem iX11_puts_15 : ins MX11_puts 15 = some (.aload_n 0, 1) := by decide +kernel
theorem iX11_puts_16 : ins MX11_puts 16 = some (.getfield 148, 3) := by decide +kernel
theorem iX11_puts_19 : ins MX11_puts 19 = some (.imul, 1) := by decide +kernel
theorem iX11_puts_20 : ins MX11_puts 20 = some (.iload_n 1, 1) := by decide +kernel
theorem iX11_puts_21 : ins MX11_puts 21 = some (.iastore, 1) := by decide +kernel
theorem iX11_puts_22 : ins MX11_puts 22 = some (.aload_n 0, 1) := by decide +kernel
theorem iX11_puts_23 : ins MX11_puts 23 = some (.getfield 19, 3) := by decide +kernel
theorem iX11_puts_26 : ins MX11_puts 26 = some (.iconst 4, 1) := by decide +kernel
theorem iX11_puts_27 : ins MX11_puts 27 = some (.aload_n 0, 1) := by decide +kernel
theorem iX11_puts_28 : ins MX11_puts 28 = some (.getfield 148, 3) := by decide +kernel
theorem iX11_puts_31 : ins MX11_puts 31 = some (.imul, 1) := by decide +kernel
theorem iX11_puts_32 : ins MX11_puts 32 = some (.iconst 1, 1) := by decide +kernel
theorem iX11_puts_33 : ins MX11_puts 33 = some (.iadd, 1) := by decide +kernel
theorem iX11_puts_34 : ins MX11_puts 34 = some (.iload_n 2, 1) := by decide +kernel
theorem iX11_puts_35 : ins MX11_puts 35 = some (.iastore, 1) := by decide +kernel
theorem iX11_puts_36 : ins MX11_puts 36 = some (.aload_n 0, 1) := by decide +kernel
theorem iX11_puts_37 : ins MX11_puts 37 = some (.getfield 19, 3) := by decide +kernel
theorem iX11_puts_40 : ins MX11_puts 40 = some (.iconst 4, 1) := by decide +kernel
theorem iX11_puts_41 : ins MX11_puts 41 = some (.aload_n 0, 1) := by decide +kernel
theorem iX11_puts_42 : ins MX11_puts 42 = some (.getfield 148, 3) := by decide +kernel
theorem iX11_puts_45 : ins MX11_puts 45 = some (.imul, 1) := by decide +kernel
theorem iX11_puts_46 : ins MX11_puts 46 = some (.iconst 2, 1) := by decide +kernel
theorem iX11_puts_47 : ins MX11_puts 47 = some (.iadd, 1) := by decide +kernel
theorem iX11_puts_48 : ins MX11_puts 48 = some (.iload_n 3, 1) := by decide +kernel
theorem iX11_puts_49 : ins MX11_puts 49 = some (.iastore, 1) := by decide +kernel
theorem iX11_puts_50 : ins MX11_puts 50 = some (.aload_n 0, 1) := by decide +kernel
theorem iX11_puts_51 : ins MX11_puts 51 = some (.getfield 19, 3) := by decide +kernel
theorem iX11_puts_54 : ins MX11_puts 54 = some (.iconst 4, 1) := by decide +kernel
theorem iX11_puts_55 : ins MX11_puts 55 = some (.aload_n 0, 1) := by decide +kernel
theorem iX11_puts_56 : ins MX11_puts 56 = some (.getfield 148, 3) := by decide +kernel
theorem iX11_puts_59 : ins MX11_puts 59 = some (.imul, 1) := by decide +kernel
theorem iX11_puts_60 : ins MX11_puts 60 = some (.iconst 3, 1) := by decide +kernel
theorem iX11_puts_61 : ins MX11_puts 61 = some (.iadd, 1) := by decide +kernel
theorem iX11_puts_62 : ins MX11_puts 62 = some (.iload 4, 2) := by decide +kernel
theorem iX11_puts_64 : ins MX11_puts 64 = some (.iastore, 1) := by decide +kernel
theorem iX11_puts_65 : ins MX11_puts 65 = some (.aload_n 0, 1) := by decide +kernel
theorem iX11_puts_66 : ins MX11_puts 66 = some (.dup, 1) := by decide +kernel
theorem iX11_puts_67 : ins MX11_puts 67 = some (.getfield 148, 3) := by decide +kernel
theorem iX11_puts_70 : ins MX11_puts 70 = some (.iconst 1, 1) := by decide +kernel
theorem iX11_puts_71 : ins MX11_puts 71 = some (.iadd, 1) := by decide +kernel
theorem iX11_puts_72 : ins MX11_puts 72 = some (.putfield 148, 3) := by decide +kernel
theorem iX11_puts_75 : ins MX11_puts 75 = some (.return_, 1) := by decide +kernel
theorem iX11_ring_0 : ins MX11_ring 0 = some (.iconst 1, 1) := by decide +kernel
theorem iX11_ring_1 : ins MX11_ring 1 = some (.istore_n 2, 1) := by decide +kernel
theorem iX11_ring_2 : ins MX11_ring 2 = some (.aload_n 0, 1) := by decide +kernel
theorem iX11_ring_3 : ins MX11_ring 3 = some (.iload_n 1, 1) := by decide +kernel
theorem iX11_ring_4 : ins MX11_ring 4 = some (.invokevirtual 217, 3) := by decide +kernel
theorem iX11_ring_7 : ins MX11_ring 7 = some (.istore_n 3, 1) := by decide +kernel
theorem iX11_ring_8 : ins MX11_ring 8 = some (.iload_n 3, 1) := by decide +kernel
theorem iX11_ring_9 : ins MX11_ring 9 = some (.iload_n 1, 1) := by decide +kernel
theorem iX11_ring_10 : ins MX11_ring 10 = some (.if_icmp .eq 15, 3) := by decide +kernel
theorem iX11_ring_13 : ins MX11_ring 13 = some (.iinc 2 1, 3) := by decide +kernel
theorem iX11_ring_16 : ins MX11_ring 16 = some (.aload_n 0, 1) := by decide +kernel
theorem iX11_ring_17 : ins MX11_ring 17 = some (.iload_n 3, 1) := by decide +kernel
theorem iX11_ring_18 : ins MX11_ring 18 = some (.invokevirtual 217, 3) := by decide +kernel
theorem iX11_ring_21 : ins MX11_ring 21 = some (.istore_n 3, 1) := by decide +kernel
theorem iX11_ring_22 : ins MX11_ring 22 = some (.goto (-14), 3) := by decide +kernel
theorem iX11_ring_25 : ins MX11_ring 25 = some (.iload_n 2, 1) := by decide +kernel
theorem iX11_ring_26 : ins MX11_ring 26 = some (.ireturn, 1) := by decide +kernel
theorem iX11_see_0 : ins MX11_see 0 = some (.iload_n 1, 1) := by decide +kernel
theorem iX11_see_1 : ins MX11_see 1 = some (.aload_n 0, 1) := by decide +kernel
theorem iX11_see_2 : ins MX11_see 2 = some (.getfield 82, 3) := by decide +kernel
theorem iX11_see_5 : ins MX11_see 5 = some (.if_icmp .ge 12, 3) := by decide +kernel
theorem iX11_see_8 : ins MX11_see 8 = some (.aload_n 0, 1) := by decide +kernel
theorem iX11_see_9 : ins MX11_see 9 = some (.getfield 22, 3) := by decide +kernel
theorem iX11_see_12 : ins MX11_see 12 = some (.iload_n 1, 1) := by decide +kernel
theorem iX11_see_13 : ins MX11_see 13 = some (.iaload, 1) := by decide +kernel
theorem iX11_see_14 : ins MX11_see 14 = some (.goto 4, 3) := by decide +kernel
theorem iX11_see_17 : ins MX11_see 17 = some (.iconst (-1), 1) := by decide +kernel
theorem iX11_see_18 : ins MX11_see 18 = some (.ireturn, 1) := by decide +kernel
theorem iX11_sing_0 : ins MX11_sing 0 = some (.iload_n 1, 1) := by decide +kernel
theorem iX11_sing_1 : ins MX11_sing 1 = some (.invokestatic 178, 3) := by decide +kernel
theorem iX11_sing_4 : ins MX11_sing 4 = some (.ifCond .eq 13, 3) := by decide +kernel
theorem iX11_sing_7 : ins MX11_sing 7 = some (.iload_n 2, 1) := by decide +kernel
theorem iX11_sing_8 : ins MX11_sing 8 = some (.iconst 1, 1) := by decide +kernel
theorem iX11_sing_9 : ins MX11_sing 9 = some (.bipush 50, 2) := by decide +kernel
theorem iX11_sing_11 : ins MX11_sing 11 = some (.invokestatic 72, 3) := by decide +kernel
theorem iX11_sing_14 : ins MX11_sing 14 = some (.ifCond .ne 5, 3) := by decide +kernel
theorem iX11_sing_17 : ins MX11_sing 17 = some (.iconst (-1), 1) := by decide +kernel
theorem iX11_sing_18 : ins MX11_sing 18 = some (.ireturn, 1) := by decide +kernel
theorem iX11_sing_19 : ins MX11_sing 19 = some (.iconst 0, 1) := by decide +kernel
theorem iX11_sing_20 : ins MX11_sing 20 = some (.istore_n 3, 1) := by decide +kernel
theorem iX11_sing_21 : ins MX11_sing 21 = some (.iconst 0, 1) := by decide +kernel
theorem iX11_sing_22 : ins MX11_sing 22 = some (.istore 4, 2) := by decide +kernel
theorem iX11_sing_24 : ins MX11_sing 24 = some (.iload 4, 2) := by decide +kernel
theorem iX11_sing_26 : ins MX11_sing 26 = some (.iload_n 2, 1) := by decide +kernel
theorem iX11_sing_27 : ins MX11_sing 27 = some (.if_icmp .ge 21, 3) := by decide +kernel
theorem iX11_sing_30 : ins MX11_sing 30 = some (.aload_n 0, 1) := by decide +kernel
theorem iX11_sing_31 : ins MX11_sing 31 = some (.invokevirtual 211, 3) := by decide +kernel
theorem iX11_sing_34 : ins MX11_sing 34 = some (.iload_n 3, 1) := by decide +kernel
theorem iX11_sing_35 : ins MX11_sing 35 = some (.aload_n 0, 1) := by decide +kernel
theorem iX11_sing_36 : ins MX11_sing 36 = some (.iload_n 1, 1) := by decide +kernel
theorem iX11_sing_37 : ins MX11_sing 37 = some (.invokevirtual 214, 3) := by decide +kernel
theorem iX11_sing_40 : ins MX11_sing 40 = some (.iadd, 1) := by decide +kernel
theorem iX11_sing_41 : ins MX11_sing 41 = some (.istore_n 3, 1) := by decide +kernel
theorem iX11_sing_42 : ins MX11_sing 42 = some (.iinc 4 1, 3) := by decide +kernel
theorem iX11_sing_45 : ins MX11_sing 45 = some (.goto (-21), 3) := by decide +kernel
theorem iX11_sing_48 : ins MX11_sing 48 = some (.iload_n 3, 1) := by decide +kernel
theorem iX11_sing_49 : ins MX11_sing 49 = some (.ireturn, 1) := by decide +kernel
theorem iX11_sings_0 : ins MX11_sings 0 = some (.iconst 0, 1) := by decide +kernel
theorem iX11_sings_1 : ins MX11_sings 1 = some (.istore 4, 2) := by decide +kernel
theorem iX11_sings_3 : ins MX11_sings 3 = some (.iload 4, 2) := by decide +kernel
theorem iX11_sings_5 : ins MX11_sings 5 = some (.aload_n 0, 1) := by decide +kernel
theorem iX11_sings_6 : ins MX11_sings 6 = some (.getfield 7, 3) := by decide +kernel
theorem iX11_sings_9 : ins MX11_sings 9 = some (.sipush 975, 3) := by decide +kernel
theorem iX11_sings_12 : ins MX11_sings 12 = some (.iload_n 1, 1) := by decide +kernel
theorem iX11_sings_13 : ins MX11_sings 13 = some (.iadd, 1) := by decide +kernel
theorem iX11_sings_14 : ins MX11_sings 14 = some (.iaload, 1) := by decide +kernel
theorem iX11_sings_15 : ins MX11_sings 15 = some (.if_icmp .ge 21, 3) := by decide +kernel
theorem iX11_sings_18 : ins MX11_sings 18 = some (.aload_n 0, 1) := by decide +kernel
theorem iX11_sings_19 : ins MX11_sings 19 = some (.iload_n 1, 1) := by decide +kernel
theorem iX11_sings_20 : ins MX11_sings 20 = some (.iload 4, 2) := by decide +kernel
theorem iX11_sings_22 : ins MX11_sings 22 = some (.iload_n 2, 1) := by decide +kernel
theorem iX11_sings_23 : ins MX11_sings 23 = some (.iconst 1, 1) := by decide +kernel
theorem iX11_sings_24 : ins MX11_sings 24 = some (.iload_n 3, 1) := by decide +kernel
theorem iX11_sings_25 : ins MX11_sings 25 = some (.iconst 0, 1) := by decide +kernel
theorem iX11_sings_26 : ins MX11_sings 26 = some (.invokevirtual 198, 3) := by decide +kernel
theorem iX11_sings_29 : ins MX11_sings 29 = some (.pop, 1) := by decide +kernel
theorem iX11_sings_30 : ins MX11_sings 30 = some (.iinc 4 1, 3) := by decide +kernel
theorem iX11_sings_33 : ins MX11_sings 33 = some (.goto (-30), 3) := by decide +kernel
theorem iX11_sings_36 : ins MX11_sings 36 = some (.return_, 1) := by decide +kernel
theorem iX11_singsAlone_0 : ins MX11_singsAlone 0 = some (.iconst 0, 1) := by decide +kernel
theorem iX11_singsAlone_1 : ins MX11_singsAlone 1 = some (.istore_n 2, 1) := by decide +kernel
theorem iX11_singsAlone_2 : ins MX11_singsAlone 2 = some (.iload_n 2, 1) := by decide +kernel
theorem iX11_singsAlone_3 : ins MX11_singsAlone 3 = some (.sipush 256, 3) := by decide +kernel
theorem iX11_singsAlone_6 : ins MX11_singsAlone 6 = some (.if_icmp .ge 19, 3) := by decide +kernel
theorem iX11_singsAlone_9 : ins MX11_singsAlone 9 = some (.aload_n 0, 1) := by decide +kernel
theorem iX11_singsAlone_10 : ins MX11_singsAlone 10 = some (.getfield 7, 3) := by decide +kernel
theorem iX11_singsAlone_13 : ins MX11_singsAlone 13 = some (.bipush 60, 2) := by decide +kernel
theorem iX11_singsAlone_15 : ins MX11_singsAlone 15 = some (.iload_n 2, 1) := by decide +kernel
theorem iX11_singsAlone_16 : ins MX11_singsAlone 16 = some (.iadd, 1) := by decide +kernel
theorem iX11_singsAlone_17 : ins MX11_singsAlone 17 = some (.iconst 0, 1) := by decide +kernel
theorem iX11_singsAlone_18 : ins MX11_singsAlone 18 = some (.iastore, 1) := by decide +kernel
theorem iX11_singsAlone_19 : ins MX11_singsAlone 19 = some (.iinc 2 1, 3) := by decide +kernel
theorem iX11_singsAlone_22 : ins MX11_singsAlone 22 = some (.goto (-20), 3) := by decide +kernel
theorem iX11_singsAlone_25 : ins MX11_singsAlone 25 = some (.aload_n 0, 1) := by decide +kernel
theorem iX11_singsAlone_26 : ins MX11_singsAlone 26 = some (.invokevirtual 248, 3) := by decide +kernel
theorem iX11_singsAlone_29 : ins MX11_singsAlone 29 = some (.iconst 0, 1) := by decide +kernel
theorem iX11_singsAlone_30 : ins MX11_singsAlone 30 = some (.istore_n 2, 1) := by decide +kernel
theorem iX11_singsAlone_31 : ins MX11_singsAlone 31 = some (.iload_n 2, 1) := by decide +kernel
theorem iX11_singsAlone_32 : ins MX11_singsAlone 32 = some (.aload_n 0, 1) := by decide +kernel
theorem iX11_singsAlone_33 : ins MX11_singsAlone 33 = some (.getfield 7, 3) := by decide +kernel
theorem iX11_singsAlone_36 : ins MX11_singsAlone 36 = some (.sipush 975, 3) := by decide +kernel
theorem iX11_singsAlone_39 : ins MX11_singsAlone 39 = some (.iload_n 1, 1) := by decide +kernel
theorem iX11_singsAlone_40 : ins MX11_singsAlone 40 = some (.iadd, 1) := by decide +kernel
theorem iX11_singsAlone_41 : ins MX11_singsAlone 41 = some (.iaload, 1) := by decide +kernel
theorem iX11_singsAlone_42 : ins MX11_singsAlone 42 = some (.if_icmp .ge 20, 3) := by decide +kernel
theorem iX11_singsAlone_45 : ins MX11_singsAlone 45 = some (.aload_n 0, 1) := by decide +kernel
theorem iX11_singsAlone_46 : ins MX11_singsAlone 46 = some (.iload_n 1, 1) := by decide +kernel
theorem iX11_singsAlone_47 : ins MX11_singsAlone 47 = some (.iload_n 2, 1) := by decide +kernel
theorem iX11_singsAlone_48 : ins MX11_singsAlone 48 = some (.iconst 0, 1) := by decide +kernel
theorem iX11_singsAlone_49 : ins MX11_singsAlone 49 = some (.iconst 1, 1) := by decide +kernel
theorem iX11_singsAlone_50 : ins MX11_singsAlone 50 = some (.iconst (-1), 1) := by decide +kernel
theorem iX11_singsAlone_51 : ins MX11_singsAlone 51 = some (.iconst 1, 1) := by decide +kernel
theorem iX11_singsAlone_52 : ins MX11_singsAlone 52 = some (.invokevirtual 198, 3) := by decide +kernel
theorem iX11_singsAlone_55 : ins MX11_singsAlone 55 = some (.pop, 1) := by decide +kernel
theorem iX11_singsAlone_56 : ins MX11_singsAlone 56 = some (.iinc 2 1, 3) := by decide +kernel
theorem iX11_singsAlone_59 : ins MX11_singsAlone 59 = some (.goto (-28), 3) := by decide +kernel
theorem iX11_singsAlone_62 : ins MX11_singsAlone 62 = some (.return_, 1) := by decide +kernel
theorem iX11_singsTruly_0 : ins MX11_singsTruly 0 = some (.iconst 0, 1) := by decide +kernel
theorem iX11_singsTruly_1 : ins MX11_singsTruly 1 = some (.istore_n 2, 1) := by decide +kernel
theorem iX11_singsTruly_2 : ins MX11_singsTruly 2 = some (.aload_n 0, 1) := by decide +kernel
theorem iX11_singsTruly_3 : ins MX11_singsTruly 3 = some (.invokevirtual 202, 3) := by decide +kernel
theorem iX11_singsTruly_6 : ins MX11_singsTruly 6 = some (.iconst 0, 1) := by decide +kernel
theorem iX11_singsTruly_7 : ins MX11_singsTruly 7 = some (.istore_n 3, 1) := by decide +kernel
theorem iX11_singsTruly_8 : ins MX11_singsTruly 8 = some (.iload_n 3, 1) := by decide +kernel
theorem iX11_singsTruly_9 : ins MX11_singsTruly 9 = some (.aload_n 0, 1) := by decide +kernel
theorem iX11_singsTruly_10 : ins MX11_singsTruly 10 = some (.getfield 7, 3) := by decide +kernel
theorem iX11_singsTruly_13 : ins MX11_singsTruly 13 = some (.sipush 975, 3) := by decide +kernel
theorem iX11_singsTruly_16 : ins MX11_singsTruly 16 = some (.iload_n 1, 1) := by decide +kernel
theorem iX11_singsTruly_17 : ins MX11_singsTruly 17 = some (.iadd, 1) := by decide +kernel
theorem iX11_singsTruly_18 : ins MX11_singsTruly 18 = some (.iaload, 1) := by decide +kernel
theorem iX11_singsTruly_19 : ins MX11_singsTruly 19 = some (.if_icmp .ge 114, 3) := by decide +kernel
theorem iX11_singsTruly_22 : ins MX11_singsTruly 22 = some (.aload_n 0, 1) := by decide +kernel
theorem iX11_singsTruly_23 : ins MX11_singsTruly 23 = some (.iload_n 1, 1) := by decide +kernel
theorem iX11_singsTruly_24 : ins MX11_singsTruly 24 = some (.iload_n 3, 1) := by decide +kernel
theorem iX11_singsTruly_25 : ins MX11_singsTruly 25 = some (.iconst 0, 1) := by decide +kernel
theorem iX11_singsTruly_26 : ins MX11_singsTruly 26 = some (.invokevirtual 185, 3) := by decide +kernel
theorem iX11_singsTruly_29 : ins MX11_singsTruly 29 = some (.iconst 2, 1) := by decide +kernel
theorem iX11_singsTruly_30 : ins MX11_singsTruly 30 = some (.if_icmp .ne 7, 3) := by decide +kernel
theorem iX11_singsTruly_33 : ins MX11_singsTruly 33 = some (.iconst 1, 1) := by decide +kernel
theorem iX11_singsTruly_34 : ins MX11_singsTruly 34 = some (.goto 4, 3) := by decide +kernel
theorem iX11_singsTruly_37 : ins MX11_singsTruly 37 = some (.iconst 0, 1) := by decide +kernel
theorem iX11_singsTruly_38 : ins MX11_singsTruly 38 = some (.istore 4, 2) := by decide +kernel
theorem iX11_singsTruly_40 : ins MX11_singsTruly 40 = some (.iload 4, 2) := by decide +kernel
theorem iX11_singsTruly_42 : ins MX11_singsTruly 42 = some (.ifCond .ne 31, 3) := by decide +kernel
theorem iX11_singsTruly_45 : ins MX11_singsTruly 45 = some (.aload_n 0, 1) := by decide +kernel
theorem iX11_singsTruly_46 : ins MX11_singsTruly 46 = some (.getfield 7, 3) := by decide +kernel
theorem iX11_singsTruly_49 : ins MX11_singsTruly 49 = some (.iconst 1, 1) := by decide +kernel
theorem iX11_singsTruly_50 : ins MX11_singsTruly 50 = some (.iaload, 1) := by decide +kernel
theorem iX11_singsTruly_51 : ins MX11_singsTruly 51 = some (.ifCond .le 22, 3) := by decide +kernel
theorem iX11_singsTruly_54 : ins MX11_singsTruly 54 = some (.aload_n 0, 1) := by decide +kernel
theorem iX11_singsTruly_55 : ins MX11_singsTruly 55 = some (.sipush 1000, 3) := by decide +kernel
theorem iX11_singsTruly_58 : ins MX11_singsTruly 58 = some (.invokevirtual 205, 3) := by decide +kernel
theorem iX11_singsTruly_61 : ins MX11_singsTruly 61 = some (.aload_n 0, 1) := by decide +kernel
theorem iX11_singsTruly_62 : ins MX11_singsTruly 62 = some (.getfield 7, 3) := by decide +kernel
theorem iX11_singsTruly_65 : ins MX11_singsTruly 65 = some (.iconst 1, 1) := by decide +kernel
theorem iX11_singsTruly_66 : ins MX11_singsTruly 66 = some (.iaload, 1) := by decide +kernel
theorem iX11_singsTruly_67 : ins MX11_singsTruly 67 = some (.if_icmp .ge 6, 3) := by decide +kernel
theorem iX11_singsTruly_70 : ins MX11_singsTruly 70 = some (.goto 57, 3) := by decide +kernel
theorem iX11_singsTruly_73 : ins MX11_singsTruly 73 = some (.aload_n 0, 1) := by decide +kernel
theorem iX11_singsTruly_74 : ins MX11_singsTruly 74 = some (.iload_n 1, 1) := by decide +kernel
theorem iX11_singsTruly_75 : ins MX11_singsTruly 75 = some (.iload_n 3, 1) := by decide +kernel
theorem iX11_singsTruly_76 : ins MX11_singsTruly 76 = some (.iconst 0, 1) := by decide +kernel
theorem iX11_singsTruly_77 : ins MX11_singsTruly 77 = some (.iconst 1, 1) := by decide +kernel
theorem iX11_singsTruly_78 : ins MX11_singsTruly 78 = some (.iconst (-1), 1) := by decide +kernel
theorem iX11_singsTruly_79 : ins MX11_singsTruly 79 = some (.iconst 1, 1) := by decide +kernel
theorem iX11_singsTruly_80 : ins MX11_singsTruly 80 = some (.invokevirtual 198, 3) := by decide +kernel
theorem iX11_singsTruly_83 : ins MX11_singsTruly 83 = some (.istore 5, 2) := by decide +kernel
theorem iX11_singsTruly_85 : ins MX11_singsTruly 85 = some (.iload 5, 2) := by decide +kernel
theorem iX11_singsTruly_87 : ins MX11_singsTruly 87 = some (.iconst (-1), 1) := by decide +kernel
theorem iX11_singsTruly_88 : ins MX11_singsTruly 88 = some (.if_icmp .ne 6, 3) := by decide +kernel
theorem iX11_singsTruly_91 : ins MX11_singsTruly 91 = some (.goto 36, 3) := by decide +kernel
theorem iX11_singsTruly_94 : ins MX11_singsTruly 94 = some (.aload_n 0, 1) := by decide +kernel
theorem iX11_singsTruly_95 : ins MX11_singsTruly 95 = some (.getfield 7, 3) := by decide +kernel
theorem iX11_singsTruly_98 : ins MX11_singsTruly 98 = some (.iconst 4, 1) := by decide +kernel
theorem iX11_singsTruly_99 : ins MX11_singsTruly 99 = some (.dup2, 1) := by decide +kernel
theorem iX11_singsTruly_100 : ins MX11_singsTruly 100 = some (.iaload, 1) := by decide +kernel
theorem iX11_singsTruly_101 : ins MX11_singsTruly 101 = some (.iconst 1, 1) := by decide +kernel
theorem iX11_singsTruly_102 : ins MX11_singsTruly 102 = some (.iadd, 1) := by decide +kernel
theorem iX11_singsTruly_103 : ins MX11_singsTruly 103 = some (.iastore, 1) := by decide +kernel
theorem iX11_singsTruly_104 : ins MX11_singsTruly 104 = some (.aload_n 0, 1) := by decide +kernel
theorem iX11_singsTruly_105 : ins MX11_singsTruly 105 = some (.getfield 7, 3) := by decide +kernel
theorem iX11_singsTruly_108 : ins MX11_singsTruly 108 = some (.bipush 26, 2) := by decide +kernel
theorem iX11_singsTruly_110 : ins MX11_singsTruly 110 = some (.iload 5, 2) := by decide +kernel
theorem iX11_singsTruly_112 : ins MX11_singsTruly 112 = some (.iadd, 1) := by decide +kernel
theorem iX11_singsTruly_113 : ins MX11_singsTruly 113 = some (.dup2, 1) := by decide +kernel
theorem iX11_singsTruly_114 : ins MX11_singsTruly 114 = some (.iaload, 1) := by decide +kernel
theorem iX11_singsTruly_115 : ins MX11_singsTruly 115 = some (.iconst 1, 1) := by decide +kernel
theorem iX11_singsTruly_116 : ins MX11_singsTruly 116 = some (.iadd, 1) := by decide +kernel
theorem iX11_singsTruly_117 : ins MX11_singsTruly 117 = some (.iastore, 1) := by decide +kernel
theorem iX11_singsTruly_118 : ins MX11_singsTruly 118 = some (.aload_n 0, 1) := by decide +kernel
theorem iX11_singsTruly_119 : ins MX11_singsTruly 119 = some (.iload 5, 2) := by decide +kernel
theorem iX11_singsTruly_121 : ins MX11_singsTruly 121 = some (.invokevirtual 208, 3) := by decide +kernel
theorem iX11_singsTruly_124 : ins MX11_singsTruly 124 = some (.iinc 2 1, 3) := by decide +kernel
theorem iX11_singsTruly_127 : ins MX11_singsTruly 127 = some (.iinc 3 1, 3) := by decide +kernel
theorem iX11_singsTruly_130 : ins MX11_singsTruly 130 = some (.goto (-122), 3) := by decide +kernel
theorem iX11_singsTruly_133 : ins MX11_singsTruly 133 = some (.iconst 0, 1) := by decide +kernel
theorem iX11_singsTruly_134 : ins MX11_singsTruly 134 = some (.istore_n 3, 1) := by decide +kernel
theorem iX11_singsTruly_135 : ins MX11_singsTruly 135 = some (.iload_n 3, 1) := by decide +kernel
theorem iX11_singsTruly_136 : ins MX11_singsTruly 136 = some (.aload_n 0, 1) := by decide +kernel
theorem iX11_singsTruly_137 : ins MX11_singsTruly 137 = some (.getfield 7, 3) := by decide +kernel
theorem iX11_singsTruly_140 : ins MX11_singsTruly 140 = some (.iconst 0, 1) := by decide +kernel
theorem iX11_singsTruly_141 : ins MX11_singsTruly 141 = some (.iaload, 1) := by decide +kernel
theorem iX11_singsTruly_142 : ins MX11_singsTruly 142 = some (.if_icmp .ge 24, 3) := by decide +kernel
theorem iX11_singsTruly_145 : ins MX11_singsTruly 145 = some (.aload_n 0, 1) := by decide +kernel
theorem iX11_singsTruly_146 : ins MX11_singsTruly 146 = some (.getfield 7, 3) := by decide +kernel
theorem iX11_singsTruly_149 : ins MX11_singsTruly 149 = some (.bipush 42, 2) := by decide +kernel
theorem iX11_singsTruly_151 : ins MX11_singsTruly 151 = some (.iload_n 3, 1) := by decide +kernel
theorem iX11_singsTruly_152 : ins MX11_singsTruly 152 = some (.iadd, 1) := by decide +kernel
theorem iX11_singsTruly_153 : ins MX11_singsTruly 153 = some (.aload_n 0, 1) := by decide +kernel
theorem iX11_singsTruly_154 : ins MX11_singsTruly 154 = some (.getfield 29, 3) := by decide +kernel
theorem iX11_singsTruly_157 : ins MX11_singsTruly 157 = some (.iload_n 3, 1) := by decide +kernel
theorem iX11_singsTruly_158 : ins MX11_singsTruly 158 = some (.iaload, 1) := by decide +kernel
theorem iX11_singsTruly_159 : ins MX11_singsTruly 159 = some (.iastore, 1) := by decide +kernel
theorem iX11_singsTruly_160 : ins MX11_singsTruly 160 = some (.iinc 3 1, 3) := by decide +kernel
theorem iX11_singsTruly_163 : ins MX11_singsTruly 163 = some (.goto (-28), 3) := by decide +kernel
theorem iX11_singsTruly_166 : ins MX11_singsTruly 166 = some (.iload_n 2, 1) := by decide +kernel
theorem iX11_singsTruly_167 : ins MX11_singsTruly 167 = some (.ireturn, 1) := by decide +kernel
theorem iX11_sitsAtFirst_0 : ins MX11_sitsAtFirst 0 = some (.iconst 0, 1) := by decide +kernel
theorem iX11_sitsAtFirst_1 : ins MX11_sitsAtFirst 1 = some (.istore_n 1, 1) := by decide +kernel
theorem iX11_sitsAtFirst_2 : ins MX11_sitsAtFirst 2 = some (.iload_n 1, 1) := by decide +kernel
theorem iX11_sitsAtFirst_3 : ins MX11_sitsAtFirst 3 = some (.aload_n 0, 1) := by decide +kernel
theorem iX11_sitsAtFirst_4 : ins MX11_sitsAtFirst 4 = some (.getfield 7, 3) := by decide +kernel
theorem iX11_sitsAtFirst_7 : ins MX11_sitsAtFirst 7 = some (.iconst 0, 1) := by decide +kernel
theorem iX11_sitsAtFirst_8 : ins MX11_sitsAtFirst 8 = some (.iaload, 1) := by decide +kernel
theorem iX11_sitsAtFirst_9 : ins MX11_sitsAtFirst 9 = some (.if_icmp .ge 16, 3) := by decide +kernel
theorem iX11_sitsAtFirst_12 : ins MX11_sitsAtFirst 12 = some (.aload_n 0, 1) := by decide +kernel
theorem iX11_sitsAtFirst_13 : ins MX11_sitsAtFirst 13 = some (.getfield 29, 3) := by decide +kernel
theorem iX11_sitsAtFirst_16 : ins MX11_sitsAtFirst 16 = some (.iload_n 1, 1) := by decide +kernel
theorem iX11_sitsAtFirst_17 : ins MX11_sitsAtFirst 17 = some (.iload_n 1, 1) := by decide +kernel
theorem iX11_sitsAtFirst_18 : ins MX11_sitsAtFirst 18 = some (.iastore, 1) := by decide +kernel
theorem iX11_sitsAtFirst_19 : ins MX11_sitsAtFirst 19 = some (.iinc 1 1, 3) := by decide +kernel
theorem iX11_sitsAtFirst_22 : ins MX11_sitsAtFirst 22 = some (.goto (-20), 3) := by decide +kernel
theorem iX11_sitsAtFirst_25 : ins MX11_sitsAtFirst 25 = some (.return_, 1) := by decide +kernel
theorem iX11_sitsNow_0 : ins MX11_sitsNow 0 = some (.iconst 0, 1) := by decide +kernel
theorem iX11_sitsNow_1 : ins MX11_sitsNow 1 = some (.istore_n 1, 1) := by decide +kernel
theorem iX11_sitsNow_2 : ins MX11_sitsNow 2 = some (.iload_n 1, 1) := by decide +kernel
theorem iX11_sitsNow_3 : ins MX11_sitsNow 3 = some (.aload_n 0, 1) := by decide +kernel
theorem iX11_sitsNow_4 : ins MX11_sitsNow 4 = some (.getfield 7, 3) := by decide +kernel
theorem iX11_sitsNow_7 : ins MX11_sitsNow 7 = some (.iconst 0, 1) := by decide +kernel
theorem iX11_sitsNow_8 : ins MX11_sitsNow 8 = some (.iaload, 1) := by decide +kernel
theorem iX11_sitsNow_9 : ins MX11_sitsNow 9 = some (.if_icmp .ge 24, 3) := by decide +kernel
theorem iX11_sitsNow_12 : ins MX11_sitsNow 12 = some (.aload_n 0, 1) := by decide +kernel
theorem iX11_sitsNow_13 : ins MX11_sitsNow 13 = some (.getfield 29, 3) := by decide +kernel
theorem iX11_sitsNow_16 : ins MX11_sitsNow 16 = some (.iload_n 1, 1) := by decide +kernel
theorem iX11_sitsNow_17 : ins MX11_sitsNow 17 = some (.aload_n 0, 1) := by decide +kernel
theorem iX11_sitsNow_18 : ins MX11_sitsNow 18 = some (.getfield 7, 3) := by decide +kernel
theorem iX11_sitsNow_21 : ins MX11_sitsNow 21 = some (.bipush 42, 2) := by decide +kernel
theorem iX11_sitsNow_23 : ins MX11_sitsNow 23 = some (.iload_n 1, 1) := by decide +kernel
theorem iX11_sitsNow_24 : ins MX11_sitsNow 24 = some (.iadd, 1) := by decide +kernel
theorem iX11_sitsNow_25 : ins MX11_sitsNow 25 = some (.iaload, 1) := by decide +kernel
theorem iX11_sitsNow_26 : ins MX11_sitsNow 26 = some (.iastore, 1) := by decide +kernel
theorem iX11_sitsNow_27 : ins MX11_sitsNow 27 = some (.iinc 1 1, 3) := by decide +kernel
theorem iX11_sitsNow_30 : ins MX11_sitsNow 30 = some (.goto (-28), 3) := by decide +kernel
theorem iX11_sitsNow_33 : ins MX11_sitsNow 33 = some (.return_, 1) := by decide +kernel
theorem iX11_slip_0 : ins MX11_slip 0 = some (.iload_n 1, 1) := by decide +kernel
theorem iX11_slip_1 : ins MX11_slip 1 = some (.iconst 0, 1) := by decide +kernel
theorem iX11_slip_2 : ins MX11_slip 2 = some (.sipush 1000, 3) := by decide +kernel
theorem iX11_slip_5 : ins MX11_slip 5 = some (.invokestatic 72, 3) := by decide +kernel
theorem iX11_slip_8 : ins MX11_slip 8 = some (.ifCond .ne 5, 3) := by decide +kernel
theorem iX11_slip_11 : ins MX11_slip 11 = some (.iconst 0, 1) := by decide +kernel
theorem iX11_slip_12 : ins MX11_slip 12 = some (.ireturn, 1) := by decide +kernel
theorem iX11_slip_13 : ins MX11_slip 13 = some (.aload_n 0, 1) := by decide +kernel
theorem iX11_slip_14 : ins MX11_slip 14 = some (.getfield 7, 3) := by decide +kernel
theorem iX11_slip_17 : ins MX11_slip 17 = some (.iconst 1, 1) := by decide +kernel
theorem iX11_slip_18 : ins MX11_slip 18 = some (.iload_n 1, 1) := by decide +kernel
theorem iX11_slip_19 : ins MX11_slip 19 = some (.iastore, 1) := by decide +kernel
theorem iX11_slip_20 : ins MX11_slip 20 = some (.aload_n 0, 1) := by decide +kernel
theorem iX11_slip_21 : ins MX11_slip 21 = some (.iconst 0, 1) := by decide +kernel
theorem iX11_slip_22 : ins MX11_slip 22 = some (.putfield 69, 3) := by decide +kernel
theorem iX11_slip_25 : ins MX11_slip 25 = some (.iconst 1, 1) := by decide +kernel
theorem iX11_slip_26 : ins MX11_slip 26 = some (.ireturn, 1) := by decide +kernel
theorem iX11_slotOf_0 : ins MX11_slotOf 0 = some (.iconst 0, 1) := by decide +kernel
theorem iX11_slotOf_1 : ins MX11_slotOf 1 = some (.istore_n 2, 1) := by decide +kernel
theorem iX11_slotOf_2 : ins MX11_slotOf 2 = some (.aload_n 0, 1) := by decide +kernel
theorem iX11_slotOf_3 : ins MX11_slotOf 3 = some (.getfield 7, 3) := by decide +kernel
theorem iX11_slotOf_6 : ins MX11_slotOf 6 = some (.bipush 42, 2) := by decide +kernel
theorem iX11_slotOf_8 : ins MX11_slotOf 8 = some (.iload_n 2, 1) := by decide +kernel
theorem iX11_slotOf_9 : ins MX11_slotOf 9 = some (.iadd, 1) := by decide +kernel
theorem iX11_slotOf_10 : ins MX11_slotOf 10 = some (.iaload, 1) := by decide +kernel
theorem iX11_slotOf_11 : ins MX11_slotOf 11 = some (.iload_n 1, 1) := by decide +kernel
theorem iX11_slotOf_12 : ins MX11_slotOf 12 = some (.if_icmp .eq 9, 3) := by decide +kernel
theorem iX11_slotOf_15 : ins MX11_slotOf 15 = some (.iinc 2 1, 3) := by decide +kernel
theorem iX11_slotOf_18 : ins MX11_slotOf 18 = some (.goto (-16), 3) := by decide +kernel
theorem iX11_slotOf_21 : ins MX11_slotOf 21 = some (.iload_n 2, 1) := by decide +kernel
theorem iX11_slotOf_22 : ins MX11_slotOf 22 = some (.ireturn, 1) := by decide +kernel
theorem iX11_someSteps_0 : ins MX11_someSteps 0 = some (.iconst 1, 1) := by decide +kernel
theorem iX11_someSteps_1 : ins MX11_someSteps 1 = some (.istore_n 2, 1) := by decide +kernel
theorem iX11_someSteps_2 : ins MX11_someSteps 2 = some (.iload_n 2, 1) := by decide +kernel
theorem iX11_someSteps_3 : ins MX11_someSteps 3 = some (.ifCond .eq 87, 3) := by decide +kernel
theorem iX11_someSteps_6 : ins MX11_someSteps 6 = some (.aload_n 0, 1) := by decide +kernel
theorem iX11_someSteps_7 : ins MX11_someSteps 7 = some (.getfield 121, 3) := by decide +kernel
theorem iX11_someSteps_10 : ins MX11_someSteps 10 = some (.iconst 3, 1) := by decide +kernel
theorem iX11_someSteps_11 : ins MX11_someSteps 11 = some (.bipush 8, 2) := by decide +kernel
theorem iX11_someSteps_13 : ins MX11_someSteps 13 = some (.invokestatic 72, 3) := by decide +kernel
theorem iX11_someSteps_16 : ins MX11_someSteps 16 = some (.ifCond .eq 74, 3) := by decide +kernel
theorem iX11_someSteps_19 : ins MX11_someSteps 19 = some (.aload_n 0, 1) := by decide +kernel
theorem iX11_someSteps_20 : ins MX11_someSteps 20 = some (.getfield 121, 3) := by decide +kernel
theorem iX11_someSteps_23 : ins MX11_someSteps 23 = some (.iconst 4, 1) := by decide +kernel
theorem iX11_someSteps_24 : ins MX11_someSteps 24 = some (.if_icmp .eq 66, 3) := by decide +kernel
theorem iX11_someSteps_27 : ins MX11_someSteps 27 = some (.aload_n 0, 1) := by decide +kernel
theorem iX11_someSteps_28 : ins MX11_someSteps 28 = some (.getfield 121, 3) := by decide +kernel
theorem iX11_someSteps_31 : ins MX11_someSteps 31 = some (.iconst 5, 1) := by decide +kernel
theorem iX11_someSteps_32 : ins MX11_someSteps 32 = some (.if_icmp .eq 58, 3) := by decide +kernel
theorem iX11_someSteps_35 : ins MX11_someSteps 35 = some (.aload_n 0, 1) := by decide +kernel
theorem iX11_someSteps_36 : ins MX11_someSteps 36 = some (.getfield 121, 3) := by decide +kernel
theorem iX11_someSteps_39 : ins MX11_someSteps 39 = some (.bipush 8, 2) := by decide +kernel
theorem iX11_someSteps_41 : ins MX11_someSteps 41 = some (.if_icmp .ne 12, 3) := by decide +kernel
theorem iX11_someSteps_44 : ins MX11_someSteps 44 = some (.aload_n 0, 1) := by decide +kernel
theorem iX11_someSteps_45 : ins MX11_someSteps 45 = some (.iload_n 1, 1) := by decide +kernel
theorem iX11_someSteps_46 : ins MX11_someSteps 46 = some (.invokevirtual 165, 3) := by decide +kernel
theorem iX11_someSteps_49 : ins MX11_someSteps 49 = some (.istore_n 2, 1) := by decide +kernel
theorem iX11_someSteps_50 : ins MX11_someSteps 50 = some (.goto (-48), 3) := by decide +kernel
theorem iX11_someSteps_53 : ins MX11_someSteps 53 = some (.aload_n 0, 1) := by decide +kernel
theorem iX11_someSteps_54 : ins MX11_someSteps 54 = some (.getfield 121, 3) := by decide +kernel
theorem iX11_someSteps_57 : ins MX11_someSteps 57 = some (.bipush 7, 2) := by decide +kernel
theorem iX11_someSteps_59 : ins MX11_someSteps 59 = some (.if_icmp .ne 10, 3) := by decide +kernel
theorem iX11_someSteps_62 : ins MX11_someSteps 62 = some (.aload_n 0, 1) := by decide +kernel
theorem iX11_someSteps_63 : ins MX11_someSteps 63 = some (.invokevirtual 168, 3) := by decide +kernel
theorem iX11_someSteps_66 : ins MX11_someSteps 66 = some (.goto 20, 3) := by decide +kernel
theorem iX11_someSteps_69 : ins MX11_someSteps 69 = some (.aload_n 0, 1) := by decide +kernel
theorem iX11_someSteps_70 : ins MX11_someSteps 70 = some (.aload_n 0, 1) := by decide +kernel
theorem iX11_someSteps_71 : ins MX11_someSteps 71 = some (.getfield 121, 3) := by decide +kernel
theorem iX11_someSteps_74 : ins MX11_someSteps 74 = some (.iconst 3, 1) := by decide +kernel
theorem iX11_someSteps_75 : ins MX11_someSteps 75 = some (.if_icmp .ne 7, 3) := by decide +kernel
theorem iX11_someSteps_78 : ins MX11_someSteps 78 = some (.iconst 0, 1) := by decide +kernel
theorem iX11_someSteps_79 : ins MX11_someSteps 79 = some (.goto 4, 3) := by decide +kernel
theorem iX11_someSteps_82 : ins MX11_someSteps 82 = some (.iconst 1, 1) := by decide +kernel
theorem iX11_someSteps_83 : ins MX11_someSteps 83 = some (.invokevirtual 172, 3) := by decide +kernel
theorem iX11_someSteps_86 : ins MX11_someSteps 86 = some (.istore_n 2, 1) := by decide +kernel
theorem iX11_someSteps_87 : ins MX11_someSteps 87 = some (.goto (-85), 3) := by decide +kernel
theorem iX11_someSteps_90 : ins MX11_someSteps 90 = some (.iload_n 2, 1) := by decide +kernel
theorem iX11_someSteps_91 : ins MX11_someSteps 91 = some (.ireturn, 1) := by decide +kernel
theorem iX11_someTimes_0 : ins MX11_someTimes 0 = some (.iload_n 1, 1) := by decide +kernel
theorem iX11_someTimes_1 : ins MX11_someTimes 1 = some (.iconst 4, 1) := by decide +kernel
theorem iX11_someTimes_2 : ins MX11_someTimes 2 = some (.if_icmp .ne 9, 3) := by decide +kernel
theorem iX11_someTimes_5 : ins MX11_someTimes 5 = some (.aload_n 0, 1) := by decide +kernel
theorem iX11_someTimes_6 : ins MX11_someTimes 6 = some (.iconst 3, 1) := by decide +kernel
theorem iX11_someTimes_7 : ins MX11_someTimes 7 = some (.invokevirtual 142, 3) := by decide +kernel
theorem iX11_someTimes_10 : ins MX11_someTimes 10 = some (.ireturn, 1) := by decide +kernel
theorem iX11_someTimes_11 : ins MX11_someTimes 11 = some (.aload_n 0, 1) := by decide +kernel
theorem iX11_someTimes_12 : ins MX11_someTimes 12 = some (.invokevirtual 145, 3) := by decide +kernel
theorem iX11_someTimes_15 : ins MX11_someTimes 15 = some (.aload_n 0, 1) := by decide +kernel
theorem iX11_someTimes_16 : ins MX11_someTimes 16 = some (.getfield 133, 3) := by decide +kernel
theorem iX11_someTimes_19 : ins MX11_someTimes 19 = some (.istore_n 2, 1) := by decide +kernel
theorem iX11_someTimes_20 : ins MX11_someTimes 20 = some (.aload_n 0, 1) := by decide +kernel
theorem iX11_someTimes_21 : ins MX11_someTimes 21 = some (.iconst 1, 1) := by decide +kernel
theorem iX11_someTimes_22 : ins MX11_someTimes 22 = some (.bipush 9, 2) := by decide +kernel
theorem iX11_someTimes_24 : ins MX11_someTimes 24 = some (.invokevirtual 151, 3) := by decide +kernel
theorem iX11_someTimes_27 : ins MX11_someTimes 27 = some (.ifCond .eq 13, 3) := by decide +kernel
theorem iX11_someTimes_30 : ins MX11_someTimes 30 = some (.aload_n 0, 1) := by decide +kernel
theorem iX11_someTimes_31 : ins MX11_someTimes 31 = some (.sipush 140, 3) := by decide +kernel
theorem iX11_someTimes_34 : ins MX11_someTimes 34 = some (.invokevirtual 155, 3) := by decide +kernel
theorem iX11_someTimes_37 : ins MX11_someTimes 37 = some (.ifCond .ne 5, 3) := by decide +kernel
theorem iX11_someTimes_40 : ins MX11_someTimes 40 = some (.iconst 0, 1) := by decide +kernel
theorem iX11_someTimes_41 : ins MX11_someTimes 41 = some (.ireturn, 1) := by decide +kernel
theorem iX11_someTimes_42 : ins MX11_someTimes 42 = some (.aload_n 0, 1) := by decide +kernel
theorem iX11_someTimes_43 : ins MX11_someTimes 43 = some (.getfield 148, 3) := by decide +kernel
theorem iX11_someTimes_46 : ins MX11_someTimes 46 = some (.istore_n 3, 1) := by decide +kernel
theorem iX11_someTimes_47 : ins MX11_someTimes 47 = some (.aload_n 0, 1) := by decide +kernel
theorem iX11_someTimes_48 : ins MX11_someTimes 48 = some (.iload_n 1, 1) := by decide +kernel
theorem iX11_someTimes_49 : ins MX11_someTimes 49 = some (.iconst 1, 1) := by decide +kernel
theorem iX11_someTimes_50 : ins MX11_someTimes 50 = some (.iadd, 1) := by decide +kernel
theorem iX11_someTimes_51 : ins MX11_someTimes 51 = some (.invokevirtual 162, 3) := by decide +kernel
theorem iX11_someTimes_54 : ins MX11_someTimes 54 = some (.ifCond .eq 13, 3) := by decide +kernel
theorem iX11_someTimes_57 : ins MX11_someTimes 57 = some (.aload_n 0, 1) := by decide +kernel
theorem iX11_someTimes_58 : ins MX11_someTimes 58 = some (.sipush 141, 3) := by decide +kernel
theorem iX11_someTimes_61 : ins MX11_someTimes 61 = some (.invokevirtual 155, 3) := by decide +kernel
theorem iX11_someTimes_64 : ins MX11_someTimes 64 = some (.ifCond .ne 5, 3) := by decide +kernel
theorem iX11_someTimes_67 : ins MX11_someTimes 67 = some (.iconst 0, 1) := by decide +kernel
theorem iX11_someTimes_68 : ins MX11_someTimes 68 = some (.ireturn, 1) := by decide +kernel
theorem iX11_someTimes_69 : ins MX11_someTimes 69 = some (.aload_n 0, 1) := by decide +kernel
theorem iX11_someTimes_70 : ins MX11_someTimes 70 = some (.getfield 148, 3) := by decide +kernel
theorem iX11_someTimes_73 : ins MX11_someTimes 73 = some (.iload_n 3, 1) := by decide +kernel
theorem iX11_someTimes_74 : ins MX11_someTimes 74 = some (.isub, 1) := by decide +kernel
theorem iX11_someTimes_75 : ins MX11_someTimes 75 = some (.istore 4, 2) := by decide +kernel
theorem iX11_someTimes_77 : ins MX11_someTimes 77 = some (.iconst 0, 1) := by decide +kernel
theorem iX11_someTimes_78 : ins MX11_someTimes 78 = some (.istore 5, 2) := by decide +kernel
theorem iX11_someTimes_80 : ins MX11_someTimes 80 = some (.iload 5, 2) := by decide +kernel
theorem iX11_someTimes_82 : ins MX11_someTimes 82 = some (.iload 4, 2) := by decide +kernel
theorem iX11_someTimes_84 : ins MX11_someTimes 84 = some (.iload_n 2, 1) := by decide +kernel
theorem iX11_someTimes_85 : ins MX11_someTimes 85 = some (.iconst 1, 1) := by decide +kernel
theorem iX11_someTimes_86 : ins MX11_someTimes 86 = some (.isub, 1) := by decide +kernel
theorem iX11_someTimes_87 : ins MX11_someTimes 87 = some (.imul, 1) := by decide +kernel
theorem iX11_someTimes_88 : ins MX11_someTimes 88 = some (.if_icmp .ge 78, 3) := by decide +kernel
theorem iX11_someTimes_91 : ins MX11_someTimes 91 = some (.iconst 4, 1) := by decide +kernel
theorem iX11_someTimes_92 : ins MX11_someTimes 92 = some (.iload_n 3, 1) := by decide +kernel
theorem iX11_someTimes_93 : ins MX11_someTimes 93 = some (.iload 5, 2) := by decide +kernel
theorem iX11_someTimes_95 : ins MX11_someTimes 95 = some (.iadd, 1) := by decide +kernel
theorem iX11_someTimes_96 : ins MX11_someTimes 96 = some (.imul, 1) := by decide +kernel
theorem iX11_someTimes_97 : ins MX11_someTimes 97 = some (.istore 6, 2) := by decide +kernel
theorem iX11_someTimes_99 : ins MX11_someTimes 99 = some (.aload_n 0, 1) := by decide +kernel
theorem iX11_someTimes_100 : ins MX11_someTimes 100 = some (.getfield 148, 3) := by decide +kernel
theorem iX11_someTimes_103 : ins MX11_someTimes 103 = some (.sipush 200, 3) := by decide +kernel
theorem iX11_someTimes_106 : ins MX11_someTimes 106 = some (.if_icmp .ge 44, 3) := by decide +kernel
theorem iX11_someTimes_109 : ins MX11_someTimes 109 = some (.aload_n 0, 1) := by decide +kernel
theorem iX11_someTimes_110 : ins MX11_someTimes 110 = some (.aload_n 0, 1) := by decide +kernel
theorem iX11_someTimes_111 : ins MX11_someTimes 111 = some (.getfield 19, 3) := by decide +kernel
theorem iX11_someTimes_114 : ins MX11_someTimes 114 = some (.iload 6, 2) := by decide +kernel
theorem iX11_someTimes_116 : ins MX11_someTimes 116 = some (.iaload, 1) := by decide +kernel
theorem iX11_someTimes_117 : ins MX11_someTimes 117 = some (.aload_n 0, 1) := by decide +kernel
theorem iX11_someTimes_118 : ins MX11_someTimes 118 = some (.getfield 19, 3) := by decide +kernel
theorem iX11_someTimes_121 : ins MX11_someTimes 121 = some (.iload 6, 2) := by decide +kernel
theorem iX11_someTimes_123 : ins MX11_someTimes 123 = some (.iconst 1, 1) := by decide +kernel
theorem iX11_someTimes_124 : ins MX11_someTimes 124 = some (.iadd, 1) := by decide +kernel
theorem iX11_someTimes_125 : ins MX11_someTimes 125 = some (.iaload, 1) := by decide +kernel
theorem iX11_someTimes_126 : ins MX11_someTimes 126 = some (.aload_n 0, 1) := by decide +kernel
theorem iX11_someTimes_127 : ins MX11_someTimes 127 = some (.getfield 19, 3) := by decide +kernel
theorem iX11_someTimes_130 : ins MX11_someTimes 130 = some (.iload 6, 2) := by decide +kernel
theorem iX11_someTimes_132 : ins MX11_someTimes 132 = some (.iconst 2, 1) := by decide +kernel
theorem iX11_someTimes_133 : ins MX11_someTimes 133 = some (.iadd, 1) := by decide +kernel
theorem iX11_someTimes_134 : ins MX11_someTimes 134 = some (.iaload, 1) := by decide +kernel
theorem iX11_someTimes_135 : ins MX11_someTimes 135 = some (.aload_n 0, 1) := by decide +kernel
theorem iX11_someTimes_136 : ins MX11_someTimes 136 = some (.getfield 19, 3) := by decide +kernel
theorem iX11_someTimes_139 : ins MX11_someTimes 139 = some (.iload 6, 2) := by decide +kernel
theorem iX11_someTimes_141 : ins MX11_someTimes 141 = some (.iconst 3, 1) := by decide +kernel
theorem iX11_someTimes_142 : ins MX11_someTimes 142 = some (.iadd, 1) := by decide +kernel
theorem iX11_someTimes_143 : ins MX11_someTimes 143 = some (.iaload, 1) := by decide +kernel
theorem iX11_someTimes_144 : ins MX11_someTimes 144 = some (.invokevirtual 158, 3) := by decide +kernel
theorem iX11_someTimes_147 : ins MX11_someTimes 147 = some (.goto 13, 3) := by decide +kernel
theorem iX11_someTimes_150 : ins MX11_someTimes 150 = some (.aload_n 0, 1) := by decide +kernel
theorem iX11_someTimes_151 : ins MX11_someTimes 151 = some (.dup, 1) := by decide +kernel
theorem iX11_someTimes_152 : ins MX11_someTimes 152 = some (.getfield 148, 3) := by decide +kernel
theorem iX11_someTimes_155 : ins MX11_someTimes 155 = some (.iconst 1, 1) := by decide +kernel
theorem iX11_someTimes_156 : ins MX11_someTimes 156 = some (.iadd, 1) := by decide +kernel
theorem iX11_someTimes_157 : ins MX11_someTimes 157 = some (.putfield 148, 3) := by decide +kernel
theorem iX11_someTimes_160 : ins MX11_someTimes 160 = some (.iinc 5 1, 3) := by decide +kernel
theorem iX11_someTimes_163 : ins MX11_someTimes 163 = some (.goto (-83), 3) := by decide +kernel
theorem iX11_someTimes_166 : ins MX11_someTimes 166 = some (.iconst 1, 1) := by decide +kernel
theorem iX11_someTimes_167 : ins MX11_someTimes 167 = some (.ireturn, 1) := by decide +kernel
theorem iX11_state_0 : ins MX11_state 0 = some (.aload_n 0, 1) := by decide +kernel
theorem iX11_state_1 : ins MX11_state 1 = some (.getfield 7, 3) := by decide +kernel
theorem iX11_state_4 : ins MX11_state 4 = some (.iconst 2, 1) := by decide +kernel
theorem iX11_state_5 : ins MX11_state 5 = some (.iaload, 1) := by decide +kernel
theorem iX11_state_6 : ins MX11_state 6 = some (.istore_n 2, 1) := by decide +kernel
theorem iX11_state_7 : ins MX11_state 7 = some (.aload_n 0, 1) := by decide +kernel
theorem iX11_state_8 : ins MX11_state 8 = some (.getfield 7, 3) := by decide +kernel
theorem iX11_state_11 : ins MX11_state 11 = some (.iconst 2, 1) := by decide +kernel
theorem iX11_state_12 : ins MX11_state 12 = some (.iload_n 1, 1) := by decide +kernel
theorem iX11_state_13 : ins MX11_state 13 = some (.iastore, 1) := by decide +kernel
theorem iX11_state_14 : ins MX11_state 14 = some (.aload_n 0, 1) := by decide +kernel
theorem iX11_state_15 : ins MX11_state 15 = some (.iconst 0, 1) := by decide +kernel
theorem iX11_state_16 : ins MX11_state 16 = some (.putfield 69, 3) := by decide +kernel
theorem iX11_state_19 : ins MX11_state 19 = some (.iload_n 2, 1) := by decide +kernel
theorem iX11_state_20 : ins MX11_state 20 = some (.ireturn, 1) := by decide +kernel
theorem iX11_stool_0 : ins MX11_stool 0 = some (.iload_n 1, 1) := by decide +kernel
theorem iX11_stool_1 : ins MX11_stool 1 = some (.iconst 4, 1) := by decide +kernel
theorem iX11_stool_2 : ins MX11_stool 2 = some (.bipush 16, 2) := by decide +kernel
theorem iX11_stool_4 : ins MX11_stool 4 = some (.invokestatic 72, 3) := by decide +kernel
theorem iX11_stool_7 : ins MX11_stool 7 = some (.ifCond .ne 5, 3) := by decide +kernel
theorem iX11_stool_10 : ins MX11_stool 10 = some (.iconst 0, 1) := by decide +kernel
theorem iX11_stool_11 : ins MX11_stool 11 = some (.ireturn, 1) := by decide +kernel
theorem iX11_stool_12 : ins MX11_stool 12 = some (.aload_n 0, 1) := by decide +kernel
theorem iX11_stool_13 : ins MX11_stool 13 = some (.iload_n 1, 1) := by decide +kernel
theorem iX11_stool_14 : ins MX11_stool 14 = some (.invokevirtual 65, 3) := by decide +kernel
theorem iX11_stool_17 : ins MX11_stool 17 = some (.iconst 1, 1) := by decide +kernel
theorem iX11_stool_18 : ins MX11_stool 18 = some (.ireturn, 1) := by decide +kernel
theorem iX11_swaps_0 : ins MX11_swaps 0 = some (.aload_n 0, 1) := by decide +kernel
theorem iX11_swaps_1 : ins MX11_swaps 1 = some (.getfield 29, 3) := by decide +kernel
theorem iX11_swaps_4 : ins MX11_swaps 4 = some (.iload_n 1, 1) := by decide +kernel
theorem iX11_swaps_5 : ins MX11_swaps 5 = some (.iaload, 1) := by decide +kernel
theorem iX11_swaps_6 : ins MX11_swaps 6 = some (.istore 4, 2) := by decide +kernel
theorem iX11_swaps_8 : ins MX11_swaps 8 = some (.iload_n 1, 1) := by decide +kernel
theorem iX11_swaps_9 : ins MX11_swaps 9 = some (.iload_n 2, 1) := by decide +kernel
theorem iX11_swaps_10 : ins MX11_swaps 10 = some (.if_icmp .eq 16, 3) := by decide +kernel
theorem iX11_swaps_13 : ins MX11_swaps 13 = some (.aload_n 0, 1) := by decide +kernel
theorem iX11_swaps_14 : ins MX11_swaps 14 = some (.iload 4, 2) := by decide +kernel
theorem iX11_swaps_16 : ins MX11_swaps 16 = some (.aload_n 0, 1) := by decide +kernel
theorem iX11_swaps_17 : ins MX11_swaps 17 = some (.getfield 29, 3) := by decide +kernel
theorem iX11_swaps_20 : ins MX11_swaps 20 = some (.iload_n 2, 1) := by decide +kernel
theorem iX11_swaps_21 : ins MX11_swaps 21 = some (.iaload, 1) := by decide +kernel
theorem iX11_swaps_22 : ins MX11_swaps 22 = some (.iload_n 3, 1) := by decide +kernel
theorem iX11_swaps_23 : ins MX11_swaps 23 = some (.invokevirtual 181, 3) := by decide +kernel
theorem iX11_swaps_26 : ins MX11_swaps 26 = some (.aload_n 0, 1) := by decide +kernel
theorem iX11_swaps_27 : ins MX11_swaps 27 = some (.getfield 29, 3) := by decide +kernel
theorem iX11_swaps_30 : ins MX11_swaps 30 = some (.iload_n 1, 1) := by decide +kernel
theorem iX11_swaps_31 : ins MX11_swaps 31 = some (.aload_n 0, 1) := by decide +kernel
theorem iX11_swaps_32 : ins MX11_swaps 32 = some (.getfield 29, 3) := by decide +kernel
theorem iX11_swaps_35 : ins MX11_swaps 35 = some (.iload_n 2, 1) := by decide +kernel
theorem iX11_swaps_36 : ins MX11_swaps 36 = some (.iaload, 1) := by decide +kernel
theorem iX11_swaps_37 : ins MX11_swaps 37 = some (.iastore, 1) := by decide +kernel
theorem iX11_swaps_38 : ins MX11_swaps 38 = some (.aload_n 0, 1) := by decide +kernel
theorem iX11_swaps_39 : ins MX11_swaps 39 = some (.getfield 29, 3) := by decide +kernel
theorem iX11_swaps_42 : ins MX11_swaps 42 = some (.iload_n 2, 1) := by decide +kernel
theorem iX11_swaps_43 : ins MX11_swaps 43 = some (.iload 4, 2) := by decide +kernel
theorem iX11_swaps_45 : ins MX11_swaps 45 = some (.iastore, 1) := by decide +kernel
theorem iX11_swaps_46 : ins MX11_swaps 46 = some (.return_, 1) := by decide +kernel
theorem iX11_text_0 : ins MX11_text 0 = some (.aload_n 0, 1) := by decide +kernel
theorem iX11_text_1 : ins MX11_text 1 = some (.iconst 0, 1) := by decide +kernel
theorem iX11_text_2 : ins MX11_text 2 = some (.putfield 175, 3) := by decide +kernel
theorem iX11_text_5 : ins MX11_text 5 = some (.aload_n 0, 1) := by decide +kernel
theorem iX11_text_6 : ins MX11_text 6 = some (.iconst (-1), 1) := by decide +kernel
theorem iX11_text_7 : ins MX11_text 7 = some (.putfield 25, 3) := by decide +kernel
theorem iX11_text_10 : ins MX11_text 10 = some (.aload_n 0, 1) := by decide +kernel
theorem iX11_text_11 : ins MX11_text 11 = some (.iconst 0, 1) := by decide +kernel
theorem iX11_text_12 : ins MX11_text 12 = some (.putfield 136, 3) := by decide +kernel
theorem iX11_text_15 : ins MX11_text 15 = some (.aload_n 0, 1) := by decide +kernel
theorem iX11_text_16 : ins MX11_text 16 = some (.iconst 0, 1) := by decide +kernel
theorem iX11_text_17 : ins MX11_text 17 = some (.putfield 85, 3) := by decide +kernel
theorem iX11_text_20 : ins MX11_text 20 = some (.aload_n 0, 1) := by decide +kernel
theorem iX11_text_21 : ins MX11_text 21 = some (.iconst 0, 1) := by decide +kernel
theorem iX11_text_22 : ins MX11_text 22 = some (.putfield 148, 3) := by decide +kernel
theorem iX11_text_25 : ins MX11_text 25 = some (.iload_n 1, 1) := by decide +kernel
theorem iX11_text_26 : ins MX11_text 26 = some (.invokestatic 178, 3) := by decide +kernel
theorem iX11_text_29 : ins MX11_text 29 = some (.ifCond .ne 10, 3) := by decide +kernel
theorem iX11_text_32 : ins MX11_text 32 = some (.aload_n 0, 1) := by decide +kernel
theorem iX11_text_33 : ins MX11_text 33 = some (.iconst 0, 1) := by decide +kernel
theorem iX11_text_34 : ins MX11_text 34 = some (.putfield 82, 3) := by decide +kernel
theorem iX11_text_37 : ins MX11_text 37 = some (.iconst (-1), 1) := by decide +kernel
theorem iX11_text_38 : ins MX11_text 38 = some (.ireturn, 1) := by decide +kernel
theorem iX11_text_39 : ins MX11_text 39 = some (.aload_n 0, 1) := by decide +kernel
theorem iX11_text_40 : ins MX11_text 40 = some (.invokevirtual 145, 3) := by decide +kernel
theorem iX11_text_43 : ins MX11_text 43 = some (.aload_n 0, 1) := by decide +kernel
theorem iX11_text_44 : ins MX11_text 44 = some (.iconst 0, 1) := by decide +kernel
theorem iX11_text_45 : ins MX11_text 45 = some (.invokevirtual 162, 3) := by decide +kernel
theorem iX11_text_48 : ins MX11_text 48 = some (.istore_n 2, 1) := by decide +kernel
theorem iX11_text_49 : ins MX11_text 49 = some (.iload_n 2, 1) := by decide +kernel
theorem iX11_text_50 : ins MX11_text 50 = some (.ifCond .eq 16, 3) := by decide +kernel
theorem iX11_text_53 : ins MX11_text 53 = some (.aload_n 0, 1) := by decide +kernel
theorem iX11_text_54 : ins MX11_text 54 = some (.getfield 121, 3) := by decide +kernel
theorem iX11_text_57 : ins MX11_text 57 = some (.ifCond .eq 9, 3) := by decide +kernel
theorem iX11_text_60 : ins MX11_text 60 = some (.aload_n 0, 1) := by decide +kernel
theorem iX11_text_61 : ins MX11_text 61 = some (.iconst 1, 1) := by decide +kernel
theorem iX11_text_62 : ins MX11_text 62 = some (.invokevirtual 142, 3) := by decide +kernel
theorem iX11_text_65 : ins MX11_text 65 = some (.istore_n 2, 1) := by decide +kernel
theorem iX11_text_66 : ins MX11_text 66 = some (.iload_n 2, 1) := by decide +kernel
theorem iX11_text_67 : ins MX11_text 67 = some (.ifCond .eq 19, 3) := by decide +kernel
theorem iX11_text_70 : ins MX11_text 70 = some (.aload_n 0, 1) := by decide +kernel
theorem iX11_text_71 : ins MX11_text 71 = some (.getfield 148, 3) := by decide +kernel
theorem iX11_text_74 : ins MX11_text 74 = some (.sipush 200, 3) := by decide +kernel
theorem iX11_text_77 : ins MX11_text 77 = some (.if_icmp .le 9, 3) := by decide +kernel
theorem iX11_text_80 : ins MX11_text 80 = some (.aload_n 0, 1) := by decide +kernel
theorem iX11_text_81 : ins MX11_text 81 = some (.iconst 4, 1) := by decide +kernel
theorem iX11_text_82 : ins MX11_text 82 = some (.invokevirtual 142, 3) := by decide +kernel
theorem iX11_text_85 : ins MX11_text 85 = some (.istore_n 2, 1) := by decide +kernel
theorem iX11_text_86 : ins MX11_text 86 = some (.aload_n 0, 1) := by decide +kernel
theorem iX11_text_87 : ins MX11_text 87 = some (.iconst 0, 1) := by decide +kernel
theorem iX11_text_88 : ins MX11_text 88 = some (.putfield 82, 3) := by decide +kernel
theorem iX11_text_91 : ins MX11_text 91 = some (.iload_n 2, 1) := by decide +kernel
theorem iX11_text_92 : ins MX11_text 92 = some (.ifCond .ne 21, 3) := by decide +kernel
theorem iX11_text_95 : ins MX11_text 95 = some (.aload_n 0, 1) := by decide +kernel
theorem iX11_text_96 : ins MX11_text 96 = some (.aload_n 0, 1) := by decide +kernel
theorem iX11_text_97 : ins MX11_text 97 = some (.getfield 136, 3) := by decide +kernel
theorem iX11_text_100 : ins MX11_text 100 = some (.putfield 175, 3) := by decide +kernel
theorem iX11_text_103 : ins MX11_text 103 = some (.aload_n 0, 1) := by decide +kernel
theorem iX11_text_104 : ins MX11_text 104 = some (.aload_n 0, 1) := by decide +kernel
theorem iX11_text_105 : ins MX11_text 105 = some (.getfield 139, 3) := by decide +kernel
theorem iX11_text_108 : ins MX11_text 108 = some (.putfield 25, 3) := by decide +kernel
theorem iX11_text_111 : ins MX11_text 111 = some (.iconst (-1), 1) := by decide +kernel
theorem iX11_text_112 : ins MX11_text 112 = some (.ireturn, 1) := by decide +kernel
theorem iX11_text_113 : ins MX11_text 113 = some (.aload_n 0, 1) := by decide +kernel
theorem iX11_text_114 : ins MX11_text 114 = some (.getfield 7, 3) := by decide +kernel
theorem iX11_text_117 : ins MX11_text 117 = some (.sipush 975, 3) := by decide +kernel
theorem iX11_text_120 : ins MX11_text 120 = some (.iload_n 1, 1) := by decide +kernel
theorem iX11_text_121 : ins MX11_text 121 = some (.iadd, 1) := by decide +kernel
theorem iX11_text_122 : ins MX11_text 122 = some (.aload_n 0, 1) := by decide +kernel
theorem iX11_text_123 : ins MX11_text 123 = some (.getfield 148, 3) := by decide +kernel
theorem iX11_text_126 : ins MX11_text 126 = some (.iastore, 1) := by decide +kernel
theorem iX11_text_127 : ins MX11_text 127 = some (.iconst 0, 1) := by decide +kernel
theorem iX11_text_128 : ins MX11_text 128 = some (.istore_n 3, 1) := by decide +kernel
theorem iX11_text_129 : ins MX11_text 129 = some (.iload_n 3, 1) := by decide +kernel
theorem iX11_text_130 : ins MX11_text 130 = some (.iconst 4, 1) := by decide +kernel
theorem iX11_text_131 : ins MX11_text 131 = some (.aload_n 0, 1) := by decide +kernel
theorem iX11_text_132 : ins MX11_text 132 = some (.getfield 148, 3) := by decide +kernel
theorem iX11_text_135 : ins MX11_text 135 = some (.imul, 1) := by decide +kernel
theorem iX11_text_136 : ins MX11_text 136 = some (.if_icmp .ge 31, 3) := by decide +kernel
theorem iX11_text_139 : ins MX11_text 139 = some (.aload_n 0, 1) := by decide +kernel
theorem iX11_text_140 : ins MX11_text 140 = some (.getfield 7, 3) := by decide +kernel
theorem iX11_text_143 : ins MX11_text 143 = some (.sipush 980, 3) := by decide +kernel
theorem iX11_text_146 : ins MX11_text 146 = some (.sipush 800, 3) := by decide +kernel
theorem iX11_text_149 : ins MX11_text 149 = some (.iload_n 1, 1) := by decide +kernel
theorem iX11_text_150 : ins MX11_text 150 = some (.imul, 1) := by decide +kernel
theorem iX11_text_151 : ins MX11_text 151 = some (.iadd, 1) := by decide +kernel
theorem iX11_text_152 : ins MX11_text 152 = some (.iload_n 3, 1) := by decide +kernel
theorem iX11_text_153 : ins MX11_text 153 = some (.iadd, 1) := by decide +kernel
theorem iX11_text_154 : ins MX11_text 154 = some (.aload_n 0, 1) := by decide +kernel
theorem iX11_text_155 : ins MX11_text 155 = some (.getfield 19, 3) := by decide +kernel
theorem iX11_text_158 : ins MX11_text 158 = some (.iload_n 3, 1) := by decide +kernel
theorem iX11_text_159 : ins MX11_text 159 = some (.iaload, 1) := by decide +kernel
theorem iX11_text_160 : ins MX11_text 160 = some (.iastore, 1) := by decide +kernel
theorem iX11_text_161 : ins MX11_text 161 = some (.iinc 3 1, 3) := by decide +kernel
theorem iX11_text_164 : ins MX11_text 164 = some (.goto (-35), 3) := by decide +kernel
theorem iX11_text_167 : ins MX11_text 167 = some (.aload_n 0, 1) := by decide +kernel
theorem iX11_text_168 : ins MX11_text 168 = some (.getfield 148, 3) := by decide +kernel
theorem iX11_text_171 : ins MX11_text 171 = some (.ireturn, 1) := by decide +kernel
theorem iX11_turns_0 : ins MX11_turns 0 = some (.aload_n 0, 1) := by decide +kernel
theorem iX11_turns_1 : ins MX11_turns 1 = some (.getfield 7, 3) := by decide +kernel
theorem iX11_turns_4 : ins MX11_turns 4 = some (.iconst 0, 1) := by decide +kernel
theorem iX11_turns_5 : ins MX11_turns 5 = some (.iaload, 1) := by decide +kernel
theorem iX11_turns_6 : ins MX11_turns 6 = some (.istore_n 2, 1) := by decide +kernel
theorem iX11_turns_7 : ins MX11_turns 7 = some (.iconst 0, 1) := by decide +kernel
theorem iX11_turns_8 : ins MX11_turns 8 = some (.istore_n 3, 1) := by decide +kernel
theorem iX11_turns_9 : ins MX11_turns 9 = some (.iload_n 3, 1) := by decide +kernel
theorem iX11_turns_10 : ins MX11_turns 10 = some (.iload_n 2, 1) := by decide +kernel
theorem iX11_turns_11 : ins MX11_turns 11 = some (.if_icmp .ge 25, 3) := by decide +kernel
theorem iX11_turns_14 : ins MX11_turns 14 = some (.aload_n 0, 1) := by decide +kernel
theorem iX11_turns_15 : ins MX11_turns 15 = some (.getfield 32, 3) := by decide +kernel
theorem iX11_turns_18 : ins MX11_turns 18 = some (.iload_n 3, 1) := by decide +kernel
theorem iX11_turns_19 : ins MX11_turns 19 = some (.iload_n 1, 1) := by decide +kernel
theorem iX11_turns_20 : ins MX11_turns 20 = some (.iadd, 1) := by decide +kernel
theorem iX11_turns_21 : ins MX11_turns 21 = some (.iload_n 2, 1) := by decide +kernel
theorem iX11_turns_22 : ins MX11_turns 22 = some (.irem, 1) := by decide +kernel
theorem iX11_turns_23 : ins MX11_turns 23 = some (.aload_n 0, 1) := by decide +kernel
theorem iX11_turns_24 : ins MX11_turns 24 = some (.getfield 29, 3) := by decide +kernel
theorem iX11_turns_27 : ins MX11_turns 27 = some (.iload_n 3, 1) := by decide +kernel
theorem iX11_turns_28 : ins MX11_turns 28 = some (.iaload, 1) := by decide +kernel
theorem iX11_turns_29 : ins MX11_turns 29 = some (.iastore, 1) := by decide +kernel
theorem iX11_turns_30 : ins MX11_turns 30 = some (.iinc 3 1, 3) := by decide +kernel
theorem iX11_turns_33 : ins MX11_turns 33 = some (.goto (-24), 3) := by decide +kernel
theorem iX11_turns_36 : ins MX11_turns 36 = some (.iconst 0, 1) := by decide +kernel
theorem iX11_turns_37 : ins MX11_turns 37 = some (.istore_n 3, 1) := by decide +kernel
theorem iX11_turns_38 : ins MX11_turns 38 = some (.iload_n 3, 1) := by decide +kernel
theorem iX11_turns_39 : ins MX11_turns 39 = some (.iload_n 2, 1) := by decide +kernel
theorem iX11_turns_40 : ins MX11_turns 40 = some (.if_icmp .ge 21, 3) := by decide +kernel
theorem iX11_turns_43 : ins MX11_turns 43 = some (.aload_n 0, 1) := by decide +kernel
theorem iX11_turns_44 : ins MX11_turns 44 = some (.getfield 29, 3) := by decide +kernel
theorem iX11_turns_47 : ins MX11_turns 47 = some (.iload_n 3, 1) := by decide +kernel
theorem iX11_turns_48 : ins MX11_turns 48 = some (.aload_n 0, 1) := by decide +kernel
theorem iX11_turns_49 : ins MX11_turns 49 = some (.getfield 32, 3) := by decide +kernel
theorem iX11_turns_52 : ins MX11_turns 52 = some (.iload_n 3, 1) := by decide +kernel
theorem iX11_turns_53 : ins MX11_turns 53 = some (.iaload, 1) := by decide +kernel
theorem iX11_turns_54 : ins MX11_turns 54 = some (.iastore, 1) := by decide +kernel
theorem iX11_turns_55 : ins MX11_turns 55 = some (.iinc 3 1, 3) := by decide +kernel
theorem iX11_turns_58 : ins MX11_turns 58 = some (.goto (-20), 3) := by decide +kernel
theorem iX11_turns_61 : ins MX11_turns 61 = some (.return_, 1) := by decide +kernel
theorem iX11_undo_0 : ins MX11_undo 0 = some (.aload_n 0, 1) := by decide +kernel
theorem iX11_undo_1 : ins MX11_undo 1 = some (.getfield 69, 3) := by decide +kernel
theorem iX11_undo_4 : ins MX11_undo 4 = some (.ifCond .ne 5, 3) := by decide +kernel
theorem iX11_undo_7 : ins MX11_undo 7 = some (.iconst 0, 1) := by decide +kernel
theorem iX11_undo_8 : ins MX11_undo 8 = some (.ireturn, 1) := by decide +kernel
theorem iX11_undo_9 : ins MX11_undo 9 = some (.aload_n 0, 1) := by decide +kernel
theorem iX11_undo_10 : ins MX11_undo 10 = some (.dup, 1) := by decide +kernel
theorem iX11_undo_11 : ins MX11_undo 11 = some (.getfield 69, 3) := by decide +kernel
theorem iX11_undo_14 : ins MX11_undo 14 = some (.iconst 1, 1) := by decide +kernel
theorem iX11_undo_15 : ins MX11_undo 15 = some (.isub, 1) := by decide +kernel
theorem iX11_undo_16 : ins MX11_undo 16 = some (.putfield 69, 3) := by decide +kernel
theorem iX11_undo_19 : ins MX11_undo 19 = some (.iconst 0, 1) := by decide +kernel
theorem iX11_undo_20 : ins MX11_undo 20 = some (.istore_n 1, 1) := by decide +kernel
theorem iX11_undo_21 : ins MX11_undo 21 = some (.iload_n 1, 1) := by decide +kernel
theorem iX11_undo_22 : ins MX11_undo 22 = some (.sipush 316, 3) := by decide +kernel
theorem iX11_undo_25 : ins MX11_undo 25 = some (.if_icmp .ge 30, 3) := by decide +kernel
theorem iX11_undo_28 : ins MX11_undo 28 = some (.aload_n 0, 1) := by decide +kernel
theorem iX11_undo_29 : ins MX11_undo 29 = some (.getfield 7, 3) := by decide +kernel
theorem iX11_undo_32 : ins MX11_undo 32 = some (.iload_n 1, 1) := by decide +kernel
theorem iX11_undo_33 : ins MX11_undo 33 = some (.aload_n 0, 1) := by decide +kernel
theorem iX11_undo_34 : ins MX11_undo 34 = some (.getfield 16, 3) := by decide +kernel
theorem iX11_undo_37 : ins MX11_undo 37 = some (.sipush 316, 3) := by decide +kernel
theorem iX11_undo_40 : ins MX11_undo 40 = some (.aload_n 0, 1) := by decide +kernel
theorem iX11_undo_41 : ins MX11_undo 41 = some (.getfield 69, 3) := by decide +kernel
theorem iX11_undo_44 : ins MX11_undo 44 = some (.imul, 1) := by decide +kernel
theorem iX11_undo_45 : ins MX11_undo 45 = some (.iload_n 1, 1) := by decide +kernel
theorem iX11_undo_46 : ins MX11_undo 46 = some (.iadd, 1) := by decide +kernel
theorem iX11_undo_47 : ins MX11_undo 47 = some (.iaload, 1) := by decide +kernel
theorem iX11_undo_48 : ins MX11_undo 48 = some (.iastore, 1) := by decide +kernel
theorem iX11_undo_49 : ins MX11_undo 49 = some (.iinc 1 1, 3) := by decide +kernel
theorem iX11_undo_52 : ins MX11_undo 52 = some (.goto (-31), 3) := by decide +kernel
theorem iX11_undo_55 : ins MX11_undo 55 = some (.iconst 1, 1) := by decide +kernel
theorem iX11_undo_56 : ins MX11_undo 56 = some (.ireturn, 1) := by decide +kernel
theorem iX11_want_0 : ins MX11_want 0 = some (.aload_n 0, 1) := by decide +kernel
theorem iX11_want_1 : ins MX11_want 1 = some (.iload_n 1, 1) := by decide +kernel
theorem iX11_want_2 : ins MX11_want 2 = some (.invokevirtual 78, 3) := by decide +kernel
theorem iX11_want_5 : ins MX11_want 5 = some (.ifCond .eq 13, 3) := by decide +kernel
theorem iX11_want_8 : ins MX11_want 8 = some (.iload_n 2, 1) := by decide +kernel
theorem iX11_want_9 : ins MX11_want 9 = some (.iconst 0, 1) := by decide +kernel
theorem iX11_want_10 : ins MX11_want 10 = some (.bipush 9, 2) := by decide +kernel
theorem iX11_want_12 : ins MX11_want 12 = some (.invokestatic 72, 3) := by decide +kernel
theorem iX11_want_15 : ins MX11_want 15 = some (.ifCond .ne 5, 3) := by decide +kernel
theorem iX11_want_18 : ins MX11_want 18 = some (.iconst 0, 1) := by decide +kernel
theorem iX11_want_19 : ins MX11_want 19 = some (.ireturn, 1) := by decide +kernel
theorem iX11_want_20 : ins MX11_want 20 = some (.aload_n 0, 1) := by decide +kernel
theorem iX11_want_21 : ins MX11_want 21 = some (.getfield 7, 3) := by decide +kernel
theorem iX11_want_24 : ins MX11_want 24 = some (.sipush 920, 3) := by decide +kernel
theorem iX11_want_27 : ins MX11_want 27 = some (.iload_n 1, 1) := by decide +kernel
theorem iX11_want_28 : ins MX11_want 28 = some (.iadd, 1) := by decide +kernel
theorem iX11_want_29 : ins MX11_want 29 = some (.iload_n 2, 1) := by decide +kernel
theorem iX11_want_30 : ins MX11_want 30 = some (.iastore, 1) := by decide +kernel
theorem iX11_want_31 : ins MX11_want 31 = some (.iconst 1, 1) := by decide +kernel
theorem iX11_want_32 : ins MX11_want 32 = some (.ireturn, 1) := by decide +kernel
theorem iX11_where_0 : ins MX11_where 0 = some (.iload_n 1, 1) := by decide +kernel
theorem iX11_where_1 : ins MX11_where 1 = some (.invokestatic 178, 3) := by decide +kernel
theorem iX11_where_4 : ins MX11_where 4 = some (.ifCond .eq 21, 3) := by decide +kernel
theorem iX11_where_7 : ins MX11_where 7 = some (.aload_n 0, 1) := by decide +kernel
theorem iX11_where_8 : ins MX11_where 8 = some (.iload_n 2, 1) := by decide +kernel
theorem iX11_where_9 : ins MX11_where 9 = some (.invokevirtual 78, 3) := by decide +kernel
theorem iX11_where_12 : ins MX11_where 12 = some (.ifCond .eq 13, 3) := by decide +kernel
theorem iX11_where_15 : ins MX11_where 15 = some (.iload_n 3, 1) := by decide +kernel
theorem iX11_where_16 : ins MX11_where 16 = some (.iconst 0, 1) := by decide +kernel
theorem iX11_where_17 : ins MX11_where 17 = some (.bipush 99, 2) := by decide +kernel
theorem iX11_where_19 : ins MX11_where 19 = some (.invokestatic 72, 3) := by decide +kernel
theorem iX11_where_22 : ins MX11_where 22 = some (.ifCond .ne 5, 3) := by decide +kernel
theorem iX11_where_25 : ins MX11_where 25 = some (.iconst (-1), 1) := by decide +kernel
theorem iX11_where_26 : ins MX11_where 26 = some (.ireturn, 1) := by decide +kernel
theorem iX11_where_27 : ins MX11_where 27 = some (.aload_n 0, 1) := by decide +kernel
theorem iX11_where_28 : ins MX11_where 28 = some (.invokevirtual 202, 3) := by decide +kernel
theorem iX11_where_31 : ins MX11_where 31 = some (.iconst 0, 1) := by decide +kernel
theorem iX11_where_32 : ins MX11_where 32 = some (.istore 5, 2) := by decide +kernel
theorem iX11_where_34 : ins MX11_where 34 = some (.iload 5, 2) := by decide +kernel
theorem iX11_where_36 : ins MX11_where 36 = some (.iload_n 3, 1) := by decide +kernel
theorem iX11_where_37 : ins MX11_where 37 = some (.if_icmp .ge 17, 3) := by decide +kernel
theorem iX11_where_40 : ins MX11_where 40 = some (.aload_n 0, 1) := by decide +kernel
theorem iX11_where_41 : ins MX11_where 41 = some (.iload_n 1, 1) := by decide +kernel
theorem iX11_where_42 : ins MX11_where 42 = some (.iload 4, 2) := by decide +kernel
theorem iX11_where_44 : ins MX11_where 44 = some (.iconst (-1), 1) := by decide +kernel
theorem iX11_where_45 : ins MX11_where 45 = some (.invokevirtual 220, 3) := by decide +kernel
theorem iX11_where_48 : ins MX11_where 48 = some (.iinc 5 1, 3) := by decide +kernel
theorem iX11_where_51 : ins MX11_where 51 = some (.goto (-17), 3) := by decide +kernel
theorem iX11_where_54 : ins MX11_where 54 = some (.iconst 0, 1) := by decide +kernel
theorem iX11_where_55 : ins MX11_where 55 = some (.istore 5, 2) := by decide +kernel
theorem iX11_where_57 : ins MX11_where 57 = some (.aload_n 0, 1) := by decide +kernel
theorem iX11_where_58 : ins MX11_where 58 = some (.getfield 29, 3) := by decide +kernel
theorem iX11_where_61 : ins MX11_where 61 = some (.iload 5, 2) := by decide +kernel
theorem iX11_where_63 : ins MX11_where 63 = some (.iaload, 1) := by decide +kernel
theorem iX11_where_64 : ins MX11_where 64 = some (.iload_n 2, 1) := by decide +kernel
theorem iX11_where_65 : ins MX11_where 65 = some (.if_icmp .eq 9, 3) := by decide +kernel
theorem iX11_where_68 : ins MX11_where 68 = some (.iinc 5 1, 3) := by decide +kernel
theorem iX11_where_71 : ins MX11_where 71 = some (.goto (-14), 3) := by decide +kernel
theorem iX11_where_74 : ins MX11_where 74 = some (.iload 5, 2) := by decide +kernel
theorem iX11_where_76 : ins MX11_where 76 = some (.ireturn, 1) := by decide +kernel
theorem iX11_word_0 : ins MX11_word 0 = some (.aload_n 0, 1) := by decide +kernel
theorem iX11_word_1 : ins MX11_word 1 = some (.ldc 101, 2) := by decide +kernel
theorem iX11_word_3 : ins MX11_word 3 = some (.invokevirtual 103, 3) := by decide +kernel
theorem iX11_word_6 : ins MX11_word 6 = some (.ifCond .eq 5, 3) := by decide +kernel
theorem iX11_word_9 : ins MX11_word 9 = some (.iconst 3, 1) := by decide +kernel
theorem iX11_word_10 : ins MX11_word 10 = some (.ireturn, 1) := by decide +kernel
theorem iX11_word_11 : ins MX11_word 11 = some (.aload_n 0, 1) := by decide +kernel
theorem iX11_word_12 : ins MX11_word 12 = some (.ldc 107, 2) := by decide +kernel
theorem iX11_word_14 : ins MX11_word 14 = some (.invokevirtual 103, 3) := by decide +kernel
theorem iX11_word_17 : ins MX11_word 17 = some (.ifCond .eq 5, 3) := by decide +kernel
theorem iX11_word_20 : ins MX11_word 20 = some (.iconst 4, 1) := by decide +kernel
theorem iX11_word_21 : ins MX11_word 21 = some (.ireturn, 1) := by decide +kernel
theorem iX11_word_22 : ins MX11_word 22 = some (.aload_n 0, 1) := by decide +kernel
theorem iX11_word_23 : ins MX11_word 23 = some (.ldc 109, 2) := by decide +kernel
theorem iX11_word_25 : ins MX11_word 25 = some (.invokevirtual 103, 3) := by decide +kernel
theorem iX11_word_28 : ins MX11_word 28 = some (.ifCond .eq 5, 3) := by decide +kernel
theorem iX11_word_31 : ins MX11_word 31 = some (.iconst 5, 1) := by decide +kernel
theorem iX11_word_32 : ins MX11_word 32 = some (.ireturn, 1) := by decide +kernel
theorem iX11_word_33 : ins MX11_word 33 = some (.aload_n 0, 1) := by decide +kernel
theorem iX11_word_34 : ins MX11_word 34 = some (.ldc 111, 2) := by decide +kernel
theorem iX11_word_36 : ins MX11_word 36 = some (.invokevirtual 103, 3) := by decide +kernel
theorem iX11_word_39 : ins MX11_word 39 = some (.ifCond .eq 6, 3) := by decide +kernel
theorem iX11_word_42 : ins MX11_word 42 = some (.bipush 6, 2) := by decide +kernel
theorem iX11_word_44 : ins MX11_word 44 = some (.ireturn, 1) := by decide +kernel
theorem iX11_word_45 : ins MX11_word 45 = some (.aload_n 0, 1) := by decide +kernel
theorem iX11_word_46 : ins MX11_word 46 = some (.ldc 113, 2) := by decide +kernel
theorem iX11_word_48 : ins MX11_word 48 = some (.invokevirtual 103, 3) := by decide +kernel
theorem iX11_word_51 : ins MX11_word 51 = some (.ifCond .eq 6, 3) := by decide +kernel
theorem iX11_word_54 : ins MX11_word 54 = some (.bipush 7, 2) := by decide +kernel
theorem iX11_word_56 : ins MX11_word 56 = some (.ireturn, 1) := by decide +kernel
theorem iX11_word_57 : ins MX11_word 57 = some (.aload_n 0, 1) := by decide +kernel
theorem iX11_word_58 : ins MX11_word 58 = some (.ldc 115, 2) := by decide +kernel
theorem iX11_word_60 : ins MX11_word 60 = some (.invokevirtual 103, 3) := by decide +kernel
theorem iX11_word_63 : ins MX11_word 63 = some (.ifCond .eq 8, 3) := by decide +kernel
theorem iX11_word_66 : ins MX11_word 66 = some (.bipush 8, 2) := by decide +kernel
theorem iX11_word_68 : ins MX11_word 68 = some (.goto 4, 3) := by decide +kernel
theorem iX11_word_71 : ins MX11_word 71 = some (.iconst 1, 1) := by decide +kernel
theorem iX11_word_72 : ins MX11_word 72 = some (.ireturn, 1) := by decide +kernel
theorem iX11_writes_0 : ins MX11_writes 0 = some (.aload_n 0, 1) := by decide +kernel
theorem iX11_writes_1 : ins MX11_writes 1 = some (.getfield 7, 3) := by decide +kernel
theorem iX11_writes_4 : ins MX11_writes 4 = some (.iconst 3, 1) := by decide +kernel
theorem iX11_writes_5 : ins MX11_writes 5 = some (.iaload, 1) := by decide +kernel
theorem iX11_writes_6 : ins MX11_writes 6 = some (.sipush 300, 3) := by decide +kernel
theorem iX11_writes_9 : ins MX11_writes 9 = some (.if_icmp .ne 4, 3) := by decide +kernel
theorem iX11_writes_12 : ins MX11_writes 12 = some (.return_, 1) := by decide +kernel
theorem iX11_writes_13 : ins MX11_writes 13 = some (.aload_n 0, 1) := by decide +kernel
theorem iX11_writes_14 : ins MX11_writes 14 = some (.getfield 7, 3) := by decide +kernel
theorem iX11_writes_17 : ins MX11_writes 17 = some (.sipush 320, 3) := by decide +kernel
theorem iX11_writes_20 : ins MX11_writes 20 = some (.iconst 2, 1) := by decide +kernel
theorem iX11_writes_21 : ins MX11_writes 21 = some (.aload_n 0, 1) := by decide +kernel
theorem iX11_writes_22 : ins MX11_writes 22 = some (.getfield 7, 3) := by decide +kernel
theorem iX11_writes_25 : ins MX11_writes 25 = some (.iconst 3, 1) := by decide +kernel
theorem iX11_writes_26 : ins MX11_writes 26 = some (.iaload, 1) := by decide +kernel
theorem iX11_writes_27 : ins MX11_writes 27 = some (.imul, 1) := by decide +kernel
theorem iX11_writes_28 : ins MX11_writes 28 = some (.iadd, 1) := by decide +kernel
theorem iX11_writes_29 : ins MX11_writes 29 = some (.iload_n 1, 1) := by decide +kernel
theorem iX11_writes_30 : ins MX11_writes 30 = some (.iastore, 1) := by decide +kernel
theorem iX11_writes_31 : ins MX11_writes 31 = some (.aload_n 0, 1) := by decide +kernel
theorem iX11_writes_32 : ins MX11_writes 32 = some (.getfield 7, 3) := by decide +kernel
theorem iX11_writes_35 : ins MX11_writes 35 = some (.sipush 320, 3) := by decide +kernel
theorem iX11_writes_38 : ins MX11_writes 38 = some (.iconst 2, 1) := by decide +kernel
theorem iX11_writes_39 : ins MX11_writes 39 = some (.aload_n 0, 1) := by decide +kernel
theorem iX11_writes_40 : ins MX11_writes 40 = some (.getfield 7, 3) := by decide +kernel
theorem iX11_writes_43 : ins MX11_writes 43 = some (.iconst 3, 1) := by decide +kernel
theorem iX11_writes_44 : ins MX11_writes 44 = some (.iaload, 1) := by decide +kernel
theorem iX11_writes_45 : ins MX11_writes 45 = some (.imul, 1) := by decide +kernel
theorem iX11_writes_46 : ins MX11_writes 46 = some (.iadd, 1) := by decide +kernel
theorem iX11_writes_47 : ins MX11_writes 47 = some (.iconst 1, 1) := by decide +kernel
theorem iX11_writes_48 : ins MX11_writes 48 = some (.iadd, 1) := by decide +kernel
theorem iX11_writes_49 : ins MX11_writes 49 = some (.aload_n 0, 1) := by decide +kernel
theorem iX11_writes_50 : ins MX11_writes 50 = some (.getfield 7, 3) := by decide +kernel
theorem iX11_writes_53 : ins MX11_writes 53 = some (.bipush 10, 2) := by decide +kernel
theorem iX11_writes_55 : ins MX11_writes 55 = some (.iload_n 1, 1) := by decide +kernel
theorem iX11_writes_56 : ins MX11_writes 56 = some (.iadd, 1) := by decide +kernel
theorem iX11_writes_57 : ins MX11_writes 57 = some (.iaload, 1) := by decide +kernel
theorem iX11_writes_58 : ins MX11_writes 58 = some (.iastore, 1) := by decide +kernel
theorem iX11_writes_59 : ins MX11_writes 59 = some (.aload_n 0, 1) := by decide +kernel
theorem iX11_writes_60 : ins MX11_writes 60 = some (.getfield 7, 3) := by decide +kernel
theorem iX11_writes_63 : ins MX11_writes 63 = some (.iconst 3, 1) := by decide +kernel
theorem iX11_writes_64 : ins MX11_writes 64 = some (.dup2, 1) := by decide +kernel
theorem iX11_writes_65 : ins MX11_writes 65 = some (.iaload, 1) := by decide +kernel
theorem iX11_writes_66 : ins MX11_writes 66 = some (.iconst 1, 1) := by decide +kernel
theorem iX11_writes_67 : ins MX11_writes 67 = some (.iadd, 1) := by decide +kernel
theorem iX11_writes_68 : ins MX11_writes 68 = some (.iastore, 1) := by decide +kernel
theorem iX11_writes_69 : ins MX11_writes 69 = some (.return_, 1) := by decide +kernel
theorem iL_law_0 : ins ML_law 0 = some (.new 7, 3) := by decide +kernel
theorem iL_law_3 : ins ML_law 3 = some (.dup, 1) := by decide +kernel
theorem iL_law_4 : ins ML_law 4 = some (.invokespecial 9, 3) := by decide +kernel
theorem iL_law_7 : ins ML_law 7 = some (.astore_n 1, 1) := by decide +kernel
theorem iL_law_8 : ins ML_law 8 = some (.new 10, 3) := by decide +kernel
theorem iL_law_11 : ins ML_law 11 = some (.dup, 1) := by decide +kernel
theorem iL_law_12 : ins ML_law 12 = some (.invokespecial 12, 3) := by decide +kernel
theorem iL_law_15 : ins ML_law 15 = some (.astore_n 2, 1) := by decide +kernel
theorem iL_law_16 : ins ML_law 16 = some (.iconst 0, 1) := by decide +kernel
theorem iL_law_17 : ins ML_law 17 = some (.istore_n 3, 1) := by decide +kernel
theorem iL_law_18 : ins ML_law 18 = some (.iload_n 3, 1) := by decide +kernel
theorem iL_law_19 : ins ML_law 19 = some (.aload_n 0, 1) := by decide +kernel
theorem iL_law_20 : ins ML_law 20 = some (.arraylength, 1) := by decide +kernel
theorem iL_law_21 : ins ML_law 21 = some (.bipush 6, 2) := by decide +kernel
theorem iL_law_23 : ins ML_law 23 = some (.isub, 1) := by decide +kernel
theorem iL_law_24 : ins ML_law 24 = some (.if_icmp .gt 1035, 3) := by decide +kernel
theorem iL_law_27 : ins ML_law 27 = some (.aload_n 0, 1) := by decide +kernel
theorem iL_law_28 : ins ML_law 28 = some (.iload_n 3, 1) := by decide +kernel
theorem iL_law_29 : ins ML_law 29 = some (.iaload, 1) := by decide +kernel
theorem iL_law_30 : ins ML_law 30 = some (.bipush 31, 2) := by decide +kernel
theorem iL_law_32 : ins ML_law 32 = some (.iand, 1) := by decide +kernel
theorem iL_law_33 : ins ML_law 33 = some (.tableswitch 1020 0 28 #[131, 154, 177, 210, 233, 296, 319, 342, 365, 398, 431, 464, 497, 530, 563, 632, 665, 688, 711, 754, 787, 820, 843, 866, 889, 922, 945, 958, 997], 131) := by decide +kernel
theorem iL_law_164 : ins ML_law 164 = some (.aload_n 1, 1) := by decide +kernel
theorem iL_law_165 : ins ML_law 165 = some (.aload_n 0, 1) := by decide +kernel
theorem iL_law_166 : ins ML_law 166 = some (.iload_n 3, 1) := by decide +kernel
theorem iL_law_167 : ins ML_law 167 = some (.iconst 1, 1) := by decide +kernel
theorem iL_law_168 : ins ML_law 168 = some (.iadd, 1) := by decide +kernel
theorem iL_law_169 : ins ML_law 169 = some (.iaload, 1) := by decide +kernel
theorem iL_law_170 : ins ML_law 170 = some (.invokevirtual 13, 3) := by decide +kernel
theorem iL_law_173 : ins ML_law 173 = some (.aload_n 2, 1) := by decide +kernel
theorem iL_law_174 : ins ML_law 174 = some (.aload_n 0, 1) := by decide +kernel
theorem iL_law_175 : ins ML_law 175 = some (.iload_n 3, 1) := by decide +kernel
theorem iL_law_176 : ins ML_law 176 = some (.iconst 1, 1) := by decide +kernel
theorem iL_law_177 : ins ML_law 177 = some (.iadd, 1) := by decide +kernel
theorem iL_law_178 : ins ML_law 178 = some (.iaload, 1) := by decide +kernel
theorem iL_law_179 : ins ML_law 179 = some (.invokevirtual 17, 3) := by decide +kernel
theorem iL_law_182 : ins ML_law 182 = some (.if_icmp .eq 871, 3) := by decide +kernel
theorem iL_law_185 : ins ML_law 185 = some (.iconst 0, 1) := by decide +kernel
theorem iL_law_186 : ins ML_law 186 = some (.ireturn, 1) := by decide +kernel
theorem iL_law_187 : ins ML_law 187 = some (.aload_n 1, 1) := by decide +kernel
theorem iL_law_188 : ins ML_law 188 = some (.aload_n 0, 1) := by decide +kernel
theorem iL_law_189 : ins ML_law 189 = some (.iload_n 3, 1) := by decide +kernel
theorem iL_law_190 : ins ML_law 190 = some (.iconst 1, 1) := by decide +kernel
theorem iL_law_191 : ins ML_law 191 = some (.iadd, 1) := by decide +kernel
theorem iL_law_192 : ins ML_law 192 = some (.iaload, 1) := by decide +kernel
theorem iL_law_193 : ins ML_law 193 = some (.invokevirtual 18, 3) := by decide +kernel
theorem iL_law_196 : ins ML_law 196 = some (.aload_n 2, 1) := by decide +kernel
theorem iL_law_197 : ins ML_law 197 = some (.aload_n 0, 1) := by decide +kernel
theorem iL_law_198 : ins ML_law 198 = some (.iload_n 3, 1) := by decide +kernel
theorem iL_law_199 : ins ML_law 199 = some (.iconst 1, 1) := by decide +kernel
theorem iL_law_200 : ins ML_law 200 = some (.iadd, 1) := by decide +kernel
theorem iL_law_201 : ins ML_law 201 = some (.iaload, 1) := by decide +kernel
theorem iL_law_202 : ins ML_law 202 = some (.invokevirtual 22, 3) := by decide +kernel
theorem iL_law_205 : ins ML_law 205 = some (.if_icmp .eq 848, 3) := by decide +kernel
theorem iL_law_208 : ins ML_law 208 = some (.iconst 0, 1) := by decide +kernel
theorem iL_law_209 : ins ML_law 209 = some (.ireturn, 1) := by decide +kernel
theorem iL_law_210 : ins ML_law 210 = some (.aload_n 1, 1) := by decide +kernel
theorem iL_law_211 : ins ML_law 211 = some (.aload_n 0, 1) := by decide +kernel
theorem iL_law_212 : ins ML_law 212 = some (.iload_n 3, 1) := by decide +kernel
theorem iL_law_213 : ins ML_law 213 = some (.iconst 1, 1) := by decide +kernel
theorem iL_law_214 : ins ML_law 214 = some (.iadd, 1) := by decide +kernel
theorem iL_law_215 : ins ML_law 215 = some (.iaload, 1) := by decide +kernel
theorem iL_law_216 : ins ML_law 216 = some (.aload_n 0, 1) := by decide +kernel
theorem iL_law_217 : ins ML_law 217 = some (.iload_n 3, 1) := by decide +kernel
theorem iL_law_218 : ins ML_law 218 = some (.iconst 2, 1) := by decide +kernel
theorem iL_law_219 : ins ML_law 219 = some (.iadd, 1) := by decide +kernel
theorem iL_law_220 : ins ML_law 220 = some (.iaload, 1) := by decide +kernel
theorem iL_law_221 : ins ML_law 221 = some (.invokevirtual 23, 3) := by decide +kernel
theorem iL_law_224 : ins ML_law 224 = some (.aload_n 2, 1) := by decide +kernel
theorem iL_law_225 : ins ML_law 225 = some (.aload_n 0, 1) := by decide +kernel
theorem iL_law_226 : ins ML_law 226 = some (.iload_n 3, 1) := by decide +kernel
theorem iL_law_227 : ins ML_law 227 = some (.iconst 1, 1) := by decide +kernel
theorem iL_law_228 : ins ML_law 228 = some (.iadd, 1) := by decide +kernel
theorem iL_law_229 : ins ML_law 229 = some (.iaload, 1) := by decide +kernel
theorem iL_law_230 : ins ML_law 230 = some (.aload_n 0, 1) := by decide +kernel
theorem iL_law_231 : ins ML_law 231 = some (.iload_n 3, 1) := by decide +kernel
theorem iL_law_232 : ins ML_law 232 = some (.iconst 2, 1) := by decide +kernel
theorem iL_law_233 : ins ML_law 233 = some (.iadd, 1) := by decide +kernel
theorem iL_law_234 : ins ML_law 234 = some (.iaload, 1) := by decide +kernel
theorem iL_law_235 : ins ML_law 235 = some (.invokevirtual 27, 3) := by decide +kernel
theorem iL_law_238 : ins ML_law 238 = some (.if_icmp .eq 815, 3) := by decide +kernel
theorem iL_law_241 : ins ML_law 241 = some (.iconst 0, 1) := by decide +kernel
theorem iL_law_242 : ins ML_law 242 = some (.ireturn, 1) := by decide +kernel
theorem iL_law_243 : ins ML_law 243 = some (.aload_n 1, 1) := by decide +kernel
theorem iL_law_244 : ins ML_law 244 = some (.aload_n 0, 1) := by decide +kernel
theorem iL_law_245 : ins ML_law 245 = some (.iload_n 3, 1) := by decide +kernel
theorem iL_law_246 : ins ML_law 246 = some (.iconst 1, 1) := by decide +kernel
theorem iL_law_247 : ins ML_law 247 = some (.iadd, 1) := by decide +kernel
theorem iL_law_248 : ins ML_law 248 = some (.iaload, 1) := by decide +kernel
theorem iL_law_249 : ins ML_law 249 = some (.invokevirtual 28, 3) := by decide +kernel
theorem iL_law_252 : ins ML_law 252 = some (.aload_n 2, 1) := by decide +kernel
theorem iL_law_253 : ins ML_law 253 = some (.aload_n 0, 1) := by decide +kernel
theorem iL_law_254 : ins ML_law 254 = some (.iload_n 3, 1) := by decide +kernel
theorem iL_law_255 : ins ML_law 255 = some (.iconst 1, 1) := by decide +kernel
theorem iL_law_256 : ins ML_law 256 = some (.iadd, 1) := by decide +kernel
theorem iL_law_257 : ins ML_law 257 = some (.iaload, 1) := by decide +kernel
theorem iL_law_258 : ins ML_law 258 = some (.invokevirtual 31, 3) := by decide +kernel
theorem iL_law_261 : ins ML_law 261 = some (.if_icmp .eq 792, 3) := by decide +kernel
theorem iL_law_264 : ins ML_law 264 = some (.iconst 0, 1) := by decide +kernel
theorem iL_law_265 : ins ML_law 265 = some (.ireturn, 1) := by decide +kernel
theorem iL_law_266 : ins ML_law 266 = some (.aload_n 1, 1) := by decide +kernel
theorem iL_law_267 : ins ML_law 267 = some (.aload_n 0, 1) := by decide +kernel
theorem iL_law_268 : ins ML_law 268 = some (.iload_n 3, 1) := by decide +kernel
theorem iL_law_269 : ins ML_law 269 = some (.iconst 1, 1) := by decide +kernel
theorem iL_law_270 : ins ML_law 270 = some (.iadd, 1) := by decide +kernel
theorem iL_law_271 : ins ML_law 271 = some (.iaload, 1) := by decide +kernel
theorem iL_law_272 : ins ML_law 272 = some (.aload_n 0, 1) := by decide +kernel
theorem iL_law_273 : ins ML_law 273 = some (.iload_n 3, 1) := by decide +kernel
theorem iL_law_274 : ins ML_law 274 = some (.iconst 2, 1) := by decide +kernel
theorem iL_law_275 : ins ML_law 275 = some (.iadd, 1) := by decide +kernel
theorem iL_law_276 : ins ML_law 276 = some (.iaload, 1) := by decide +kernel
theorem iL_law_277 : ins ML_law 277 = some (.aload_n 0, 1) := by decide +kernel
theorem iL_law_278 : ins ML_law 278 = some (.iload_n 3, 1) := by decide +kernel
theorem iL_law_279 : ins ML_law 279 = some (.iconst 3, 1) := by decide +kernel
theorem iL_law_280 : ins ML_law 280 = some (.iadd, 1) := by decide +kernel
theorem iL_law_281 : ins ML_law 281 = some (.iaload, 1) := by decide +kernel
theorem iL_law_282 : ins ML_law 282 = some (.aload_n 0, 1) := by decide +kernel
theorem iL_law_283 : ins ML_law 283 = some (.iload_n 3, 1) := by decide +kernel
theorem iL_law_284 : ins ML_law 284 = some (.iconst 4, 1) := by decide +kernel
theorem iL_law_285 : ins ML_law 285 = some (.iadd, 1) := by decide +kernel
theorem iL_law_286 : ins ML_law 286 = some (.iaload, 1) := by decide +kernel
theorem iL_law_287 : ins ML_law 287 = some (.aload_n 0, 1) := by decide +kernel
theorem iL_law_288 : ins ML_law 288 = some (.iload_n 3, 1) := by decide +kernel
theorem iL_law_289 : ins ML_law 289 = some (.iconst 5, 1) := by decide +kernel
theorem iL_law_290 : ins ML_law 290 = some (.iadd, 1) := by decide +kernel
theorem iL_law_291 : ins ML_law 291 = some (.iaload, 1) := by decide +kernel
theorem iL_law_292 : ins ML_law 292 = some (.invokevirtual 32, 3) := by decide +kernel
theorem iL_law_295 : ins ML_law 295 = some (.aload_n 2, 1) := by decide +kernel
theorem iL_law_296 : ins ML_law 296 = some (.aload_n 0, 1) := by decide +kernel
theorem iL_law_297 : ins ML_law 297 = some (.iload_n 3, 1) := by decide +kernel
theorem iL_law_298 : ins ML_law 298 = some (.iconst 1, 1) := by decide +kernel
theorem iL_law_299 : ins ML_law 299 = some (.iadd, 1) := by decide +kernel
theorem iL_law_300 : ins ML_law 300 = some (.iaload, 1) := by decide +kernel
theorem iL_law_301 : ins ML_law 301 = some (.aload_n 0, 1) := by decide +kernel
theorem iL_law_302 : ins ML_law 302 = some (.iload_n 3, 1) := by decide +kernel
theorem iL_law_303 : ins ML_law 303 = some (.iconst 2, 1) := by decide +kernel
theorem iL_law_304 : ins ML_law 304 = some (.iadd, 1) := by decide +kernel
theorem iL_law_305 : ins ML_law 305 = some (.iaload, 1) := by decide +kernel
theorem iL_law_306 : ins ML_law 306 = some (.aload_n 0, 1) := by decide +kernel
theorem iL_law_307 : ins ML_law 307 = some (.iload_n 3, 1) := by decide +kernel
theorem iL_law_308 : ins ML_law 308 = some (.iconst 3, 1) := by decide +kernel
theorem iL_law_309 : ins ML_law 309 = some (.iadd, 1) := by decide +kernel
theorem iL_law_310 : ins ML_law 310 = some (.iaload, 1) := by decide +kernel
theorem iL_law_311 : ins ML_law 311 = some (.aload_n 0, 1) := by decide +kernel
theorem iL_law_312 : ins ML_law 312 = some (.iload_n 3, 1) := by decide +kernel
theorem iL_law_313 : ins ML_law 313 = some (.iconst 4, 1) := by decide +kernel
theorem iL_law_314 : ins ML_law 314 = some (.iadd, 1) := by decide +kernel
theorem iL_law_315 : ins ML_law 315 = some (.iaload, 1) := by decide +kernel
theorem iL_law_316 : ins ML_law 316 = some (.aload_n 0, 1) := by decide +kernel
theorem iL_law_317 : ins ML_law 317 = some (.iload_n 3, 1) := by decide +kernel
theorem iL_law_318 : ins ML_law 318 = some (.iconst 5, 1) := by decide +kernel
theorem iL_law_319 : ins ML_law 319 = some (.iadd, 1) := by decide +kernel
theorem iL_law_320 : ins ML_law 320 = some (.iaload, 1) := by decide +kernel
theorem iL_law_321 : ins ML_law 321 = some (.invokevirtual 36, 3) := by decide +kernel
theorem iL_law_324 : ins ML_law 324 = some (.if_icmp .eq 729, 3) := by decide +kernel
theorem iL_law_327 : ins ML_law 327 = some (.iconst 0, 1) := by decide +kernel
theorem iL_law_328 : ins ML_law 328 = some (.ireturn, 1) := by decide +kernel
theorem iL_law_329 : ins ML_law 329 = some (.aload_n 1, 1) := by decide +kernel
theorem iL_law_330 : ins ML_law 330 = some (.aload_n 0, 1) := by decide +kernel
theorem iL_law_331 : ins ML_law 331 = some (.iload_n 3, 1) := by decide +kernel
theorem iL_law_332 : ins ML_law 332 = some (.iconst 1, 1) := by decide +kernel
theorem iL_law_333 : ins ML_law 333 = some (.iadd, 1) := by decide +kernel
theorem iL_law_334 : ins ML_law 334 = some (.iaload, 1) := by decide +kernel
theorem iL_law_335 : ins ML_law 335 = some (.invokevirtual 37, 3) := by decide +kernel
theorem iL_law_338 : ins ML_law 338 = some (.aload_n 2, 1) := by decide +kernel
theorem iL_law_339 : ins ML_law 339 = some (.aload_n 0, 1) := by decide +kernel
theorem iL_law_340 : ins ML_law 340 = some (.iload_n 3, 1) := by decide +kernel
theorem iL_law_341 : ins ML_law 341 = some (.iconst 1, 1) := by decide +kernel
theorem iL_law_342 : ins ML_law 342 = some (.iadd, 1) := by decide +kernel
theorem iL_law_343 : ins ML_law 343 = some (.iaload, 1) := by decide +kernel
theorem iL_law_344 : ins ML_law 344 = some (.invokevirtual 40, 3) := by decide +kernel
theorem iL_law_347 : ins ML_law 347 = some (.if_icmp .eq 706, 3) := by decide +kernel
theorem iL_law_350 : ins ML_law 350 = some (.iconst 0, 1) := by decide +kernel
theorem iL_law_351 : ins ML_law 351 = some (.ireturn, 1) := by decide +kernel
theorem iL_law_352 : ins ML_law 352 = some (.aload_n 1, 1) := by decide +kernel
theorem iL_law_353 : ins ML_law 353 = some (.aload_n 0, 1) := by decide +kernel
theorem iL_law_354 : ins ML_law 354 = some (.iload_n 3, 1) := by decide +kernel
theorem iL_law_355 : ins ML_law 355 = some (.iconst 1, 1) := by decide +kernel
theorem iL_law_356 : ins ML_law 356 = some (.iadd, 1) := by decide +kernel
theorem iL_law_357 : ins ML_law 357 = some (.iaload, 1) := by decide +kernel
theorem iL_law_358 : ins ML_law 358 = some (.invokevirtual 41, 3) := by decide +kernel
theorem iL_law_361 : ins ML_law 361 = some (.aload_n 2, 1) := by decide +kernel
theorem iL_law_362 : ins ML_law 362 = some (.aload_n 0, 1) := by decide +kernel
theorem iL_law_363 : ins ML_law 363 = some (.iload_n 3, 1) := by decide +kernel
theorem iL_law_364 : ins ML_law 364 = some (.iconst 1, 1) := by decide +kernel
theorem iL_law_365 : ins ML_law 365 = some (.iadd, 1) := by decide +kernel
theorem iL_law_366 : ins ML_law 366 = some (.iaload, 1) := by decide +kernel
theorem iL_law_367 : ins ML_law 367 = some (.invokevirtual 44, 3) := by decide +kernel
theorem iL_law_370 : ins ML_law 370 = some (.if_icmp .eq 683, 3) := by decide +kernel
theorem iL_law_373 : ins ML_law 373 = some (.iconst 0, 1) := by decide +kernel
theorem iL_law_374 : ins ML_law 374 = some (.ireturn, 1) := by decide +kernel
theorem iL_law_375 : ins ML_law 375 = some (.aload_n 1, 1) := by decide +kernel
theorem iL_law_376 : ins ML_law 376 = some (.aload_n 0, 1) := by decide +kernel
theorem iL_law_377 : ins ML_law 377 = some (.iload_n 3, 1) := by decide +kernel
theorem iL_law_378 : ins ML_law 378 = some (.iconst 1, 1) := by decide +kernel
theorem iL_law_379 : ins ML_law 379 = some (.iadd, 1) := by decide +kernel
theorem iL_law_380 : ins ML_law 380 = some (.iaload, 1) := by decide +kernel
theorem iL_law_381 : ins ML_law 381 = some (.invokevirtual 45, 3) := by decide +kernel
theorem iL_law_384 : ins ML_law 384 = some (.aload_n 2, 1) := by decide +kernel
theorem iL_law_385 : ins ML_law 385 = some (.aload_n 0, 1) := by decide +kernel
theorem iL_law_386 : ins ML_law 386 = some (.iload_n 3, 1) := by decide +kernel
theorem iL_law_387 : ins ML_law 387 = some (.iconst 1, 1) := by decide +kernel
theorem iL_law_388 : ins ML_law 388 = some (.iadd, 1) := by decide +kernel
theorem iL_law_389 : ins ML_law 389 = some (.iaload, 1) := by decide +kernel
theorem iL_law_390 : ins ML_law 390 = some (.invokevirtual 48, 3) := by decide +kernel
theorem iL_law_393 : ins ML_law 393 = some (.if_icmp .eq 660, 3) := by decide +kernel
theorem iL_law_396 : ins ML_law 396 = some (.iconst 0, 1) := by decide +kernel
theorem iL_law_397 : ins ML_law 397 = some (.ireturn, 1) := by decide +kernel
theorem iL_law_398 : ins ML_law 398 = some (.aload_n 1, 1) := by decide +kernel
theorem iL_law_399 : ins ML_law 399 = some (.aload_n 0, 1) := by decide +kernel
theorem iL_law_400 : ins ML_law 400 = some (.iload_n 3, 1) := by decide +kernel
theorem iL_law_401 : ins ML_law 401 = some (.iconst 1, 1) := by decide +kernel
theorem iL_law_402 : ins ML_law 402 = some (.iadd, 1) := by decide +kernel
theorem iL_law_403 : ins ML_law 403 = some (.iaload, 1) := by decide +kernel
theorem iL_law_404 : ins ML_law 404 = some (.aload_n 0, 1) := by decide +kernel
theorem iL_law_405 : ins ML_law 405 = some (.iload_n 3, 1) := by decide +kernel
theorem iL_law_406 : ins ML_law 406 = some (.iconst 2, 1) := by decide +kernel
theorem iL_law_407 : ins ML_law 407 = some (.iadd, 1) := by decide +kernel
theorem iL_law_408 : ins ML_law 408 = some (.iaload, 1) := by decide +kernel
theorem iL_law_409 : ins ML_law 409 = some (.invokevirtual 49, 3) := by decide +kernel
theorem iL_law_412 : ins ML_law 412 = some (.aload_n 2, 1) := by decide +kernel
theorem iL_law_413 : ins ML_law 413 = some (.aload_n 0, 1) := by decide +kernel
theorem iL_law_414 : ins ML_law 414 = some (.iload_n 3, 1) := by decide +kernel
theorem iL_law_415 : ins ML_law 415 = some (.iconst 1, 1) := by decide +kernel
theorem iL_law_416 : ins ML_law 416 = some (.iadd, 1) := by decide +kernel
theorem iL_law_417 : ins ML_law 417 = some (.iaload, 1) := by decide +kernel
theorem iL_law_418 : ins ML_law 418 = some (.aload_n 0, 1) := by decide +kernel
theorem iL_law_419 : ins ML_law 419 = some (.iload_n 3, 1) := by decide +kernel
theorem iL_law_420 : ins ML_law 420 = some (.iconst 2, 1) := by decide +kernel
theorem iL_law_421 : ins ML_law 421 = some (.iadd, 1) := by decide +kernel
theorem iL_law_422 : ins ML_law 422 = some (.iaload, 1) := by decide +kernel
theorem iL_law_423 : ins ML_law 423 = some (.invokevirtual 53, 3) := by decide +kernel
theorem iL_law_426 : ins ML_law 426 = some (.if_icmp .eq 627, 3) := by decide +kernel
theorem iL_law_429 : ins ML_law 429 = some (.iconst 0, 1) := by decide +kernel
theorem iL_law_430 : ins ML_law 430 = some (.ireturn, 1) := by decide +kernel
theorem iL_law_431 : ins ML_law 431 = some (.aload_n 1, 1) := by decide +kernel
theorem iL_law_432 : ins ML_law 432 = some (.aload_n 0, 1) := by decide +kernel
theorem iL_law_433 : ins ML_law 433 = some (.iload_n 3, 1) := by decide +kernel
theorem iL_law_434 : ins ML_law 434 = some (.iconst 1, 1) := by decide +kernel
theorem iL_law_435 : ins ML_law 435 = some (.iadd, 1) := by decide +kernel
theorem iL_law_436 : ins ML_law 436 = some (.iaload, 1) := by decide +kernel
theorem iL_law_437 : ins ML_law 437 = some (.aload_n 0, 1) := by decide +kernel
theorem iL_law_438 : ins ML_law 438 = some (.iload_n 3, 1) := by decide +kernel
theorem iL_law_439 : ins ML_law 439 = some (.iconst 2, 1) := by decide +kernel
theorem iL_law_440 : ins ML_law 440 = some (.iadd, 1) := by decide +kernel
theorem iL_law_441 : ins ML_law 441 = some (.iaload, 1) := by decide +kernel
theorem iL_law_442 : ins ML_law 442 = some (.invokevirtual 54, 3) := by decide +kernel
theorem iL_law_445 : ins ML_law 445 = some (.aload_n 2, 1) := by decide +kernel
theorem iL_law_446 : ins ML_law 446 = some (.aload_n 0, 1) := by decide +kernel
theorem iL_law_447 : ins ML_law 447 = some (.iload_n 3, 1) := by decide +kernel
theorem iL_law_448 : ins ML_law 448 = some (.iconst 1, 1) := by decide +kernel
theorem iL_law_449 : ins ML_law 449 = some (.iadd, 1) := by decide +kernel
theorem iL_law_450 : ins ML_law 450 = some (.iaload, 1) := by decide +kernel
theorem iL_law_451 : ins ML_law 451 = some (.aload_n 0, 1) := by decide +kernel
theorem iL_law_452 : ins ML_law 452 = some (.iload_n 3, 1) := by decide +kernel
theorem iL_law_453 : ins ML_law 453 = some (.iconst 2, 1) := by decide +kernel
theorem iL_law_454 : ins ML_law 454 = some (.iadd, 1) := by decide +kernel
theorem iL_law_455 : ins ML_law 455 = some (.iaload, 1) := by decide +kernel
theorem iL_law_456 : ins ML_law 456 = some (.invokevirtual 57, 3) := by decide +kernel
theorem iL_law_459 : ins ML_law 459 = some (.if_icmp .eq 594, 3) := by decide +kernel
theorem iL_law_462 : ins ML_law 462 = some (.iconst 0, 1) := by decide +kernel
theorem iL_law_463 : ins ML_law 463 = some (.ireturn, 1) := by decide +kernel
theorem iL_law_464 : ins ML_law 464 = some (.aload_n 1, 1) := by decide +kernel
theorem iL_law_465 : ins ML_law 465 = some (.aload_n 0, 1) := by decide +kernel
theorem iL_law_466 : ins ML_law 466 = some (.iload_n 3, 1) := by decide +kernel
theorem iL_law_467 : ins ML_law 467 = some (.iconst 1, 1) := by decide +kernel
theorem iL_law_468 : ins ML_law 468 = some (.iadd, 1) := by decide +kernel
theorem iL_law_469 : ins ML_law 469 = some (.iaload, 1) := by decide +kernel
theorem iL_law_470 : ins ML_law 470 = some (.aload_n 0, 1) := by decide +kernel
theorem iL_law_471 : ins ML_law 471 = some (.iload_n 3, 1) := by decide +kernel
theorem iL_law_472 : ins ML_law 472 = some (.iconst 2, 1) := by decide +kernel
theorem iL_law_473 : ins ML_law 473 = some (.iadd, 1) := by decide +kernel
theorem iL_law_474 : ins ML_law 474 = some (.iaload, 1) := by decide +kernel
theorem iL_law_475 : ins ML_law 475 = some (.invokevirtual 58, 3) := by decide +kernel
theorem iL_law_478 : ins ML_law 478 = some (.aload_n 2, 1) := by decide +kernel
theorem iL_law_479 : ins ML_law 479 = some (.aload_n 0, 1) := by decide +kernel
theorem iL_law_480 : ins ML_law 480 = some (.iload_n 3, 1) := by decide +kernel
theorem iL_law_481 : ins ML_law 481 = some (.iconst 1, 1) := by decide +kernel
theorem iL_law_482 : ins ML_law 482 = some (.iadd, 1) := by decide +kernel
theorem iL_law_483 : ins ML_law 483 = some (.iaload, 1) := by decide +kernel
theorem iL_law_484 : ins ML_law 484 = some (.aload_n 0, 1) := by decide +kernel
theorem iL_law_485 : ins ML_law 485 = some (.iload_n 3, 1) := by decide +kernel
theorem iL_law_486 : ins ML_law 486 = some (.iconst 2, 1) := by decide +kernel
theorem iL_law_487 : ins ML_law 487 = some (.iadd, 1) := by decide +kernel
theorem iL_law_488 : ins ML_law 488 = some (.iaload, 1) := by decide +kernel
theorem iL_law_489 : ins ML_law 489 = some (.invokevirtual 61, 3) := by decide +kernel
theorem iL_law_492 : ins ML_law 492 = some (.if_icmp .eq 561, 3) := by decide +kernel
theorem iL_law_495 : ins ML_law 495 = some (.iconst 0, 1) := by decide +kernel
theorem iL_law_496 : ins ML_law 496 = some (.ireturn, 1) := by decide +kernel
theorem iL_law_497 : ins ML_law 497 = some (.aload_n 1, 1) := by decide +kernel
theorem iL_law_498 : ins ML_law 498 = some (.aload_n 0, 1) := by decide +kernel
theorem iL_law_499 : ins ML_law 499 = some (.iload_n 3, 1) := by decide +kernel
theorem iL_law_500 : ins ML_law 500 = some (.iconst 1, 1) := by decide +kernel
theorem iL_law_501 : ins ML_law 501 = some (.iadd, 1) := by decide +kernel
theorem iL_law_502 : ins ML_law 502 = some (.iaload, 1) := by decide +kernel
theorem iL_law_503 : ins ML_law 503 = some (.aload_n 0, 1) := by decide +kernel
theorem iL_law_504 : ins ML_law 504 = some (.iload_n 3, 1) := by decide +kernel
theorem iL_law_505 : ins ML_law 505 = some (.iconst 2, 1) := by decide +kernel
theorem iL_law_506 : ins ML_law 506 = some (.iadd, 1) := by decide +kernel
theorem iL_law_507 : ins ML_law 507 = some (.iaload, 1) := by decide +kernel
theorem iL_law_508 : ins ML_law 508 = some (.invokevirtual 62, 3) := by decide +kernel
theorem iL_law_511 : ins ML_law 511 = some (.aload_n 2, 1) := by decide +kernel
theorem iL_law_512 : ins ML_law 512 = some (.aload_n 0, 1) := by decide +kernel
theorem iL_law_513 : ins ML_law 513 = some (.iload_n 3, 1) := by decide +kernel
theorem iL_law_514 : ins ML_law 514 = some (.iconst 1, 1) := by decide +kernel
theorem iL_law_515 : ins ML_law 515 = some (.iadd, 1) := by decide +kernel
theorem iL_law_516 : ins ML_law 516 = some (.iaload, 1) := by decide +kernel
theorem iL_law_517 : ins ML_law 517 = some (.aload_n 0, 1) := by decide +kernel
theorem iL_law_518 : ins ML_law 518 = some (.iload_n 3, 1) := by decide +kernel
theorem iL_law_519 : ins ML_law 519 = some (.iconst 2, 1) := by decide +kernel
theorem iL_law_520 : ins ML_law 520 = some (.iadd, 1) := by decide +kernel
theorem iL_law_521 : ins ML_law 521 = some (.iaload, 1) := by decide +kernel
theorem iL_law_522 : ins ML_law 522 = some (.invokevirtual 65, 3) := by decide +kernel
theorem iL_law_525 : ins ML_law 525 = some (.if_icmp .eq 528, 3) := by decide +kernel
theorem iL_law_528 : ins ML_law 528 = some (.iconst 0, 1) := by decide +kernel
theorem iL_law_529 : ins ML_law 529 = some (.ireturn, 1) := by decide +kernel
theorem iL_law_530 : ins ML_law 530 = some (.aload_n 1, 1) := by decide +kernel
theorem iL_law_531 : ins ML_law 531 = some (.aload_n 0, 1) := by decide +kernel
theorem iL_law_532 : ins ML_law 532 = some (.iload_n 3, 1) := by decide +kernel
theorem iL_law_533 : ins ML_law 533 = some (.iconst 1, 1) := by decide +kernel
theorem iL_law_534 : ins ML_law 534 = some (.iadd, 1) := by decide +kernel
theorem iL_law_535 : ins ML_law 535 = some (.iaload, 1) := by decide +kernel
theorem iL_law_536 : ins ML_law 536 = some (.aload_n 0, 1) := by decide +kernel
theorem iL_law_537 : ins ML_law 537 = some (.iload_n 3, 1) := by decide +kernel
theorem iL_law_538 : ins ML_law 538 = some (.iconst 2, 1) := by decide +kernel
theorem iL_law_539 : ins ML_law 539 = some (.iadd, 1) := by decide +kernel
theorem iL_law_540 : ins ML_law 540 = some (.iaload, 1) := by decide +kernel
theorem iL_law_541 : ins ML_law 541 = some (.invokevirtual 66, 3) := by decide +kernel
theorem iL_law_544 : ins ML_law 544 = some (.aload_n 2, 1) := by decide +kernel
theorem iL_law_545 : ins ML_law 545 = some (.aload_n 0, 1) := by decide +kernel
theorem iL_law_546 : ins ML_law 546 = some (.iload_n 3, 1) := by decide +kernel
theorem iL_law_547 : ins ML_law 547 = some (.iconst 1, 1) := by decide +kernel
theorem iL_law_548 : ins ML_law 548 = some (.iadd, 1) := by decide +kernel
theorem iL_law_549 : ins ML_law 549 = some (.iaload, 1) := by decide +kernel
theorem iL_law_550 : ins ML_law 550 = some (.aload_n 0, 1) := by decide +kernel
theorem iL_law_551 : ins ML_law 551 = some (.iload_n 3, 1) := by decide +kernel
theorem iL_law_552 : ins ML_law 552 = some (.iconst 2, 1) := by decide +kernel
theorem iL_law_553 : ins ML_law 553 = some (.iadd, 1) := by decide +kernel
theorem iL_law_554 : ins ML_law 554 = some (.iaload, 1) := by decide +kernel
theorem iL_law_555 : ins ML_law 555 = some (.invokevirtual 69, 3) := by decide +kernel
theorem iL_law_558 : ins ML_law 558 = some (.if_icmp .eq 495, 3) := by decide +kernel
theorem iL_law_561 : ins ML_law 561 = some (.iconst 0, 1) := by decide +kernel
theorem iL_law_562 : ins ML_law 562 = some (.ireturn, 1) := by decide +kernel
theorem iL_law_563 : ins ML_law 563 = some (.aload_n 1, 1) := by decide +kernel
theorem iL_law_564 : ins ML_law 564 = some (.aload_n 0, 1) := by decide +kernel
theorem iL_law_565 : ins ML_law 565 = some (.iload_n 3, 1) := by decide +kernel
theorem iL_law_566 : ins ML_law 566 = some (.iconst 1, 1) := by decide +kernel
theorem iL_law_567 : ins ML_law 567 = some (.iadd, 1) := by decide +kernel
theorem iL_law_568 : ins ML_law 568 = some (.iaload, 1) := by decide +kernel
theorem iL_law_569 : ins ML_law 569 = some (.aload_n 0, 1) := by decide +kernel
theorem iL_law_570 : ins ML_law 570 = some (.iload_n 3, 1) := by decide +kernel
theorem iL_law_571 : ins ML_law 571 = some (.iconst 2, 1) := by decide +kernel
theorem iL_law_572 : ins ML_law 572 = some (.iadd, 1) := by decide +kernel
theorem iL_law_573 : ins ML_law 573 = some (.iaload, 1) := by decide +kernel
theorem iL_law_574 : ins ML_law 574 = some (.invokevirtual 70, 3) := by decide +kernel
theorem iL_law_577 : ins ML_law 577 = some (.aload_n 2, 1) := by decide +kernel
theorem iL_law_578 : ins ML_law 578 = some (.aload_n 0, 1) := by decide +kernel
theorem iL_law_579 : ins ML_law 579 = some (.iload_n 3, 1) := by decide +kernel
theorem iL_law_580 : ins ML_law 580 = some (.iconst 1, 1) := by decide +kernel
theorem iL_law_581 : ins ML_law 581 = some (.iadd, 1) := by decide +kernel
theorem iL_law_582 : ins ML_law 582 = some (.iaload, 1) := by decide +kernel
theorem iL_law_583 : ins ML_law 583 = some (.aload_n 0, 1) := by decide +kernel
theorem iL_law_584 : ins ML_law 584 = some (.iload_n 3, 1) := by decide +kernel
theorem iL_law_585 : ins ML_law 585 = some (.iconst 2, 1) := by decide +kernel
theorem iL_law_586 : ins ML_law 586 = some (.iadd, 1) := by decide +kernel
theorem iL_law_587 : ins ML_law 587 = some (.iaload, 1) := by decide +kernel
theorem iL_law_588 : ins ML_law 588 = some (.invokevirtual 73, 3) := by decide +kernel
theorem iL_law_591 : ins ML_law 591 = some (.if_icmp .eq 462, 3) := by decide +kernel
theorem iL_law_594 : ins ML_law 594 = some (.iconst 0, 1) := by decide +kernel
theorem iL_law_595 : ins ML_law 595 = some (.ireturn, 1) := by decide +kernel
theorem iL_law_596 : ins ML_law 596 = some (.aload_n 1, 1) := by decide +kernel
theorem iL_law_597 : ins ML_law 597 = some (.aload_n 0, 1) := by decide +kernel
theorem iL_law_598 : ins ML_law 598 = some (.iload_n 3, 1) := by decide +kernel
theorem iL_law_599 : ins ML_law 599 = some (.iconst 1, 1) := by decide +kernel
theorem iL_law_600 : ins ML_law 600 = some (.iadd, 1) := by decide +kernel
theorem iL_law_601 : ins ML_law 601 = some (.iaload, 1) := by decide +kernel
theorem iL_law_602 : ins ML_law 602 = some (.aload_n 0, 1) := by decide +kernel
theorem iL_law_603 : ins ML_law 603 = some (.iload_n 3, 1) := by decide +kernel
theorem iL_law_604 : ins ML_law 604 = some (.iconst 2, 1) := by decide +kernel
theorem iL_law_605 : ins ML_law 605 = some (.iadd, 1) := by decide +kernel
theorem iL_law_606 : ins ML_law 606 = some (.iaload, 1) := by decide +kernel
theorem iL_law_607 : ins ML_law 607 = some (.aload_n 0, 1) := by decide +kernel
theorem iL_law_608 : ins ML_law 608 = some (.iload_n 3, 1) := by decide +kernel
theorem iL_law_609 : ins ML_law 609 = some (.iconst 3, 1) := by decide +kernel
theorem iL_law_610 : ins ML_law 610 = some (.iadd, 1) := by decide +kernel
theorem iL_law_611 : ins ML_law 611 = some (.iaload, 1) := by decide +kernel
theorem iL_law_612 : ins ML_law 612 = some (.aload_n 0, 1) := by decide +kernel
theorem iL_law_613 : ins ML_law 613 = some (.iload_n 3, 1) := by decide +kernel
theorem iL_law_614 : ins ML_law 614 = some (.iconst 4, 1) := by decide +kernel
theorem iL_law_615 : ins ML_law 615 = some (.iadd, 1) := by decide +kernel
theorem iL_law_616 : ins ML_law 616 = some (.iaload, 1) := by decide +kernel
theorem iL_law_617 : ins ML_law 617 = some (.ifCond .eq 7, 3) := by decide +kernel
theorem iL_law_620 : ins ML_law 620 = some (.iconst 1, 1) := by decide +kernel
theorem iL_law_621 : ins ML_law 621 = some (.goto 4, 3) := by decide +kernel
theorem iL_law_624 : ins ML_law 624 = some (.iconst 0, 1) := by decide +kernel
theorem iL_law_625 : ins ML_law 625 = some (.invokevirtual 74, 3) := by decide +kernel
theorem iL_law_628 : ins ML_law 628 = some (.aload_n 2, 1) := by decide +kernel
theorem iL_law_629 : ins ML_law 629 = some (.aload_n 0, 1) := by decide +kernel
theorem iL_law_630 : ins ML_law 630 = some (.iload_n 3, 1) := by decide +kernel
theorem iL_law_631 : ins ML_law 631 = some (.iconst 1, 1) := by decide +kernel
theorem iL_law_632 : ins ML_law 632 = some (.iadd, 1) := by decide +kernel
theorem iL_law_633 : ins ML_law 633 = some (.iaload, 1) := by decide +kernel
theorem iL_law_634 : ins ML_law 634 = some (.aload_n 0, 1) := by decide +kernel
theorem iL_law_635 : ins ML_law 635 = some (.iload_n 3, 1) := by decide +kernel
theorem iL_law_636 : ins ML_law 636 = some (.iconst 2, 1) := by decide +kernel
theorem iL_law_637 : ins ML_law 637 = some (.iadd, 1) := by decide +kernel
theorem iL_law_638 : ins ML_law 638 = some (.iaload, 1) := by decide +kernel
theorem iL_law_639 : ins ML_law 639 = some (.aload_n 0, 1) := by decide +kernel
theorem iL_law_640 : ins ML_law 640 = some (.iload_n 3, 1) := by decide +kernel
theorem iL_law_641 : ins ML_law 641 = some (.iconst 3, 1) := by decide +kernel
theorem iL_law_642 : ins ML_law 642 = some (.iadd, 1) := by decide +kernel
theorem iL_law_643 : ins ML_law 643 = some (.iaload, 1) := by decide +kernel
theorem iL_law_644 : ins ML_law 644 = some (.aload_n 0, 1) := by decide +kernel
theorem iL_law_645 : ins ML_law 645 = some (.iload_n 3, 1) := by decide +kernel
theorem iL_law_646 : ins ML_law 646 = some (.iconst 4, 1) := by decide +kernel
theorem iL_law_647 : ins ML_law 647 = some (.iadd, 1) := by decide +kernel
theorem iL_law_648 : ins ML_law 648 = some (.iaload, 1) := by decide +kernel
theorem iL_law_649 : ins ML_law 649 = some (.ifCond .eq 7, 3) := by decide +kernel
theorem iL_law_652 : ins ML_law 652 = some (.iconst 1, 1) := by decide +kernel
theorem iL_law_653 : ins ML_law 653 = some (.goto 4, 3) := by decide +kernel
theorem iL_law_656 : ins ML_law 656 = some (.iconst 0, 1) := by decide +kernel
theorem iL_law_657 : ins ML_law 657 = some (.invokevirtual 78, 3) := by decide +kernel
theorem iL_law_660 : ins ML_law 660 = some (.if_icmp .eq 393, 3) := by decide +kernel
theorem iL_law_663 : ins ML_law 663 = some (.iconst 0, 1) := by decide +kernel
theorem iL_law_664 : ins ML_law 664 = some (.ireturn, 1) := by decide +kernel
theorem iL_law_665 : ins ML_law 665 = some (.aload_n 1, 1) := by decide +kernel
theorem iL_law_666 : ins ML_law 666 = some (.aload_n 0, 1) := by decide +kernel
theorem iL_law_667 : ins ML_law 667 = some (.iload_n 3, 1) := by decide +kernel
theorem iL_law_668 : ins ML_law 668 = some (.iconst 1, 1) := by decide +kernel
theorem iL_law_669 : ins ML_law 669 = some (.iadd, 1) := by decide +kernel
theorem iL_law_670 : ins ML_law 670 = some (.iaload, 1) := by decide +kernel
theorem iL_law_671 : ins ML_law 671 = some (.aload_n 0, 1) := by decide +kernel
theorem iL_law_672 : ins ML_law 672 = some (.iload_n 3, 1) := by decide +kernel
theorem iL_law_673 : ins ML_law 673 = some (.iconst 2, 1) := by decide +kernel
theorem iL_law_674 : ins ML_law 674 = some (.iadd, 1) := by decide +kernel
theorem iL_law_675 : ins ML_law 675 = some (.iaload, 1) := by decide +kernel
theorem iL_law_676 : ins ML_law 676 = some (.invokevirtual 79, 3) := by decide +kernel
theorem iL_law_679 : ins ML_law 679 = some (.aload_n 2, 1) := by decide +kernel
theorem iL_law_680 : ins ML_law 680 = some (.aload_n 0, 1) := by decide +kernel
theorem iL_law_681 : ins ML_law 681 = some (.iload_n 3, 1) := by decide +kernel
theorem iL_law_682 : ins ML_law 682 = some (.iconst 1, 1) := by decide +kernel
theorem iL_law_683 : ins ML_law 683 = some (.iadd, 1) := by decide +kernel
theorem iL_law_684 : ins ML_law 684 = some (.iaload, 1) := by decide +kernel
theorem iL_law_685 : ins ML_law 685 = some (.aload_n 0, 1) := by decide +kernel
theorem iL_law_686 : ins ML_law 686 = some (.iload_n 3, 1) := by decide +kernel
theorem iL_law_687 : ins ML_law 687 = some (.iconst 2, 1) := by decide +kernel
theorem iL_law_688 : ins ML_law 688 = some (.iadd, 1) := by decide +kernel
theorem iL_law_689 : ins ML_law 689 = some (.iaload, 1) := by decide +kernel
theorem iL_law_690 : ins ML_law 690 = some (.invokevirtual 82, 3) := by decide +kernel
theorem iL_law_693 : ins ML_law 693 = some (.if_icmp .eq 360, 3) := by decide +kernel
theorem iL_law_696 : ins ML_law 696 = some (.iconst 0, 1) := by decide +kernel
theorem iL_law_697 : ins ML_law 697 = some (.ireturn, 1) := by decide +kernel
theorem iL_law_698 : ins ML_law 698 = some (.aload_n 1, 1) := by decide +kernel
theorem iL_law_699 : ins ML_law 699 = some (.aload_n 0, 1) := by decide +kernel
theorem iL_law_700 : ins ML_law 700 = some (.iload_n 3, 1) := by decide +kernel
theorem iL_law_701 : ins ML_law 701 = some (.iconst 1, 1) := by decide +kernel
theorem iL_law_702 : ins ML_law 702 = some (.iadd, 1) := by decide +kernel
theorem iL_law_703 : ins ML_law 703 = some (.iaload, 1) := by decide +kernel
theorem iL_law_704 : ins ML_law 704 = some (.invokevirtual 83, 3) := by decide +kernel
theorem iL_law_707 : ins ML_law 707 = some (.aload_n 2, 1) := by decide +kernel
theorem iL_law_708 : ins ML_law 708 = some (.aload_n 0, 1) := by decide +kernel
theorem iL_law_709 : ins ML_law 709 = some (.iload_n 3, 1) := by decide +kernel
theorem iL_law_710 : ins ML_law 710 = some (.iconst 1, 1) := by decide +kernel
theorem iL_law_711 : ins ML_law 711 = some (.iadd, 1) := by decide +kernel
theorem iL_law_712 : ins ML_law 712 = some (.iaload, 1) := by decide +kernel
theorem iL_law_713 : ins ML_law 713 = some (.invokevirtual 86, 3) := by decide +kernel
theorem iL_law_716 : ins ML_law 716 = some (.if_icmp .eq 337, 3) := by decide +kernel
theorem iL_law_719 : ins ML_law 719 = some (.iconst 0, 1) := by decide +kernel
theorem iL_law_720 : ins ML_law 720 = some (.ireturn, 1) := by decide +kernel
theorem iL_law_721 : ins ML_law 721 = some (.aload_n 1, 1) := by decide +kernel
theorem iL_law_722 : ins ML_law 722 = some (.aload_n 0, 1) := by decide +kernel
theorem iL_law_723 : ins ML_law 723 = some (.iload_n 3, 1) := by decide +kernel
theorem iL_law_724 : ins ML_law 724 = some (.iconst 1, 1) := by decide +kernel
theorem iL_law_725 : ins ML_law 725 = some (.iadd, 1) := by decide +kernel
theorem iL_law_726 : ins ML_law 726 = some (.iaload, 1) := by decide +kernel
theorem iL_law_727 : ins ML_law 727 = some (.invokevirtual 87, 3) := by decide +kernel
theorem iL_law_730 : ins ML_law 730 = some (.aload_n 2, 1) := by decide +kernel
theorem iL_law_731 : ins ML_law 731 = some (.aload_n 0, 1) := by decide +kernel
theorem iL_law_732 : ins ML_law 732 = some (.iload_n 3, 1) := by decide +kernel
theorem iL_law_733 : ins ML_law 733 = some (.iconst 1, 1) := by decide +kernel
theorem iL_law_734 : ins ML_law 734 = some (.iadd, 1) := by decide +kernel
theorem iL_law_735 : ins ML_law 735 = some (.iaload, 1) := by decide +kernel
theorem iL_law_736 : ins ML_law 736 = some (.invokevirtual 90, 3) := by decide +kernel
theorem iL_law_739 : ins ML_law 739 = some (.if_icmp .eq 314, 3) := by decide +kernel
theorem iL_law_742 : ins ML_law 742 = some (.iconst 0, 1) := by decide +kernel
theorem iL_law_743 : ins ML_law 743 = some (.ireturn, 1) := by decide +kernel
theorem iL_law_744 : ins ML_law 744 = some (.aload_n 1, 1) := by decide +kernel
theorem iL_law_745 : ins ML_law 745 = some (.aload_n 0, 1) := by decide +kernel
theorem iL_law_746 : ins ML_law 746 = some (.iload_n 3, 1) := by decide +kernel
theorem iL_law_747 : ins ML_law 747 = some (.iconst 1, 1) := by decide +kernel
theorem iL_law_748 : ins ML_law 748 = some (.iadd, 1) := by decide +kernel
theorem iL_law_749 : ins ML_law 749 = some (.iaload, 1) := by decide +kernel
theorem iL_law_750 : ins ML_law 750 = some (.aload_n 0, 1) := by decide +kernel
theorem iL_law_751 : ins ML_law 751 = some (.iload_n 3, 1) := by decide +kernel
theorem iL_law_752 : ins ML_law 752 = some (.iconst 2, 1) := by decide +kernel
theorem iL_law_753 : ins ML_law 753 = some (.iadd, 1) := by decide +kernel
theorem iL_law_754 : ins ML_law 754 = some (.iaload, 1) := by decide +kernel
theorem iL_law_755 : ins ML_law 755 = some (.aload_n 0, 1) := by decide +kernel
theorem iL_law_756 : ins ML_law 756 = some (.iload_n 3, 1) := by decide +kernel
theorem iL_law_757 : ins ML_law 757 = some (.iconst 3, 1) := by decide +kernel
theorem iL_law_758 : ins ML_law 758 = some (.iadd, 1) := by decide +kernel
theorem iL_law_759 : ins ML_law 759 = some (.iaload, 1) := by decide +kernel
theorem iL_law_760 : ins ML_law 760 = some (.invokevirtual 91, 3) := by decide +kernel
theorem iL_law_763 : ins ML_law 763 = some (.aload_n 2, 1) := by decide +kernel
theorem iL_law_764 : ins ML_law 764 = some (.aload_n 0, 1) := by decide +kernel
theorem iL_law_765 : ins ML_law 765 = some (.iload_n 3, 1) := by decide +kernel
theorem iL_law_766 : ins ML_law 766 = some (.iconst 1, 1) := by decide +kernel
theorem iL_law_767 : ins ML_law 767 = some (.iadd, 1) := by decide +kernel
theorem iL_law_768 : ins ML_law 768 = some (.iaload, 1) := by decide +kernel
theorem iL_law_769 : ins ML_law 769 = some (.aload_n 0, 1) := by decide +kernel
theorem iL_law_770 : ins ML_law 770 = some (.iload_n 3, 1) := by decide +kernel
theorem iL_law_771 : ins ML_law 771 = some (.iconst 2, 1) := by decide +kernel
theorem iL_law_772 : ins ML_law 772 = some (.iadd, 1) := by decide +kernel
theorem iL_law_773 : ins ML_law 773 = some (.iaload, 1) := by decide +kernel
theorem iL_law_774 : ins ML_law 774 = some (.aload_n 0, 1) := by decide +kernel
theorem iL_law_775 : ins ML_law 775 = some (.iload_n 3, 1) := by decide +kernel
theorem iL_law_776 : ins ML_law 776 = some (.iconst 3, 1) := by decide +kernel
theorem iL_law_777 : ins ML_law 777 = some (.iadd, 1) := by decide +kernel
theorem iL_law_778 : ins ML_law 778 = some (.iaload, 1) := by decide +kernel
theorem iL_law_779 : ins ML_law 779 = some (.invokevirtual 95, 3) := by decide +kernel
theorem iL_law_782 : ins ML_law 782 = some (.if_icmp .eq 271, 3) := by decide +kernel
theorem iL_law_785 : ins ML_law 785 = some (.iconst 0, 1) := by decide +kernel
theorem iL_law_786 : ins ML_law 786 = some (.ireturn, 1) := by decide +kernel
theorem iL_law_787 : ins ML_law 787 = some (.aload_n 1, 1) := by decide +kernel
theorem iL_law_788 : ins ML_law 788 = some (.aload_n 0, 1) := by decide +kernel
theorem iL_law_789 : ins ML_law 789 = some (.iload_n 3, 1) := by decide +kernel
theorem iL_law_790 : ins ML_law 790 = some (.iconst 1, 1) := by decide +kernel
theorem iL_law_791 : ins ML_law 791 = some (.iadd, 1) := by decide +kernel
theorem iL_law_792 : ins ML_law 792 = some (.iaload, 1) := by decide +kernel
theorem iL_law_793 : ins ML_law 793 = some (.aload_n 0, 1) := by decide +kernel
theorem iL_law_794 : ins ML_law 794 = some (.iload_n 3, 1) := by decide +kernel
theorem iL_law_795 : ins ML_law 795 = some (.iconst 2, 1) := by decide +kernel
theorem iL_law_796 : ins ML_law 796 = some (.iadd, 1) := by decide +kernel
theorem iL_law_797 : ins ML_law 797 = some (.iaload, 1) := by decide +kernel
theorem iL_law_798 : ins ML_law 798 = some (.invokevirtual 96, 3) := by decide +kernel
theorem iL_law_801 : ins ML_law 801 = some (.aload_n 2, 1) := by decide +kernel
theorem iL_law_802 : ins ML_law 802 = some (.aload_n 0, 1) := by decide +kernel
theorem iL_law_803 : ins ML_law 803 = some (.iload_n 3, 1) := by decide +kernel
theorem iL_law_804 : ins ML_law 804 = some (.iconst 1, 1) := by decide +kernel
theorem iL_law_805 : ins ML_law 805 = some (.iadd, 1) := by decide +kernel
theorem iL_law_806 : ins ML_law 806 = some (.iaload, 1) := by decide +kernel
theorem iL_law_807 : ins ML_law 807 = some (.aload_n 0, 1) := by decide +kernel
theorem iL_law_808 : ins ML_law 808 = some (.iload_n 3, 1) := by decide +kernel
theorem iL_law_809 : ins ML_law 809 = some (.iconst 2, 1) := by decide +kernel
theorem iL_law_810 : ins ML_law 810 = some (.iadd, 1) := by decide +kernel
theorem iL_law_811 : ins ML_law 811 = some (.iaload, 1) := by decide +kernel
theorem iL_law_812 : ins ML_law 812 = some (.invokevirtual 99, 3) := by decide +kernel
theorem iL_law_815 : ins ML_law 815 = some (.if_icmp .eq 238, 3) := by decide +kernel
theorem iL_law_818 : ins ML_law 818 = some (.iconst 0, 1) := by decide +kernel
theorem iL_law_819 : ins ML_law 819 = some (.ireturn, 1) := by decide +kernel
theorem iL_law_820 : ins ML_law 820 = some (.aload_n 1, 1) := by decide +kernel
theorem iL_law_821 : ins ML_law 821 = some (.aload_n 0, 1) := by decide +kernel
theorem iL_law_822 : ins ML_law 822 = some (.iload_n 3, 1) := by decide +kernel
theorem iL_law_823 : ins ML_law 823 = some (.iconst 1, 1) := by decide +kernel
theorem iL_law_824 : ins ML_law 824 = some (.iadd, 1) := by decide +kernel
theorem iL_law_825 : ins ML_law 825 = some (.iaload, 1) := by decide +kernel
theorem iL_law_826 : ins ML_law 826 = some (.aload_n 0, 1) := by decide +kernel
theorem iL_law_827 : ins ML_law 827 = some (.iload_n 3, 1) := by decide +kernel
theorem iL_law_828 : ins ML_law 828 = some (.iconst 2, 1) := by decide +kernel
theorem iL_law_829 : ins ML_law 829 = some (.iadd, 1) := by decide +kernel
theorem iL_law_830 : ins ML_law 830 = some (.iaload, 1) := by decide +kernel
theorem iL_law_831 : ins ML_law 831 = some (.invokevirtual 100, 3) := by decide +kernel
theorem iL_law_834 : ins ML_law 834 = some (.aload_n 2, 1) := by decide +kernel
theorem iL_law_835 : ins ML_law 835 = some (.aload_n 0, 1) := by decide +kernel
theorem iL_law_836 : ins ML_law 836 = some (.iload_n 3, 1) := by decide +kernel
theorem iL_law_837 : ins ML_law 837 = some (.iconst 1, 1) := by decide +kernel
theorem iL_law_838 : ins ML_law 838 = some (.iadd, 1) := by decide +kernel
theorem iL_law_839 : ins ML_law 839 = some (.iaload, 1) := by decide +kernel
theorem iL_law_840 : ins ML_law 840 = some (.aload_n 0, 1) := by decide +kernel
theorem iL_law_841 : ins ML_law 841 = some (.iload_n 3, 1) := by decide +kernel
theorem iL_law_842 : ins ML_law 842 = some (.iconst 2, 1) := by decide +kernel
theorem iL_law_843 : ins ML_law 843 = some (.iadd, 1) := by decide +kernel
theorem iL_law_844 : ins ML_law 844 = some (.iaload, 1) := by decide +kernel
theorem iL_law_845 : ins ML_law 845 = some (.invokevirtual 103, 3) := by decide +kernel
theorem iL_law_848 : ins ML_law 848 = some (.if_icmp .eq 205, 3) := by decide +kernel
theorem iL_law_851 : ins ML_law 851 = some (.iconst 0, 1) := by decide +kernel
theorem iL_law_852 : ins ML_law 852 = some (.ireturn, 1) := by decide +kernel
theorem iL_law_853 : ins ML_law 853 = some (.aload_n 1, 1) := by decide +kernel
theorem iL_law_854 : ins ML_law 854 = some (.aload_n 0, 1) := by decide +kernel
theorem iL_law_855 : ins ML_law 855 = some (.iload_n 3, 1) := by decide +kernel
theorem iL_law_856 : ins ML_law 856 = some (.iconst 1, 1) := by decide +kernel
theorem iL_law_857 : ins ML_law 857 = some (.iadd, 1) := by decide +kernel
theorem iL_law_858 : ins ML_law 858 = some (.iaload, 1) := by decide +kernel
theorem iL_law_859 : ins ML_law 859 = some (.invokevirtual 104, 3) := by decide +kernel
theorem iL_law_862 : ins ML_law 862 = some (.aload_n 2, 1) := by decide +kernel
theorem iL_law_863 : ins ML_law 863 = some (.aload_n 0, 1) := by decide +kernel
theorem iL_law_864 : ins ML_law 864 = some (.iload_n 3, 1) := by decide +kernel
theorem iL_law_865 : ins ML_law 865 = some (.iconst 1, 1) := by decide +kernel
theorem iL_law_866 : ins ML_law 866 = some (.iadd, 1) := by decide +kernel
theorem iL_law_867 : ins ML_law 867 = some (.iaload, 1) := by decide +kernel
theorem iL_law_868 : ins ML_law 868 = some (.invokevirtual 107, 3) := by decide +kernel
theorem iL_law_871 : ins ML_law 871 = some (.if_icmp .eq 182, 3) := by decide +kernel
theorem iL_law_874 : ins ML_law 874 = some (.iconst 0, 1) := by decide +kernel
theorem iL_law_875 : ins ML_law 875 = some (.ireturn, 1) := by decide +kernel
theorem iL_law_876 : ins ML_law 876 = some (.aload_n 1, 1) := by decide +kernel
theorem iL_law_877 : ins ML_law 877 = some (.aload_n 0, 1) := by decide +kernel
theorem iL_law_878 : ins ML_law 878 = some (.iload_n 3, 1) := by decide +kernel
theorem iL_law_879 : ins ML_law 879 = some (.iconst 1, 1) := by decide +kernel
theorem iL_law_880 : ins ML_law 880 = some (.iadd, 1) := by decide +kernel
theorem iL_law_881 : ins ML_law 881 = some (.iaload, 1) := by decide +kernel
theorem iL_law_882 : ins ML_law 882 = some (.invokevirtual 108, 3) := by decide +kernel
theorem iL_law_885 : ins ML_law 885 = some (.aload_n 2, 1) := by decide +kernel
theorem iL_law_886 : ins ML_law 886 = some (.aload_n 0, 1) := by decide +kernel
theorem iL_law_887 : ins ML_law 887 = some (.iload_n 3, 1) := by decide +kernel
theorem iL_law_888 : ins ML_law 888 = some (.iconst 1, 1) := by decide +kernel
theorem iL_law_889 : ins ML_law 889 = some (.iadd, 1) := by decide +kernel
theorem iL_law_890 : ins ML_law 890 = some (.iaload, 1) := by decide +kernel
theorem iL_law_891 : ins ML_law 891 = some (.invokevirtual 111, 3) := by decide +kernel
theorem iL_law_894 : ins ML_law 894 = some (.if_icmp .eq 159, 3) := by decide +kernel
theorem iL_law_897 : ins ML_law 897 = some (.iconst 0, 1) := by decide +kernel
theorem iL_law_898 : ins ML_law 898 = some (.ireturn, 1) := by decide +kernel
theorem iL_law_899 : ins ML_law 899 = some (.aload_n 1, 1) := by decide +kernel
theorem iL_law_900 : ins ML_law 900 = some (.aload_n 0, 1) := by decide +kernel
theorem iL_law_901 : ins ML_law 901 = some (.iload_n 3, 1) := by decide +kernel
theorem iL_law_902 : ins ML_law 902 = some (.iconst 1, 1) := by decide +kernel
theorem iL_law_903 : ins ML_law 903 = some (.iadd, 1) := by decide +kernel
theorem iL_law_904 : ins ML_law 904 = some (.iaload, 1) := by decide +kernel
theorem iL_law_905 : ins ML_law 905 = some (.invokevirtual 112, 3) := by decide +kernel
theorem iL_law_908 : ins ML_law 908 = some (.aload_n 2, 1) := by decide +kernel
theorem iL_law_909 : ins ML_law 909 = some (.aload_n 0, 1) := by decide +kernel
theorem iL_law_910 : ins ML_law 910 = some (.iload_n 3, 1) := by decide +kernel
theorem iL_law_911 : ins ML_law 911 = some (.iconst 1, 1) := by decide +kernel
theorem iL_law_912 : ins ML_law 912 = some (.iadd, 1) := by decide +kernel
theorem iL_law_913 : ins ML_law 913 = some (.iaload, 1) := by decide +kernel
theorem iL_law_914 : ins ML_law 914 = some (.invokevirtual 115, 3) := by decide +kernel
theorem iL_law_917 : ins ML_law 917 = some (.if_icmp .eq 136, 3) := by decide +kernel
theorem iL_law_920 : ins ML_law 920 = some (.iconst 0, 1) := by decide +kernel
theorem iL_law_921 : ins ML_law 921 = some (.ireturn, 1) := by decide +kernel
theorem iL_law_922 : ins ML_law 922 = some (.aload_n 1, 1) := by decide +kernel
theorem iL_law_923 : ins ML_law 923 = some (.aload_n 0, 1) := by decide +kernel
theorem iL_law_924 : ins ML_law 924 = some (.iload_n 3, 1) := by decide +kernel
theorem iL_law_925 : ins ML_law 925 = some (.iconst 1, 1) := by decide +kernel
theorem iL_law_926 : ins ML_law 926 = some (.iadd, 1) := by decide +kernel
theorem iL_law_927 : ins ML_law 927 = some (.iaload, 1) := by decide +kernel
theorem iL_law_928 : ins ML_law 928 = some (.aload_n 0, 1) := by decide +kernel
theorem iL_law_929 : ins ML_law 929 = some (.iload_n 3, 1) := by decide +kernel
theorem iL_law_930 : ins ML_law 930 = some (.iconst 2, 1) := by decide +kernel
theorem iL_law_931 : ins ML_law 931 = some (.iadd, 1) := by decide +kernel
theorem iL_law_932 : ins ML_law 932 = some (.iaload, 1) := by decide +kernel
theorem iL_law_933 : ins ML_law 933 = some (.invokevirtual 116, 3) := by decide +kernel
theorem iL_law_936 : ins ML_law 936 = some (.aload_n 2, 1) := by decide +kernel
theorem iL_law_937 : ins ML_law 937 = some (.aload_n 0, 1) := by decide +kernel
theorem iL_law_938 : ins ML_law 938 = some (.iload_n 3, 1) := by decide +kernel
theorem iL_law_939 : ins ML_law 939 = some (.iconst 1, 1) := by decide +kernel
theorem iL_law_940 : ins ML_law 940 = some (.iadd, 1) := by decide +kernel
theorem iL_law_941 : ins ML_law 941 = some (.iaload, 1) := by decide +kernel
theorem iL_law_942 : ins ML_law 942 = some (.aload_n 0, 1) := by decide +kernel
theorem iL_law_943 : ins ML_law 943 = some (.iload_n 3, 1) := by decide +kernel
theorem iL_law_944 : ins ML_law 944 = some (.iconst 2, 1) := by decide +kernel
theorem iL_law_945 : ins ML_law 945 = some (.iadd, 1) := by decide +kernel
theorem iL_law_946 : ins ML_law 946 = some (.iaload, 1) := by decide +kernel
theorem iL_law_947 : ins ML_law 947 = some (.invokevirtual 119, 3) := by decide +kernel
theorem iL_law_950 : ins ML_law 950 = some (.if_icmp .eq 103, 3) := by decide +kernel
theorem iL_law_953 : ins ML_law 953 = some (.iconst 0, 1) := by decide +kernel
theorem iL_law_954 : ins ML_law 954 = some (.ireturn, 1) := by decide +kernel
theorem iL_law_955 : ins ML_law 955 = some (.aload_n 1, 1) := by decide +kernel
theorem iL_law_956 : ins ML_law 956 = some (.aload_n 0, 1) := by decide +kernel
theorem iL_law_957 : ins ML_law 957 = some (.iload_n 3, 1) := by decide +kernel
theorem iL_law_958 : ins ML_law 958 = some (.iconst 1, 1) := by decide +kernel
theorem iL_law_959 : ins ML_law 959 = some (.iadd, 1) := by decide +kernel
theorem iL_law_960 : ins ML_law 960 = some (.iaload, 1) := by decide +kernel
theorem iL_law_961 : ins ML_law 961 = some (.invokevirtual 120, 3) := by decide +kernel
theorem iL_law_964 : ins ML_law 964 = some (.aload_n 2, 1) := by decide +kernel
theorem iL_law_965 : ins ML_law 965 = some (.aload_n 0, 1) := by decide +kernel
theorem iL_law_966 : ins ML_law 966 = some (.iload_n 3, 1) := by decide +kernel
theorem iL_law_967 : ins ML_law 967 = some (.iconst 1, 1) := by decide +kernel
theorem iL_law_968 : ins ML_law 968 = some (.iadd, 1) := by decide +kernel
theorem iL_law_969 : ins ML_law 969 = some (.iaload, 1) := by decide +kernel
theorem iL_law_970 : ins ML_law 970 = some (.invokevirtual 123, 3) := by decide +kernel
theorem iL_law_973 : ins ML_law 973 = some (.if_icmp .eq 80, 3) := by decide +kernel
theorem iL_law_976 : ins ML_law 976 = some (.iconst 0, 1) := by decide +kernel
theorem iL_law_977 : ins ML_law 977 = some (.ireturn, 1) := by decide +kernel
theorem iL_law_978 : ins ML_law 978 = some (.aload_n 1, 1) := by decide +kernel
theorem iL_law_979 : ins ML_law 979 = some (.invokevirtual 124, 3) := by decide +kernel
theorem iL_law_982 : ins ML_law 982 = some (.aload_n 2, 1) := by decide +kernel
theorem iL_law_983 : ins ML_law 983 = some (.invokevirtual 128, 3) := by decide +kernel
theorem iL_law_986 : ins ML_law 986 = some (.if_icmp .eq 67, 3) := by decide +kernel
theorem iL_law_989 : ins ML_law 989 = some (.iconst 0, 1) := by decide +kernel
theorem iL_law_990 : ins ML_law 990 = some (.ireturn, 1) := by decide +kernel
theorem iL_law_991 : ins ML_law 991 = some (.aload_n 1, 1) := by decide +kernel
theorem iL_law_992 : ins ML_law 992 = some (.aload_n 0, 1) := by decide +kernel
theorem iL_law_993 : ins ML_law 993 = some (.iload_n 3, 1) := by decide +kernel
theorem iL_law_994 : ins ML_law 994 = some (.iconst 1, 1) := by decide +kernel
theorem iL_law_995 : ins ML_law 995 = some (.iadd, 1) := by decide +kernel
theorem iL_law_996 : ins ML_law 996 = some (.iaload, 1) := by decide +kernel
theorem iL_law_997 : ins ML_law 997 = some (.ifCond .eq 7, 3) := by decide +kernel
theorem iL_law_1000 : ins ML_law 1000 = some (.iconst 1, 1) := by decide +kernel
theorem iL_law_1001 : ins ML_law 1001 = some (.goto 4, 3) := by decide +kernel
theorem iL_law_1004 : ins ML_law 1004 = some (.iconst 0, 1) := by decide +kernel
theorem iL_law_1005 : ins ML_law 1005 = some (.invokevirtual 129, 3) := by decide +kernel
theorem iL_law_1008 : ins ML_law 1008 = some (.aload_n 2, 1) := by decide +kernel
theorem iL_law_1009 : ins ML_law 1009 = some (.aload_n 0, 1) := by decide +kernel
theorem iL_law_1010 : ins ML_law 1010 = some (.iload_n 3, 1) := by decide +kernel
theorem iL_law_1011 : ins ML_law 1011 = some (.iconst 1, 1) := by decide +kernel
theorem iL_law_1012 : ins ML_law 1012 = some (.iadd, 1) := by decide +kernel
theorem iL_law_1013 : ins ML_law 1013 = some (.iaload, 1) := by decide +kernel
theorem iL_law_1014 : ins ML_law 1014 = some (.ifCond .eq 7, 3) := by decide +kernel
theorem iL_law_1017 : ins ML_law 1017 = some (.iconst 1, 1) := by decide +kernel
theorem iL_law_1018 : ins ML_law 1018 = some (.goto 4, 3) := by decide +kernel
theorem iL_law_1021 : ins ML_law 1021 = some (.iconst 0, 1) := by decide +kernel
theorem iL_law_1022 : ins ML_law 1022 = some (.invokevirtual 133, 3) := by decide +kernel
theorem iL_law_1025 : ins ML_law 1025 = some (.if_icmp .eq 28, 3) := by decide +kernel
theorem iL_law_1028 : ins ML_law 1028 = some (.iconst 0, 1) := by decide +kernel
theorem iL_law_1029 : ins ML_law 1029 = some (.ireturn, 1) := by decide +kernel
theorem iL_law_1030 : ins ML_law 1030 = some (.aload_n 1, 1) := by decide +kernel
theorem iL_law_1031 : ins ML_law 1031 = some (.aload_n 0, 1) := by decide +kernel
theorem iL_law_1032 : ins ML_law 1032 = some (.iload_n 3, 1) := by decide +kernel
theorem iL_law_1033 : ins ML_law 1033 = some (.iconst 1, 1) := by decide +kernel
theorem iL_law_1034 : ins ML_law 1034 = some (.iadd, 1) := by decide +kernel
theorem iL_law_1035 : ins ML_law 1035 = some (.iaload, 1) := by decide +kernel
theorem iL_law_1036 : ins ML_law 1036 = some (.invokevirtual 134, 3) := by decide +kernel
theorem iL_law_1039 : ins ML_law 1039 = some (.aload_n 2, 1) := by decide +kernel
theorem iL_law_1040 : ins ML_law 1040 = some (.aload_n 0, 1) := by decide +kernel
theorem iL_law_1041 : ins ML_law 1041 = some (.iload_n 3, 1) := by decide +kernel
theorem iL_law_1042 : ins ML_law 1042 = some (.iconst 1, 1) := by decide +kernel
theorem iL_law_1043 : ins ML_law 1043 = some (.iadd, 1) := by decide +kernel
theorem iL_law_1044 : ins ML_law 1044 = some (.iaload, 1) := by decide +kernel
theorem iL_law_1045 : ins ML_law 1045 = some (.invokevirtual 137, 3) := by decide +kernel
theorem iL_law_1048 : ins ML_law 1048 = some (.if_icmp .eq 5, 3) := by decide +kernel
theorem iL_law_1051 : ins ML_law 1051 = some (.iconst 0, 1) := by decide +kernel
theorem iL_law_1052 : ins ML_law 1052 = some (.ireturn, 1) := by decide +kernel
theorem iL_law_1053 : ins ML_law 1053 = some (.iinc 3 6, 3) := by decide +kernel
theorem iL_law_1056 : ins ML_law 1056 = some (.goto (-1038), 3) := by decide +kernel
theorem iL_law_1059 : ins ML_law 1059 = some (.iconst 1, 1) := by decide +kernel
theorem iL_law_1060 : ins ML_law 1060 = some (.ireturn, 1) := by decide +kernel
theorem iJ6_bitCount_0f7a4_0 : ins MJ6_bitCount_0f7a4 0 = some (.iload_n 0, 1) := by decide +kernel
theorem iJ6_bitCount_0f7a4_1 : ins MJ6_bitCount_0f7a4 1 = some (.iload_n 0, 1) := by decide +kernel
theorem iJ6_bitCount_0f7a4_2 : ins MJ6_bitCount_0f7a4 2 = some (.iconst 1, 1) := by decide +kernel
theorem iJ6_bitCount_0f7a4_3 : ins MJ6_bitCount_0f7a4 3 = some (.iushr, 1) := by decide +kernel
theorem iJ6_bitCount_0f7a4_4 : ins MJ6_bitCount_0f7a4 4 = some (.ldc_w 265, 3) := by decide +kernel
theorem iJ6_bitCount_0f7a4_7 : ins MJ6_bitCount_0f7a4 7 = some (.iand, 1) := by decide +kernel
theorem iJ6_bitCount_0f7a4_8 : ins MJ6_bitCount_0f7a4 8 = some (.isub, 1) := by decide +kernel
theorem iJ6_bitCount_0f7a4_9 : ins MJ6_bitCount_0f7a4 9 = some (.istore_n 0, 1) := by decide +kernel
theorem iJ6_bitCount_0f7a4_10 : ins MJ6_bitCount_0f7a4 10 = some (.iload_n 0, 1) := by decide +kernel
theorem iJ6_bitCount_0f7a4_11 : ins MJ6_bitCount_0f7a4 11 = some (.ldc_w 266, 3) := by decide +kernel
theorem iJ6_bitCount_0f7a4_14 : ins MJ6_bitCount_0f7a4 14 = some (.iand, 1) := by decide +kernel
theorem iJ6_bitCount_0f7a4_15 : ins MJ6_bitCount_0f7a4 15 = some (.iload_n 0, 1) := by decide +kernel
theorem iJ6_bitCount_0f7a4_16 : ins MJ6_bitCount_0f7a4 16 = some (.iconst 2, 1) := by decide +kernel
theorem iJ6_bitCount_0f7a4_17 : ins MJ6_bitCount_0f7a4 17 = some (.iushr, 1) := by decide +kernel
theorem iJ6_bitCount_0f7a4_18 : ins MJ6_bitCount_0f7a4 18 = some (.ldc_w 266, 3) := by decide +kernel
theorem iJ6_bitCount_0f7a4_21 : ins MJ6_bitCount_0f7a4 21 = some (.iand, 1) := by decide +kernel
theorem iJ6_bitCount_0f7a4_22 : ins MJ6_bitCount_0f7a4 22 = some (.iadd, 1) := by decide +kernel
theorem iJ6_bitCount_0f7a4_23 : ins MJ6_bitCount_0f7a4 23 = some (.istore_n 0, 1) := by decide +kernel
theorem iJ6_bitCount_0f7a4_24 : ins MJ6_bitCount_0f7a4 24 = some (.iload_n 0, 1) := by decide +kernel
theorem iJ6_bitCount_0f7a4_25 : ins MJ6_bitCount_0f7a4 25 = some (.iload_n 0, 1) := by decide +kernel
theorem iJ6_bitCount_0f7a4_26 : ins MJ6_bitCount_0f7a4 26 = some (.iconst 4, 1) := by decide +kernel
theorem iJ6_bitCount_0f7a4_27 : ins MJ6_bitCount_0f7a4 27 = some (.iushr, 1) := by decide +kernel
theorem iJ6_bitCount_0f7a4_28 : ins MJ6_bitCount_0f7a4 28 = some (.iadd, 1) := by decide +kernel
theorem iJ6_bitCount_0f7a4_29 : ins MJ6_bitCount_0f7a4 29 = some (.ldc_w 267, 3) := by decide +kernel
theorem iJ6_bitCount_0f7a4_32 : ins MJ6_bitCount_0f7a4 32 = some (.iand, 1) := by decide +kernel
theorem iJ6_bitCount_0f7a4_33 : ins MJ6_bitCount_0f7a4 33 = some (.istore_n 0, 1) := by decide +kernel
theorem iJ6_bitCount_0f7a4_34 : ins MJ6_bitCount_0f7a4 34 = some (.iload_n 0, 1) := by decide +kernel
theorem iJ6_bitCount_0f7a4_35 : ins MJ6_bitCount_0f7a4 35 = some (.iload_n 0, 1) := by decide +kernel
theorem iJ6_bitCount_0f7a4_36 : ins MJ6_bitCount_0f7a4 36 = some (.bipush 8, 2) := by decide +kernel
theorem iJ6_bitCount_0f7a4_38 : ins MJ6_bitCount_0f7a4 38 = some (.iushr, 1) := by decide +kernel
theorem iJ6_bitCount_0f7a4_39 : ins MJ6_bitCount_0f7a4 39 = some (.iadd, 1) := by decide +kernel
theorem iJ6_bitCount_0f7a4_40 : ins MJ6_bitCount_0f7a4 40 = some (.istore_n 0, 1) := by decide +kernel
theorem iJ6_bitCount_0f7a4_41 : ins MJ6_bitCount_0f7a4 41 = some (.iload_n 0, 1) := by decide +kernel
theorem iJ6_bitCount_0f7a4_42 : ins MJ6_bitCount_0f7a4 42 = some (.iload_n 0, 1) := by decide +kernel
theorem iJ6_bitCount_0f7a4_43 : ins MJ6_bitCount_0f7a4 43 = some (.bipush 16, 2) := by decide +kernel
theorem iJ6_bitCount_0f7a4_45 : ins MJ6_bitCount_0f7a4 45 = some (.iushr, 1) := by decide +kernel
theorem iJ6_bitCount_0f7a4_46 : ins MJ6_bitCount_0f7a4 46 = some (.iadd, 1) := by decide +kernel
theorem iJ6_bitCount_0f7a4_47 : ins MJ6_bitCount_0f7a4 47 = some (.istore_n 0, 1) := by decide +kernel
theorem iJ6_bitCount_0f7a4_48 : ins MJ6_bitCount_0f7a4 48 = some (.iload_n 0, 1) := by decide +kernel
theorem iJ6_bitCount_0f7a4_49 : ins MJ6_bitCount_0f7a4 49 = some (.bipush 63, 2) := by decide +kernel
theorem iJ6_bitCount_0f7a4_51 : ins MJ6_bitCount_0f7a4 51 = some (.iand, 1) := by decide +kernel
theorem iJ6_bitCount_0f7a4_52 : ins MJ6_bitCount_0f7a4 52 = some (.ireturn, 1) := by decide +kernel
theorem iJ7_fill_53178_0 : ins MJ7_fill_53178 0 = some (.iconst 0, 1) := by decide +kernel
theorem iJ7_fill_53178_1 : ins MJ7_fill_53178 1 = some (.istore_n 2, 1) := by decide +kernel
theorem iJ7_fill_53178_2 : ins MJ7_fill_53178 2 = some (.aload_n 0, 1) := by decide +kernel
theorem iJ7_fill_53178_3 : ins MJ7_fill_53178 3 = some (.arraylength, 1) := by decide +kernel
theorem iJ7_fill_53178_4 : ins MJ7_fill_53178 4 = some (.istore_n 3, 1) := by decide +kernel
theorem iJ7_fill_53178_5 : ins MJ7_fill_53178 5 = some (.iload_n 2, 1) := by decide +kernel
theorem iJ7_fill_53178_6 : ins MJ7_fill_53178 6 = some (.iload_n 3, 1) := by decide +kernel
theorem iJ7_fill_53178_7 : ins MJ7_fill_53178 7 = some (.if_icmp .ge 13, 3) := by decide +kernel
theorem iJ7_fill_53178_10 : ins MJ7_fill_53178 10 = some (.aload_n 0, 1) := by decide +kernel
theorem iJ7_fill_53178_11 : ins MJ7_fill_53178 11 = some (.iload_n 2, 1) := by decide +kernel
theorem iJ7_fill_53178_12 : ins MJ7_fill_53178 12 = some (.iload_n 1, 1) := by decide +kernel
theorem iJ7_fill_53178_13 : ins MJ7_fill_53178 13 = some (.iastore, 1) := by decide +kernel
theorem iJ7_fill_53178_14 : ins MJ7_fill_53178 14 = some (.iinc 2 1, 3) := by decide +kernel
theorem iJ7_fill_53178_17 : ins MJ7_fill_53178 17 = some (.goto (-12), 3) := by decide +kernel
theorem iJ7_fill_53178_20 : ins MJ7_fill_53178 20 = some (.return_, 1) := by decide +kernel
