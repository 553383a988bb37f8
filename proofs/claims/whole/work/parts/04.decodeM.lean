theorem dL_put_0 : decode cL_put 0 = .ok (.aload 6, 2) := by decide +kernel
theorem dL_put_2 : decode cL_put 2 = .ok (.iconst 0, 1) := by decide +kernel
theorem dL_put_3 : decode cL_put 3 = .ok (.aload_n 0, 1) := by decide +kernel
theorem dL_put_4 : decode cL_put 4 = .ok (.iload_n 1, 1) := by decide +kernel
theorem dL_put_5 : decode cL_put 5 = .ok (.iload_n 2, 1) := by decide +kernel
theorem dL_put_6 : decode cL_put 6 = .ok (.lload_n 3, 1) := by decide +kernel
theorem dL_put_7 : decode cL_put 7 = .ok (.iload 5, 2) := by decide +kernel
theorem dL_put_9 : decode cL_put 9 = .ok (.invokevirtual 7, 3) := by decide +kernel
theorem dL_put_12 : decode cL_put 12 = .ok (.i2l, 1) := by decide +kernel
theorem dL_put_13 : decode cL_put 13 = .ok (.lastore, 1) := by decide +kernel
theorem dL_put_14 : decode cL_put 14 = .ok (.goto 11, 3) := by decide +kernel
theorem dL_put_17 : decode cL_put 17 = .ok (.astore 7, 2) := by decide +kernel
theorem dL_put_19 : decode cL_put 19 = .ok (.iconst 1, 1) := by decide +kernel
theorem dL_put_20 : decode cL_put 20 = .ok (.ireturn, 1) := by decide +kernel
theorem dL_put_21 : decode cL_put 21 = .ok (.astore 7, 2) := by decide +kernel
theorem dL_put_23 : decode cL_put 23 = .ok (.iconst 2, 1) := by decide +kernel
theorem dL_put_24 : decode cL_put 24 = .ok (.ireturn, 1) := by decide +kernel
theorem dL_put_25 : decode cL_put 25 = .ok (.iconst 0, 1) := by decide +kernel
theorem dL_put_26 : decode cL_put 26 = .ok (.ireturn, 1) := by decide +kernel
theorem dL_delete_0 : decode cL_delete 0 = .ok (.aload 4, 2) := by decide +kernel
theorem dL_delete_2 : decode cL_delete 2 = .ok (.iconst 0, 1) := by decide +kernel
theorem dL_delete_3 : decode cL_delete 3 = .ok (.aload_n 0, 1) := by decide +kernel
theorem dL_delete_4 : decode cL_delete 4 = .ok (.iload_n 1, 1) := by decide +kernel
theorem dL_delete_5 : decode cL_delete 5 = .ok (.iload_n 2, 1) := by decide +kernel
theorem dL_delete_6 : decode cL_delete 6 = .ok (.iload_n 3, 1) := by decide +kernel
theorem dL_delete_7 : decode cL_delete 7 = .ok (.invokevirtual 17, 3) := by decide +kernel
theorem dL_delete_10 : decode cL_delete 10 = .ok (.i2l, 1) := by decide +kernel
theorem dL_delete_11 : decode cL_delete 11 = .ok (.lastore, 1) := by decide +kernel
theorem dL_delete_12 : decode cL_delete 12 = .ok (.goto 11, 3) := by decide +kernel
theorem dL_delete_15 : decode cL_delete 15 = .ok (.astore 5, 2) := by decide +kernel
theorem dL_delete_17 : decode cL_delete 17 = .ok (.iconst 1, 1) := by decide +kernel
theorem dL_delete_18 : decode cL_delete 18 = .ok (.ireturn, 1) := by decide +kernel
theorem dL_delete_19 : decode cL_delete 19 = .ok (.astore 5, 2) := by decide +kernel
theorem dL_delete_21 : decode cL_delete 21 = .ok (.iconst 2, 1) := by decide +kernel
theorem dL_delete_22 : decode cL_delete 22 = .ok (.ireturn, 1) := by decide +kernel
theorem dL_delete_23 : decode cL_delete 23 = .ok (.iconst 0, 1) := by decide +kernel
theorem dL_delete_24 : decode cL_delete 24 = .ok (.ireturn, 1) := by decide +kernel
theorem dL_get_0 : decode cL_get 0 = .ok (.aload_n 3, 1) := by decide +kernel
theorem dL_get_1 : decode cL_get 1 = .ok (.iconst 0, 1) := by decide +kernel
theorem dL_get_2 : decode cL_get 2 = .ok (.aload_n 0, 1) := by decide +kernel
theorem dL_get_3 : decode cL_get 3 = .ok (.iload_n 1, 1) := by decide +kernel
theorem dL_get_4 : decode cL_get 4 = .ok (.iload_n 2, 1) := by decide +kernel
theorem dL_get_5 : decode cL_get 5 = .ok (.invokevirtual 21, 3) := by decide +kernel
theorem dL_get_8 : decode cL_get 8 = .ok (.lastore, 1) := by decide +kernel
theorem dL_get_9 : decode cL_get 9 = .ok (.goto 11, 3) := by decide +kernel
theorem dL_get_12 : decode cL_get 12 = .ok (.astore 4, 2) := by decide +kernel
theorem dL_get_14 : decode cL_get 14 = .ok (.iconst 1, 1) := by decide +kernel
theorem dL_get_15 : decode cL_get 15 = .ok (.ireturn, 1) := by decide +kernel
theorem dL_get_16 : decode cL_get 16 = .ok (.astore 4, 2) := by decide +kernel
theorem dL_get_18 : decode cL_get 18 = .ok (.iconst 2, 1) := by decide +kernel
theorem dL_get_19 : decode cL_get 19 = .ok (.ireturn, 1) := by decide +kernel
theorem dL_get_20 : decode cL_get 20 = .ok (.iconst 0, 1) := by decide +kernel
theorem dL_get_21 : decode cL_get 21 = .ok (.ireturn, 1) := by decide +kernel
theorem dL_stamp_0 : decode cL_stamp 0 = .ok (.aload_n 3, 1) := by decide +kernel
theorem dL_stamp_1 : decode cL_stamp 1 = .ok (.iconst 0, 1) := by decide +kernel
theorem dL_stamp_2 : decode cL_stamp 2 = .ok (.aload_n 0, 1) := by decide +kernel
theorem dL_stamp_3 : decode cL_stamp 3 = .ok (.iload_n 1, 1) := by decide +kernel
theorem dL_stamp_4 : decode cL_stamp 4 = .ok (.iload_n 2, 1) := by decide +kernel
theorem dL_stamp_5 : decode cL_stamp 5 = .ok (.invokevirtual 27, 3) := by decide +kernel
theorem dL_stamp_8 : decode cL_stamp 8 = .ok (.i2l, 1) := by decide +kernel
theorem dL_stamp_9 : decode cL_stamp 9 = .ok (.lastore, 1) := by decide +kernel
theorem dL_stamp_10 : decode cL_stamp 10 = .ok (.goto 7, 3) := by decide +kernel
theorem dL_stamp_13 : decode cL_stamp 13 = .ok (.astore 4, 2) := by decide +kernel
theorem dL_stamp_15 : decode cL_stamp 15 = .ok (.iconst 1, 1) := by decide +kernel
theorem dL_stamp_16 : decode cL_stamp 16 = .ok (.ireturn, 1) := by decide +kernel
theorem dL_stamp_17 : decode cL_stamp 17 = .ok (.iconst 0, 1) := by decide +kernel
theorem dL_stamp_18 : decode cL_stamp 18 = .ok (.ireturn, 1) := by decide +kernel
theorem dL_part_0 : decode cL_part 0 = .ok (.aload 5, 2) := by decide +kernel
theorem dL_part_2 : decode cL_part 2 = .ok (.iconst 0, 1) := by decide +kernel
theorem dL_part_3 : decode cL_part 3 = .ok (.aload_n 0, 1) := by decide +kernel
theorem dL_part_4 : decode cL_part 4 = .ok (.iload_n 1, 1) := by decide +kernel
theorem dL_part_5 : decode cL_part 5 = .ok (.iload_n 2, 1) := by decide +kernel
theorem dL_part_6 : decode cL_part 6 = .ok (.iload_n 3, 1) := by decide +kernel
theorem dL_part_7 : decode cL_part 7 = .ok (.iload 4, 2) := by decide +kernel
theorem dL_part_9 : decode cL_part 9 = .ok (.invokevirtual 31, 3) := by decide +kernel
theorem dL_part_12 : decode cL_part 12 = .ok (.lastore, 1) := by decide +kernel
theorem dL_part_13 : decode cL_part 13 = .ok (.goto 7, 3) := by decide +kernel
theorem dL_part_16 : decode cL_part 16 = .ok (.astore 6, 2) := by decide +kernel
theorem dL_part_18 : decode cL_part 18 = .ok (.iconst 1, 1) := by decide +kernel
theorem dL_part_19 : decode cL_part 19 = .ok (.ireturn, 1) := by decide +kernel
theorem dL_part_20 : decode cL_part 20 = .ok (.iconst 0, 1) := by decide +kernel
theorem dL_part_21 : decode cL_part 21 = .ok (.ireturn, 1) := by decide +kernel
theorem dL_at_0 : decode cL_at 0 = .ok (.aload_n 3, 1) := by decide +kernel
theorem dL_at_1 : decode cL_at 1 = .ok (.iconst 0, 1) := by decide +kernel
theorem dL_at_2 : decode cL_at 2 = .ok (.aload_n 0, 1) := by decide +kernel
theorem dL_at_3 : decode cL_at 3 = .ok (.iload_n 1, 1) := by decide +kernel
theorem dL_at_4 : decode cL_at 4 = .ok (.iload_n 2, 1) := by decide +kernel
theorem dL_at_5 : decode cL_at 5 = .ok (.invokevirtual 35, 3) := by decide +kernel
theorem dL_at_8 : decode cL_at 8 = .ok (.i2l, 1) := by decide +kernel
theorem dL_at_9 : decode cL_at 9 = .ok (.lastore, 1) := by decide +kernel
theorem dL_at_10 : decode cL_at 10 = .ok (.goto 11, 3) := by decide +kernel
theorem dL_at_13 : decode cL_at 13 = .ok (.astore 4, 2) := by decide +kernel
theorem dL_at_15 : decode cL_at 15 = .ok (.iconst 1, 1) := by decide +kernel
theorem dL_at_16 : decode cL_at 16 = .ok (.ireturn, 1) := by decide +kernel
theorem dL_at_17 : decode cL_at 17 = .ok (.astore 4, 2) := by decide +kernel
theorem dL_at_19 : decode cL_at 19 = .ok (.iconst 2, 1) := by decide +kernel
theorem dL_at_20 : decode cL_at 20 = .ok (.ireturn, 1) := by decide +kernel
theorem dL_at_21 : decode cL_at 21 = .ok (.iconst 0, 1) := by decide +kernel
theorem dL_at_22 : decode cL_at 22 = .ok (.ireturn, 1) := by decide +kernel
theorem dL_differ_0 : decode cL_differ 0 = .ok (.aload_n 3, 1) := by decide +kernel
theorem dL_differ_1 : decode cL_differ 1 = .ok (.iconst 0, 1) := by decide +kernel
theorem dL_differ_2 : decode cL_differ 2 = .ok (.aload_n 0, 1) := by decide +kernel
theorem dL_differ_3 : decode cL_differ 3 = .ok (.iload_n 1, 1) := by decide +kernel
theorem dL_differ_4 : decode cL_differ 4 = .ok (.iload_n 2, 1) := by decide +kernel
theorem dL_differ_5 : decode cL_differ 5 = .ok (.invokevirtual 38, 3) := by decide +kernel
theorem dL_differ_8 : decode cL_differ 8 = .ok (.i2l, 1) := by decide +kernel
theorem dL_differ_9 : decode cL_differ 9 = .ok (.lastore, 1) := by decide +kernel
theorem dL_differ_10 : decode cL_differ 10 = .ok (.goto 7, 3) := by decide +kernel
theorem dL_differ_13 : decode cL_differ 13 = .ok (.astore 4, 2) := by decide +kernel
theorem dL_differ_15 : decode cL_differ 15 = .ok (.iconst 1, 1) := by decide +kernel
theorem dL_differ_16 : decode cL_differ 16 = .ok (.ireturn, 1) := by decide +kernel
theorem dL_differ_17 : decode cL_differ 17 = .ok (.iconst 0, 1) := by decide +kernel
theorem dL_differ_18 : decode cL_differ 18 = .ok (.ireturn, 1) := by decide +kernel
theorem dM_init_0 : decode cM_init 0 = .ok (.aload_n 0, 1) := by decide +kernel
theorem dM_init_1 : decode cM_init 1 = .ok (.invokespecial 1, 3) := by decide +kernel
theorem dM_init_4 : decode cM_init 4 = .ok (.aload_n 0, 1) := by decide +kernel
theorem dM_init_5 : decode cM_init 5 = .ok (.sipush 400, 3) := by decide +kernel
theorem dM_init_8 : decode cM_init 8 = .ok (.newarray .int, 2) := by decide +kernel
theorem dM_init_10 : decode cM_init 10 = .ok (.putfield 7, 3) := by decide +kernel
theorem dM_init_13 : decode cM_init 13 = .ok (.aload_n 0, 1) := by decide +kernel
theorem dM_init_14 : decode cM_init 14 = .ok (.sipush 400, 3) := by decide +kernel
theorem dM_init_17 : decode cM_init 17 = .ok (.newarray .int, 2) := by decide +kernel
theorem dM_init_19 : decode cM_init 19 = .ok (.putfield 13, 3) := by decide +kernel
theorem dM_init_22 : decode cM_init 22 = .ok (.aload_n 0, 1) := by decide +kernel
theorem dM_init_23 : decode cM_init 23 = .ok (.sipush 400, 3) := by decide +kernel
theorem dM_init_26 : decode cM_init 26 = .ok (.newarray .int, 2) := by decide +kernel
theorem dM_init_28 : decode cM_init 28 = .ok (.putfield 16, 3) := by decide +kernel
theorem dM_init_31 : decode cM_init 31 = .ok (.aload_n 0, 1) := by decide +kernel
theorem dM_init_32 : decode cM_init 32 = .ok (.sipush 400, 3) := by decide +kernel
theorem dM_init_35 : decode cM_init 35 = .ok (.newarray .long, 2) := by decide +kernel
theorem dM_init_37 : decode cM_init 37 = .ok (.putfield 19, 3) := by decide +kernel
theorem dM_init_40 : decode cM_init 40 = .ok (.aload_n 0, 1) := by decide +kernel
theorem dM_init_41 : decode cM_init 41 = .ok (.sipush 400, 3) := by decide +kernel
theorem dM_init_44 : decode cM_init 44 = .ok (.newarray .boolean, 2) := by decide +kernel
theorem dM_init_46 : decode cM_init 46 = .ok (.putfield 23, 3) := by decide +kernel
theorem dM_init_49 : decode cM_init 49 = .ok (.aload_n 0, 1) := by decide +kernel
theorem dM_init_50 : decode cM_init 50 = .ok (.sipush 1024, 3) := by decide +kernel
theorem dM_init_53 : decode cM_init 53 = .ok (.newarray .int, 2) := by decide +kernel
theorem dM_init_55 : decode cM_init 55 = .ok (.putfield 27, 3) := by decide +kernel
theorem dM_init_58 : decode cM_init 58 = .ok (.aload_n 0, 1) := by decide +kernel
theorem dM_init_59 : decode cM_init 59 = .ok (.sipush 1024, 3) := by decide +kernel
theorem dM_init_62 : decode cM_init 62 = .ok (.newarray .int, 2) := by decide +kernel
theorem dM_init_64 : decode cM_init 64 = .ok (.putfield 30, 3) := by decide +kernel
theorem dM_init_67 : decode cM_init 67 = .ok (.aload_n 0, 1) := by decide +kernel
theorem dM_init_68 : decode cM_init 68 = .ok (.iconst 1, 1) := by decide +kernel
theorem dM_init_69 : decode cM_init 69 = .ok (.putfield 33, 3) := by decide +kernel
theorem dM_init_72 : decode cM_init 72 = .ok (.return_, 1) := by decide +kernel
theorem dM_thrown_0 : decode cM_thrown 0 = .ok (.aload_n 0, 1) := by decide +kernel
theorem dM_thrown_1 : decode cM_thrown 1 = .ok (.getfield 37, 3) := by decide +kernel
theorem dM_thrown_4 : decode cM_thrown 4 = .ok (.ireturn, 1) := by decide +kernel
theorem dM_put_0 : decode cM_put 0 = .ok (.aload_n 0, 1) := by decide +kernel
theorem dM_put_1 : decode cM_put 1 = .ok (.iload_n 1, 1) := by decide +kernel
theorem dM_put_2 : decode cM_put 2 = .ok (.iload_n 2, 1) := by decide +kernel
theorem dM_put_3 : decode cM_put 3 = .ok (.lload_n 3, 1) := by decide +kernel
theorem dM_put_4 : decode cM_put 4 = .ok (.iload 5, 2) := by decide +kernel
theorem dM_put_6 : decode cM_put 6 = .ok (.iconst 0, 1) := by decide +kernel
theorem dM_put_7 : decode cM_put 7 = .ok (.invokevirtual 52, 3) := by decide +kernel
theorem dM_put_10 : decode cM_put 10 = .ok (.ireturn, 1) := by decide +kernel
theorem dM_change_0 : decode cM_change 0 = .ok (.aload_n 0, 1) := by decide +kernel
theorem dM_change_1 : decode cM_change 1 = .ok (.aload_n 0, 1) := by decide +kernel
theorem dM_change_2 : decode cM_change 2 = .ok (.iload_n 1, 1) := by decide +kernel
theorem dM_change_3 : decode cM_change 3 = .ok (.invokevirtual 40, 3) := by decide +kernel
theorem dM_change_6 : decode cM_change 6 = .ok (.ifCond .ne 22, 3) := by decide +kernel
theorem dM_change_9 : decode cM_change 9 = .ok (.iload_n 2, 1) := by decide +kernel
theorem dM_change_10 : decode cM_change 10 = .ok (.invokestatic 44, 3) := by decide +kernel
theorem dM_change_13 : decode cM_change 13 = .ok (.ifCond .ne 15, 3) := by decide +kernel
theorem dM_change_16 : decode cM_change 16 = .ok (.iload 5, 2) := by decide +kernel
theorem dM_change_18 : decode cM_change 18 = .ok (.ifCond .lt 10, 3) := by decide +kernel
theorem dM_change_21 : decode cM_change 21 = .ok (.iload 5, 2) := by decide +kernel
theorem dM_change_23 : decode cM_change 23 = .ok (.ldc 47, 2) := by decide +kernel
theorem dM_change_25 : decode cM_change 25 = .ok (.if_icmp .le 7, 3) := by decide +kernel
theorem dM_change_28 : decode cM_change 28 = .ok (.iconst 1, 1) := by decide +kernel
theorem dM_change_29 : decode cM_change 29 = .ok (.goto 4, 3) := by decide +kernel
theorem dM_change_32 : decode cM_change 32 = .ok (.iconst 0, 1) := by decide +kernel
theorem dM_change_33 : decode cM_change 33 = .ok (.iconst 1, 1) := by decide +kernel
theorem dM_change_34 : decode cM_change 34 = .ok (.invokevirtual 48, 3) := by decide +kernel
theorem dM_change_37 : decode cM_change 37 = .ok (.ifCond .eq 5, 3) := by decide +kernel
theorem dM_change_40 : decode cM_change 40 = .ok (.iconst 0, 1) := by decide +kernel
theorem dM_change_41 : decode cM_change 41 = .ok (.ireturn, 1) := by decide +kernel
theorem dM_change_42 : decode cM_change 42 = .ok (.aload_n 0, 1) := by decide +kernel
theorem dM_change_43 : decode cM_change 43 = .ok (.aload_n 0, 1) := by decide +kernel
theorem dM_change_44 : decode cM_change 44 = .ok (.getfield 33, 3) := by decide +kernel
theorem dM_change_47 : decode cM_change 47 = .ok (.sipush 400, 3) := by decide +kernel
theorem dM_change_50 : decode cM_change 50 = .ok (.if_icmp .ne 7, 3) := by decide +kernel
theorem dM_change_53 : decode cM_change 53 = .ok (.iconst 1, 1) := by decide +kernel
theorem dM_change_54 : decode cM_change 54 = .ok (.goto 4, 3) := by decide +kernel
theorem dM_change_57 : decode cM_change 57 = .ok (.iconst 0, 1) := by decide +kernel
theorem dM_change_58 : decode cM_change 58 = .ok (.iconst 2, 1) := by decide +kernel
theorem dM_change_59 : decode cM_change 59 = .ok (.invokevirtual 48, 3) := by decide +kernel
theorem dM_change_62 : decode cM_change 62 = .ok (.ifCond .eq 5, 3) := by decide +kernel
theorem dM_change_65 : decode cM_change 65 = .ok (.iconst 0, 1) := by decide +kernel
theorem dM_change_66 : decode cM_change 66 = .ok (.ireturn, 1) := by decide +kernel
theorem dM_change_67 : decode cM_change 67 = .ok (.aload_n 0, 1) := by decide +kernel
theorem dM_change_68 : decode cM_change 68 = .ok (.getfield 7, 3) := by decide +kernel
theorem dM_change_71 : decode cM_change 71 = .ok (.aload_n 0, 1) := by decide +kernel
theorem dM_change_72 : decode cM_change 72 = .ok (.getfield 33, 3) := by decide +kernel
theorem dM_change_75 : decode cM_change 75 = .ok (.iload_n 1, 1) := by decide +kernel
theorem dM_change_76 : decode cM_change 76 = .ok (.iastore, 1) := by decide +kernel
theorem dM_change_77 : decode cM_change 77 = .ok (.aload_n 0, 1) := by decide +kernel
theorem dM_change_78 : decode cM_change 78 = .ok (.getfield 13, 3) := by decide +kernel
theorem dM_change_81 : decode cM_change 81 = .ok (.aload_n 0, 1) := by decide +kernel
theorem dM_change_82 : decode cM_change 82 = .ok (.getfield 33, 3) := by decide +kernel
theorem dM_change_85 : decode cM_change 85 = .ok (.iload_n 2, 1) := by decide +kernel
theorem dM_change_86 : decode cM_change 86 = .ok (.iastore, 1) := by decide +kernel
theorem dM_change_87 : decode cM_change 87 = .ok (.aload_n 0, 1) := by decide +kernel
theorem dM_change_88 : decode cM_change 88 = .ok (.getfield 19, 3) := by decide +kernel
theorem dM_change_91 : decode cM_change 91 = .ok (.aload_n 0, 1) := by decide +kernel
theorem dM_change_92 : decode cM_change 92 = .ok (.getfield 33, 3) := by decide +kernel
theorem dM_change_95 : decode cM_change 95 = .ok (.lload_n 3, 1) := by decide +kernel
theorem dM_change_96 : decode cM_change 96 = .ok (.lastore, 1) := by decide +kernel
theorem dM_change_97 : decode cM_change 97 = .ok (.aload_n 0, 1) := by decide +kernel
theorem dM_change_98 : decode cM_change 98 = .ok (.getfield 23, 3) := by decide +kernel
theorem dM_change_101 : decode cM_change 101 = .ok (.aload_n 0, 1) := by decide +kernel
theorem dM_change_102 : decode cM_change 102 = .ok (.getfield 33, 3) := by decide +kernel
theorem dM_change_105 : decode cM_change 105 = .ok (.iload 6, 2) := by decide +kernel
theorem dM_change_107 : decode cM_change 107 = .ok (.bastore, 1) := by decide +kernel
theorem dM_change_108 : decode cM_change 108 = .ok (.aload_n 0, 1) := by decide +kernel
theorem dM_change_109 : decode cM_change 109 = .ok (.getfield 16, 3) := by decide +kernel
theorem dM_change_112 : decode cM_change 112 = .ok (.aload_n 0, 1) := by decide +kernel
theorem dM_change_113 : decode cM_change 113 = .ok (.getfield 33, 3) := by decide +kernel
theorem dM_change_116 : decode cM_change 116 = .ok (.iload 5, 2) := by decide +kernel
theorem dM_change_118 : decode cM_change 118 = .ok (.iastore, 1) := by decide +kernel
theorem dM_change_119 : decode cM_change 119 = .ok (.aload_n 0, 1) := by decide +kernel
theorem dM_change_120 : decode cM_change 120 = .ok (.dup, 1) := by decide +kernel
theorem dM_change_121 : decode cM_change 121 = .ok (.getfield 33, 3) := by decide +kernel
theorem dM_change_124 : decode cM_change 124 = .ok (.dup_x1, 1) := by decide +kernel
theorem dM_change_125 : decode cM_change 125 = .ok (.iconst 1, 1) := by decide +kernel
theorem dM_change_126 : decode cM_change 126 = .ok (.iadd, 1) := by decide +kernel
theorem dM_change_127 : decode cM_change 127 = .ok (.putfield 33, 3) := by decide +kernel
theorem dM_change_130 : decode cM_change 130 = .ok (.ireturn, 1) := by decide +kernel
theorem dM_noTable_0 : decode cM_noTable 0 = .ok (.iload_n 1, 1) := by decide +kernel
theorem dM_noTable_1 : decode cM_noTable 1 = .ok (.ifCond .lt 11, 3) := by decide +kernel
theorem dM_noTable_4 : decode cM_noTable 4 = .ok (.iload_n 1, 1) := by decide +kernel
theorem dM_noTable_5 : decode cM_noTable 5 = .ok (.aload_n 0, 1) := by decide +kernel
theorem dM_noTable_6 : decode cM_noTable 6 = .ok (.getfield 33, 3) := by decide +kernel
theorem dM_noTable_9 : decode cM_noTable 9 = .ok (.if_icmp .lt 7, 3) := by decide +kernel
theorem dM_noTable_12 : decode cM_noTable 12 = .ok (.iconst 1, 1) := by decide +kernel
theorem dM_noTable_13 : decode cM_noTable 13 = .ok (.goto 4, 3) := by decide +kernel
theorem dM_noTable_16 : decode cM_noTable 16 = .ok (.iconst 0, 1) := by decide +kernel
theorem dM_noTable_17 : decode cM_noTable 17 = .ok (.ireturn, 1) := by decide +kernel
theorem dM_noKey_0 : decode cM_noKey 0 = .ok (.iload_n 0, 1) := by decide +kernel
theorem dM_noKey_1 : decode cM_noKey 1 = .ok (.ifCond .lt 10, 3) := by decide +kernel
theorem dM_noKey_4 : decode cM_noKey 4 = .ok (.iload_n 0, 1) := by decide +kernel
theorem dM_noKey_5 : decode cM_noKey 5 = .ok (.sipush 1024, 3) := by decide +kernel
theorem dM_noKey_8 : decode cM_noKey 8 = .ok (.if_icmp .lt 7, 3) := by decide +kernel
theorem dM_noKey_11 : decode cM_noKey 11 = .ok (.iconst 1, 1) := by decide +kernel
theorem dM_noKey_12 : decode cM_noKey 12 = .ok (.goto 4, 3) := by decide +kernel
theorem dM_noKey_15 : decode cM_noKey 15 = .ok (.iconst 0, 1) := by decide +kernel
theorem dM_noKey_16 : decode cM_noKey 16 = .ok (.ireturn, 1) := by decide +kernel
theorem dM_fails_0 : decode cM_fails 0 = .ok (.aload_n 0, 1) := by decide +kernel
theorem dM_fails_1 : decode cM_fails 1 = .ok (.iload_n 1, 1) := by decide +kernel
theorem dM_fails_2 : decode cM_fails 2 = .ok (.ifCond .eq 7, 3) := by decide +kernel
theorem dM_fails_5 : decode cM_fails 5 = .ok (.iload_n 2, 1) := by decide +kernel
theorem dM_fails_6 : decode cM_fails 6 = .ok (.goto 4, 3) := by decide +kernel
theorem dM_fails_9 : decode cM_fails 9 = .ok (.iconst 0, 1) := by decide +kernel
theorem dM_fails_10 : decode cM_fails 10 = .ok (.putfield 37, 3) := by decide +kernel
theorem dM_fails_13 : decode cM_fails 13 = .ok (.iload_n 1, 1) := by decide +kernel
theorem dM_fails_14 : decode cM_fails 14 = .ok (.ireturn, 1) := by decide +kernel
theorem dM_delete_0 : decode cM_delete 0 = .ok (.aload_n 0, 1) := by decide +kernel
theorem dM_delete_1 : decode cM_delete 1 = .ok (.iload_n 1, 1) := by decide +kernel
theorem dM_delete_2 : decode cM_delete 2 = .ok (.iload_n 2, 1) := by decide +kernel
theorem dM_delete_3 : decode cM_delete 3 = .ok (.lconst 0, 1) := by decide +kernel
theorem dM_delete_4 : decode cM_delete 4 = .ok (.iload_n 3, 1) := by decide +kernel
theorem dM_delete_5 : decode cM_delete 5 = .ok (.iconst 1, 1) := by decide +kernel
theorem dM_delete_6 : decode cM_delete 6 = .ok (.invokevirtual 52, 3) := by decide +kernel
theorem dM_delete_9 : decode cM_delete 9 = .ok (.ireturn, 1) := by decide +kernel
theorem dM_get_0 : decode cM_get 0 = .ok (.aload_n 0, 1) := by decide +kernel
theorem dM_get_1 : decode cM_get 1 = .ok (.aload_n 0, 1) := by decide +kernel
theorem dM_get_2 : decode cM_get 2 = .ok (.iload_n 1, 1) := by decide +kernel
theorem dM_get_3 : decode cM_get 3 = .ok (.invokevirtual 40, 3) := by decide +kernel
theorem dM_get_6 : decode cM_get 6 = .ok (.ifCond .ne 10, 3) := by decide +kernel
theorem dM_get_9 : decode cM_get 9 = .ok (.iload_n 2, 1) := by decide +kernel
theorem dM_get_10 : decode cM_get 10 = .ok (.invokestatic 44, 3) := by decide +kernel
theorem dM_get_13 : decode cM_get 13 = .ok (.ifCond .eq 7, 3) := by decide +kernel
theorem dM_get_16 : decode cM_get 16 = .ok (.iconst 1, 1) := by decide +kernel
theorem dM_get_17 : decode cM_get 17 = .ok (.goto 4, 3) := by decide +kernel
theorem dM_get_20 : decode cM_get 20 = .ok (.iconst 0, 1) := by decide +kernel
theorem dM_get_21 : decode cM_get 21 = .ok (.iconst 1, 1) := by decide +kernel
theorem dM_get_22 : decode cM_get 22 = .ok (.invokevirtual 48, 3) := by decide +kernel
theorem dM_get_25 : decode cM_get 25 = .ok (.ifCond .eq 5, 3) := by decide +kernel
theorem dM_get_28 : decode cM_get 28 = .ok (.lconst 0, 1) := by decide +kernel
theorem dM_get_29 : decode cM_get 29 = .ok (.lreturn, 1) := by decide +kernel
theorem dM_get_30 : decode cM_get 30 = .ok (.aload_n 0, 1) := by decide +kernel
theorem dM_get_31 : decode cM_get 31 = .ok (.iload_n 1, 1) := by decide +kernel
theorem dM_get_32 : decode cM_get 32 = .ok (.iload_n 2, 1) := by decide +kernel
theorem dM_get_33 : decode cM_get 33 = .ok (.invokevirtual 56, 3) := by decide +kernel
theorem dM_get_36 : decode cM_get 36 = .ok (.istore_n 3, 1) := by decide +kernel
theorem dM_get_37 : decode cM_get 37 = .ok (.aload_n 0, 1) := by decide +kernel
theorem dM_get_38 : decode cM_get 38 = .ok (.iload_n 3, 1) := by decide +kernel
theorem dM_get_39 : decode cM_get 39 = .ok (.ifCond .eq 12, 3) := by decide +kernel
theorem dM_get_42 : decode cM_get 42 = .ok (.aload_n 0, 1) := by decide +kernel
theorem dM_get_43 : decode cM_get 43 = .ok (.getfield 23, 3) := by decide +kernel
theorem dM_get_46 : decode cM_get 46 = .ok (.iload_n 3, 1) := by decide +kernel
theorem dM_get_47 : decode cM_get 47 = .ok (.baload, 1) := by decide +kernel
theorem dM_get_48 : decode cM_get 48 = .ok (.ifCond .eq 7, 3) := by decide +kernel
theorem dM_get_51 : decode cM_get 51 = .ok (.iconst 1, 1) := by decide +kernel
theorem dM_get_52 : decode cM_get 52 = .ok (.goto 4, 3) := by decide +kernel
theorem dM_get_55 : decode cM_get 55 = .ok (.iconst 0, 1) := by decide +kernel
theorem dM_get_56 : decode cM_get 56 = .ok (.iconst 2, 1) := by decide +kernel
theorem dM_get_57 : decode cM_get 57 = .ok (.invokevirtual 48, 3) := by decide +kernel
theorem dM_get_60 : decode cM_get 60 = .ok (.ifCond .eq 7, 3) := by decide +kernel
theorem dM_get_63 : decode cM_get 63 = .ok (.lconst 0, 1) := by decide +kernel
theorem dM_get_64 : decode cM_get 64 = .ok (.goto 9, 3) := by decide +kernel
theorem dM_get_67 : decode cM_get 67 = .ok (.aload_n 0, 1) := by decide +kernel
theorem dM_get_68 : decode cM_get 68 = .ok (.getfield 19, 3) := by decide +kernel
theorem dM_get_71 : decode cM_get 71 = .ok (.iload_n 3, 1) := by decide +kernel
theorem dM_get_72 : decode cM_get 72 = .ok (.laload, 1) := by decide +kernel
theorem dM_get_73 : decode cM_get 73 = .ok (.lreturn, 1) := by decide +kernel
theorem dM_wrote_0 : decode cM_wrote 0 = .ok (.iload_n 1, 1) := by decide +kernel
theorem dM_wrote_1 : decode cM_wrote 1 = .ok (.istore_n 3, 1) := by decide +kernel
theorem dM_wrote_2 : decode cM_wrote 2 = .ok (.iload_n 3, 1) := by decide +kernel
theorem dM_wrote_3 : decode cM_wrote 3 = .ok (.ifCond .eq 23, 3) := by decide +kernel
theorem dM_wrote_6 : decode cM_wrote 6 = .ok (.aload_n 0, 1) := by decide +kernel
theorem dM_wrote_7 : decode cM_wrote 7 = .ok (.getfield 13, 3) := by decide +kernel
theorem dM_wrote_10 : decode cM_wrote 10 = .ok (.iload_n 3, 1) := by decide +kernel
theorem dM_wrote_11 : decode cM_wrote 11 = .ok (.iaload, 1) := by decide +kernel
theorem dM_wrote_12 : decode cM_wrote 12 = .ok (.iload_n 2, 1) := by decide +kernel
theorem dM_wrote_13 : decode cM_wrote 13 = .ok (.if_icmp .eq 13, 3) := by decide +kernel
theorem dM_wrote_16 : decode cM_wrote 16 = .ok (.aload_n 0, 1) := by decide +kernel
theorem dM_wrote_17 : decode cM_wrote 17 = .ok (.getfield 7, 3) := by decide +kernel
theorem dM_wrote_20 : decode cM_wrote 20 = .ok (.iload_n 3, 1) := by decide +kernel
theorem dM_wrote_21 : decode cM_wrote 21 = .ok (.iaload, 1) := by decide +kernel
theorem dM_wrote_22 : decode cM_wrote 22 = .ok (.istore_n 3, 1) := by decide +kernel
theorem dM_wrote_23 : decode cM_wrote 23 = .ok (.goto (-21), 3) := by decide +kernel
theorem dM_wrote_26 : decode cM_wrote 26 = .ok (.iload_n 3, 1) := by decide +kernel
theorem dM_wrote_27 : decode cM_wrote 27 = .ok (.ireturn, 1) := by decide +kernel
theorem dM_stamp_0 : decode cM_stamp 0 = .ok (.aload_n 0, 1) := by decide +kernel
theorem dM_stamp_1 : decode cM_stamp 1 = .ok (.aload_n 0, 1) := by decide +kernel
theorem dM_stamp_2 : decode cM_stamp 2 = .ok (.iload_n 1, 1) := by decide +kernel
theorem dM_stamp_3 : decode cM_stamp 3 = .ok (.invokevirtual 40, 3) := by decide +kernel
theorem dM_stamp_6 : decode cM_stamp 6 = .ok (.ifCond .ne 10, 3) := by decide +kernel
theorem dM_stamp_9 : decode cM_stamp 9 = .ok (.iload_n 2, 1) := by decide +kernel
theorem dM_stamp_10 : decode cM_stamp 10 = .ok (.invokestatic 44, 3) := by decide +kernel
theorem dM_stamp_13 : decode cM_stamp 13 = .ok (.ifCond .eq 7, 3) := by decide +kernel
theorem dM_stamp_16 : decode cM_stamp 16 = .ok (.iconst 1, 1) := by decide +kernel
theorem dM_stamp_17 : decode cM_stamp 17 = .ok (.goto 4, 3) := by decide +kernel
theorem dM_stamp_20 : decode cM_stamp 20 = .ok (.iconst 0, 1) := by decide +kernel
theorem dM_stamp_21 : decode cM_stamp 21 = .ok (.iconst 1, 1) := by decide +kernel
theorem dM_stamp_22 : decode cM_stamp 22 = .ok (.invokevirtual 48, 3) := by decide +kernel
theorem dM_stamp_25 : decode cM_stamp 25 = .ok (.ifCond .eq 5, 3) := by decide +kernel
theorem dM_stamp_28 : decode cM_stamp 28 = .ok (.iconst 0, 1) := by decide +kernel
theorem dM_stamp_29 : decode cM_stamp 29 = .ok (.ireturn, 1) := by decide +kernel
theorem dM_stamp_30 : decode cM_stamp 30 = .ok (.aload_n 0, 1) := by decide +kernel
theorem dM_stamp_31 : decode cM_stamp 31 = .ok (.iload_n 1, 1) := by decide +kernel
theorem dM_stamp_32 : decode cM_stamp 32 = .ok (.iload_n 2, 1) := by decide +kernel
theorem dM_stamp_33 : decode cM_stamp 33 = .ok (.invokevirtual 56, 3) := by decide +kernel
theorem dM_stamp_36 : decode cM_stamp 36 = .ok (.istore_n 3, 1) := by decide +kernel
theorem dM_stamp_37 : decode cM_stamp 37 = .ok (.iload_n 3, 1) := by decide +kernel
theorem dM_stamp_38 : decode cM_stamp 38 = .ok (.ifCond .ne 7, 3) := by decide +kernel
theorem dM_stamp_41 : decode cM_stamp 41 = .ok (.iconst (-1), 1) := by decide +kernel
theorem dM_stamp_42 : decode cM_stamp 42 = .ok (.goto 9, 3) := by decide +kernel
theorem dM_stamp_45 : decode cM_stamp 45 = .ok (.aload_n 0, 1) := by decide +kernel
theorem dM_stamp_46 : decode cM_stamp 46 = .ok (.getfield 16, 3) := by decide +kernel
theorem dM_stamp_49 : decode cM_stamp 49 = .ok (.iload_n 3, 1) := by decide +kernel
theorem dM_stamp_50 : decode cM_stamp 50 = .ok (.iaload, 1) := by decide +kernel
theorem dM_stamp_51 : decode cM_stamp 51 = .ok (.ireturn, 1) := by decide +kernel
theorem dM_part_0 : decode cM_part 0 = .ok (.aload_n 0, 1) := by decide +kernel
theorem dM_part_1 : decode cM_part 1 = .ok (.aload_n 0, 1) := by decide +kernel
theorem dM_part_2 : decode cM_part 2 = .ok (.iload_n 1, 1) := by decide +kernel
theorem dM_part_3 : decode cM_part 3 = .ok (.invokevirtual 40, 3) := by decide +kernel
theorem dM_part_6 : decode cM_part 6 = .ok (.ifCond .ne 33, 3) := by decide +kernel
theorem dM_part_9 : decode cM_part 9 = .ok (.iload_n 2, 1) := by decide +kernel
theorem dM_part_10 : decode cM_part 10 = .ok (.invokestatic 44, 3) := by decide +kernel
theorem dM_part_13 : decode cM_part 13 = .ok (.ifCond .ne 26, 3) := by decide +kernel
theorem dM_part_16 : decode cM_part 16 = .ok (.iload_n 3, 1) := by decide +kernel
theorem dM_part_17 : decode cM_part 17 = .ok (.invokestatic 44, 3) := by decide +kernel
theorem dM_part_20 : decode cM_part 20 = .ok (.ifCond .ne 19, 3) := by decide +kernel
theorem dM_part_23 : decode cM_part 23 = .ok (.iload_n 2, 1) := by decide +kernel
theorem dM_part_24 : decode cM_part 24 = .ok (.iload_n 3, 1) := by decide +kernel
theorem dM_part_25 : decode cM_part 25 = .ok (.if_icmp .gt 14, 3) := by decide +kernel
theorem dM_part_28 : decode cM_part 28 = .ok (.iload 4, 2) := by decide +kernel
theorem dM_part_30 : decode cM_part 30 = .ok (.ifCond .lt 9, 3) := by decide +kernel
theorem dM_part_33 : decode cM_part 33 = .ok (.iload 4, 2) := by decide +kernel
theorem dM_part_35 : decode cM_part 35 = .ok (.iconst 4, 1) := by decide +kernel
theorem dM_part_36 : decode cM_part 36 = .ok (.if_icmp .le 7, 3) := by decide +kernel
theorem dM_part_39 : decode cM_part 39 = .ok (.iconst 1, 1) := by decide +kernel
theorem dM_part_40 : decode cM_part 40 = .ok (.goto 4, 3) := by decide +kernel
theorem dM_part_43 : decode cM_part 43 = .ok (.iconst 0, 1) := by decide +kernel
theorem dM_part_44 : decode cM_part 44 = .ok (.iconst 1, 1) := by decide +kernel
theorem dM_part_45 : decode cM_part 45 = .ok (.invokevirtual 48, 3) := by decide +kernel
theorem dM_part_48 : decode cM_part 48 = .ok (.ifCond .eq 5, 3) := by decide +kernel
theorem dM_part_51 : decode cM_part 51 = .ok (.lconst 0, 1) := by decide +kernel
theorem dM_part_52 : decode cM_part 52 = .ok (.lreturn, 1) := by decide +kernel
theorem dM_part_53 : decode cM_part 53 = .ok (.aload_n 0, 1) := by decide +kernel
theorem dM_part_54 : decode cM_part 54 = .ok (.iload_n 1, 1) := by decide +kernel
theorem dM_part_55 : decode cM_part 55 = .ok (.aload_n 0, 1) := by decide +kernel
theorem dM_part_56 : decode cM_part 56 = .ok (.getfield 27, 3) := by decide +kernel
theorem dM_part_59 : decode cM_part 59 = .ok (.invokevirtual 60, 3) := by decide +kernel
theorem dM_part_62 : decode cM_part 62 = .ok (.lconst 0, 1) := by decide +kernel
theorem dM_part_63 : decode cM_part 63 = .ok (.lstore 5, 2) := by decide +kernel
theorem dM_part_65 : decode cM_part 65 = .ok (.iconst 0, 1) := by decide +kernel
theorem dM_part_66 : decode cM_part 66 = .ok (.istore 7, 2) := by decide +kernel
theorem dM_part_68 : decode cM_part 68 = .ok (.iconst (-1), 1) := by decide +kernel
theorem dM_part_69 : decode cM_part 69 = .ok (.istore 8, 2) := by decide +kernel
theorem dM_part_71 : decode cM_part 71 = .ok (.iconst (-1), 1) := by decide +kernel
theorem dM_part_72 : decode cM_part 72 = .ok (.istore 9, 2) := by decide +kernel
theorem dM_part_74 : decode cM_part 74 = .ok (.iconst (-1), 1) := by decide +kernel
theorem dM_part_75 : decode cM_part 75 = .ok (.istore 10, 2) := by decide +kernel
theorem dM_part_77 : decode cM_part 77 = .ok (.iload_n 2, 1) := by decide +kernel
theorem dM_part_78 : decode cM_part 78 = .ok (.istore 11, 2) := by decide +kernel
theorem dM_part_80 : decode cM_part 80 = .ok (.iload 11, 2) := by decide +kernel
theorem dM_part_82 : decode cM_part 82 = .ok (.iload_n 3, 1) := by decide +kernel
theorem dM_part_83 : decode cM_part 83 = .ok (.if_icmp .gt 84, 3) := by decide +kernel
theorem dM_part_86 : decode cM_part 86 = .ok (.aload_n 0, 1) := by decide +kernel
theorem dM_part_87 : decode cM_part 87 = .ok (.getfield 27, 3) := by decide +kernel
theorem dM_part_90 : decode cM_part 90 = .ok (.iload 11, 2) := by decide +kernel
theorem dM_part_92 : decode cM_part 92 = .ok (.iaload, 1) := by decide +kernel
theorem dM_part_93 : decode cM_part 93 = .ok (.istore 12, 2) := by decide +kernel
theorem dM_part_95 : decode cM_part 95 = .ok (.iload 12, 2) := by decide +kernel
theorem dM_part_97 : decode cM_part 97 = .ok (.ifCond .eq 24, 3) := by decide +kernel
theorem dM_part_100 : decode cM_part 100 = .ok (.aload_n 0, 1) := by decide +kernel
theorem dM_part_101 : decode cM_part 101 = .ok (.getfield 16, 3) := by decide +kernel
theorem dM_part_104 : decode cM_part 104 = .ok (.iload 12, 2) := by decide +kernel
theorem dM_part_106 : decode cM_part 106 = .ok (.iaload, 1) := by decide +kernel
theorem dM_part_107 : decode cM_part 107 = .ok (.iload 10, 2) := by decide +kernel
theorem dM_part_109 : decode cM_part 109 = .ok (.if_icmp .le 12, 3) := by decide +kernel
theorem dM_part_112 : decode cM_part 112 = .ok (.aload_n 0, 1) := by decide +kernel
theorem dM_part_113 : decode cM_part 113 = .ok (.getfield 16, 3) := by decide +kernel
theorem dM_part_116 : decode cM_part 116 = .ok (.iload 12, 2) := by decide +kernel
theorem dM_part_118 : decode cM_part 118 = .ok (.iaload, 1) := by decide +kernel
theorem dM_part_119 : decode cM_part 119 = .ok (.istore 10, 2) := by decide +kernel
theorem dM_part_121 : decode cM_part 121 = .ok (.aload_n 0, 1) := by decide +kernel
theorem dM_part_122 : decode cM_part 122 = .ok (.iload 12, 2) := by decide +kernel
theorem dM_part_124 : decode cM_part 124 = .ok (.invokevirtual 64, 3) := by decide +kernel
theorem dM_part_127 : decode cM_part 127 = .ok (.ifCond .ne 6, 3) := by decide +kernel
theorem dM_part_130 : decode cM_part 130 = .ok (.goto 31, 3) := by decide +kernel
theorem dM_part_133 : decode cM_part 133 = .ok (.iinc 7 1, 3) := by decide +kernel
theorem dM_part_136 : decode cM_part 136 = .ok (.lload 5, 2) := by decide +kernel
theorem dM_part_138 : decode cM_part 138 = .ok (.aload_n 0, 1) := by decide +kernel
theorem dM_part_139 : decode cM_part 139 = .ok (.getfield 19, 3) := by decide +kernel
theorem dM_part_142 : decode cM_part 142 = .ok (.iload 12, 2) := by decide +kernel
theorem dM_part_144 : decode cM_part 144 = .ok (.laload, 1) := by decide +kernel
theorem dM_part_145 : decode cM_part 145 = .ok (.ladd, 1) := by decide +kernel
theorem dM_part_146 : decode cM_part 146 = .ok (.lstore 5, 2) := by decide +kernel
theorem dM_part_148 : decode cM_part 148 = .ok (.iload 11, 2) := by decide +kernel
theorem dM_part_150 : decode cM_part 150 = .ok (.istore 9, 2) := by decide +kernel
theorem dM_part_152 : decode cM_part 152 = .ok (.iload 8, 2) := by decide +kernel
theorem dM_part_154 : decode cM_part 154 = .ok (.ifCond .ge 7, 3) := by decide +kernel
theorem dM_part_157 : decode cM_part 157 = .ok (.iload 11, 2) := by decide +kernel
theorem dM_part_159 : decode cM_part 159 = .ok (.istore 8, 2) := by decide +kernel
theorem dM_part_161 : decode cM_part 161 = .ok (.iinc 11 1, 3) := by decide +kernel
theorem dM_part_164 : decode cM_part 164 = .ok (.goto (-84), 3) := by decide +kernel
theorem dM_part_167 : decode cM_part 167 = .ok (.iload 4, 2) := by decide +kernel
theorem dM_part_169 : decode cM_part 169 = .ok (.ifCond .ne 9, 3) := by decide +kernel
theorem dM_part_172 : decode cM_part 172 = .ok (.iload 7, 2) := by decide +kernel
theorem dM_part_174 : decode cM_part 174 = .ok (.i2l, 1) := by decide +kernel
theorem dM_part_175 : decode cM_part 175 = .ok (.goto 41, 3) := by decide +kernel
theorem dM_part_178 : decode cM_part 178 = .ok (.iload 4, 2) := by decide +kernel
theorem dM_part_180 : decode cM_part 180 = .ok (.iconst 1, 1) := by decide +kernel
theorem dM_part_181 : decode cM_part 181 = .ok (.if_icmp .ne 8, 3) := by decide +kernel
theorem dM_part_184 : decode cM_part 184 = .ok (.lload 5, 2) := by decide +kernel
theorem dM_part_186 : decode cM_part 186 = .ok (.goto 30, 3) := by decide +kernel
theorem dM_part_189 : decode cM_part 189 = .ok (.iload 4, 2) := by decide +kernel
theorem dM_part_191 : decode cM_part 191 = .ok (.iconst 2, 1) := by decide +kernel
theorem dM_part_192 : decode cM_part 192 = .ok (.if_icmp .ne 9, 3) := by decide +kernel
theorem dM_part_195 : decode cM_part 195 = .ok (.iload 8, 2) := by decide +kernel
theorem dM_part_197 : decode cM_part 197 = .ok (.i2l, 1) := by decide +kernel
theorem dM_part_198 : decode cM_part 198 = .ok (.goto 18, 3) := by decide +kernel
theorem dM_part_201 : decode cM_part 201 = .ok (.iload 4, 2) := by decide +kernel
theorem dM_part_203 : decode cM_part 203 = .ok (.iconst 3, 1) := by decide +kernel
theorem dM_part_204 : decode cM_part 204 = .ok (.if_icmp .ne 9, 3) := by decide +kernel
theorem dM_part_207 : decode cM_part 207 = .ok (.iload 9, 2) := by decide +kernel
theorem dM_part_209 : decode cM_part 209 = .ok (.i2l, 1) := by decide +kernel
theorem dM_part_210 : decode cM_part 210 = .ok (.goto 6, 3) := by decide +kernel
theorem dM_part_213 : decode cM_part 213 = .ok (.iload 10, 2) := by decide +kernel
theorem dM_part_215 : decode cM_part 215 = .ok (.i2l, 1) := by decide +kernel
theorem dM_part_216 : decode cM_part 216 = .ok (.lreturn, 1) := by decide +kernel
theorem dM_whole_0 : decode cM_whole 0 = .ok (.iconst 0, 1) := by decide +kernel
theorem dM_whole_1 : decode cM_whole 1 = .ok (.istore_n 3, 1) := by decide +kernel
theorem dM_whole_2 : decode cM_whole 2 = .ok (.iload_n 3, 1) := by decide +kernel
theorem dM_whole_3 : decode cM_whole 3 = .ok (.sipush 1024, 3) := by decide +kernel
theorem dM_whole_6 : decode cM_whole 6 = .ok (.if_icmp .ge 13, 3) := by decide +kernel
theorem dM_whole_9 : decode cM_whole 9 = .ok (.aload_n 2, 1) := by decide +kernel
theorem dM_whole_10 : decode cM_whole 10 = .ok (.iload_n 3, 1) := by decide +kernel
theorem dM_whole_11 : decode cM_whole 11 = .ok (.iconst 0, 1) := by decide +kernel
theorem dM_whole_12 : decode cM_whole 12 = .ok (.iastore, 1) := by decide +kernel
theorem dM_whole_13 : decode cM_whole 13 = .ok (.iinc 3 1, 3) := by decide +kernel
theorem dM_whole_16 : decode cM_whole 16 = .ok (.goto (-14), 3) := by decide +kernel
theorem dM_whole_19 : decode cM_whole 19 = .ok (.iload_n 1, 1) := by decide +kernel
theorem dM_whole_20 : decode cM_whole 20 = .ok (.istore_n 3, 1) := by decide +kernel
theorem dM_whole_21 : decode cM_whole 21 = .ok (.iload_n 3, 1) := by decide +kernel
theorem dM_whole_22 : decode cM_whole 22 = .ok (.ifCond .eq 33, 3) := by decide +kernel
theorem dM_whole_25 : decode cM_whole 25 = .ok (.aload_n 2, 1) := by decide +kernel
theorem dM_whole_26 : decode cM_whole 26 = .ok (.aload_n 0, 1) := by decide +kernel
theorem dM_whole_27 : decode cM_whole 27 = .ok (.getfield 13, 3) := by decide +kernel
theorem dM_whole_30 : decode cM_whole 30 = .ok (.iload_n 3, 1) := by decide +kernel
theorem dM_whole_31 : decode cM_whole 31 = .ok (.iaload, 1) := by decide +kernel
theorem dM_whole_32 : decode cM_whole 32 = .ok (.iaload, 1) := by decide +kernel
theorem dM_whole_33 : decode cM_whole 33 = .ok (.ifCond .ne 12, 3) := by decide +kernel
theorem dM_whole_36 : decode cM_whole 36 = .ok (.aload_n 2, 1) := by decide +kernel
theorem dM_whole_37 : decode cM_whole 37 = .ok (.aload_n 0, 1) := by decide +kernel
theorem dM_whole_38 : decode cM_whole 38 = .ok (.getfield 13, 3) := by decide +kernel
theorem dM_whole_41 : decode cM_whole 41 = .ok (.iload_n 3, 1) := by decide +kernel
theorem dM_whole_42 : decode cM_whole 42 = .ok (.iaload, 1) := by decide +kernel
theorem dM_whole_43 : decode cM_whole 43 = .ok (.iload_n 3, 1) := by decide +kernel
theorem dM_whole_44 : decode cM_whole 44 = .ok (.iastore, 1) := by decide +kernel
theorem dM_whole_45 : decode cM_whole 45 = .ok (.aload_n 0, 1) := by decide +kernel
theorem dM_whole_46 : decode cM_whole 46 = .ok (.getfield 7, 3) := by decide +kernel
theorem dM_whole_49 : decode cM_whole 49 = .ok (.iload_n 3, 1) := by decide +kernel
theorem dM_whole_50 : decode cM_whole 50 = .ok (.iaload, 1) := by decide +kernel
theorem dM_whole_51 : decode cM_whole 51 = .ok (.istore_n 3, 1) := by decide +kernel
theorem dM_whole_52 : decode cM_whole 52 = .ok (.goto (-31), 3) := by decide +kernel
theorem dM_whole_55 : decode cM_whole 55 = .ok (.return_, 1) := by decide +kernel
theorem dM_has_0 : decode cM_has 0 = .ok (.iload_n 1, 1) := by decide +kernel
theorem dM_has_1 : decode cM_has 1 = .ok (.ifCond .eq 16, 3) := by decide +kernel
theorem dM_has_4 : decode cM_has 4 = .ok (.aload_n 0, 1) := by decide +kernel
theorem dM_has_5 : decode cM_has 5 = .ok (.getfield 23, 3) := by decide +kernel
theorem dM_has_8 : decode cM_has 8 = .ok (.iload_n 1, 1) := by decide +kernel
theorem dM_has_9 : decode cM_has 9 = .ok (.baload, 1) := by decide +kernel
theorem dM_has_10 : decode cM_has 10 = .ok (.ifCond .ne 7, 3) := by decide +kernel
theorem dM_has_13 : decode cM_has 13 = .ok (.iconst 1, 1) := by decide +kernel
theorem dM_has_14 : decode cM_has 14 = .ok (.goto 4, 3) := by decide +kernel
theorem dM_has_17 : decode cM_has 17 = .ok (.iconst 0, 1) := by decide +kernel
theorem dM_has_18 : decode cM_has 18 = .ok (.ireturn, 1) := by decide +kernel
theorem dM_at_0 : decode cM_at 0 = .ok (.aload_n 0, 1) := by decide +kernel
theorem dM_at_1 : decode cM_at 1 = .ok (.aload_n 0, 1) := by decide +kernel
theorem dM_at_2 : decode cM_at 2 = .ok (.iload_n 1, 1) := by decide +kernel
theorem dM_at_3 : decode cM_at 3 = .ok (.invokevirtual 40, 3) := by decide +kernel
theorem dM_at_6 : decode cM_at 6 = .ok (.iconst 1, 1) := by decide +kernel
theorem dM_at_7 : decode cM_at 7 = .ok (.invokevirtual 48, 3) := by decide +kernel
theorem dM_at_10 : decode cM_at 10 = .ok (.ifCond .eq 5, 3) := by decide +kernel
theorem dM_at_13 : decode cM_at 13 = .ok (.iconst 0, 1) := by decide +kernel
theorem dM_at_14 : decode cM_at 14 = .ok (.ireturn, 1) := by decide +kernel
theorem dM_at_15 : decode cM_at 15 = .ok (.aload_n 0, 1) := by decide +kernel
theorem dM_at_16 : decode cM_at 16 = .ok (.iload_n 1, 1) := by decide +kernel
theorem dM_at_17 : decode cM_at 17 = .ok (.aload_n 0, 1) := by decide +kernel
theorem dM_at_18 : decode cM_at 18 = .ok (.getfield 27, 3) := by decide +kernel
theorem dM_at_21 : decode cM_at 21 = .ok (.invokevirtual 60, 3) := by decide +kernel
theorem dM_at_24 : decode cM_at 24 = .ok (.iload_n 2, 1) := by decide +kernel
theorem dM_at_25 : decode cM_at 25 = .ok (.istore_n 3, 1) := by decide +kernel
theorem dM_at_26 : decode cM_at 26 = .ok (.iconst 0, 1) := by decide +kernel
theorem dM_at_27 : decode cM_at 27 = .ok (.istore 4, 2) := by decide +kernel
theorem dM_at_29 : decode cM_at 29 = .ok (.iload 4, 2) := by decide +kernel
theorem dM_at_31 : decode cM_at 31 = .ok (.sipush 1024, 3) := by decide +kernel
theorem dM_at_34 : decode cM_at 34 = .ok (.if_icmp .ge 42, 3) := by decide +kernel
theorem dM_at_37 : decode cM_at 37 = .ok (.iload_n 2, 1) := by decide +kernel
theorem dM_at_38 : decode cM_at 38 = .ok (.ifCond .lt 38, 3) := by decide +kernel
theorem dM_at_41 : decode cM_at 41 = .ok (.aload_n 0, 1) := by decide +kernel
theorem dM_at_42 : decode cM_at 42 = .ok (.aload_n 0, 1) := by decide +kernel
theorem dM_at_43 : decode cM_at 43 = .ok (.getfield 27, 3) := by decide +kernel
theorem dM_at_46 : decode cM_at 46 = .ok (.iload 4, 2) := by decide +kernel
theorem dM_at_48 : decode cM_at 48 = .ok (.iaload, 1) := by decide +kernel
theorem dM_at_49 : decode cM_at 49 = .ok (.invokevirtual 64, 3) := by decide +kernel
theorem dM_at_52 : decode cM_at 52 = .ok (.ifCond .eq 18, 3) := by decide +kernel
theorem dM_at_55 : decode cM_at 55 = .ok (.iload_n 3, 1) := by decide +kernel
theorem dM_at_56 : decode cM_at 56 = .ok (.iinc 3 (-1), 3) := by decide +kernel
theorem dM_at_59 : decode cM_at 59 = .ok (.ifCond .ne 11, 3) := by decide +kernel
theorem dM_at_62 : decode cM_at 62 = .ok (.aload_n 0, 1) := by decide +kernel
theorem dM_at_63 : decode cM_at 63 = .ok (.iconst 0, 1) := by decide +kernel
theorem dM_at_64 : decode cM_at 64 = .ok (.putfield 37, 3) := by decide +kernel
theorem dM_at_67 : decode cM_at 67 = .ok (.iload 4, 2) := by decide +kernel
theorem dM_at_69 : decode cM_at 69 = .ok (.ireturn, 1) := by decide +kernel
theorem dM_at_70 : decode cM_at 70 = .ok (.iinc 4 1, 3) := by decide +kernel
theorem dM_at_73 : decode cM_at 73 = .ok (.goto (-44), 3) := by decide +kernel
theorem dM_at_76 : decode cM_at 76 = .ok (.aload_n 0, 1) := by decide +kernel
theorem dM_at_77 : decode cM_at 77 = .ok (.iconst 1, 1) := by decide +kernel
theorem dM_at_78 : decode cM_at 78 = .ok (.iconst 2, 1) := by decide +kernel
theorem dM_at_79 : decode cM_at 79 = .ok (.invokevirtual 48, 3) := by decide +kernel
theorem dM_at_82 : decode cM_at 82 = .ok (.pop, 1) := by decide +kernel
theorem dM_at_83 : decode cM_at 83 = .ok (.iconst 0, 1) := by decide +kernel
theorem dM_at_84 : decode cM_at 84 = .ok (.ireturn, 1) := by decide +kernel
theorem dM_differ_0 : decode cM_differ 0 = .ok (.aload_n 0, 1) := by decide +kernel
theorem dM_differ_1 : decode cM_differ 1 = .ok (.aload_n 0, 1) := by decide +kernel
theorem dM_differ_2 : decode cM_differ 2 = .ok (.iload_n 1, 1) := by decide +kernel
theorem dM_differ_3 : decode cM_differ 3 = .ok (.invokevirtual 40, 3) := by decide +kernel
theorem dM_differ_6 : decode cM_differ 6 = .ok (.ifCond .ne 11, 3) := by decide +kernel
theorem dM_differ_9 : decode cM_differ 9 = .ok (.aload_n 0, 1) := by decide +kernel
theorem dM_differ_10 : decode cM_differ 10 = .ok (.iload_n 2, 1) := by decide +kernel
theorem dM_differ_11 : decode cM_differ 11 = .ok (.invokevirtual 40, 3) := by decide +kernel
theorem dM_differ_14 : decode cM_differ 14 = .ok (.ifCond .eq 7, 3) := by decide +kernel
theorem dM_differ_17 : decode cM_differ 17 = .ok (.iconst 1, 1) := by decide +kernel
theorem dM_differ_18 : decode cM_differ 18 = .ok (.goto 4, 3) := by decide +kernel
theorem dM_differ_21 : decode cM_differ 21 = .ok (.iconst 0, 1) := by decide +kernel
theorem dM_differ_22 : decode cM_differ 22 = .ok (.iconst 1, 1) := by decide +kernel
theorem dM_differ_23 : decode cM_differ 23 = .ok (.invokevirtual 48, 3) := by decide +kernel
theorem dM_differ_26 : decode cM_differ 26 = .ok (.ifCond .eq 5, 3) := by decide +kernel
theorem dM_differ_29 : decode cM_differ 29 = .ok (.iconst 0, 1) := by decide +kernel
theorem dM_differ_30 : decode cM_differ 30 = .ok (.ireturn, 1) := by decide +kernel
theorem dM_differ_31 : decode cM_differ 31 = .ok (.aload_n 0, 1) := by decide +kernel
theorem dM_differ_32 : decode cM_differ 32 = .ok (.iload_n 1, 1) := by decide +kernel
theorem dM_differ_33 : decode cM_differ 33 = .ok (.aload_n 0, 1) := by decide +kernel
theorem dM_differ_34 : decode cM_differ 34 = .ok (.getfield 27, 3) := by decide +kernel
theorem dM_differ_37 : decode cM_differ 37 = .ok (.invokevirtual 60, 3) := by decide +kernel
theorem dM_differ_40 : decode cM_differ 40 = .ok (.aload_n 0, 1) := by decide +kernel
theorem dM_differ_41 : decode cM_differ 41 = .ok (.iload_n 2, 1) := by decide +kernel
theorem dM_differ_42 : decode cM_differ 42 = .ok (.aload_n 0, 1) := by decide +kernel
theorem dM_differ_43 : decode cM_differ 43 = .ok (.getfield 30, 3) := by decide +kernel
theorem dM_differ_46 : decode cM_differ 46 = .ok (.invokevirtual 60, 3) := by decide +kernel
theorem dM_differ_49 : decode cM_differ 49 = .ok (.iconst 0, 1) := by decide +kernel
theorem dM_differ_50 : decode cM_differ 50 = .ok (.istore_n 3, 1) := by decide +kernel
theorem dM_differ_51 : decode cM_differ 51 = .ok (.iconst 0, 1) := by decide +kernel
theorem dM_differ_52 : decode cM_differ 52 = .ok (.istore 4, 2) := by decide +kernel
theorem dM_differ_54 : decode cM_differ 54 = .ok (.iload 4, 2) := by decide +kernel
theorem dM_differ_56 : decode cM_differ 56 = .ok (.sipush 1024, 3) := by decide +kernel
theorem dM_differ_59 : decode cM_differ 59 = .ok (.if_icmp .ge 78, 3) := by decide +kernel
theorem dM_differ_62 : decode cM_differ 62 = .ok (.aload_n 0, 1) := by decide +kernel
theorem dM_differ_63 : decode cM_differ 63 = .ok (.aload_n 0, 1) := by decide +kernel
theorem dM_differ_64 : decode cM_differ 64 = .ok (.getfield 27, 3) := by decide +kernel
theorem dM_differ_67 : decode cM_differ 67 = .ok (.iload 4, 2) := by decide +kernel
theorem dM_differ_69 : decode cM_differ 69 = .ok (.iaload, 1) := by decide +kernel
theorem dM_differ_70 : decode cM_differ 70 = .ok (.invokevirtual 64, 3) := by decide +kernel
theorem dM_differ_73 : decode cM_differ 73 = .ok (.istore 5, 2) := by decide +kernel
theorem dM_differ_75 : decode cM_differ 75 = .ok (.aload_n 0, 1) := by decide +kernel
theorem dM_differ_76 : decode cM_differ 76 = .ok (.aload_n 0, 1) := by decide +kernel
theorem dM_differ_77 : decode cM_differ 77 = .ok (.getfield 30, 3) := by decide +kernel
theorem dM_differ_80 : decode cM_differ 80 = .ok (.iload 4, 2) := by decide +kernel
theorem dM_differ_82 : decode cM_differ 82 = .ok (.iaload, 1) := by decide +kernel
theorem dM_differ_83 : decode cM_differ 83 = .ok (.invokevirtual 64, 3) := by decide +kernel
theorem dM_differ_86 : decode cM_differ 86 = .ok (.istore 6, 2) := by decide +kernel
theorem dM_differ_88 : decode cM_differ 88 = .ok (.iload 5, 2) := by decide +kernel
theorem dM_differ_90 : decode cM_differ 90 = .ok (.iload 6, 2) := by decide +kernel
theorem dM_differ_92 : decode cM_differ 92 = .ok (.if_icmp .ne 36, 3) := by decide +kernel
theorem dM_differ_95 : decode cM_differ 95 = .ok (.iload 5, 2) := by decide +kernel
theorem dM_differ_97 : decode cM_differ 97 = .ok (.ifCond .eq 34, 3) := by decide +kernel
theorem dM_differ_100 : decode cM_differ 100 = .ok (.aload_n 0, 1) := by decide +kernel
theorem dM_differ_101 : decode cM_differ 101 = .ok (.getfield 19, 3) := by decide +kernel
theorem dM_differ_104 : decode cM_differ 104 = .ok (.aload_n 0, 1) := by decide +kernel
theorem dM_differ_105 : decode cM_differ 105 = .ok (.getfield 27, 3) := by decide +kernel
theorem dM_differ_108 : decode cM_differ 108 = .ok (.iload 4, 2) := by decide +kernel
theorem dM_differ_110 : decode cM_differ 110 = .ok (.iaload, 1) := by decide +kernel
theorem dM_differ_111 : decode cM_differ 111 = .ok (.laload, 1) := by decide +kernel
theorem dM_differ_112 : decode cM_differ 112 = .ok (.aload_n 0, 1) := by decide +kernel
theorem dM_differ_113 : decode cM_differ 113 = .ok (.getfield 19, 3) := by decide +kernel
theorem dM_differ_116 : decode cM_differ 116 = .ok (.aload_n 0, 1) := by decide +kernel
theorem dM_differ_117 : decode cM_differ 117 = .ok (.getfield 30, 3) := by decide +kernel
theorem dM_differ_120 : decode cM_differ 120 = .ok (.iload 4, 2) := by decide +kernel
theorem dM_differ_122 : decode cM_differ 122 = .ok (.iaload, 1) := by decide +kernel
theorem dM_differ_123 : decode cM_differ 123 = .ok (.laload, 1) := by decide +kernel
theorem dM_differ_124 : decode cM_differ 124 = .ok (.lcmp, 1) := by decide +kernel
theorem dM_differ_125 : decode cM_differ 125 = .ok (.ifCond .eq 6, 3) := by decide +kernel
theorem dM_differ_128 : decode cM_differ 128 = .ok (.iinc 3 1, 3) := by decide +kernel
theorem dM_differ_131 : decode cM_differ 131 = .ok (.iinc 4 1, 3) := by decide +kernel
theorem dM_differ_134 : decode cM_differ 134 = .ok (.goto (-80), 3) := by decide +kernel
theorem dM_differ_137 : decode cM_differ 137 = .ok (.iload_n 3, 1) := by decide +kernel
theorem dM_differ_138 : decode cM_differ 138 = .ok (.ireturn, 1) := by decide +kernel
theorem dM_tables_0 : decode cM_tables 0 = .ok (.aload_n 0, 1) := by decide +kernel
theorem dM_tables_1 : decode cM_tables 1 = .ok (.iconst 0, 1) := by decide +kernel
theorem dM_tables_2 : decode cM_tables 2 = .ok (.putfield 37, 3) := by decide +kernel
theorem dM_tables_5 : decode cM_tables 5 = .ok (.aload_n 0, 1) := by decide +kernel
theorem dM_tables_6 : decode cM_tables 6 = .ok (.getfield 33, 3) := by decide +kernel
theorem dM_tables_9 : decode cM_tables 9 = .ok (.ireturn, 1) := by decide +kernel
theorem dL_law_0 : decode cL_law 0 = .ok (.new 8, 3) := by decide +kernel
theorem dL_law_3 : decode cL_law 3 = .ok (.dup, 1) := by decide +kernel
theorem dL_law_4 : decode cL_law 4 = .ok (.invokespecial 41, 3) := by decide +kernel
theorem dL_law_7 : decode cL_law 7 = .ok (.astore_n 1, 1) := by decide +kernel
theorem dL_law_8 : decode cL_law 8 = .ok (.new 42, 3) := by decide +kernel
theorem dL_law_11 : decode cL_law 11 = .ok (.dup, 1) := by decide +kernel
theorem dL_law_12 : decode cL_law 12 = .ok (.invokespecial 44, 3) := by decide +kernel
theorem dL_law_15 : decode cL_law 15 = .ok (.astore_n 2, 1) := by decide +kernel
theorem dL_law_16 : decode cL_law 16 = .ok (.iconst 1, 1) := by decide +kernel
theorem dL_law_17 : decode cL_law 17 = .ok (.newarray .long, 2) := by decide +kernel
theorem dL_law_19 : decode cL_law 19 = .ok (.astore_n 3, 1) := by decide +kernel
theorem dL_law_20 : decode cL_law 20 = .ok (.iconst 0, 1) := by decide +kernel
theorem dL_law_21 : decode cL_law 21 = .ok (.istore 4, 2) := by decide +kernel
theorem dL_law_23 : decode cL_law 23 = .ok (.iload 4, 2) := by decide +kernel
theorem dL_law_25 : decode cL_law 25 = .ok (.aload_n 0, 1) := by decide +kernel
theorem dL_law_26 : decode cL_law 26 = .ok (.arraylength, 1) := by decide +kernel
theorem dL_law_27 : decode cL_law 27 = .ok (.bipush 6, 2) := by decide +kernel
theorem dL_law_29 : decode cL_law 29 = .ok (.isub, 1) := by decide +kernel
theorem dL_law_30 : decode cL_law 30 = .ok (.if_icmp .gt 643, 3) := by decide +kernel
theorem dL_law_33 : decode cL_law 33 = .ok (.aload_n 0, 1) := by decide +kernel
theorem dL_law_34 : decode cL_law 34 = .ok (.iload 4, 2) := by decide +kernel
theorem dL_law_36 : decode cL_law 36 = .ok (.iaload, 1) := by decide +kernel
theorem dL_law_37 : decode cL_law 37 = .ok (.bipush 7, 2) := by decide +kernel
theorem dL_law_39 : decode cL_law 39 = .ok (.iand, 1) := by decide +kernel
theorem dL_law_40 : decode cL_law 40 = .ok (.tableswitch 627 0 7 #[48, 172, 252, 319, 387, 478, 546, 614], 48) := by decide +kernel
theorem dL_law_88 : decode cL_law 88 = .ok (.aload_n 1, 1) := by decide +kernel
theorem dL_law_89 : decode cL_law 89 = .ok (.aload_n 0, 1) := by decide +kernel
theorem dL_law_90 : decode cL_law 90 = .ok (.iload 4, 2) := by decide +kernel
theorem dL_law_92 : decode cL_law 92 = .ok (.iconst 1, 1) := by decide +kernel
theorem dL_law_93 : decode cL_law 93 = .ok (.iadd, 1) := by decide +kernel
theorem dL_law_94 : decode cL_law 94 = .ok (.iaload, 1) := by decide +kernel
theorem dL_law_95 : decode cL_law 95 = .ok (.aload_n 0, 1) := by decide +kernel
theorem dL_law_96 : decode cL_law 96 = .ok (.iload 4, 2) := by decide +kernel
theorem dL_law_98 : decode cL_law 98 = .ok (.iconst 2, 1) := by decide +kernel
theorem dL_law_99 : decode cL_law 99 = .ok (.iadd, 1) := by decide +kernel
theorem dL_law_100 : decode cL_law 100 = .ok (.iaload, 1) := by decide +kernel
theorem dL_law_101 : decode cL_law 101 = .ok (.aload_n 0, 1) := by decide +kernel
theorem dL_law_102 : decode cL_law 102 = .ok (.iload 4, 2) := by decide +kernel
theorem dL_law_104 : decode cL_law 104 = .ok (.iconst 3, 1) := by decide +kernel
theorem dL_law_105 : decode cL_law 105 = .ok (.iadd, 1) := by decide +kernel
theorem dL_law_106 : decode cL_law 106 = .ok (.iaload, 1) := by decide +kernel
theorem dL_law_107 : decode cL_law 107 = .ok (.i2l, 1) := by decide +kernel
theorem dL_law_108 : decode cL_law 108 = .ok (.bipush 32, 2) := by decide +kernel
theorem dL_law_110 : decode cL_law 110 = .ok (.lshl, 1) := by decide +kernel
theorem dL_law_111 : decode cL_law 111 = .ok (.aload_n 0, 1) := by decide +kernel
theorem dL_law_112 : decode cL_law 112 = .ok (.iload 4, 2) := by decide +kernel
theorem dL_law_114 : decode cL_law 114 = .ok (.iconst 4, 1) := by decide +kernel
theorem dL_law_115 : decode cL_law 115 = .ok (.iadd, 1) := by decide +kernel
theorem dL_law_116 : decode cL_law 116 = .ok (.iaload, 1) := by decide +kernel
theorem dL_law_117 : decode cL_law 117 = .ok (.i2l, 1) := by decide +kernel
theorem dL_law_118 : decode cL_law 118 = .ok (.ldc2_w 45, 3) := by decide +kernel
theorem dL_law_121 : decode cL_law 121 = .ok (.land, 1) := by decide +kernel
theorem dL_law_122 : decode cL_law 122 = .ok (.lor, 1) := by decide +kernel
theorem dL_law_123 : decode cL_law 123 = .ok (.aload_n 0, 1) := by decide +kernel
theorem dL_law_124 : decode cL_law 124 = .ok (.iload 4, 2) := by decide +kernel
theorem dL_law_126 : decode cL_law 126 = .ok (.iconst 5, 1) := by decide +kernel
theorem dL_law_127 : decode cL_law 127 = .ok (.iadd, 1) := by decide +kernel
theorem dL_law_128 : decode cL_law 128 = .ok (.iaload, 1) := by decide +kernel
theorem dL_law_129 : decode cL_law 129 = .ok (.aload_n 3, 1) := by decide +kernel
theorem dL_law_130 : decode cL_law 130 = .ok (.invokestatic 47, 3) := by decide +kernel
theorem dL_law_133 : decode cL_law 133 = .ok (.istore 5, 2) := by decide +kernel
theorem dL_law_135 : decode cL_law 135 = .ok (.aload_n 2, 1) := by decide +kernel
theorem dL_law_136 : decode cL_law 136 = .ok (.aload_n 0, 1) := by decide +kernel
theorem dL_law_137 : decode cL_law 137 = .ok (.iload 4, 2) := by decide +kernel
theorem dL_law_139 : decode cL_law 139 = .ok (.iconst 1, 1) := by decide +kernel
theorem dL_law_140 : decode cL_law 140 = .ok (.iadd, 1) := by decide +kernel
theorem dL_law_141 : decode cL_law 141 = .ok (.iaload, 1) := by decide +kernel
theorem dL_law_142 : decode cL_law 142 = .ok (.aload_n 0, 1) := by decide +kernel
theorem dL_law_143 : decode cL_law 143 = .ok (.iload 4, 2) := by decide +kernel
theorem dL_law_145 : decode cL_law 145 = .ok (.iconst 2, 1) := by decide +kernel
theorem dL_law_146 : decode cL_law 146 = .ok (.iadd, 1) := by decide +kernel
theorem dL_law_147 : decode cL_law 147 = .ok (.iaload, 1) := by decide +kernel
theorem dL_law_148 : decode cL_law 148 = .ok (.aload_n 0, 1) := by decide +kernel
theorem dL_law_149 : decode cL_law 149 = .ok (.iload 4, 2) := by decide +kernel
theorem dL_law_151 : decode cL_law 151 = .ok (.iconst 3, 1) := by decide +kernel
theorem dL_law_152 : decode cL_law 152 = .ok (.iadd, 1) := by decide +kernel
theorem dL_law_153 : decode cL_law 153 = .ok (.iaload, 1) := by decide +kernel
theorem dL_law_154 : decode cL_law 154 = .ok (.i2l, 1) := by decide +kernel
theorem dL_law_155 : decode cL_law 155 = .ok (.bipush 32, 2) := by decide +kernel
theorem dL_law_157 : decode cL_law 157 = .ok (.lshl, 1) := by decide +kernel
theorem dL_law_158 : decode cL_law 158 = .ok (.aload_n 0, 1) := by decide +kernel
theorem dL_law_159 : decode cL_law 159 = .ok (.iload 4, 2) := by decide +kernel
theorem dL_law_161 : decode cL_law 161 = .ok (.iconst 4, 1) := by decide +kernel
theorem dL_law_162 : decode cL_law 162 = .ok (.iadd, 1) := by decide +kernel
theorem dL_law_163 : decode cL_law 163 = .ok (.iaload, 1) := by decide +kernel
theorem dL_law_164 : decode cL_law 164 = .ok (.i2l, 1) := by decide +kernel
theorem dL_law_165 : decode cL_law 165 = .ok (.ldc2_w 45, 3) := by decide +kernel
theorem dL_law_168 : decode cL_law 168 = .ok (.land, 1) := by decide +kernel
theorem dL_law_169 : decode cL_law 169 = .ok (.lor, 1) := by decide +kernel
theorem dL_law_170 : decode cL_law 170 = .ok (.aload_n 0, 1) := by decide +kernel
theorem dL_law_171 : decode cL_law 171 = .ok (.iload 4, 2) := by decide +kernel
theorem dL_law_173 : decode cL_law 173 = .ok (.iconst 5, 1) := by decide +kernel
theorem dL_law_174 : decode cL_law 174 = .ok (.iadd, 1) := by decide +kernel
theorem dL_law_175 : decode cL_law 175 = .ok (.iaload, 1) := by decide +kernel
theorem dL_law_176 : decode cL_law 176 = .ok (.invokevirtual 52, 3) := by decide +kernel
theorem dL_law_179 : decode cL_law 179 = .ok (.istore 6, 2) := by decide +kernel
theorem dL_law_181 : decode cL_law 181 = .ok (.aload_n 2, 1) := by decide +kernel
theorem dL_law_182 : decode cL_law 182 = .ok (.invokevirtual 53, 3) := by decide +kernel
theorem dL_law_185 : decode cL_law 185 = .ok (.iload 5, 2) := by decide +kernel
theorem dL_law_187 : decode cL_law 187 = .ok (.if_icmp .eq 5, 3) := by decide +kernel
theorem dL_law_190 : decode cL_law 190 = .ok (.iconst 0, 1) := by decide +kernel
theorem dL_law_191 : decode cL_law 191 = .ok (.ireturn, 1) := by decide +kernel
theorem dL_law_192 : decode cL_law 192 = .ok (.iload 5, 2) := by decide +kernel
theorem dL_law_194 : decode cL_law 194 = .ok (.ifCond .ne 15, 3) := by decide +kernel
theorem dL_law_197 : decode cL_law 197 = .ok (.aload_n 3, 1) := by decide +kernel
theorem dL_law_198 : decode cL_law 198 = .ok (.iconst 0, 1) := by decide +kernel
theorem dL_law_199 : decode cL_law 199 = .ok (.laload, 1) := by decide +kernel
theorem dL_law_200 : decode cL_law 200 = .ok (.iload 6, 2) := by decide +kernel
theorem dL_law_202 : decode cL_law 202 = .ok (.i2l, 1) := by decide +kernel
theorem dL_law_203 : decode cL_law 203 = .ok (.lcmp, 1) := by decide +kernel
theorem dL_law_204 : decode cL_law 204 = .ok (.ifCond .eq 5, 3) := by decide +kernel
theorem dL_law_207 : decode cL_law 207 = .ok (.iconst 0, 1) := by decide +kernel
theorem dL_law_208 : decode cL_law 208 = .ok (.ireturn, 1) := by decide +kernel
theorem dL_law_209 : decode cL_law 209 = .ok (.goto 458, 3) := by decide +kernel
theorem dL_law_212 : decode cL_law 212 = .ok (.aload_n 1, 1) := by decide +kernel
theorem dL_law_213 : decode cL_law 213 = .ok (.aload_n 0, 1) := by decide +kernel
theorem dL_law_214 : decode cL_law 214 = .ok (.iload 4, 2) := by decide +kernel
theorem dL_law_216 : decode cL_law 216 = .ok (.iconst 1, 1) := by decide +kernel
theorem dL_law_217 : decode cL_law 217 = .ok (.iadd, 1) := by decide +kernel
theorem dL_law_218 : decode cL_law 218 = .ok (.iaload, 1) := by decide +kernel
theorem dL_law_219 : decode cL_law 219 = .ok (.aload_n 0, 1) := by decide +kernel
theorem dL_law_220 : decode cL_law 220 = .ok (.iload 4, 2) := by decide +kernel
theorem dL_law_222 : decode cL_law 222 = .ok (.iconst 2, 1) := by decide +kernel
theorem dL_law_223 : decode cL_law 223 = .ok (.iadd, 1) := by decide +kernel
theorem dL_law_224 : decode cL_law 224 = .ok (.iaload, 1) := by decide +kernel
theorem dL_law_225 : decode cL_law 225 = .ok (.aload_n 0, 1) := by decide +kernel
theorem dL_law_226 : decode cL_law 226 = .ok (.iload 4, 2) := by decide +kernel
theorem dL_law_228 : decode cL_law 228 = .ok (.iconst 3, 1) := by decide +kernel
theorem dL_law_229 : decode cL_law 229 = .ok (.iadd, 1) := by decide +kernel
theorem dL_law_230 : decode cL_law 230 = .ok (.iaload, 1) := by decide +kernel
theorem dL_law_231 : decode cL_law 231 = .ok (.aload_n 3, 1) := by decide +kernel
theorem dL_law_232 : decode cL_law 232 = .ok (.invokestatic 57, 3) := by decide +kernel
theorem dL_law_235 : decode cL_law 235 = .ok (.istore 5, 2) := by decide +kernel
theorem dL_law_237 : decode cL_law 237 = .ok (.aload_n 2, 1) := by decide +kernel
theorem dL_law_238 : decode cL_law 238 = .ok (.aload_n 0, 1) := by decide +kernel
theorem dL_law_239 : decode cL_law 239 = .ok (.iload 4, 2) := by decide +kernel
theorem dL_law_241 : decode cL_law 241 = .ok (.iconst 1, 1) := by decide +kernel
theorem dL_law_242 : decode cL_law 242 = .ok (.iadd, 1) := by decide +kernel
theorem dL_law_243 : decode cL_law 243 = .ok (.iaload, 1) := by decide +kernel
theorem dL_law_244 : decode cL_law 244 = .ok (.aload_n 0, 1) := by decide +kernel
theorem dL_law_245 : decode cL_law 245 = .ok (.iload 4, 2) := by decide +kernel
theorem dL_law_247 : decode cL_law 247 = .ok (.iconst 2, 1) := by decide +kernel
theorem dL_law_248 : decode cL_law 248 = .ok (.iadd, 1) := by decide +kernel
theorem dL_law_249 : decode cL_law 249 = .ok (.iaload, 1) := by decide +kernel
theorem dL_law_250 : decode cL_law 250 = .ok (.aload_n 0, 1) := by decide +kernel
theorem dL_law_251 : decode cL_law 251 = .ok (.iload 4, 2) := by decide +kernel
theorem dL_law_253 : decode cL_law 253 = .ok (.iconst 3, 1) := by decide +kernel
theorem dL_law_254 : decode cL_law 254 = .ok (.iadd, 1) := by decide +kernel
theorem dL_law_255 : decode cL_law 255 = .ok (.iaload, 1) := by decide +kernel
theorem dL_law_256 : decode cL_law 256 = .ok (.invokevirtual 60, 3) := by decide +kernel
theorem dL_law_259 : decode cL_law 259 = .ok (.istore 6, 2) := by decide +kernel
theorem dL_law_261 : decode cL_law 261 = .ok (.aload_n 2, 1) := by decide +kernel
theorem dL_law_262 : decode cL_law 262 = .ok (.invokevirtual 53, 3) := by decide +kernel
theorem dL_law_265 : decode cL_law 265 = .ok (.iload 5, 2) := by decide +kernel
theorem dL_law_267 : decode cL_law 267 = .ok (.if_icmp .eq 5, 3) := by decide +kernel
theorem dL_law_270 : decode cL_law 270 = .ok (.iconst 0, 1) := by decide +kernel
theorem dL_law_271 : decode cL_law 271 = .ok (.ireturn, 1) := by decide +kernel
theorem dL_law_272 : decode cL_law 272 = .ok (.iload 5, 2) := by decide +kernel
theorem dL_law_274 : decode cL_law 274 = .ok (.ifCond .ne 15, 3) := by decide +kernel
theorem dL_law_277 : decode cL_law 277 = .ok (.aload_n 3, 1) := by decide +kernel
theorem dL_law_278 : decode cL_law 278 = .ok (.iconst 0, 1) := by decide +kernel
theorem dL_law_279 : decode cL_law 279 = .ok (.laload, 1) := by decide +kernel
theorem dL_law_280 : decode cL_law 280 = .ok (.iload 6, 2) := by decide +kernel
theorem dL_law_282 : decode cL_law 282 = .ok (.i2l, 1) := by decide +kernel
theorem dL_law_283 : decode cL_law 283 = .ok (.lcmp, 1) := by decide +kernel
theorem dL_law_284 : decode cL_law 284 = .ok (.ifCond .eq 5, 3) := by decide +kernel
theorem dL_law_287 : decode cL_law 287 = .ok (.iconst 0, 1) := by decide +kernel
theorem dL_law_288 : decode cL_law 288 = .ok (.ireturn, 1) := by decide +kernel
theorem dL_law_289 : decode cL_law 289 = .ok (.goto 378, 3) := by decide +kernel
theorem dL_law_292 : decode cL_law 292 = .ok (.aload_n 1, 1) := by decide +kernel
theorem dL_law_293 : decode cL_law 293 = .ok (.aload_n 0, 1) := by decide +kernel
theorem dL_law_294 : decode cL_law 294 = .ok (.iload 4, 2) := by decide +kernel
theorem dL_law_296 : decode cL_law 296 = .ok (.iconst 1, 1) := by decide +kernel
theorem dL_law_297 : decode cL_law 297 = .ok (.iadd, 1) := by decide +kernel
theorem dL_law_298 : decode cL_law 298 = .ok (.iaload, 1) := by decide +kernel
theorem dL_law_299 : decode cL_law 299 = .ok (.aload_n 0, 1) := by decide +kernel
theorem dL_law_300 : decode cL_law 300 = .ok (.iload 4, 2) := by decide +kernel
theorem dL_law_302 : decode cL_law 302 = .ok (.iconst 2, 1) := by decide +kernel
theorem dL_law_303 : decode cL_law 303 = .ok (.iadd, 1) := by decide +kernel
theorem dL_law_304 : decode cL_law 304 = .ok (.iaload, 1) := by decide +kernel
theorem dL_law_305 : decode cL_law 305 = .ok (.aload_n 3, 1) := by decide +kernel
theorem dL_law_306 : decode cL_law 306 = .ok (.invokestatic 61, 3) := by decide +kernel
theorem dL_law_309 : decode cL_law 309 = .ok (.istore 5, 2) := by decide +kernel
theorem dL_law_311 : decode cL_law 311 = .ok (.aload_n 2, 1) := by decide +kernel
theorem dL_law_312 : decode cL_law 312 = .ok (.aload_n 0, 1) := by decide +kernel
theorem dL_law_313 : decode cL_law 313 = .ok (.iload 4, 2) := by decide +kernel
theorem dL_law_315 : decode cL_law 315 = .ok (.iconst 1, 1) := by decide +kernel
theorem dL_law_316 : decode cL_law 316 = .ok (.iadd, 1) := by decide +kernel
theorem dL_law_317 : decode cL_law 317 = .ok (.iaload, 1) := by decide +kernel
theorem dL_law_318 : decode cL_law 318 = .ok (.aload_n 0, 1) := by decide +kernel
theorem dL_law_319 : decode cL_law 319 = .ok (.iload 4, 2) := by decide +kernel
theorem dL_law_321 : decode cL_law 321 = .ok (.iconst 2, 1) := by decide +kernel
theorem dL_law_322 : decode cL_law 322 = .ok (.iadd, 1) := by decide +kernel
theorem dL_law_323 : decode cL_law 323 = .ok (.iaload, 1) := by decide +kernel
theorem dL_law_324 : decode cL_law 324 = .ok (.invokevirtual 64, 3) := by decide +kernel
theorem dL_law_327 : decode cL_law 327 = .ok (.lstore 6, 2) := by decide +kernel
theorem dL_law_329 : decode cL_law 329 = .ok (.aload_n 2, 1) := by decide +kernel
theorem dL_law_330 : decode cL_law 330 = .ok (.invokevirtual 53, 3) := by decide +kernel
theorem dL_law_333 : decode cL_law 333 = .ok (.iload 5, 2) := by decide +kernel
theorem dL_law_335 : decode cL_law 335 = .ok (.if_icmp .eq 5, 3) := by decide +kernel
theorem dL_law_338 : decode cL_law 338 = .ok (.iconst 0, 1) := by decide +kernel
theorem dL_law_339 : decode cL_law 339 = .ok (.ireturn, 1) := by decide +kernel
theorem dL_law_340 : decode cL_law 340 = .ok (.iload 5, 2) := by decide +kernel
theorem dL_law_342 : decode cL_law 342 = .ok (.ifCond .ne 14, 3) := by decide +kernel
theorem dL_law_345 : decode cL_law 345 = .ok (.aload_n 3, 1) := by decide +kernel
theorem dL_law_346 : decode cL_law 346 = .ok (.iconst 0, 1) := by decide +kernel
theorem dL_law_347 : decode cL_law 347 = .ok (.laload, 1) := by decide +kernel
theorem dL_law_348 : decode cL_law 348 = .ok (.lload 6, 2) := by decide +kernel
theorem dL_law_350 : decode cL_law 350 = .ok (.lcmp, 1) := by decide +kernel
theorem dL_law_351 : decode cL_law 351 = .ok (.ifCond .eq 5, 3) := by decide +kernel
theorem dL_law_354 : decode cL_law 354 = .ok (.iconst 0, 1) := by decide +kernel
theorem dL_law_355 : decode cL_law 355 = .ok (.ireturn, 1) := by decide +kernel
theorem dL_law_356 : decode cL_law 356 = .ok (.goto 311, 3) := by decide +kernel
theorem dL_law_359 : decode cL_law 359 = .ok (.aload_n 1, 1) := by decide +kernel
theorem dL_law_360 : decode cL_law 360 = .ok (.aload_n 0, 1) := by decide +kernel
theorem dL_law_361 : decode cL_law 361 = .ok (.iload 4, 2) := by decide +kernel
theorem dL_law_363 : decode cL_law 363 = .ok (.iconst 1, 1) := by decide +kernel
theorem dL_law_364 : decode cL_law 364 = .ok (.iadd, 1) := by decide +kernel
theorem dL_law_365 : decode cL_law 365 = .ok (.iaload, 1) := by decide +kernel
theorem dL_law_366 : decode cL_law 366 = .ok (.aload_n 0, 1) := by decide +kernel
theorem dL_law_367 : decode cL_law 367 = .ok (.iload 4, 2) := by decide +kernel
theorem dL_law_369 : decode cL_law 369 = .ok (.iconst 2, 1) := by decide +kernel
theorem dL_law_370 : decode cL_law 370 = .ok (.iadd, 1) := by decide +kernel
theorem dL_law_371 : decode cL_law 371 = .ok (.iaload, 1) := by decide +kernel
theorem dL_law_372 : decode cL_law 372 = .ok (.aload_n 3, 1) := by decide +kernel
theorem dL_law_373 : decode cL_law 373 = .ok (.invokestatic 65, 3) := by decide +kernel
theorem dL_law_376 : decode cL_law 376 = .ok (.istore 5, 2) := by decide +kernel
theorem dL_law_378 : decode cL_law 378 = .ok (.aload_n 2, 1) := by decide +kernel
theorem dL_law_379 : decode cL_law 379 = .ok (.aload_n 0, 1) := by decide +kernel
theorem dL_law_380 : decode cL_law 380 = .ok (.iload 4, 2) := by decide +kernel
theorem dL_law_382 : decode cL_law 382 = .ok (.iconst 1, 1) := by decide +kernel
theorem dL_law_383 : decode cL_law 383 = .ok (.iadd, 1) := by decide +kernel
theorem dL_law_384 : decode cL_law 384 = .ok (.iaload, 1) := by decide +kernel
theorem dL_law_385 : decode cL_law 385 = .ok (.aload_n 0, 1) := by decide +kernel
theorem dL_law_386 : decode cL_law 386 = .ok (.iload 4, 2) := by decide +kernel
theorem dL_law_388 : decode cL_law 388 = .ok (.iconst 2, 1) := by decide +kernel
theorem dL_law_389 : decode cL_law 389 = .ok (.iadd, 1) := by decide +kernel
theorem dL_law_390 : decode cL_law 390 = .ok (.iaload, 1) := by decide +kernel
theorem dL_law_391 : decode cL_law 391 = .ok (.invokevirtual 67, 3) := by decide +kernel
theorem dL_law_394 : decode cL_law 394 = .ok (.istore 6, 2) := by decide +kernel
theorem dL_law_396 : decode cL_law 396 = .ok (.aload_n 2, 1) := by decide +kernel
theorem dL_law_397 : decode cL_law 397 = .ok (.invokevirtual 53, 3) := by decide +kernel
theorem dL_law_400 : decode cL_law 400 = .ok (.iload 5, 2) := by decide +kernel
theorem dL_law_402 : decode cL_law 402 = .ok (.if_icmp .eq 5, 3) := by decide +kernel
theorem dL_law_405 : decode cL_law 405 = .ok (.iconst 0, 1) := by decide +kernel
theorem dL_law_406 : decode cL_law 406 = .ok (.ireturn, 1) := by decide +kernel
theorem dL_law_407 : decode cL_law 407 = .ok (.iload 5, 2) := by decide +kernel
theorem dL_law_409 : decode cL_law 409 = .ok (.ifCond .ne 15, 3) := by decide +kernel
theorem dL_law_412 : decode cL_law 412 = .ok (.aload_n 3, 1) := by decide +kernel
theorem dL_law_413 : decode cL_law 413 = .ok (.iconst 0, 1) := by decide +kernel
theorem dL_law_414 : decode cL_law 414 = .ok (.laload, 1) := by decide +kernel
theorem dL_law_415 : decode cL_law 415 = .ok (.iload 6, 2) := by decide +kernel
theorem dL_law_417 : decode cL_law 417 = .ok (.i2l, 1) := by decide +kernel
theorem dL_law_418 : decode cL_law 418 = .ok (.lcmp, 1) := by decide +kernel
theorem dL_law_419 : decode cL_law 419 = .ok (.ifCond .eq 5, 3) := by decide +kernel
theorem dL_law_422 : decode cL_law 422 = .ok (.iconst 0, 1) := by decide +kernel
theorem dL_law_423 : decode cL_law 423 = .ok (.ireturn, 1) := by decide +kernel
theorem dL_law_424 : decode cL_law 424 = .ok (.goto 243, 3) := by decide +kernel
theorem dL_law_427 : decode cL_law 427 = .ok (.aload_n 1, 1) := by decide +kernel
theorem dL_law_428 : decode cL_law 428 = .ok (.aload_n 0, 1) := by decide +kernel
theorem dL_law_429 : decode cL_law 429 = .ok (.iload 4, 2) := by decide +kernel
theorem dL_law_431 : decode cL_law 431 = .ok (.iconst 1, 1) := by decide +kernel
theorem dL_law_432 : decode cL_law 432 = .ok (.iadd, 1) := by decide +kernel
theorem dL_law_433 : decode cL_law 433 = .ok (.iaload, 1) := by decide +kernel
theorem dL_law_434 : decode cL_law 434 = .ok (.aload_n 0, 1) := by decide +kernel
theorem dL_law_435 : decode cL_law 435 = .ok (.iload 4, 2) := by decide +kernel
theorem dL_law_437 : decode cL_law 437 = .ok (.iconst 2, 1) := by decide +kernel
theorem dL_law_438 : decode cL_law 438 = .ok (.iadd, 1) := by decide +kernel
theorem dL_law_439 : decode cL_law 439 = .ok (.iaload, 1) := by decide +kernel
theorem dL_law_440 : decode cL_law 440 = .ok (.aload_n 0, 1) := by decide +kernel
theorem dL_law_441 : decode cL_law 441 = .ok (.iload 4, 2) := by decide +kernel
theorem dL_law_443 : decode cL_law 443 = .ok (.iconst 3, 1) := by decide +kernel
theorem dL_law_444 : decode cL_law 444 = .ok (.iadd, 1) := by decide +kernel
theorem dL_law_445 : decode cL_law 445 = .ok (.iaload, 1) := by decide +kernel
theorem dL_law_446 : decode cL_law 446 = .ok (.aload_n 0, 1) := by decide +kernel
theorem dL_law_447 : decode cL_law 447 = .ok (.iload 4, 2) := by decide +kernel
theorem dL_law_449 : decode cL_law 449 = .ok (.iconst 4, 1) := by decide +kernel
theorem dL_law_450 : decode cL_law 450 = .ok (.iadd, 1) := by decide +kernel
theorem dL_law_451 : decode cL_law 451 = .ok (.iaload, 1) := by decide +kernel
theorem dL_law_452 : decode cL_law 452 = .ok (.aload_n 3, 1) := by decide +kernel
theorem dL_law_453 : decode cL_law 453 = .ok (.invokestatic 68, 3) := by decide +kernel
theorem dL_law_456 : decode cL_law 456 = .ok (.istore 5, 2) := by decide +kernel
theorem dL_law_458 : decode cL_law 458 = .ok (.aload_n 2, 1) := by decide +kernel
theorem dL_law_459 : decode cL_law 459 = .ok (.aload_n 0, 1) := by decide +kernel
theorem dL_law_460 : decode cL_law 460 = .ok (.iload 4, 2) := by decide +kernel
theorem dL_law_462 : decode cL_law 462 = .ok (.iconst 1, 1) := by decide +kernel
theorem dL_law_463 : decode cL_law 463 = .ok (.iadd, 1) := by decide +kernel
theorem dL_law_464 : decode cL_law 464 = .ok (.iaload, 1) := by decide +kernel
theorem dL_law_465 : decode cL_law 465 = .ok (.aload_n 0, 1) := by decide +kernel
theorem dL_law_466 : decode cL_law 466 = .ok (.iload 4, 2) := by decide +kernel
theorem dL_law_468 : decode cL_law 468 = .ok (.iconst 2, 1) := by decide +kernel
theorem dL_law_469 : decode cL_law 469 = .ok (.iadd, 1) := by decide +kernel
theorem dL_law_470 : decode cL_law 470 = .ok (.iaload, 1) := by decide +kernel
theorem dL_law_471 : decode cL_law 471 = .ok (.aload_n 0, 1) := by decide +kernel
theorem dL_law_472 : decode cL_law 472 = .ok (.iload 4, 2) := by decide +kernel
theorem dL_law_474 : decode cL_law 474 = .ok (.iconst 3, 1) := by decide +kernel
theorem dL_law_475 : decode cL_law 475 = .ok (.iadd, 1) := by decide +kernel
theorem dL_law_476 : decode cL_law 476 = .ok (.iaload, 1) := by decide +kernel
theorem dL_law_477 : decode cL_law 477 = .ok (.aload_n 0, 1) := by decide +kernel
theorem dL_law_478 : decode cL_law 478 = .ok (.iload 4, 2) := by decide +kernel
theorem dL_law_480 : decode cL_law 480 = .ok (.iconst 4, 1) := by decide +kernel
theorem dL_law_481 : decode cL_law 481 = .ok (.iadd, 1) := by decide +kernel
theorem dL_law_482 : decode cL_law 482 = .ok (.iaload, 1) := by decide +kernel
theorem dL_law_483 : decode cL_law 483 = .ok (.invokevirtual 71, 3) := by decide +kernel
theorem dL_law_486 : decode cL_law 486 = .ok (.lstore 6, 2) := by decide +kernel
theorem dL_law_488 : decode cL_law 488 = .ok (.aload_n 2, 1) := by decide +kernel
theorem dL_law_489 : decode cL_law 489 = .ok (.invokevirtual 53, 3) := by decide +kernel
theorem dL_law_492 : decode cL_law 492 = .ok (.iload 5, 2) := by decide +kernel
theorem dL_law_494 : decode cL_law 494 = .ok (.if_icmp .eq 5, 3) := by decide +kernel
theorem dL_law_497 : decode cL_law 497 = .ok (.iconst 0, 1) := by decide +kernel
theorem dL_law_498 : decode cL_law 498 = .ok (.ireturn, 1) := by decide +kernel
theorem dL_law_499 : decode cL_law 499 = .ok (.iload 5, 2) := by decide +kernel
theorem dL_law_501 : decode cL_law 501 = .ok (.ifCond .ne 14, 3) := by decide +kernel
theorem dL_law_504 : decode cL_law 504 = .ok (.aload_n 3, 1) := by decide +kernel
theorem dL_law_505 : decode cL_law 505 = .ok (.iconst 0, 1) := by decide +kernel
theorem dL_law_506 : decode cL_law 506 = .ok (.laload, 1) := by decide +kernel
theorem dL_law_507 : decode cL_law 507 = .ok (.lload 6, 2) := by decide +kernel
theorem dL_law_509 : decode cL_law 509 = .ok (.lcmp, 1) := by decide +kernel
theorem dL_law_510 : decode cL_law 510 = .ok (.ifCond .eq 5, 3) := by decide +kernel
theorem dL_law_513 : decode cL_law 513 = .ok (.iconst 0, 1) := by decide +kernel
theorem dL_law_514 : decode cL_law 514 = .ok (.ireturn, 1) := by decide +kernel
theorem dL_law_515 : decode cL_law 515 = .ok (.goto 152, 3) := by decide +kernel
theorem dL_law_518 : decode cL_law 518 = .ok (.aload_n 1, 1) := by decide +kernel
theorem dL_law_519 : decode cL_law 519 = .ok (.aload_n 0, 1) := by decide +kernel
theorem dL_law_520 : decode cL_law 520 = .ok (.iload 4, 2) := by decide +kernel
theorem dL_law_522 : decode cL_law 522 = .ok (.iconst 1, 1) := by decide +kernel
theorem dL_law_523 : decode cL_law 523 = .ok (.iadd, 1) := by decide +kernel
theorem dL_law_524 : decode cL_law 524 = .ok (.iaload, 1) := by decide +kernel
theorem dL_law_525 : decode cL_law 525 = .ok (.aload_n 0, 1) := by decide +kernel
theorem dL_law_526 : decode cL_law 526 = .ok (.iload 4, 2) := by decide +kernel
theorem dL_law_528 : decode cL_law 528 = .ok (.iconst 2, 1) := by decide +kernel
theorem dL_law_529 : decode cL_law 529 = .ok (.iadd, 1) := by decide +kernel
theorem dL_law_530 : decode cL_law 530 = .ok (.iaload, 1) := by decide +kernel
theorem dL_law_531 : decode cL_law 531 = .ok (.aload_n 3, 1) := by decide +kernel
theorem dL_law_532 : decode cL_law 532 = .ok (.invokestatic 72, 3) := by decide +kernel
theorem dL_law_535 : decode cL_law 535 = .ok (.istore 5, 2) := by decide +kernel
theorem dL_law_537 : decode cL_law 537 = .ok (.aload_n 2, 1) := by decide +kernel
theorem dL_law_538 : decode cL_law 538 = .ok (.aload_n 0, 1) := by decide +kernel
theorem dL_law_539 : decode cL_law 539 = .ok (.iload 4, 2) := by decide +kernel
theorem dL_law_541 : decode cL_law 541 = .ok (.iconst 1, 1) := by decide +kernel
theorem dL_law_542 : decode cL_law 542 = .ok (.iadd, 1) := by decide +kernel
theorem dL_law_543 : decode cL_law 543 = .ok (.iaload, 1) := by decide +kernel
theorem dL_law_544 : decode cL_law 544 = .ok (.aload_n 0, 1) := by decide +kernel
theorem dL_law_545 : decode cL_law 545 = .ok (.iload 4, 2) := by decide +kernel
theorem dL_law_547 : decode cL_law 547 = .ok (.iconst 2, 1) := by decide +kernel
theorem dL_law_548 : decode cL_law 548 = .ok (.iadd, 1) := by decide +kernel
theorem dL_law_549 : decode cL_law 549 = .ok (.iaload, 1) := by decide +kernel
theorem dL_law_550 : decode cL_law 550 = .ok (.invokevirtual 74, 3) := by decide +kernel
theorem dL_law_553 : decode cL_law 553 = .ok (.istore 6, 2) := by decide +kernel
theorem dL_law_555 : decode cL_law 555 = .ok (.aload_n 2, 1) := by decide +kernel
theorem dL_law_556 : decode cL_law 556 = .ok (.invokevirtual 53, 3) := by decide +kernel
theorem dL_law_559 : decode cL_law 559 = .ok (.iload 5, 2) := by decide +kernel
theorem dL_law_561 : decode cL_law 561 = .ok (.if_icmp .eq 5, 3) := by decide +kernel
theorem dL_law_564 : decode cL_law 564 = .ok (.iconst 0, 1) := by decide +kernel
theorem dL_law_565 : decode cL_law 565 = .ok (.ireturn, 1) := by decide +kernel
theorem dL_law_566 : decode cL_law 566 = .ok (.iload 5, 2) := by decide +kernel
theorem dL_law_568 : decode cL_law 568 = .ok (.ifCond .ne 15, 3) := by decide +kernel
theorem dL_law_571 : decode cL_law 571 = .ok (.aload_n 3, 1) := by decide +kernel
theorem dL_law_572 : decode cL_law 572 = .ok (.iconst 0, 1) := by decide +kernel
theorem dL_law_573 : decode cL_law 573 = .ok (.laload, 1) := by decide +kernel
theorem dL_law_574 : decode cL_law 574 = .ok (.iload 6, 2) := by decide +kernel
theorem dL_law_576 : decode cL_law 576 = .ok (.i2l, 1) := by decide +kernel
theorem dL_law_577 : decode cL_law 577 = .ok (.lcmp, 1) := by decide +kernel
theorem dL_law_578 : decode cL_law 578 = .ok (.ifCond .eq 5, 3) := by decide +kernel
theorem dL_law_581 : decode cL_law 581 = .ok (.iconst 0, 1) := by decide +kernel
theorem dL_law_582 : decode cL_law 582 = .ok (.ireturn, 1) := by decide +kernel
theorem dL_law_583 : decode cL_law 583 = .ok (.goto 84, 3) := by decide +kernel
theorem dL_law_586 : decode cL_law 586 = .ok (.aload_n 1, 1) := by decide +kernel
theorem dL_law_587 : decode cL_law 587 = .ok (.aload_n 0, 1) := by decide +kernel
theorem dL_law_588 : decode cL_law 588 = .ok (.iload 4, 2) := by decide +kernel
theorem dL_law_590 : decode cL_law 590 = .ok (.iconst 1, 1) := by decide +kernel
theorem dL_law_591 : decode cL_law 591 = .ok (.iadd, 1) := by decide +kernel
theorem dL_law_592 : decode cL_law 592 = .ok (.iaload, 1) := by decide +kernel
theorem dL_law_593 : decode cL_law 593 = .ok (.aload_n 0, 1) := by decide +kernel
theorem dL_law_594 : decode cL_law 594 = .ok (.iload 4, 2) := by decide +kernel
theorem dL_law_596 : decode cL_law 596 = .ok (.iconst 2, 1) := by decide +kernel
theorem dL_law_597 : decode cL_law 597 = .ok (.iadd, 1) := by decide +kernel
theorem dL_law_598 : decode cL_law 598 = .ok (.iaload, 1) := by decide +kernel
theorem dL_law_599 : decode cL_law 599 = .ok (.aload_n 3, 1) := by decide +kernel
theorem dL_law_600 : decode cL_law 600 = .ok (.invokestatic 75, 3) := by decide +kernel
theorem dL_law_603 : decode cL_law 603 = .ok (.istore 5, 2) := by decide +kernel
theorem dL_law_605 : decode cL_law 605 = .ok (.aload_n 2, 1) := by decide +kernel
theorem dL_law_606 : decode cL_law 606 = .ok (.aload_n 0, 1) := by decide +kernel
theorem dL_law_607 : decode cL_law 607 = .ok (.iload 4, 2) := by decide +kernel
theorem dL_law_609 : decode cL_law 609 = .ok (.iconst 1, 1) := by decide +kernel
theorem dL_law_610 : decode cL_law 610 = .ok (.iadd, 1) := by decide +kernel
theorem dL_law_611 : decode cL_law 611 = .ok (.iaload, 1) := by decide +kernel
theorem dL_law_612 : decode cL_law 612 = .ok (.aload_n 0, 1) := by decide +kernel
theorem dL_law_613 : decode cL_law 613 = .ok (.iload 4, 2) := by decide +kernel
theorem dL_law_615 : decode cL_law 615 = .ok (.iconst 2, 1) := by decide +kernel
theorem dL_law_616 : decode cL_law 616 = .ok (.iadd, 1) := by decide +kernel
theorem dL_law_617 : decode cL_law 617 = .ok (.iaload, 1) := by decide +kernel
theorem dL_law_618 : decode cL_law 618 = .ok (.invokevirtual 77, 3) := by decide +kernel
theorem dL_law_621 : decode cL_law 621 = .ok (.istore 6, 2) := by decide +kernel
theorem dL_law_623 : decode cL_law 623 = .ok (.aload_n 2, 1) := by decide +kernel
theorem dL_law_624 : decode cL_law 624 = .ok (.invokevirtual 53, 3) := by decide +kernel
theorem dL_law_627 : decode cL_law 627 = .ok (.iload 5, 2) := by decide +kernel
theorem dL_law_629 : decode cL_law 629 = .ok (.if_icmp .eq 5, 3) := by decide +kernel
theorem dL_law_632 : decode cL_law 632 = .ok (.iconst 0, 1) := by decide +kernel
theorem dL_law_633 : decode cL_law 633 = .ok (.ireturn, 1) := by decide +kernel
theorem dL_law_634 : decode cL_law 634 = .ok (.iload 5, 2) := by decide +kernel
theorem dL_law_636 : decode cL_law 636 = .ok (.ifCond .ne 15, 3) := by decide +kernel
theorem dL_law_639 : decode cL_law 639 = .ok (.aload_n 3, 1) := by decide +kernel
theorem dL_law_640 : decode cL_law 640 = .ok (.iconst 0, 1) := by decide +kernel
theorem dL_law_641 : decode cL_law 641 = .ok (.laload, 1) := by decide +kernel
theorem dL_law_642 : decode cL_law 642 = .ok (.iload 6, 2) := by decide +kernel
theorem dL_law_644 : decode cL_law 644 = .ok (.i2l, 1) := by decide +kernel
theorem dL_law_645 : decode cL_law 645 = .ok (.lcmp, 1) := by decide +kernel
theorem dL_law_646 : decode cL_law 646 = .ok (.ifCond .eq 5, 3) := by decide +kernel
theorem dL_law_649 : decode cL_law 649 = .ok (.iconst 0, 1) := by decide +kernel
theorem dL_law_650 : decode cL_law 650 = .ok (.ireturn, 1) := by decide +kernel
theorem dL_law_651 : decode cL_law 651 = .ok (.goto 16, 3) := by decide +kernel
theorem dL_law_654 : decode cL_law 654 = .ok (.aload_n 1, 1) := by decide +kernel
theorem dL_law_655 : decode cL_law 655 = .ok (.invokevirtual 78, 3) := by decide +kernel
theorem dL_law_658 : decode cL_law 658 = .ok (.aload_n 2, 1) := by decide +kernel
theorem dL_law_659 : decode cL_law 659 = .ok (.invokevirtual 81, 3) := by decide +kernel
theorem dL_law_662 : decode cL_law 662 = .ok (.if_icmp .eq 5, 3) := by decide +kernel
theorem dL_law_665 : decode cL_law 665 = .ok (.iconst 0, 1) := by decide +kernel
theorem dL_law_666 : decode cL_law 666 = .ok (.ireturn, 1) := by decide +kernel
theorem dL_law_667 : decode cL_law 667 = .ok (.iinc 4 6, 3) := by decide +kernel
theorem dL_law_670 : decode cL_law 670 = .ok (.goto (-647), 3) := by decide +kernel
theorem dL_law_673 : decode cL_law 673 = .ok (.iconst 1, 1) := by decide +kernel
theorem dL_law_674 : decode cL_law 674 = .ok (.ireturn, 1) := by decide +kernel
