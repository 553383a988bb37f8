theorem dS_init_0 : decode cS_init 0 = .ok (.aload_n 0, 1) := by decide +kernel
theorem dS_init_1 : decode cS_init 1 = .ok (.invokespecial 3, 3) := by decide +kernel
theorem dS_init_4 : decode cS_init 4 = .ok (.aload_n 0, 1) := by decide +kernel
theorem dS_init_5 : decode cS_init 5 = .ok (.sipush 400, 3) := by decide +kernel
theorem dS_init_8 : decode cS_init 8 = .ok (.anewarray 9, 3) := by decide +kernel
theorem dS_init_11 : decode cS_init 11 = .ok (.putfield 11, 3) := by decide +kernel
theorem dS_init_14 : decode cS_init 14 = .ok (.aload_n 0, 1) := by decide +kernel
theorem dS_init_15 : decode cS_init 15 = .ok (.iconst 1, 1) := by decide +kernel
theorem dS_init_16 : decode cS_init 16 = .ok (.putfield 15, 3) := by decide +kernel
theorem dS_init_19 : decode cS_init 19 = .ok (.return_, 1) := by decide +kernel
theorem dS_tables_0 : decode cS_tables 0 = .ok (.aload_n 0, 1) := by decide +kernel
theorem dS_tables_1 : decode cS_tables 1 = .ok (.getfield 15, 3) := by decide +kernel
theorem dS_tables_4 : decode cS_tables 4 = .ok (.ireturn, 1) := by decide +kernel
theorem dS_put_0 : decode cS_put 0 = .ok (.aload_n 0, 1) := by decide +kernel
theorem dS_put_1 : decode cS_put 1 = .ok (.iload_n 1, 1) := by decide +kernel
theorem dS_put_2 : decode cS_put 2 = .ok (.iload_n 2, 1) := by decide +kernel
theorem dS_put_3 : decode cS_put 3 = .ok (.iload 5, 2) := by decide +kernel
theorem dS_put_5 : decode cS_put 5 = .ok (.invokevirtual 19, 3) := by decide +kernel
theorem dS_put_8 : decode cS_put 8 = .ok (.aload_n 0, 1) := by decide +kernel
theorem dS_put_9 : decode cS_put 9 = .ok (.iload_n 1, 1) := by decide +kernel
theorem dS_put_10 : decode cS_put 10 = .ok (.iload_n 2, 1) := by decide +kernel
theorem dS_put_11 : decode cS_put 11 = .ok (.iload_n 2, 1) := by decide +kernel
theorem dS_put_12 : decode cS_put 12 = .ok (.lload_n 3, 1) := by decide +kernel
theorem dS_put_13 : decode cS_put 13 = .ok (.iload 5, 2) := by decide +kernel
theorem dS_put_15 : decode cS_put 15 = .ok (.invokestatic 23, 3) := by decide +kernel
theorem dS_put_18 : decode cS_put 18 = .ok (.invokevirtual 27, 3) := by decide +kernel
theorem dS_put_21 : decode cS_put 21 = .ok (.ireturn, 1) := by decide +kernel
theorem dS_checkChange_0 : decode cS_checkChange 0 = .ok (.aload_n 0, 1) := by decide +kernel
theorem dS_checkChange_1 : decode cS_checkChange 1 = .ok (.iload_n 1, 1) := by decide +kernel
theorem dS_checkChange_2 : decode cS_checkChange 2 = .ok (.invokevirtual 35, 3) := by decide +kernel
theorem dS_checkChange_5 : decode cS_checkChange 5 = .ok (.iload_n 2, 1) := by decide +kernel
theorem dS_checkChange_6 : decode cS_checkChange 6 = .ok (.invokestatic 39, 3) := by decide +kernel
theorem dS_checkChange_9 : decode cS_checkChange 9 = .ok (.iload_n 3, 1) := by decide +kernel
theorem dS_checkChange_10 : decode cS_checkChange 10 = .ok (.ifCond .lt 9, 3) := by decide +kernel
theorem dS_checkChange_13 : decode cS_checkChange 13 = .ok (.iload_n 3, 1) := by decide +kernel
theorem dS_checkChange_14 : decode cS_checkChange 14 = .ok (.ldc 85, 2) := by decide +kernel
theorem dS_checkChange_16 : decode cS_checkChange 16 = .ok (.if_icmp .le 13, 3) := by decide +kernel
theorem dS_checkChange_19 : decode cS_checkChange 19 = .ok (.new 57, 3) := by decide +kernel
theorem dS_checkChange_22 : decode cS_checkChange 22 = .ok (.dup, 1) := by decide +kernel
theorem dS_checkChange_23 : decode cS_checkChange 23 = .ok (.ldc 86, 2) := by decide +kernel
theorem dS_checkChange_25 : decode cS_checkChange 25 = .ok (.invokespecial 61, 3) := by decide +kernel
theorem dS_checkChange_28 : decode cS_checkChange 28 = .ok (.athrow, 1) := by decide +kernel
theorem dS_checkChange_29 : decode cS_checkChange 29 = .ok (.aload_n 0, 1) := by decide +kernel
theorem dS_checkChange_30 : decode cS_checkChange 30 = .ok (.getfield 15, 3) := by decide +kernel
theorem dS_checkChange_33 : decode cS_checkChange 33 = .ok (.sipush 400, 3) := by decide +kernel
theorem dS_checkChange_36 : decode cS_checkChange 36 = .ok (.if_icmp .lt 13, 3) := by decide +kernel
theorem dS_checkChange_39 : decode cS_checkChange 39 = .ok (.new 68, 3) := by decide +kernel
theorem dS_checkChange_42 : decode cS_checkChange 42 = .ok (.dup, 1) := by decide +kernel
theorem dS_checkChange_43 : decode cS_checkChange 43 = .ok (.ldc 88, 2) := by decide +kernel
theorem dS_checkChange_45 : decode cS_checkChange 45 = .ok (.invokespecial 72, 3) := by decide +kernel
theorem dS_checkChange_48 : decode cS_checkChange 48 = .ok (.athrow, 1) := by decide +kernel
theorem dS_checkChange_49 : decode cS_checkChange 49 = .ok (.return_, 1) := by decide +kernel
theorem dS_checkTable_0 : decode cS_checkTable 0 = .ok (.iload_n 1, 1) := by decide +kernel
theorem dS_checkTable_1 : decode cS_checkTable 1 = .ok (.ifCond .lt 11, 3) := by decide +kernel
theorem dS_checkTable_4 : decode cS_checkTable 4 = .ok (.iload_n 1, 1) := by decide +kernel
theorem dS_checkTable_5 : decode cS_checkTable 5 = .ok (.aload_n 0, 1) := by decide +kernel
theorem dS_checkTable_6 : decode cS_checkTable 6 = .ok (.getfield 15, 3) := by decide +kernel
theorem dS_checkTable_9 : decode cS_checkTable 9 = .ok (.if_icmp .lt 13, 3) := by decide +kernel
theorem dS_checkTable_12 : decode cS_checkTable 12 = .ok (.new 57, 3) := by decide +kernel
theorem dS_checkTable_15 : decode cS_checkTable 15 = .ok (.dup, 1) := by decide +kernel
theorem dS_checkTable_16 : decode cS_checkTable 16 = .ok (.ldc 81, 2) := by decide +kernel
theorem dS_checkTable_18 : decode cS_checkTable 18 = .ok (.invokespecial 61, 3) := by decide +kernel
theorem dS_checkTable_21 : decode cS_checkTable 21 = .ok (.athrow, 1) := by decide +kernel
theorem dS_checkTable_22 : decode cS_checkTable 22 = .ok (.return_, 1) := by decide +kernel
theorem dS_checkKey_0 : decode cS_checkKey 0 = .ok (.iload_n 0, 1) := by decide +kernel
theorem dS_checkKey_1 : decode cS_checkKey 1 = .ok (.ifCond .lt 10, 3) := by decide +kernel
theorem dS_checkKey_4 : decode cS_checkKey 4 = .ok (.iload_n 0, 1) := by decide +kernel
theorem dS_checkKey_5 : decode cS_checkKey 5 = .ok (.sipush 1023, 3) := by decide +kernel
theorem dS_checkKey_8 : decode cS_checkKey 8 = .ok (.if_icmp .le 13, 3) := by decide +kernel
theorem dS_checkKey_11 : decode cS_checkKey 11 = .ok (.new 57, 3) := by decide +kernel
theorem dS_checkKey_14 : decode cS_checkKey 14 = .ok (.dup, 1) := by decide +kernel
theorem dS_checkKey_15 : decode cS_checkKey 15 = .ok (.ldc 83, 2) := by decide +kernel
theorem dS_checkKey_17 : decode cS_checkKey 17 = .ok (.invokespecial 61, 3) := by decide +kernel
theorem dS_checkKey_20 : decode cS_checkKey 20 = .ok (.athrow, 1) := by decide +kernel
theorem dS_checkKey_21 : decode cS_checkKey 21 = .ok (.return_, 1) := by decide +kernel
theorem dS_leafWithNumber_0 : decode cS_leafWithNumber 0 = .ok (.iconst 5, 1) := by decide +kernel
theorem dS_leafWithNumber_1 : decode cS_leafWithNumber 1 = .ok (.newarray .long, 2) := by decide +kernel
theorem dS_leafWithNumber_3 : decode cS_leafWithNumber 3 = .ok (.dup, 1) := by decide +kernel
theorem dS_leafWithNumber_4 : decode cS_leafWithNumber 4 = .ok (.iconst 0, 1) := by decide +kernel
theorem dS_leafWithNumber_5 : decode cS_leafWithNumber 5 = .ok (.lconst 1, 1) := by decide +kernel
theorem dS_leafWithNumber_6 : decode cS_leafWithNumber 6 = .ok (.lastore, 1) := by decide +kernel
theorem dS_leafWithNumber_7 : decode cS_leafWithNumber 7 = .ok (.dup, 1) := by decide +kernel
theorem dS_leafWithNumber_8 : decode cS_leafWithNumber 8 = .ok (.iconst 1, 1) := by decide +kernel
theorem dS_leafWithNumber_9 : decode cS_leafWithNumber 9 = .ok (.lload_n 1, 1) := by decide +kernel
theorem dS_leafWithNumber_10 : decode cS_leafWithNumber 10 = .ok (.lastore, 1) := by decide +kernel
theorem dS_leafWithNumber_11 : decode cS_leafWithNumber 11 = .ok (.dup, 1) := by decide +kernel
theorem dS_leafWithNumber_12 : decode cS_leafWithNumber 12 = .ok (.iconst 2, 1) := by decide +kernel
theorem dS_leafWithNumber_13 : decode cS_leafWithNumber 13 = .ok (.iload_n 0, 1) := by decide +kernel
theorem dS_leafWithNumber_14 : decode cS_leafWithNumber 14 = .ok (.i2l, 1) := by decide +kernel
theorem dS_leafWithNumber_15 : decode cS_leafWithNumber 15 = .ok (.lastore, 1) := by decide +kernel
theorem dS_leafWithNumber_16 : decode cS_leafWithNumber 16 = .ok (.dup, 1) := by decide +kernel
theorem dS_leafWithNumber_17 : decode cS_leafWithNumber 17 = .ok (.iconst 3, 1) := by decide +kernel
theorem dS_leafWithNumber_18 : decode cS_leafWithNumber 18 = .ok (.iload_n 0, 1) := by decide +kernel
theorem dS_leafWithNumber_19 : decode cS_leafWithNumber 19 = .ok (.i2l, 1) := by decide +kernel
theorem dS_leafWithNumber_20 : decode cS_leafWithNumber 20 = .ok (.lastore, 1) := by decide +kernel
theorem dS_leafWithNumber_21 : decode cS_leafWithNumber 21 = .ok (.dup, 1) := by decide +kernel
theorem dS_leafWithNumber_22 : decode cS_leafWithNumber 22 = .ok (.iconst 4, 1) := by decide +kernel
theorem dS_leafWithNumber_23 : decode cS_leafWithNumber 23 = .ok (.iload_n 3, 1) := by decide +kernel
theorem dS_leafWithNumber_24 : decode cS_leafWithNumber 24 = .ok (.i2l, 1) := by decide +kernel
theorem dS_leafWithNumber_25 : decode cS_leafWithNumber 25 = .ok (.lastore, 1) := by decide +kernel
theorem dS_leafWithNumber_26 : decode cS_leafWithNumber 26 = .ok (.astore 4, 2) := by decide +kernel
theorem dS_leafWithNumber_28 : decode cS_leafWithNumber 28 = .ok (.new 9, 3) := by decide +kernel
theorem dS_leafWithNumber_31 : decode cS_leafWithNumber 31 = .ok (.dup, 1) := by decide +kernel
theorem dS_leafWithNumber_32 : decode cS_leafWithNumber 32 = .ok (.aconst_null, 1) := by decide +kernel
theorem dS_leafWithNumber_33 : decode cS_leafWithNumber 33 = .ok (.aconst_null, 1) := by decide +kernel
theorem dS_leafWithNumber_34 : decode cS_leafWithNumber 34 = .ok (.aload 4, 2) := by decide +kernel
theorem dS_leafWithNumber_36 : decode cS_leafWithNumber 36 = .ok (.invokespecial 128, 3) := by decide +kernel
theorem dS_leafWithNumber_39 : decode cS_leafWithNumber 39 = .ok (.areturn, 1) := by decide +kernel
theorem dB_init_0 : decode cB_init 0 = .ok (.aload_n 0, 1) := by decide +kernel
theorem dB_init_1 : decode cB_init 1 = .ok (.invokespecial 1, 3) := by decide +kernel
theorem dB_init_4 : decode cB_init 4 = .ok (.aload_n 0, 1) := by decide +kernel
theorem dB_init_5 : decode cB_init 5 = .ok (.aload_n 1, 1) := by decide +kernel
theorem dB_init_6 : decode cB_init 6 = .ok (.putfield 7, 3) := by decide +kernel
theorem dB_init_9 : decode cB_init 9 = .ok (.aload_n 0, 1) := by decide +kernel
theorem dB_init_10 : decode cB_init 10 = .ok (.aload_n 2, 1) := by decide +kernel
theorem dB_init_11 : decode cB_init 11 = .ok (.putfield 13, 3) := by decide +kernel
theorem dB_init_14 : decode cB_init 14 = .ok (.aload_n 0, 1) := by decide +kernel
theorem dB_init_15 : decode cB_init 15 = .ok (.aload_n 3, 1) := by decide +kernel
theorem dB_init_16 : decode cB_init 16 = .ok (.putfield 16, 3) := by decide +kernel
theorem dB_init_19 : decode cB_init 19 = .ok (.return_, 1) := by decide +kernel
theorem dS_addTable_0 : decode cS_addTable 0 = .ok (.aload_n 0, 1) := by decide +kernel
theorem dS_addTable_1 : decode cS_addTable 1 = .ok (.getfield 15, 3) := by decide +kernel
theorem dS_addTable_4 : decode cS_addTable 4 = .ok (.istore 4, 2) := by decide +kernel
theorem dS_addTable_6 : decode cS_addTable 6 = .ok (.aload_n 0, 1) := by decide +kernel
theorem dS_addTable_7 : decode cS_addTable 7 = .ok (.getfield 11, 3) := by decide +kernel
theorem dS_addTable_10 : decode cS_addTable 10 = .ok (.iload 4, 2) := by decide +kernel
theorem dS_addTable_12 : decode cS_addTable 12 = .ok (.aload_n 0, 1) := by decide +kernel
theorem dS_addTable_13 : decode cS_addTable 13 = .ok (.getfield 11, 3) := by decide +kernel
theorem dS_addTable_16 : decode cS_addTable 16 = .ok (.iload_n 1, 1) := by decide +kernel
theorem dS_addTable_17 : decode cS_addTable 17 = .ok (.aaload, 1) := by decide +kernel
theorem dS_addTable_18 : decode cS_addTable 18 = .ok (.bipush 10, 2) := by decide +kernel
theorem dS_addTable_20 : decode cS_addTable 20 = .ok (.iload_n 2, 1) := by decide +kernel
theorem dS_addTable_21 : decode cS_addTable 21 = .ok (.aload_n 3, 1) := by decide +kernel
theorem dS_addTable_22 : decode cS_addTable 22 = .ok (.invokestatic 90, 3) := by decide +kernel
theorem dS_addTable_25 : decode cS_addTable 25 = .ok (.aastore, 1) := by decide +kernel
theorem dS_addTable_26 : decode cS_addTable 26 = .ok (.aload_n 0, 1) := by decide +kernel
theorem dS_addTable_27 : decode cS_addTable 27 = .ok (.dup, 1) := by decide +kernel
theorem dS_addTable_28 : decode cS_addTable 28 = .ok (.getfield 15, 3) := by decide +kernel
theorem dS_addTable_31 : decode cS_addTable 31 = .ok (.iconst 1, 1) := by decide +kernel
theorem dS_addTable_32 : decode cS_addTable 32 = .ok (.iadd, 1) := by decide +kernel
theorem dS_addTable_33 : decode cS_addTable 33 = .ok (.putfield 15, 3) := by decide +kernel
theorem dS_addTable_36 : decode cS_addTable 36 = .ok (.iload 4, 2) := by decide +kernel
theorem dS_addTable_38 : decode cS_addTable 38 = .ok (.ireturn, 1) := by decide +kernel
theorem dS_rewritten_0 : decode cS_rewritten 0 = .ok (.iload_n 1, 1) := by decide +kernel
theorem dS_rewritten_1 : decode cS_rewritten 1 = .ok (.ifCond .gt 5, 3) := by decide +kernel
theorem dS_rewritten_4 : decode cS_rewritten 4 = .ok (.aload_n 3, 1) := by decide +kernel
theorem dS_rewritten_5 : decode cS_rewritten 5 = .ok (.areturn, 1) := by decide +kernel
theorem dS_rewritten_6 : decode cS_rewritten 6 = .ok (.aload_n 0, 1) := by decide +kernel
theorem dS_rewritten_7 : decode cS_rewritten 7 = .ok (.invokestatic 94, 3) := by decide +kernel
theorem dS_rewritten_10 : decode cS_rewritten 10 = .ok (.astore 4, 2) := by decide +kernel
theorem dS_rewritten_12 : decode cS_rewritten 12 = .ok (.aload_n 0, 1) := by decide +kernel
theorem dS_rewritten_13 : decode cS_rewritten 13 = .ok (.invokestatic 98, 3) := by decide +kernel
theorem dS_rewritten_16 : decode cS_rewritten 16 = .ok (.astore 5, 2) := by decide +kernel
theorem dS_rewritten_18 : decode cS_rewritten 18 = .ok (.iload_n 2, 1) := by decide +kernel
theorem dS_rewritten_19 : decode cS_rewritten 19 = .ok (.iload_n 1, 1) := by decide +kernel
theorem dS_rewritten_20 : decode cS_rewritten 20 = .ok (.invokestatic 101, 3) := by decide +kernel
theorem dS_rewritten_23 : decode cS_rewritten 23 = .ok (.ifCond .eq 18, 3) := by decide +kernel
theorem dS_rewritten_26 : decode cS_rewritten 26 = .ok (.aload 5, 2) := by decide +kernel
theorem dS_rewritten_28 : decode cS_rewritten 28 = .ok (.iload_n 1, 1) := by decide +kernel
theorem dS_rewritten_29 : decode cS_rewritten 29 = .ok (.iconst 1, 1) := by decide +kernel
theorem dS_rewritten_30 : decode cS_rewritten 30 = .ok (.isub, 1) := by decide +kernel
theorem dS_rewritten_31 : decode cS_rewritten 31 = .ok (.iload_n 2, 1) := by decide +kernel
theorem dS_rewritten_32 : decode cS_rewritten 32 = .ok (.aload_n 3, 1) := by decide +kernel
theorem dS_rewritten_33 : decode cS_rewritten 33 = .ok (.invokestatic 90, 3) := by decide +kernel
theorem dS_rewritten_36 : decode cS_rewritten 36 = .ok (.astore 5, 2) := by decide +kernel
theorem dS_rewritten_38 : decode cS_rewritten 38 = .ok (.goto 15, 3) := by decide +kernel
theorem dS_rewritten_41 : decode cS_rewritten 41 = .ok (.aload 4, 2) := by decide +kernel
theorem dS_rewritten_43 : decode cS_rewritten 43 = .ok (.iload_n 1, 1) := by decide +kernel
theorem dS_rewritten_44 : decode cS_rewritten 44 = .ok (.iconst 1, 1) := by decide +kernel
theorem dS_rewritten_45 : decode cS_rewritten 45 = .ok (.isub, 1) := by decide +kernel
theorem dS_rewritten_46 : decode cS_rewritten 46 = .ok (.iload_n 2, 1) := by decide +kernel
theorem dS_rewritten_47 : decode cS_rewritten 47 = .ok (.aload_n 3, 1) := by decide +kernel
theorem dS_rewritten_48 : decode cS_rewritten 48 = .ok (.invokestatic 90, 3) := by decide +kernel
theorem dS_rewritten_51 : decode cS_rewritten 51 = .ok (.astore 4, 2) := by decide +kernel
theorem dS_rewritten_53 : decode cS_rewritten 53 = .ok (.aload 4, 2) := by decide +kernel
theorem dS_rewritten_55 : decode cS_rewritten 55 = .ok (.aload 5, 2) := by decide +kernel
theorem dS_rewritten_57 : decode cS_rewritten 57 = .ok (.invokestatic 105, 3) := by decide +kernel
theorem dS_rewritten_60 : decode cS_rewritten 60 = .ok (.areturn, 1) := by decide +kernel
theorem dS_lowerOf_0 : decode cS_lowerOf 0 = .ok (.aload_n 0, 1) := by decide +kernel
theorem dS_lowerOf_1 : decode cS_lowerOf 1 = .ok (.ifnonnull 7, 3) := by decide +kernel
theorem dS_lowerOf_4 : decode cS_lowerOf 4 = .ok (.aconst_null, 1) := by decide +kernel
theorem dS_lowerOf_5 : decode cS_lowerOf 5 = .ok (.goto 7, 3) := by decide +kernel
theorem dS_lowerOf_8 : decode cS_lowerOf 8 = .ok (.aload_n 0, 1) := by decide +kernel
theorem dS_lowerOf_9 : decode cS_lowerOf 9 = .ok (.getfield 113, 3) := by decide +kernel
theorem dS_lowerOf_12 : decode cS_lowerOf 12 = .ok (.areturn, 1) := by decide +kernel
theorem dS_upperOf_0 : decode cS_upperOf 0 = .ok (.aload_n 0, 1) := by decide +kernel
theorem dS_upperOf_1 : decode cS_upperOf 1 = .ok (.ifnonnull 7, 3) := by decide +kernel
theorem dS_upperOf_4 : decode cS_upperOf 4 = .ok (.aconst_null, 1) := by decide +kernel
theorem dS_upperOf_5 : decode cS_upperOf 5 = .ok (.goto 7, 3) := by decide +kernel
theorem dS_upperOf_8 : decode cS_upperOf 8 = .ok (.aload_n 0, 1) := by decide +kernel
theorem dS_upperOf_9 : decode cS_upperOf 9 = .ok (.getfield 117, 3) := by decide +kernel
theorem dS_upperOf_12 : decode cS_upperOf 12 = .ok (.areturn, 1) := by decide +kernel
theorem dS_isInUpperHalf_0 : decode cS_isInUpperHalf 0 = .ok (.iload_n 0, 1) := by decide +kernel
theorem dS_isInUpperHalf_1 : decode cS_isInUpperHalf 1 = .ok (.iload_n 1, 1) := by decide +kernel
theorem dS_isInUpperHalf_2 : decode cS_isInUpperHalf 2 = .ok (.iconst 1, 1) := by decide +kernel
theorem dS_isInUpperHalf_3 : decode cS_isInUpperHalf 3 = .ok (.isub, 1) := by decide +kernel
theorem dS_isInUpperHalf_4 : decode cS_isInUpperHalf 4 = .ok (.ishr, 1) := by decide +kernel
theorem dS_isInUpperHalf_5 : decode cS_isInUpperHalf 5 = .ok (.iconst 1, 1) := by decide +kernel
theorem dS_isInUpperHalf_6 : decode cS_isInUpperHalf 6 = .ok (.iand, 1) := by decide +kernel
theorem dS_isInUpperHalf_7 : decode cS_isInUpperHalf 7 = .ok (.iconst 1, 1) := by decide +kernel
theorem dS_isInUpperHalf_8 : decode cS_isInUpperHalf 8 = .ok (.if_icmp .ne 7, 3) := by decide +kernel
theorem dS_isInUpperHalf_11 : decode cS_isInUpperHalf 11 = .ok (.iconst 1, 1) := by decide +kernel
theorem dS_isInUpperHalf_12 : decode cS_isInUpperHalf 12 = .ok (.goto 4, 3) := by decide +kernel
theorem dS_isInUpperHalf_15 : decode cS_isInUpperHalf 15 = .ok (.iconst 0, 1) := by decide +kernel
theorem dS_isInUpperHalf_16 : decode cS_isInUpperHalf 16 = .ok (.ireturn, 1) := by decide +kernel
theorem dS_joined_0 : decode cS_joined 0 = .ok (.iconst 5, 1) := by decide +kernel
theorem dS_joined_1 : decode cS_joined 1 = .ok (.newarray .long, 2) := by decide +kernel
theorem dS_joined_3 : decode cS_joined 3 = .ok (.astore_n 2, 1) := by decide +kernel
theorem dS_joined_4 : decode cS_joined 4 = .ok (.iconst 0, 1) := by decide +kernel
theorem dS_joined_5 : decode cS_joined 5 = .ok (.istore_n 3, 1) := by decide +kernel
theorem dS_joined_6 : decode cS_joined 6 = .ok (.iload_n 3, 1) := by decide +kernel
theorem dS_joined_7 : decode cS_joined 7 = .ok (.iconst 4, 1) := by decide +kernel
theorem dS_joined_8 : decode cS_joined 8 = .ok (.if_icmp .gt 26, 3) := by decide +kernel
theorem dS_joined_11 : decode cS_joined 11 = .ok (.aload_n 2, 1) := by decide +kernel
theorem dS_joined_12 : decode cS_joined 12 = .ok (.iload_n 3, 1) := by decide +kernel
theorem dS_joined_13 : decode cS_joined 13 = .ok (.aload_n 0, 1) := by decide +kernel
theorem dS_joined_14 : decode cS_joined 14 = .ok (.iload_n 3, 1) := by decide +kernel
theorem dS_joined_15 : decode cS_joined 15 = .ok (.invokestatic 46, 3) := by decide +kernel
theorem dS_joined_18 : decode cS_joined 18 = .ok (.aload_n 1, 1) := by decide +kernel
theorem dS_joined_19 : decode cS_joined 19 = .ok (.iload_n 3, 1) := by decide +kernel
theorem dS_joined_20 : decode cS_joined 20 = .ok (.invokestatic 46, 3) := by decide +kernel
theorem dS_joined_23 : decode cS_joined 23 = .ok (.iload_n 3, 1) := by decide +kernel
theorem dS_joined_24 : decode cS_joined 24 = .ok (.invokestatic 120, 3) := by decide +kernel
theorem dS_joined_27 : decode cS_joined 27 = .ok (.lastore, 1) := by decide +kernel
theorem dS_joined_28 : decode cS_joined 28 = .ok (.iinc 3 1, 3) := by decide +kernel
theorem dS_joined_31 : decode cS_joined 31 = .ok (.goto (-25), 3) := by decide +kernel
theorem dS_joined_34 : decode cS_joined 34 = .ok (.new 9, 3) := by decide +kernel
theorem dS_joined_37 : decode cS_joined 37 = .ok (.dup, 1) := by decide +kernel
theorem dS_joined_38 : decode cS_joined 38 = .ok (.aload_n 0, 1) := by decide +kernel
theorem dS_joined_39 : decode cS_joined 39 = .ok (.aload_n 1, 1) := by decide +kernel
theorem dS_joined_40 : decode cS_joined 40 = .ok (.aload_n 2, 1) := by decide +kernel
theorem dS_joined_41 : decode cS_joined 41 = .ok (.invokespecial 128, 3) := by decide +kernel
theorem dS_joined_44 : decode cS_joined 44 = .ok (.areturn, 1) := by decide +kernel
theorem dS_takenOf_0 : decode cS_takenOf 0 = .ok (.aload_n 0, 1) := by decide +kernel
theorem dS_takenOf_1 : decode cS_takenOf 1 = .ok (.ifnonnull 10, 3) := by decide +kernel
theorem dS_takenOf_4 : decode cS_takenOf 4 = .ok (.iload_n 1, 1) := by decide +kernel
theorem dS_takenOf_5 : decode cS_takenOf 5 = .ok (.invokestatic 109, 3) := by decide +kernel
theorem dS_takenOf_8 : decode cS_takenOf 8 = .ok (.goto 9, 3) := by decide +kernel
theorem dS_takenOf_11 : decode cS_takenOf 11 = .ok (.aload_n 0, 1) := by decide +kernel
theorem dS_takenOf_12 : decode cS_takenOf 12 = .ok (.getfield 139, 3) := by decide +kernel
theorem dS_takenOf_15 : decode cS_takenOf 15 = .ok (.iload_n 1, 1) := by decide +kernel
theorem dS_takenOf_16 : decode cS_takenOf 16 = .ok (.laload, 1) := by decide +kernel
theorem dS_takenOf_17 : decode cS_takenOf 17 = .ok (.lreturn, 1) := by decide +kernel
theorem dS_takenOfNothing_0 : decode cS_takenOfNothing 0 = .ok (.iload_n 0, 1) := by decide +kernel
theorem dS_takenOfNothing_1 : decode cS_takenOfNothing 1 = .ok (.ifCond .eq 8, 3) := by decide +kernel
theorem dS_takenOfNothing_4 : decode cS_takenOfNothing 4 = .ok (.iload_n 0, 1) := by decide +kernel
theorem dS_takenOfNothing_5 : decode cS_takenOfNothing 5 = .ok (.iconst 1, 1) := by decide +kernel
theorem dS_takenOfNothing_6 : decode cS_takenOfNothing 6 = .ok (.if_icmp .ne 7, 3) := by decide +kernel
theorem dS_takenOfNothing_9 : decode cS_takenOfNothing 9 = .ok (.lconst 0, 1) := by decide +kernel
theorem dS_takenOfNothing_10 : decode cS_takenOfNothing 10 = .ok (.goto 6, 3) := by decide +kernel
theorem dS_takenOfNothing_13 : decode cS_takenOfNothing 13 = .ok (.ldc2_w 131, 3) := by decide +kernel
theorem dS_takenOfNothing_16 : decode cS_takenOfNothing 16 = .ok (.lreturn, 1) := by decide +kernel
theorem dS_takenTogether_0 : decode cS_takenTogether 0 = .ok (.iload 4, 2) := by decide +kernel
theorem dS_takenTogether_2 : decode cS_takenTogether 2 = .ok (.tableswitch 60 2 4 #[26, 40, 54], 26) := by decide +kernel
theorem dS_takenTogether_28 : decode cS_takenTogether 28 = .ok (.lload_n 0, 1) := by decide +kernel
theorem dS_takenTogether_29 : decode cS_takenTogether 29 = .ok (.ldc2_w 131, 3) := by decide +kernel
theorem dS_takenTogether_32 : decode cS_takenTogether 32 = .ok (.lcmp, 1) := by decide +kernel
theorem dS_takenTogether_33 : decode cS_takenTogether 33 = .ok (.ifCond .ne 7, 3) := by decide +kernel
theorem dS_takenTogether_36 : decode cS_takenTogether 36 = .ok (.lload_n 2, 1) := by decide +kernel
theorem dS_takenTogether_37 : decode cS_takenTogether 37 = .ok (.goto 4, 3) := by decide +kernel
theorem dS_takenTogether_40 : decode cS_takenTogether 40 = .ok (.lload_n 0, 1) := by decide +kernel
theorem dS_takenTogether_41 : decode cS_takenTogether 41 = .ok (.lreturn, 1) := by decide +kernel
theorem dS_takenTogether_42 : decode cS_takenTogether 42 = .ok (.lload_n 2, 1) := by decide +kernel
theorem dS_takenTogether_43 : decode cS_takenTogether 43 = .ok (.ldc2_w 131, 3) := by decide +kernel
theorem dS_takenTogether_46 : decode cS_takenTogether 46 = .ok (.lcmp, 1) := by decide +kernel
theorem dS_takenTogether_47 : decode cS_takenTogether 47 = .ok (.ifCond .ne 7, 3) := by decide +kernel
theorem dS_takenTogether_50 : decode cS_takenTogether 50 = .ok (.lload_n 0, 1) := by decide +kernel
theorem dS_takenTogether_51 : decode cS_takenTogether 51 = .ok (.goto 4, 3) := by decide +kernel
theorem dS_takenTogether_54 : decode cS_takenTogether 54 = .ok (.lload_n 2, 1) := by decide +kernel
theorem dS_takenTogether_55 : decode cS_takenTogether 55 = .ok (.lreturn, 1) := by decide +kernel
theorem dS_takenTogether_56 : decode cS_takenTogether 56 = .ok (.lload_n 0, 1) := by decide +kernel
theorem dS_takenTogether_57 : decode cS_takenTogether 57 = .ok (.lload_n 2, 1) := by decide +kernel
theorem dS_takenTogether_58 : decode cS_takenTogether 58 = .ok (.invokestatic 133, 3) := by decide +kernel
theorem dS_takenTogether_61 : decode cS_takenTogether 61 = .ok (.lreturn, 1) := by decide +kernel
theorem dS_takenTogether_62 : decode cS_takenTogether 62 = .ok (.lload_n 0, 1) := by decide +kernel
theorem dS_takenTogether_63 : decode cS_takenTogether 63 = .ok (.lload_n 2, 1) := by decide +kernel
theorem dS_takenTogether_64 : decode cS_takenTogether 64 = .ok (.ladd, 1) := by decide +kernel
theorem dS_takenTogether_65 : decode cS_takenTogether 65 = .ok (.lreturn, 1) := by decide +kernel
theorem dS_delete_0 : decode cS_delete 0 = .ok (.aload_n 0, 1) := by decide +kernel
theorem dS_delete_1 : decode cS_delete 1 = .ok (.iload_n 1, 1) := by decide +kernel
theorem dS_delete_2 : decode cS_delete 2 = .ok (.iload_n 2, 1) := by decide +kernel
theorem dS_delete_3 : decode cS_delete 3 = .ok (.iload_n 3, 1) := by decide +kernel
theorem dS_delete_4 : decode cS_delete 4 = .ok (.invokevirtual 19, 3) := by decide +kernel
theorem dS_delete_7 : decode cS_delete 7 = .ok (.aload_n 0, 1) := by decide +kernel
theorem dS_delete_8 : decode cS_delete 8 = .ok (.iload_n 1, 1) := by decide +kernel
theorem dS_delete_9 : decode cS_delete 9 = .ok (.iload_n 2, 1) := by decide +kernel
theorem dS_delete_10 : decode cS_delete 10 = .ok (.iload_n 3, 1) := by decide +kernel
theorem dS_delete_11 : decode cS_delete 11 = .ok (.invokestatic 31, 3) := by decide +kernel
theorem dS_delete_14 : decode cS_delete 14 = .ok (.invokevirtual 27, 3) := by decide +kernel
theorem dS_delete_17 : decode cS_delete 17 = .ok (.ireturn, 1) := by decide +kernel
theorem dS_leafWithoutNumber_0 : decode cS_leafWithoutNumber 0 = .ok (.iconst 5, 1) := by decide +kernel
theorem dS_leafWithoutNumber_1 : decode cS_leafWithoutNumber 1 = .ok (.newarray .long, 2) := by decide +kernel
theorem dS_leafWithoutNumber_3 : decode cS_leafWithoutNumber 3 = .ok (.dup, 1) := by decide +kernel
theorem dS_leafWithoutNumber_4 : decode cS_leafWithoutNumber 4 = .ok (.iconst 0, 1) := by decide +kernel
theorem dS_leafWithoutNumber_5 : decode cS_leafWithoutNumber 5 = .ok (.lconst 0, 1) := by decide +kernel
theorem dS_leafWithoutNumber_6 : decode cS_leafWithoutNumber 6 = .ok (.lastore, 1) := by decide +kernel
theorem dS_leafWithoutNumber_7 : decode cS_leafWithoutNumber 7 = .ok (.dup, 1) := by decide +kernel
theorem dS_leafWithoutNumber_8 : decode cS_leafWithoutNumber 8 = .ok (.iconst 1, 1) := by decide +kernel
theorem dS_leafWithoutNumber_9 : decode cS_leafWithoutNumber 9 = .ok (.lconst 0, 1) := by decide +kernel
theorem dS_leafWithoutNumber_10 : decode cS_leafWithoutNumber 10 = .ok (.lastore, 1) := by decide +kernel
theorem dS_leafWithoutNumber_11 : decode cS_leafWithoutNumber 11 = .ok (.dup, 1) := by decide +kernel
theorem dS_leafWithoutNumber_12 : decode cS_leafWithoutNumber 12 = .ok (.iconst 2, 1) := by decide +kernel
theorem dS_leafWithoutNumber_13 : decode cS_leafWithoutNumber 13 = .ok (.ldc2_w 131, 3) := by decide +kernel
theorem dS_leafWithoutNumber_16 : decode cS_leafWithoutNumber 16 = .ok (.lastore, 1) := by decide +kernel
theorem dS_leafWithoutNumber_17 : decode cS_leafWithoutNumber 17 = .ok (.dup, 1) := by decide +kernel
theorem dS_leafWithoutNumber_18 : decode cS_leafWithoutNumber 18 = .ok (.iconst 3, 1) := by decide +kernel
theorem dS_leafWithoutNumber_19 : decode cS_leafWithoutNumber 19 = .ok (.ldc2_w 131, 3) := by decide +kernel
theorem dS_leafWithoutNumber_22 : decode cS_leafWithoutNumber 22 = .ok (.lastore, 1) := by decide +kernel
theorem dS_leafWithoutNumber_23 : decode cS_leafWithoutNumber 23 = .ok (.dup, 1) := by decide +kernel
theorem dS_leafWithoutNumber_24 : decode cS_leafWithoutNumber 24 = .ok (.iconst 4, 1) := by decide +kernel
theorem dS_leafWithoutNumber_25 : decode cS_leafWithoutNumber 25 = .ok (.iload_n 0, 1) := by decide +kernel
theorem dS_leafWithoutNumber_26 : decode cS_leafWithoutNumber 26 = .ok (.i2l, 1) := by decide +kernel
theorem dS_leafWithoutNumber_27 : decode cS_leafWithoutNumber 27 = .ok (.lastore, 1) := by decide +kernel
theorem dS_leafWithoutNumber_28 : decode cS_leafWithoutNumber 28 = .ok (.astore_n 1, 1) := by decide +kernel
theorem dS_leafWithoutNumber_29 : decode cS_leafWithoutNumber 29 = .ok (.new 9, 3) := by decide +kernel
theorem dS_leafWithoutNumber_32 : decode cS_leafWithoutNumber 32 = .ok (.dup, 1) := by decide +kernel
theorem dS_leafWithoutNumber_33 : decode cS_leafWithoutNumber 33 = .ok (.aconst_null, 1) := by decide +kernel
theorem dS_leafWithoutNumber_34 : decode cS_leafWithoutNumber 34 = .ok (.aconst_null, 1) := by decide +kernel
theorem dS_leafWithoutNumber_35 : decode cS_leafWithoutNumber 35 = .ok (.aload_n 1, 1) := by decide +kernel
theorem dS_leafWithoutNumber_36 : decode cS_leafWithoutNumber 36 = .ok (.invokespecial 128, 3) := by decide +kernel
theorem dS_leafWithoutNumber_39 : decode cS_leafWithoutNumber 39 = .ok (.areturn, 1) := by decide +kernel
theorem dS_get_0 : decode cS_get 0 = .ok (.aload_n 0, 1) := by decide +kernel
theorem dS_get_1 : decode cS_get 1 = .ok (.iload_n 1, 1) := by decide +kernel
theorem dS_get_2 : decode cS_get 2 = .ok (.invokevirtual 35, 3) := by decide +kernel
theorem dS_get_5 : decode cS_get 5 = .ok (.iload_n 2, 1) := by decide +kernel
theorem dS_get_6 : decode cS_get 6 = .ok (.invokestatic 39, 3) := by decide +kernel
theorem dS_get_9 : decode cS_get 9 = .ok (.aload_n 0, 1) := by decide +kernel
theorem dS_get_10 : decode cS_get 10 = .ok (.getfield 11, 3) := by decide +kernel
theorem dS_get_13 : decode cS_get 13 = .ok (.iload_n 1, 1) := by decide +kernel
theorem dS_get_14 : decode cS_get 14 = .ok (.aaload, 1) := by decide +kernel
theorem dS_get_15 : decode cS_get 15 = .ok (.iload_n 2, 1) := by decide +kernel
theorem dS_get_16 : decode cS_get 16 = .ok (.invokestatic 42, 3) := by decide +kernel
theorem dS_get_19 : decode cS_get 19 = .ok (.astore_n 3, 1) := by decide +kernel
theorem dS_get_20 : decode cS_get 20 = .ok (.aload_n 3, 1) := by decide +kernel
theorem dS_get_21 : decode cS_get 21 = .ok (.iconst 0, 1) := by decide +kernel
theorem dS_get_22 : decode cS_get 22 = .ok (.invokestatic 46, 3) := by decide +kernel
theorem dS_get_25 : decode cS_get 25 = .ok (.lconst 0, 1) := by decide +kernel
theorem dS_get_26 : decode cS_get 26 = .ok (.lcmp, 1) := by decide +kernel
theorem dS_get_27 : decode cS_get 27 = .ok (.ifCond .ne 13, 3) := by decide +kernel
theorem dS_get_30 : decode cS_get 30 = .ok (.new 50, 3) := by decide +kernel
theorem dS_get_33 : decode cS_get 33 = .ok (.dup, 1) := by decide +kernel
theorem dS_get_34 : decode cS_get 34 = .ok (.ldc 52, 2) := by decide +kernel
theorem dS_get_36 : decode cS_get 36 = .ok (.invokespecial 54, 3) := by decide +kernel
theorem dS_get_39 : decode cS_get 39 = .ok (.athrow, 1) := by decide +kernel
theorem dS_get_40 : decode cS_get 40 = .ok (.aload_n 3, 1) := by decide +kernel
theorem dS_get_41 : decode cS_get 41 = .ok (.iconst 1, 1) := by decide +kernel
theorem dS_get_42 : decode cS_get 42 = .ok (.invokestatic 46, 3) := by decide +kernel
theorem dS_get_45 : decode cS_get 45 = .ok (.lreturn, 1) := by decide +kernel
theorem dS_leafOf_0 : decode cS_leafOf 0 = .ok (.aload_n 0, 1) := by decide +kernel
theorem dS_leafOf_1 : decode cS_leafOf 1 = .ok (.astore_n 2, 1) := by decide +kernel
theorem dS_leafOf_2 : decode cS_leafOf 2 = .ok (.bipush 10, 2) := by decide +kernel
theorem dS_leafOf_4 : decode cS_leafOf 4 = .ok (.istore_n 3, 1) := by decide +kernel
theorem dS_leafOf_5 : decode cS_leafOf 5 = .ok (.iload_n 3, 1) := by decide +kernel
theorem dS_leafOf_6 : decode cS_leafOf 6 = .ok (.ifCond .le 29, 3) := by decide +kernel
theorem dS_leafOf_9 : decode cS_leafOf 9 = .ok (.iload_n 1, 1) := by decide +kernel
theorem dS_leafOf_10 : decode cS_leafOf 10 = .ok (.iload_n 3, 1) := by decide +kernel
theorem dS_leafOf_11 : decode cS_leafOf 11 = .ok (.invokestatic 101, 3) := by decide +kernel
theorem dS_leafOf_14 : decode cS_leafOf 14 = .ok (.ifCond .eq 10, 3) := by decide +kernel
theorem dS_leafOf_17 : decode cS_leafOf 17 = .ok (.aload_n 2, 1) := by decide +kernel
theorem dS_leafOf_18 : decode cS_leafOf 18 = .ok (.invokestatic 98, 3) := by decide +kernel
theorem dS_leafOf_21 : decode cS_leafOf 21 = .ok (.goto 7, 3) := by decide +kernel
theorem dS_leafOf_24 : decode cS_leafOf 24 = .ok (.aload_n 2, 1) := by decide +kernel
theorem dS_leafOf_25 : decode cS_leafOf 25 = .ok (.invokestatic 94, 3) := by decide +kernel
theorem dS_leafOf_28 : decode cS_leafOf 28 = .ok (.astore_n 2, 1) := by decide +kernel
theorem dS_leafOf_29 : decode cS_leafOf 29 = .ok (.iinc 3 (-1), 3) := by decide +kernel
theorem dS_leafOf_32 : decode cS_leafOf 32 = .ok (.goto (-27), 3) := by decide +kernel
theorem dS_leafOf_35 : decode cS_leafOf 35 = .ok (.aload_n 2, 1) := by decide +kernel
theorem dS_leafOf_36 : decode cS_leafOf 36 = .ok (.areturn, 1) := by decide +kernel
theorem dS_stamp_0 : decode cS_stamp 0 = .ok (.aload_n 0, 1) := by decide +kernel
theorem dS_stamp_1 : decode cS_stamp 1 = .ok (.iload_n 1, 1) := by decide +kernel
theorem dS_stamp_2 : decode cS_stamp 2 = .ok (.invokevirtual 35, 3) := by decide +kernel
theorem dS_stamp_5 : decode cS_stamp 5 = .ok (.iload_n 2, 1) := by decide +kernel
theorem dS_stamp_6 : decode cS_stamp 6 = .ok (.invokestatic 39, 3) := by decide +kernel
theorem dS_stamp_9 : decode cS_stamp 9 = .ok (.aload_n 0, 1) := by decide +kernel
theorem dS_stamp_10 : decode cS_stamp 10 = .ok (.getfield 11, 3) := by decide +kernel
theorem dS_stamp_13 : decode cS_stamp 13 = .ok (.iload_n 1, 1) := by decide +kernel
theorem dS_stamp_14 : decode cS_stamp 14 = .ok (.aaload, 1) := by decide +kernel
theorem dS_stamp_15 : decode cS_stamp 15 = .ok (.iload_n 2, 1) := by decide +kernel
theorem dS_stamp_16 : decode cS_stamp 16 = .ok (.invokestatic 42, 3) := by decide +kernel
theorem dS_stamp_19 : decode cS_stamp 19 = .ok (.iconst 4, 1) := by decide +kernel
theorem dS_stamp_20 : decode cS_stamp 20 = .ok (.invokestatic 46, 3) := by decide +kernel
theorem dS_stamp_23 : decode cS_stamp 23 = .ok (.l2i, 1) := by decide +kernel
theorem dS_stamp_24 : decode cS_stamp 24 = .ok (.ireturn, 1) := by decide +kernel
theorem dS_part_0 : decode cS_part 0 = .ok (.aload_n 0, 1) := by decide +kernel
theorem dS_part_1 : decode cS_part 1 = .ok (.iload_n 1, 1) := by decide +kernel
theorem dS_part_2 : decode cS_part 2 = .ok (.invokevirtual 35, 3) := by decide +kernel
theorem dS_part_5 : decode cS_part 5 = .ok (.iload_n 2, 1) := by decide +kernel
theorem dS_part_6 : decode cS_part 6 = .ok (.invokestatic 39, 3) := by decide +kernel
theorem dS_part_9 : decode cS_part 9 = .ok (.iload_n 3, 1) := by decide +kernel
theorem dS_part_10 : decode cS_part 10 = .ok (.invokestatic 39, 3) := by decide +kernel
theorem dS_part_13 : decode cS_part 13 = .ok (.iload_n 2, 1) := by decide +kernel
theorem dS_part_14 : decode cS_part 14 = .ok (.iload_n 3, 1) := by decide +kernel
theorem dS_part_15 : decode cS_part 15 = .ok (.if_icmp .le 13, 3) := by decide +kernel
theorem dS_part_18 : decode cS_part 18 = .ok (.new 57, 3) := by decide +kernel
theorem dS_part_21 : decode cS_part 21 = .ok (.dup, 1) := by decide +kernel
theorem dS_part_22 : decode cS_part 22 = .ok (.ldc 59, 2) := by decide +kernel
theorem dS_part_24 : decode cS_part 24 = .ok (.invokespecial 61, 3) := by decide +kernel
theorem dS_part_27 : decode cS_part 27 = .ok (.athrow, 1) := by decide +kernel
theorem dS_part_28 : decode cS_part 28 = .ok (.iload 4, 2) := by decide +kernel
theorem dS_part_30 : decode cS_part 30 = .ok (.ifCond .lt 9, 3) := by decide +kernel
theorem dS_part_33 : decode cS_part 33 = .ok (.iload 4, 2) := by decide +kernel
theorem dS_part_35 : decode cS_part 35 = .ok (.iconst 4, 1) := by decide +kernel
theorem dS_part_36 : decode cS_part 36 = .ok (.if_icmp .le 13, 3) := by decide +kernel
theorem dS_part_39 : decode cS_part 39 = .ok (.new 57, 3) := by decide +kernel
theorem dS_part_42 : decode cS_part 42 = .ok (.dup, 1) := by decide +kernel
theorem dS_part_43 : decode cS_part 43 = .ok (.ldc 62, 2) := by decide +kernel
theorem dS_part_45 : decode cS_part 45 = .ok (.invokespecial 61, 3) := by decide +kernel
theorem dS_part_48 : decode cS_part 48 = .ok (.athrow, 1) := by decide +kernel
theorem dS_part_49 : decode cS_part 49 = .ok (.aload_n 0, 1) := by decide +kernel
theorem dS_part_50 : decode cS_part 50 = .ok (.getfield 11, 3) := by decide +kernel
theorem dS_part_53 : decode cS_part 53 = .ok (.iload_n 1, 1) := by decide +kernel
theorem dS_part_54 : decode cS_part 54 = .ok (.aaload, 1) := by decide +kernel
theorem dS_part_55 : decode cS_part 55 = .ok (.bipush 10, 2) := by decide +kernel
theorem dS_part_57 : decode cS_part 57 = .ok (.iconst 0, 1) := by decide +kernel
theorem dS_part_58 : decode cS_part 58 = .ok (.iload_n 2, 1) := by decide +kernel
theorem dS_part_59 : decode cS_part 59 = .ok (.iload_n 3, 1) := by decide +kernel
theorem dS_part_60 : decode cS_part 60 = .ok (.iload 4, 2) := by decide +kernel
theorem dS_part_62 : decode cS_part 62 = .ok (.invokestatic 64, 3) := by decide +kernel
theorem dS_part_65 : decode cS_part 65 = .ok (.lreturn, 1) := by decide +kernel
theorem dS_takenWithin_0 : decode cS_takenWithin 0 = .ok (.iload_n 2, 1) := by decide +kernel
theorem dS_takenWithin_1 : decode cS_takenWithin 1 = .ok (.iconst 1, 1) := by decide +kernel
theorem dS_takenWithin_2 : decode cS_takenWithin 2 = .ok (.iload_n 1, 1) := by decide +kernel
theorem dS_takenWithin_3 : decode cS_takenWithin 3 = .ok (.ishl, 1) := by decide +kernel
theorem dS_takenWithin_4 : decode cS_takenWithin 4 = .ok (.iadd, 1) := by decide +kernel
theorem dS_takenWithin_5 : decode cS_takenWithin 5 = .ok (.iconst 1, 1) := by decide +kernel
theorem dS_takenWithin_6 : decode cS_takenWithin 6 = .ok (.isub, 1) := by decide +kernel
theorem dS_takenWithin_7 : decode cS_takenWithin 7 = .ok (.istore 6, 2) := by decide +kernel
theorem dS_takenWithin_9 : decode cS_takenWithin 9 = .ok (.aload_n 0, 1) := by decide +kernel
theorem dS_takenWithin_10 : decode cS_takenWithin 10 = .ok (.ifnull 15, 3) := by decide +kernel
theorem dS_takenWithin_13 : decode cS_takenWithin 13 = .ok (.iload 6, 2) := by decide +kernel
theorem dS_takenWithin_15 : decode cS_takenWithin 15 = .ok (.iload_n 3, 1) := by decide +kernel
theorem dS_takenWithin_16 : decode cS_takenWithin 16 = .ok (.if_icmp .lt 9, 3) := by decide +kernel
theorem dS_takenWithin_19 : decode cS_takenWithin 19 = .ok (.iload_n 2, 1) := by decide +kernel
theorem dS_takenWithin_20 : decode cS_takenWithin 20 = .ok (.iload 4, 2) := by decide +kernel
theorem dS_takenWithin_22 : decode cS_takenWithin 22 = .ok (.if_icmp .le 9, 3) := by decide +kernel
theorem dS_takenWithin_25 : decode cS_takenWithin 25 = .ok (.iload 5, 2) := by decide +kernel
theorem dS_takenWithin_27 : decode cS_takenWithin 27 = .ok (.invokestatic 109, 3) := by decide +kernel
theorem dS_takenWithin_30 : decode cS_takenWithin 30 = .ok (.lreturn, 1) := by decide +kernel
theorem dS_takenWithin_31 : decode cS_takenWithin 31 = .ok (.iload_n 1, 1) := by decide +kernel
theorem dS_takenWithin_32 : decode cS_takenWithin 32 = .ok (.ifCond .le 15, 3) := by decide +kernel
theorem dS_takenWithin_35 : decode cS_takenWithin 35 = .ok (.iload_n 3, 1) := by decide +kernel
theorem dS_takenWithin_36 : decode cS_takenWithin 36 = .ok (.iload_n 2, 1) := by decide +kernel
theorem dS_takenWithin_37 : decode cS_takenWithin 37 = .ok (.if_icmp .gt 17, 3) := by decide +kernel
theorem dS_takenWithin_40 : decode cS_takenWithin 40 = .ok (.iload 6, 2) := by decide +kernel
theorem dS_takenWithin_42 : decode cS_takenWithin 42 = .ok (.iload 4, 2) := by decide +kernel
theorem dS_takenWithin_44 : decode cS_takenWithin 44 = .ok (.if_icmp .gt 10, 3) := by decide +kernel
theorem dS_takenWithin_47 : decode cS_takenWithin 47 = .ok (.aload_n 0, 1) := by decide +kernel
theorem dS_takenWithin_48 : decode cS_takenWithin 48 = .ok (.iload 5, 2) := by decide +kernel
theorem dS_takenWithin_50 : decode cS_takenWithin 50 = .ok (.invokestatic 46, 3) := by decide +kernel
theorem dS_takenWithin_53 : decode cS_takenWithin 53 = .ok (.lreturn, 1) := by decide +kernel
theorem dS_takenWithin_54 : decode cS_takenWithin 54 = .ok (.iload_n 2, 1) := by decide +kernel
theorem dS_takenWithin_55 : decode cS_takenWithin 55 = .ok (.iconst 1, 1) := by decide +kernel
theorem dS_takenWithin_56 : decode cS_takenWithin 56 = .ok (.iload_n 1, 1) := by decide +kernel
theorem dS_takenWithin_57 : decode cS_takenWithin 57 = .ok (.iconst 1, 1) := by decide +kernel
theorem dS_takenWithin_58 : decode cS_takenWithin 58 = .ok (.isub, 1) := by decide +kernel
theorem dS_takenWithin_59 : decode cS_takenWithin 59 = .ok (.ishl, 1) := by decide +kernel
theorem dS_takenWithin_60 : decode cS_takenWithin 60 = .ok (.iadd, 1) := by decide +kernel
theorem dS_takenWithin_61 : decode cS_takenWithin 61 = .ok (.istore 7, 2) := by decide +kernel
theorem dS_takenWithin_63 : decode cS_takenWithin 63 = .ok (.aload_n 0, 1) := by decide +kernel
theorem dS_takenWithin_64 : decode cS_takenWithin 64 = .ok (.getfield 113, 3) := by decide +kernel
theorem dS_takenWithin_67 : decode cS_takenWithin 67 = .ok (.iload_n 1, 1) := by decide +kernel
theorem dS_takenWithin_68 : decode cS_takenWithin 68 = .ok (.iconst 1, 1) := by decide +kernel
theorem dS_takenWithin_69 : decode cS_takenWithin 69 = .ok (.isub, 1) := by decide +kernel
theorem dS_takenWithin_70 : decode cS_takenWithin 70 = .ok (.iload_n 2, 1) := by decide +kernel
theorem dS_takenWithin_71 : decode cS_takenWithin 71 = .ok (.iload_n 3, 1) := by decide +kernel
theorem dS_takenWithin_72 : decode cS_takenWithin 72 = .ok (.iload 4, 2) := by decide +kernel
theorem dS_takenWithin_74 : decode cS_takenWithin 74 = .ok (.iload 5, 2) := by decide +kernel
theorem dS_takenWithin_76 : decode cS_takenWithin 76 = .ok (.invokestatic 64, 3) := by decide +kernel
theorem dS_takenWithin_79 : decode cS_takenWithin 79 = .ok (.lstore 8, 2) := by decide +kernel
theorem dS_takenWithin_81 : decode cS_takenWithin 81 = .ok (.aload_n 0, 1) := by decide +kernel
theorem dS_takenWithin_82 : decode cS_takenWithin 82 = .ok (.getfield 117, 3) := by decide +kernel
theorem dS_takenWithin_85 : decode cS_takenWithin 85 = .ok (.iload_n 1, 1) := by decide +kernel
theorem dS_takenWithin_86 : decode cS_takenWithin 86 = .ok (.iconst 1, 1) := by decide +kernel
theorem dS_takenWithin_87 : decode cS_takenWithin 87 = .ok (.isub, 1) := by decide +kernel
theorem dS_takenWithin_88 : decode cS_takenWithin 88 = .ok (.iload 7, 2) := by decide +kernel
theorem dS_takenWithin_90 : decode cS_takenWithin 90 = .ok (.iload_n 3, 1) := by decide +kernel
theorem dS_takenWithin_91 : decode cS_takenWithin 91 = .ok (.iload 4, 2) := by decide +kernel
theorem dS_takenWithin_93 : decode cS_takenWithin 93 = .ok (.iload 5, 2) := by decide +kernel
theorem dS_takenWithin_95 : decode cS_takenWithin 95 = .ok (.invokestatic 64, 3) := by decide +kernel
theorem dS_takenWithin_98 : decode cS_takenWithin 98 = .ok (.lstore 10, 2) := by decide +kernel
theorem dS_takenWithin_100 : decode cS_takenWithin 100 = .ok (.lload 8, 2) := by decide +kernel
theorem dS_takenWithin_102 : decode cS_takenWithin 102 = .ok (.lload 10, 2) := by decide +kernel
theorem dS_takenWithin_104 : decode cS_takenWithin 104 = .ok (.iload 5, 2) := by decide +kernel
theorem dS_takenWithin_106 : decode cS_takenWithin 106 = .ok (.invokestatic 120, 3) := by decide +kernel
theorem dS_takenWithin_109 : decode cS_takenWithin 109 = .ok (.lreturn, 1) := by decide +kernel
theorem dS_at_0 : decode cS_at 0 = .ok (.aload_n 0, 1) := by decide +kernel
theorem dS_at_1 : decode cS_at 1 = .ok (.iload_n 1, 1) := by decide +kernel
theorem dS_at_2 : decode cS_at 2 = .ok (.invokevirtual 35, 3) := by decide +kernel
theorem dS_at_5 : decode cS_at 5 = .ok (.aload_n 0, 1) := by decide +kernel
theorem dS_at_6 : decode cS_at 6 = .ok (.getfield 11, 3) := by decide +kernel
theorem dS_at_9 : decode cS_at 9 = .ok (.iload_n 1, 1) := by decide +kernel
theorem dS_at_10 : decode cS_at 10 = .ok (.aaload, 1) := by decide +kernel
theorem dS_at_11 : decode cS_at 11 = .ok (.astore_n 3, 1) := by decide +kernel
theorem dS_at_12 : decode cS_at 12 = .ok (.iload_n 2, 1) := by decide +kernel
theorem dS_at_13 : decode cS_at 13 = .ok (.ifCond .lt 14, 3) := by decide +kernel
theorem dS_at_16 : decode cS_at 16 = .ok (.iload_n 2, 1) := by decide +kernel
theorem dS_at_17 : decode cS_at 17 = .ok (.i2l, 1) := by decide +kernel
theorem dS_at_18 : decode cS_at 18 = .ok (.aload_n 3, 1) := by decide +kernel
theorem dS_at_19 : decode cS_at 19 = .ok (.iconst 0, 1) := by decide +kernel
theorem dS_at_20 : decode cS_at 20 = .ok (.invokestatic 46, 3) := by decide +kernel
theorem dS_at_23 : decode cS_at 23 = .ok (.lcmp, 1) := by decide +kernel
theorem dS_at_24 : decode cS_at 24 = .ok (.ifCond .lt 13, 3) := by decide +kernel
theorem dS_at_27 : decode cS_at 27 = .ok (.new 68, 3) := by decide +kernel
theorem dS_at_30 : decode cS_at 30 = .ok (.dup, 1) := by decide +kernel
theorem dS_at_31 : decode cS_at 31 = .ok (.ldc 70, 2) := by decide +kernel
theorem dS_at_33 : decode cS_at 33 = .ok (.invokespecial 72, 3) := by decide +kernel
theorem dS_at_36 : decode cS_at 36 = .ok (.athrow, 1) := by decide +kernel
theorem dS_at_37 : decode cS_at 37 = .ok (.aload_n 3, 1) := by decide +kernel
theorem dS_at_38 : decode cS_at 38 = .ok (.iload_n 2, 1) := by decide +kernel
theorem dS_at_39 : decode cS_at 39 = .ok (.invokestatic 73, 3) := by decide +kernel
theorem dS_at_42 : decode cS_at 42 = .ok (.ireturn, 1) := by decide +kernel
theorem dS_keyBehind_0 : decode cS_keyBehind 0 = .ok (.aload_n 0, 1) := by decide +kernel
theorem dS_keyBehind_1 : decode cS_keyBehind 1 = .ok (.astore_n 2, 1) := by decide +kernel
theorem dS_keyBehind_2 : decode cS_keyBehind 2 = .ok (.iload_n 1, 1) := by decide +kernel
theorem dS_keyBehind_3 : decode cS_keyBehind 3 = .ok (.i2l, 1) := by decide +kernel
theorem dS_keyBehind_4 : decode cS_keyBehind 4 = .ok (.lstore_n 3, 1) := by decide +kernel
theorem dS_keyBehind_5 : decode cS_keyBehind 5 = .ok (.bipush 10, 2) := by decide +kernel
theorem dS_keyBehind_7 : decode cS_keyBehind 7 = .ok (.istore 5, 2) := by decide +kernel
theorem dS_keyBehind_9 : decode cS_keyBehind 9 = .ok (.iload 5, 2) := by decide +kernel
theorem dS_keyBehind_11 : decode cS_keyBehind 11 = .ok (.ifCond .le 44, 3) := by decide +kernel
theorem dS_keyBehind_14 : decode cS_keyBehind 14 = .ok (.aload_n 2, 1) := by decide +kernel
theorem dS_keyBehind_15 : decode cS_keyBehind 15 = .ok (.invokestatic 94, 3) := by decide +kernel
theorem dS_keyBehind_18 : decode cS_keyBehind 18 = .ok (.iconst 0, 1) := by decide +kernel
theorem dS_keyBehind_19 : decode cS_keyBehind 19 = .ok (.invokestatic 46, 3) := by decide +kernel
theorem dS_keyBehind_22 : decode cS_keyBehind 22 = .ok (.lstore 6, 2) := by decide +kernel
theorem dS_keyBehind_24 : decode cS_keyBehind 24 = .ok (.lload_n 3, 1) := by decide +kernel
theorem dS_keyBehind_25 : decode cS_keyBehind 25 = .ok (.lload 6, 2) := by decide +kernel
theorem dS_keyBehind_27 : decode cS_keyBehind 27 = .ok (.lcmp, 1) := by decide +kernel
theorem dS_keyBehind_28 : decode cS_keyBehind 28 = .ok (.ifCond .ge 11, 3) := by decide +kernel
theorem dS_keyBehind_31 : decode cS_keyBehind 31 = .ok (.aload_n 2, 1) := by decide +kernel
theorem dS_keyBehind_32 : decode cS_keyBehind 32 = .ok (.invokestatic 94, 3) := by decide +kernel
theorem dS_keyBehind_35 : decode cS_keyBehind 35 = .ok (.astore_n 2, 1) := by decide +kernel
theorem dS_keyBehind_36 : decode cS_keyBehind 36 = .ok (.goto 13, 3) := by decide +kernel
theorem dS_keyBehind_39 : decode cS_keyBehind 39 = .ok (.lload_n 3, 1) := by decide +kernel
theorem dS_keyBehind_40 : decode cS_keyBehind 40 = .ok (.lload 6, 2) := by decide +kernel
theorem dS_keyBehind_42 : decode cS_keyBehind 42 = .ok (.lsub, 1) := by decide +kernel
theorem dS_keyBehind_43 : decode cS_keyBehind 43 = .ok (.lstore_n 3, 1) := by decide +kernel
theorem dS_keyBehind_44 : decode cS_keyBehind 44 = .ok (.aload_n 2, 1) := by decide +kernel
theorem dS_keyBehind_45 : decode cS_keyBehind 45 = .ok (.invokestatic 98, 3) := by decide +kernel
theorem dS_keyBehind_48 : decode cS_keyBehind 48 = .ok (.astore_n 2, 1) := by decide +kernel
theorem dS_keyBehind_49 : decode cS_keyBehind 49 = .ok (.iinc 5 (-1), 3) := by decide +kernel
theorem dS_keyBehind_52 : decode cS_keyBehind 52 = .ok (.goto (-43), 3) := by decide +kernel
theorem dS_keyBehind_55 : decode cS_keyBehind 55 = .ok (.aload_n 2, 1) := by decide +kernel
theorem dS_keyBehind_56 : decode cS_keyBehind 56 = .ok (.iconst 2, 1) := by decide +kernel
theorem dS_keyBehind_57 : decode cS_keyBehind 57 = .ok (.invokestatic 46, 3) := by decide +kernel
theorem dS_keyBehind_60 : decode cS_keyBehind 60 = .ok (.l2i, 1) := by decide +kernel
theorem dS_keyBehind_61 : decode cS_keyBehind 61 = .ok (.ireturn, 1) := by decide +kernel
theorem dS_differ_0 : decode cS_differ 0 = .ok (.aload_n 0, 1) := by decide +kernel
theorem dS_differ_1 : decode cS_differ 1 = .ok (.iload_n 1, 1) := by decide +kernel
theorem dS_differ_2 : decode cS_differ 2 = .ok (.invokevirtual 35, 3) := by decide +kernel
theorem dS_differ_5 : decode cS_differ 5 = .ok (.aload_n 0, 1) := by decide +kernel
theorem dS_differ_6 : decode cS_differ 6 = .ok (.iload_n 2, 1) := by decide +kernel
theorem dS_differ_7 : decode cS_differ 7 = .ok (.invokevirtual 35, 3) := by decide +kernel
theorem dS_differ_10 : decode cS_differ 10 = .ok (.aload_n 0, 1) := by decide +kernel
theorem dS_differ_11 : decode cS_differ 11 = .ok (.getfield 11, 3) := by decide +kernel
theorem dS_differ_14 : decode cS_differ 14 = .ok (.iload_n 1, 1) := by decide +kernel
theorem dS_differ_15 : decode cS_differ 15 = .ok (.aaload, 1) := by decide +kernel
theorem dS_differ_16 : decode cS_differ 16 = .ok (.aload_n 0, 1) := by decide +kernel
theorem dS_differ_17 : decode cS_differ 17 = .ok (.getfield 11, 3) := by decide +kernel
theorem dS_differ_20 : decode cS_differ 20 = .ok (.iload_n 2, 1) := by decide +kernel
theorem dS_differ_21 : decode cS_differ 21 = .ok (.aaload, 1) := by decide +kernel
theorem dS_differ_22 : decode cS_differ 22 = .ok (.bipush 10, 2) := by decide +kernel
theorem dS_differ_24 : decode cS_differ 24 = .ok (.invokestatic 77, 3) := by decide +kernel
theorem dS_differ_27 : decode cS_differ 27 = .ok (.ireturn, 1) := by decide +kernel
theorem dS_differences_0 : decode cS_differences 0 = .ok (.aload_n 0, 1) := by decide +kernel
theorem dS_differences_1 : decode cS_differences 1 = .ok (.aload_n 1, 1) := by decide +kernel
theorem dS_differences_2 : decode cS_differences 2 = .ok (.if_acmp .ne 5, 3) := by decide +kernel
theorem dS_differences_5 : decode cS_differences 5 = .ok (.iconst 0, 1) := by decide +kernel
theorem dS_differences_6 : decode cS_differences 6 = .ok (.ireturn, 1) := by decide +kernel
theorem dS_differences_7 : decode cS_differences 7 = .ok (.iload_n 2, 1) := by decide +kernel
theorem dS_differences_8 : decode cS_differences 8 = .ok (.ifCond .gt 17, 3) := by decide +kernel
theorem dS_differences_11 : decode cS_differences 11 = .ok (.aload_n 0, 1) := by decide +kernel
theorem dS_differences_12 : decode cS_differences 12 = .ok (.aload_n 1, 1) := by decide +kernel
theorem dS_differences_13 : decode cS_differences 13 = .ok (.invokestatic 124, 3) := by decide +kernel
theorem dS_differences_16 : decode cS_differences 16 = .ok (.ifCond .eq 7, 3) := by decide +kernel
theorem dS_differences_19 : decode cS_differences 19 = .ok (.iconst 0, 1) := by decide +kernel
theorem dS_differences_20 : decode cS_differences 20 = .ok (.goto 4, 3) := by decide +kernel
theorem dS_differences_23 : decode cS_differences 23 = .ok (.iconst 1, 1) := by decide +kernel
theorem dS_differences_24 : decode cS_differences 24 = .ok (.ireturn, 1) := by decide +kernel
theorem dS_differences_25 : decode cS_differences 25 = .ok (.aload_n 0, 1) := by decide +kernel
theorem dS_differences_26 : decode cS_differences 26 = .ok (.invokestatic 94, 3) := by decide +kernel
theorem dS_differences_29 : decode cS_differences 29 = .ok (.aload_n 1, 1) := by decide +kernel
theorem dS_differences_30 : decode cS_differences 30 = .ok (.invokestatic 94, 3) := by decide +kernel
theorem dS_differences_33 : decode cS_differences 33 = .ok (.iload_n 2, 1) := by decide +kernel
theorem dS_differences_34 : decode cS_differences 34 = .ok (.iconst 1, 1) := by decide +kernel
theorem dS_differences_35 : decode cS_differences 35 = .ok (.isub, 1) := by decide +kernel
theorem dS_differences_36 : decode cS_differences 36 = .ok (.invokestatic 77, 3) := by decide +kernel
theorem dS_differences_39 : decode cS_differences 39 = .ok (.aload_n 0, 1) := by decide +kernel
theorem dS_differences_40 : decode cS_differences 40 = .ok (.invokestatic 98, 3) := by decide +kernel
theorem dS_differences_43 : decode cS_differences 43 = .ok (.aload_n 1, 1) := by decide +kernel
theorem dS_differences_44 : decode cS_differences 44 = .ok (.invokestatic 98, 3) := by decide +kernel
theorem dS_differences_47 : decode cS_differences 47 = .ok (.iload_n 2, 1) := by decide +kernel
theorem dS_differences_48 : decode cS_differences 48 = .ok (.iconst 1, 1) := by decide +kernel
theorem dS_differences_49 : decode cS_differences 49 = .ok (.isub, 1) := by decide +kernel
theorem dS_differences_50 : decode cS_differences 50 = .ok (.invokestatic 77, 3) := by decide +kernel
theorem dS_differences_53 : decode cS_differences 53 = .ok (.iadd, 1) := by decide +kernel
theorem dS_differences_54 : decode cS_differences 54 = .ok (.ireturn, 1) := by decide +kernel
theorem dS_haveSameNumber_0 : decode cS_haveSameNumber 0 = .ok (.aload_n 0, 1) := by decide +kernel
theorem dS_haveSameNumber_1 : decode cS_haveSameNumber 1 = .ok (.iconst 0, 1) := by decide +kernel
theorem dS_haveSameNumber_2 : decode cS_haveSameNumber 2 = .ok (.invokestatic 46, 3) := by decide +kernel
theorem dS_haveSameNumber_5 : decode cS_haveSameNumber 5 = .ok (.aload_n 1, 1) := by decide +kernel
theorem dS_haveSameNumber_6 : decode cS_haveSameNumber 6 = .ok (.iconst 0, 1) := by decide +kernel
theorem dS_haveSameNumber_7 : decode cS_haveSameNumber 7 = .ok (.invokestatic 46, 3) := by decide +kernel
theorem dS_haveSameNumber_10 : decode cS_haveSameNumber 10 = .ok (.lcmp, 1) := by decide +kernel
theorem dS_haveSameNumber_11 : decode cS_haveSameNumber 11 = .ok (.ifCond .ne 21, 3) := by decide +kernel
theorem dS_haveSameNumber_14 : decode cS_haveSameNumber 14 = .ok (.aload_n 0, 1) := by decide +kernel
theorem dS_haveSameNumber_15 : decode cS_haveSameNumber 15 = .ok (.iconst 1, 1) := by decide +kernel
theorem dS_haveSameNumber_16 : decode cS_haveSameNumber 16 = .ok (.invokestatic 46, 3) := by decide +kernel
theorem dS_haveSameNumber_19 : decode cS_haveSameNumber 19 = .ok (.aload_n 1, 1) := by decide +kernel
theorem dS_haveSameNumber_20 : decode cS_haveSameNumber 20 = .ok (.iconst 1, 1) := by decide +kernel
theorem dS_haveSameNumber_21 : decode cS_haveSameNumber 21 = .ok (.invokestatic 46, 3) := by decide +kernel
theorem dS_haveSameNumber_24 : decode cS_haveSameNumber 24 = .ok (.lcmp, 1) := by decide +kernel
theorem dS_haveSameNumber_25 : decode cS_haveSameNumber 25 = .ok (.ifCond .ne 7, 3) := by decide +kernel
theorem dS_haveSameNumber_28 : decode cS_haveSameNumber 28 = .ok (.iconst 1, 1) := by decide +kernel
theorem dS_haveSameNumber_29 : decode cS_haveSameNumber 29 = .ok (.goto 4, 3) := by decide +kernel
theorem dS_haveSameNumber_32 : decode cS_haveSameNumber 32 = .ok (.iconst 0, 1) := by decide +kernel
theorem dS_haveSameNumber_33 : decode cS_haveSameNumber 33 = .ok (.ireturn, 1) := by decide +kernel
