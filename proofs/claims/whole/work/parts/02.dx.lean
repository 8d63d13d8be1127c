theorem dX0_init_0 : decode cX0_init 0 = .ok (.aload_n 0, 1) := by decide +kernel
theorem dX0_init_1 : decode cX0_init 1 = .ok (.invokespecial 1, 3) := by decide +kernel
theorem dX0_init_4 : decode cX0_init 4 = .ok (.aload_n 0, 1) := by decide +kernel
theorem dX0_init_5 : decode cX0_init 5 = .ok (.getstatic 7, 3) := by decide +kernel
theorem dX0_init_8 : decode cX0_init 8 = .ok (.putfield 13, 3) := by decide +kernel
theorem dX0_init_11 : decode cX0_init 11 = .ok (.aload_n 0, 1) := by decide +kernel
theorem dX0_init_12 : decode cX0_init 12 = .ok (.iconst 0, 1) := by decide +kernel
theorem dX0_init_13 : decode cX0_init 13 = .ok (.putfield 18, 3) := by decide +kernel
theorem dX0_init_16 : decode cX0_init 16 = .ok (.aload_n 0, 1) := by decide +kernel
theorem dX0_init_17 : decode cX0_init 17 = .ok (.iconst 0, 1) := by decide +kernel
theorem dX0_init_18 : decode cX0_init 18 = .ok (.putfield 22, 3) := by decide +kernel
theorem dX0_init_21 : decode cX0_init 21 = .ok (.return_, 1) := by decide +kernel
theorem dX0_pointAt_0 : decode cX0_pointAt 0 = .ok (.aload_n 0, 1) := by decide +kernel
theorem dX0_pointAt_1 : decode cX0_pointAt 1 = .ok (.aload_n 1, 1) := by decide +kernel
theorem dX0_pointAt_2 : decode cX0_pointAt 2 = .ok (.putfield 13, 3) := by decide +kernel
theorem dX0_pointAt_5 : decode cX0_pointAt 5 = .ok (.aload_n 0, 1) := by decide +kernel
theorem dX0_pointAt_6 : decode cX0_pointAt 6 = .ok (.iload_n 2, 1) := by decide +kernel
theorem dX0_pointAt_7 : decode cX0_pointAt 7 = .ok (.putfield 18, 3) := by decide +kernel
theorem dX0_pointAt_10 : decode cX0_pointAt 10 = .ok (.aload_n 0, 1) := by decide +kernel
theorem dX0_pointAt_11 : decode cX0_pointAt 11 = .ok (.iload_n 3, 1) := by decide +kernel
theorem dX0_pointAt_12 : decode cX0_pointAt 12 = .ok (.putfield 22, 3) := by decide +kernel
theorem dX0_pointAt_15 : decode cX0_pointAt 15 = .ok (.return_, 1) := by decide +kernel
theorem dX0_isThere_0 : decode cX0_isThere 0 = .ok (.aload_n 0, 1) := by decide +kernel
theorem dX0_isThere_1 : decode cX0_isThere 1 = .ok (.getfield 13, 3) := by decide +kernel
theorem dX0_isThere_4 : decode cX0_isThere 4 = .ok (.ifnull 26, 3) := by decide +kernel
theorem dX0_isThere_7 : decode cX0_isThere 7 = .ok (.aload_n 0, 1) := by decide +kernel
theorem dX0_isThere_8 : decode cX0_isThere 8 = .ok (.getfield 18, 3) := by decide +kernel
theorem dX0_isThere_11 : decode cX0_isThere 11 = .ok (.ifCond .lt 19, 3) := by decide +kernel
theorem dX0_isThere_14 : decode cX0_isThere 14 = .ok (.aload_n 0, 1) := by decide +kernel
theorem dX0_isThere_15 : decode cX0_isThere 15 = .ok (.getfield 18, 3) := by decide +kernel
theorem dX0_isThere_18 : decode cX0_isThere 18 = .ok (.aload_n 0, 1) := by decide +kernel
theorem dX0_isThere_19 : decode cX0_isThere 19 = .ok (.getfield 13, 3) := by decide +kernel
theorem dX0_isThere_22 : decode cX0_isThere 22 = .ok (.arraylength, 1) := by decide +kernel
theorem dX0_isThere_23 : decode cX0_isThere 23 = .ok (.if_icmp .ge 7, 3) := by decide +kernel
theorem dX0_isThere_26 : decode cX0_isThere 26 = .ok (.iconst 1, 1) := by decide +kernel
theorem dX0_isThere_27 : decode cX0_isThere 27 = .ok (.goto 4, 3) := by decide +kernel
theorem dX0_isThere_30 : decode cX0_isThere 30 = .ok (.iconst 0, 1) := by decide +kernel
theorem dX0_isThere_31 : decode cX0_isThere 31 = .ok (.ireturn, 1) := by decide +kernel
theorem dX0_read_0 : decode cX0_read 0 = .ok (.aload_n 0, 1) := by decide +kernel
theorem dX0_read_1 : decode cX0_read 1 = .ok (.invokevirtual 26, 3) := by decide +kernel
theorem dX0_read_4 : decode cX0_read 4 = .ok (.ifCond .eq 15, 3) := by decide +kernel
theorem dX0_read_7 : decode cX0_read 7 = .ok (.aload_n 0, 1) := by decide +kernel
theorem dX0_read_8 : decode cX0_read 8 = .ok (.getfield 13, 3) := by decide +kernel
theorem dX0_read_11 : decode cX0_read 11 = .ok (.aload_n 0, 1) := by decide +kernel
theorem dX0_read_12 : decode cX0_read 12 = .ok (.getfield 18, 3) := by decide +kernel
theorem dX0_read_15 : decode cX0_read 15 = .ok (.laload, 1) := by decide +kernel
theorem dX0_read_16 : decode cX0_read 16 = .ok (.goto 4, 3) := by decide +kernel
theorem dX0_read_19 : decode cX0_read 19 = .ok (.lconst 0, 1) := by decide +kernel
theorem dX0_read_20 : decode cX0_read 20 = .ok (.lreturn, 1) := by decide +kernel
theorem dX0_write_0 : decode cX0_write 0 = .ok (.aload_n 0, 1) := by decide +kernel
theorem dX0_write_1 : decode cX0_write 1 = .ok (.invokevirtual 26, 3) := by decide +kernel
theorem dX0_write_4 : decode cX0_write 4 = .ok (.ifCond .eq 13, 3) := by decide +kernel
theorem dX0_write_7 : decode cX0_write 7 = .ok (.aload_n 0, 1) := by decide +kernel
theorem dX0_write_8 : decode cX0_write 8 = .ok (.getfield 13, 3) := by decide +kernel
theorem dX0_write_11 : decode cX0_write 11 = .ok (.aload_n 0, 1) := by decide +kernel
theorem dX0_write_12 : decode cX0_write 12 = .ok (.getfield 18, 3) := by decide +kernel
theorem dX0_write_15 : decode cX0_write 15 = .ok (.lload_n 1, 1) := by decide +kernel
theorem dX0_write_16 : decode cX0_write 16 = .ok (.lastore, 1) := by decide +kernel
theorem dX0_write_17 : decode cX0_write 17 = .ok (.return_, 1) := by decide +kernel
theorem dX1_init_0 : decode cX1_init 0 = .ok (.aload_n 0, 1) := by decide +kernel
theorem dX1_init_1 : decode cX1_init 1 = .ok (.invokespecial 3, 3) := by decide +kernel
theorem dX1_init_4 : decode cX1_init 4 = .ok (.aload_n 0, 1) := by decide +kernel
theorem dX1_init_5 : decode cX1_init 5 = .ok (.iconst 4, 1) := by decide +kernel
theorem dX1_init_6 : decode cX1_init 6 = .ok (.newarray .int, 2) := by decide +kernel
theorem dX1_init_8 : decode cX1_init 8 = .ok (.putfield 9, 3) := by decide +kernel
theorem dX1_init_11 : decode cX1_init 11 = .ok (.aload_n 0, 1) := by decide +kernel
theorem dX1_init_12 : decode cX1_init 12 = .ok (.iconst 4, 1) := by decide +kernel
theorem dX1_init_13 : decode cX1_init 13 = .ok (.newarray .long, 2) := by decide +kernel
theorem dX1_init_15 : decode cX1_init 15 = .ok (.putfield 15, 3) := by decide +kernel
theorem dX1_init_18 : decode cX1_init 18 = .ok (.aload_n 0, 1) := by decide +kernel
theorem dX1_init_19 : decode cX1_init 19 = .ok (.iconst 4, 1) := by decide +kernel
theorem dX1_init_20 : decode cX1_init 20 = .ok (.newarray .boolean, 2) := by decide +kernel
theorem dX1_init_22 : decode cX1_init 22 = .ok (.putfield 19, 3) := by decide +kernel
theorem dX1_init_25 : decode cX1_init 25 = .ok (.aload_n 0, 1) := by decide +kernel
theorem dX1_init_26 : decode cX1_init 26 = .ok (.iconst 0, 1) := by decide +kernel
theorem dX1_init_27 : decode cX1_init 27 = .ok (.putfield 23, 3) := by decide +kernel
theorem dX1_init_30 : decode cX1_init 30 = .ok (.return_, 1) := by decide +kernel
theorem dX1_add_0 : decode cX1_add 0 = .ok (.aload_n 0, 1) := by decide +kernel
theorem dX1_add_1 : decode cX1_add 1 = .ok (.getfield 23, 3) := by decide +kernel
theorem dX1_add_4 : decode cX1_add 4 = .ok (.iconst 4, 1) := by decide +kernel
theorem dX1_add_5 : decode cX1_add 5 = .ok (.if_icmp .lt 4, 3) := by decide +kernel
theorem dX1_add_8 : decode cX1_add 8 = .ok (.return_, 1) := by decide +kernel
theorem dX1_add_9 : decode cX1_add 9 = .ok (.aload_n 0, 1) := by decide +kernel
theorem dX1_add_10 : decode cX1_add 10 = .ok (.getfield 9, 3) := by decide +kernel
theorem dX1_add_13 : decode cX1_add 13 = .ok (.aload_n 0, 1) := by decide +kernel
theorem dX1_add_14 : decode cX1_add 14 = .ok (.getfield 23, 3) := by decide +kernel
theorem dX1_add_17 : decode cX1_add 17 = .ok (.iload_n 1, 1) := by decide +kernel
theorem dX1_add_18 : decode cX1_add 18 = .ok (.iastore, 1) := by decide +kernel
theorem dX1_add_19 : decode cX1_add 19 = .ok (.aload_n 0, 1) := by decide +kernel
theorem dX1_add_20 : decode cX1_add 20 = .ok (.getfield 15, 3) := by decide +kernel
theorem dX1_add_23 : decode cX1_add 23 = .ok (.aload_n 0, 1) := by decide +kernel
theorem dX1_add_24 : decode cX1_add 24 = .ok (.getfield 23, 3) := by decide +kernel
theorem dX1_add_27 : decode cX1_add 27 = .ok (.lload_n 2, 1) := by decide +kernel
theorem dX1_add_28 : decode cX1_add 28 = .ok (.lastore, 1) := by decide +kernel
theorem dX1_add_29 : decode cX1_add 29 = .ok (.aload_n 0, 1) := by decide +kernel
theorem dX1_add_30 : decode cX1_add 30 = .ok (.getfield 19, 3) := by decide +kernel
theorem dX1_add_33 : decode cX1_add 33 = .ok (.aload_n 0, 1) := by decide +kernel
theorem dX1_add_34 : decode cX1_add 34 = .ok (.getfield 23, 3) := by decide +kernel
theorem dX1_add_37 : decode cX1_add 37 = .ok (.iload 4, 2) := by decide +kernel
theorem dX1_add_39 : decode cX1_add 39 = .ok (.bastore, 1) := by decide +kernel
theorem dX1_add_40 : decode cX1_add 40 = .ok (.aload_n 0, 1) := by decide +kernel
theorem dX1_add_41 : decode cX1_add 41 = .ok (.dup, 1) := by decide +kernel
theorem dX1_add_42 : decode cX1_add 42 = .ok (.getfield 23, 3) := by decide +kernel
theorem dX1_add_45 : decode cX1_add 45 = .ok (.iconst 1, 1) := by decide +kernel
theorem dX1_add_46 : decode cX1_add 46 = .ok (.iadd, 1) := by decide +kernel
theorem dX1_add_47 : decode cX1_add 47 = .ok (.putfield 23, 3) := by decide +kernel
theorem dX1_add_50 : decode cX1_add 50 = .ok (.return_, 1) := by decide +kernel
theorem dX1_has_0 : decode cX1_has 0 = .ok (.iload_n 1, 1) := by decide +kernel
theorem dX1_has_1 : decode cX1_has 1 = .ok (.ifCond .lt 15, 3) := by decide +kernel
theorem dX1_has_4 : decode cX1_has 4 = .ok (.iload_n 1, 1) := by decide +kernel
theorem dX1_has_5 : decode cX1_has 5 = .ok (.aload_n 0, 1) := by decide +kernel
theorem dX1_has_6 : decode cX1_has 6 = .ok (.getfield 23, 3) := by decide +kernel
theorem dX1_has_9 : decode cX1_has 9 = .ok (.if_icmp .ge 7, 3) := by decide +kernel
theorem dX1_has_12 : decode cX1_has 12 = .ok (.iconst 1, 1) := by decide +kernel
theorem dX1_has_13 : decode cX1_has 13 = .ok (.goto 4, 3) := by decide +kernel
theorem dX1_has_16 : decode cX1_has 16 = .ok (.iconst 0, 1) := by decide +kernel
theorem dX1_has_17 : decode cX1_has 17 = .ok (.ireturn, 1) := by decide +kernel
theorem dX1_isStatic_0 : decode cX1_isStatic 0 = .ok (.aload_n 0, 1) := by decide +kernel
theorem dX1_isStatic_1 : decode cX1_isStatic 1 = .ok (.iload_n 1, 1) := by decide +kernel
theorem dX1_isStatic_2 : decode cX1_isStatic 2 = .ok (.invokevirtual 27, 3) := by decide +kernel
theorem dX1_isStatic_5 : decode cX1_isStatic 5 = .ok (.ifCond .eq 16, 3) := by decide +kernel
theorem dX1_isStatic_8 : decode cX1_isStatic 8 = .ok (.aload_n 0, 1) := by decide +kernel
theorem dX1_isStatic_9 : decode cX1_isStatic 9 = .ok (.getfield 19, 3) := by decide +kernel
theorem dX1_isStatic_12 : decode cX1_isStatic 12 = .ok (.iload_n 1, 1) := by decide +kernel
theorem dX1_isStatic_13 : decode cX1_isStatic 13 = .ok (.baload, 1) := by decide +kernel
theorem dX1_isStatic_14 : decode cX1_isStatic 14 = .ok (.ifCond .eq 7, 3) := by decide +kernel
theorem dX1_isStatic_17 : decode cX1_isStatic 17 = .ok (.iconst 1, 1) := by decide +kernel
theorem dX1_isStatic_18 : decode cX1_isStatic 18 = .ok (.goto 4, 3) := by decide +kernel
theorem dX1_isStatic_21 : decode cX1_isStatic 21 = .ok (.iconst 0, 1) := by decide +kernel
theorem dX1_isStatic_22 : decode cX1_isStatic 22 = .ok (.ireturn, 1) := by decide +kernel
theorem dX1_indexOf_0 : decode cX1_indexOf 0 = .ok (.iconst 0, 1) := by decide +kernel
theorem dX1_indexOf_1 : decode cX1_indexOf 1 = .ok (.istore_n 2, 1) := by decide +kernel
theorem dX1_indexOf_2 : decode cX1_indexOf 2 = .ok (.iload_n 2, 1) := by decide +kernel
theorem dX1_indexOf_3 : decode cX1_indexOf 3 = .ok (.aload_n 0, 1) := by decide +kernel
theorem dX1_indexOf_4 : decode cX1_indexOf 4 = .ok (.getfield 23, 3) := by decide +kernel
theorem dX1_indexOf_7 : decode cX1_indexOf 7 = .ok (.if_icmp .ge 21, 3) := by decide +kernel
theorem dX1_indexOf_10 : decode cX1_indexOf 10 = .ok (.aload_n 0, 1) := by decide +kernel
theorem dX1_indexOf_11 : decode cX1_indexOf 11 = .ok (.getfield 9, 3) := by decide +kernel
theorem dX1_indexOf_14 : decode cX1_indexOf 14 = .ok (.iload_n 2, 1) := by decide +kernel
theorem dX1_indexOf_15 : decode cX1_indexOf 15 = .ok (.iaload, 1) := by decide +kernel
theorem dX1_indexOf_16 : decode cX1_indexOf 16 = .ok (.iload_n 1, 1) := by decide +kernel
theorem dX1_indexOf_17 : decode cX1_indexOf 17 = .ok (.if_icmp .ne 5, 3) := by decide +kernel
theorem dX1_indexOf_20 : decode cX1_indexOf 20 = .ok (.iload_n 2, 1) := by decide +kernel
theorem dX1_indexOf_21 : decode cX1_indexOf 21 = .ok (.ireturn, 1) := by decide +kernel
theorem dX1_indexOf_22 : decode cX1_indexOf 22 = .ok (.iinc 2 1, 3) := by decide +kernel
theorem dX1_indexOf_25 : decode cX1_indexOf 25 = .ok (.goto (-23), 3) := by decide +kernel
theorem dX1_indexOf_28 : decode cX1_indexOf 28 = .ok (.iconst (-1), 1) := by decide +kernel
theorem dX1_indexOf_29 : decode cX1_indexOf 29 = .ok (.ireturn, 1) := by decide +kernel
theorem dX1_firstCells_0 : decode cX1_firstCells 0 = .ok (.aload_n 0, 1) := by decide +kernel
theorem dX1_firstCells_1 : decode cX1_firstCells 1 = .ok (.getfield 23, 3) := by decide +kernel
theorem dX1_firstCells_4 : decode cX1_firstCells 4 = .ok (.ifCond .gt 9, 3) := by decide +kernel
theorem dX1_firstCells_7 : decode cX1_firstCells 7 = .ok (.getstatic 31, 3) := by decide +kernel
theorem dX1_firstCells_10 : decode cX1_firstCells 10 = .ok (.goto 14, 3) := by decide +kernel
theorem dX1_firstCells_13 : decode cX1_firstCells 13 = .ok (.aload_n 0, 1) := by decide +kernel
theorem dX1_firstCells_14 : decode cX1_firstCells 14 = .ok (.getfield 15, 3) := by decide +kernel
theorem dX1_firstCells_17 : decode cX1_firstCells 17 = .ok (.aload_n 0, 1) := by decide +kernel
theorem dX1_firstCells_18 : decode cX1_firstCells 18 = .ok (.getfield 23, 3) := by decide +kernel
theorem dX1_firstCells_21 : decode cX1_firstCells 21 = .ok (.invokestatic 34, 3) := by decide +kernel
theorem dX1_firstCells_24 : decode cX1_firstCells 24 = .ok (.areturn, 1) := by decide +kernel
theorem dX2_init_0 : decode cX2_init 0 = .ok (.aload_n 0, 1) := by decide +kernel
theorem dX2_init_1 : decode cX2_init 1 = .ok (.invokespecial 1, 3) := by decide +kernel
theorem dX2_init_4 : decode cX2_init 4 = .ok (.aload_n 0, 1) := by decide +kernel
theorem dX2_init_5 : decode cX2_init 5 = .ok (.aload_n 1, 1) := by decide +kernel
theorem dX2_init_6 : decode cX2_init 6 = .ok (.putfield 7, 3) := by decide +kernel
theorem dX2_init_9 : decode cX2_init 9 = .ok (.aload_n 0, 1) := by decide +kernel
theorem dX2_init_10 : decode cX2_init 10 = .ok (.aload_n 2, 1) := by decide +kernel
theorem dX2_init_11 : decode cX2_init 11 = .ok (.putfield 13, 3) := by decide +kernel
theorem dX2_init_14 : decode cX2_init 14 = .ok (.aload_n 0, 1) := by decide +kernel
theorem dX2_init_15 : decode cX2_init 15 = .ok (.aload_n 3, 1) := by decide +kernel
theorem dX2_init_16 : decode cX2_init 16 = .ok (.putfield 17, 3) := by decide +kernel
theorem dX2_init_19 : decode cX2_init 19 = .ok (.return_, 1) := by decide +kernel
theorem dX3_init_0 : decode cX3_init 0 = .ok (.aload_n 0, 1) := by decide +kernel
theorem dX3_init_1 : decode cX3_init 1 = .ok (.invokespecial 1, 3) := by decide +kernel
theorem dX3_init_4 : decode cX3_init 4 = .ok (.aload_n 0, 1) := by decide +kernel
theorem dX3_init_5 : decode cX3_init 5 = .ok (.aload_n 1, 1) := by decide +kernel
theorem dX3_init_6 : decode cX3_init 6 = .ok (.putfield 7, 3) := by decide +kernel
theorem dX3_init_9 : decode cX3_init 9 = .ok (.aload_n 0, 1) := by decide +kernel
theorem dX3_init_10 : decode cX3_init 10 = .ok (.aload_n 2, 1) := by decide +kernel
theorem dX3_init_11 : decode cX3_init 11 = .ok (.putfield 13, 3) := by decide +kernel
theorem dX3_init_14 : decode cX3_init 14 = .ok (.aload_n 0, 1) := by decide +kernel
theorem dX3_init_15 : decode cX3_init 15 = .ok (.aload_n 1, 1) := by decide +kernel
theorem dX3_init_16 : decode cX3_init 16 = .ok (.getfield 17, 3) := by decide +kernel
theorem dX3_init_19 : decode cX3_init 19 = .ok (.invokevirtual 23, 3) := by decide +kernel
theorem dX3_init_22 : decode cX3_init 22 = .ok (.putfield 29, 3) := by decide +kernel
theorem dX3_init_25 : decode cX3_init 25 = .ok (.aload_n 0, 1) := by decide +kernel
theorem dX3_init_26 : decode cX3_init 26 = .ok (.aload_n 1, 1) := by decide +kernel
theorem dX3_init_27 : decode cX3_init 27 = .ok (.invokevirtual 33, 3) := by decide +kernel
theorem dX3_init_30 : decode cX3_init 30 = .ok (.putfield 36, 3) := by decide +kernel
theorem dX3_init_33 : decode cX3_init 33 = .ok (.return_, 1) := by decide +kernel
theorem dX4_init_0 : decode cX4_init 0 = .ok (.aload_n 0, 1) := by decide +kernel
theorem dX4_init_1 : decode cX4_init 1 = .ok (.invokespecial 3, 3) := by decide +kernel
theorem dX4_init_4 : decode cX4_init 4 = .ok (.aload_n 0, 1) := by decide +kernel
theorem dX4_init_5 : decode cX4_init 5 = .ok (.iconst 4, 1) := by decide +kernel
theorem dX4_init_6 : decode cX4_init 6 = .ok (.newarray .int, 2) := by decide +kernel
theorem dX4_init_8 : decode cX4_init 8 = .ok (.putfield 9, 3) := by decide +kernel
theorem dX4_init_11 : decode cX4_init 11 = .ok (.aload_n 0, 1) := by decide +kernel
theorem dX4_init_12 : decode cX4_init 12 = .ok (.iconst 4, 1) := by decide +kernel
theorem dX4_init_13 : decode cX4_init 13 = .ok (.newarray .long, 2) := by decide +kernel
theorem dX4_init_15 : decode cX4_init 15 = .ok (.putfield 15, 3) := by decide +kernel
theorem dX4_init_18 : decode cX4_init 18 = .ok (.aload_n 0, 1) := by decide +kernel
theorem dX4_init_19 : decode cX4_init 19 = .ok (.iconst 4, 1) := by decide +kernel
theorem dX4_init_20 : decode cX4_init 20 = .ok (.newarray .boolean, 2) := by decide +kernel
theorem dX4_init_22 : decode cX4_init 22 = .ok (.putfield 19, 3) := by decide +kernel
theorem dX4_init_25 : decode cX4_init 25 = .ok (.aload_n 0, 1) := by decide +kernel
theorem dX4_init_26 : decode cX4_init 26 = .ok (.iconst 0, 1) := by decide +kernel
theorem dX4_init_27 : decode cX4_init 27 = .ok (.putfield 23, 3) := by decide +kernel
theorem dX4_init_30 : decode cX4_init 30 = .ok (.return_, 1) := by decide +kernel
theorem dX4_add_0 : decode cX4_add 0 = .ok (.aload_n 0, 1) := by decide +kernel
theorem dX4_add_1 : decode cX4_add 1 = .ok (.getfield 23, 3) := by decide +kernel
theorem dX4_add_4 : decode cX4_add 4 = .ok (.iconst 4, 1) := by decide +kernel
theorem dX4_add_5 : decode cX4_add 5 = .ok (.if_icmp .lt 4, 3) := by decide +kernel
theorem dX4_add_8 : decode cX4_add 8 = .ok (.return_, 1) := by decide +kernel
theorem dX4_add_9 : decode cX4_add 9 = .ok (.aload_n 0, 1) := by decide +kernel
theorem dX4_add_10 : decode cX4_add 10 = .ok (.getfield 9, 3) := by decide +kernel
theorem dX4_add_13 : decode cX4_add 13 = .ok (.aload_n 0, 1) := by decide +kernel
theorem dX4_add_14 : decode cX4_add 14 = .ok (.getfield 23, 3) := by decide +kernel
theorem dX4_add_17 : decode cX4_add 17 = .ok (.iload_n 1, 1) := by decide +kernel
theorem dX4_add_18 : decode cX4_add 18 = .ok (.iastore, 1) := by decide +kernel
theorem dX4_add_19 : decode cX4_add 19 = .ok (.aload_n 0, 1) := by decide +kernel
theorem dX4_add_20 : decode cX4_add 20 = .ok (.getfield 15, 3) := by decide +kernel
theorem dX4_add_23 : decode cX4_add 23 = .ok (.aload_n 0, 1) := by decide +kernel
theorem dX4_add_24 : decode cX4_add 24 = .ok (.getfield 23, 3) := by decide +kernel
theorem dX4_add_27 : decode cX4_add 27 = .ok (.lload_n 2, 1) := by decide +kernel
theorem dX4_add_28 : decode cX4_add 28 = .ok (.lastore, 1) := by decide +kernel
theorem dX4_add_29 : decode cX4_add 29 = .ok (.aload_n 0, 1) := by decide +kernel
theorem dX4_add_30 : decode cX4_add 30 = .ok (.dup, 1) := by decide +kernel
theorem dX4_add_31 : decode cX4_add 31 = .ok (.getfield 23, 3) := by decide +kernel
theorem dX4_add_34 : decode cX4_add 34 = .ok (.iconst 1, 1) := by decide +kernel
theorem dX4_add_35 : decode cX4_add 35 = .ok (.iadd, 1) := by decide +kernel
theorem dX4_add_36 : decode cX4_add 36 = .ok (.putfield 23, 3) := by decide +kernel
theorem dX4_add_39 : decode cX4_add 39 = .ok (.return_, 1) := by decide +kernel
theorem dX4_has_0 : decode cX4_has 0 = .ok (.iload_n 1, 1) := by decide +kernel
theorem dX4_has_1 : decode cX4_has 1 = .ok (.ifCond .lt 15, 3) := by decide +kernel
theorem dX4_has_4 : decode cX4_has 4 = .ok (.iload_n 1, 1) := by decide +kernel
theorem dX4_has_5 : decode cX4_has 5 = .ok (.aload_n 0, 1) := by decide +kernel
theorem dX4_has_6 : decode cX4_has 6 = .ok (.getfield 23, 3) := by decide +kernel
theorem dX4_has_9 : decode cX4_has 9 = .ok (.if_icmp .ge 7, 3) := by decide +kernel
theorem dX4_has_12 : decode cX4_has 12 = .ok (.iconst 1, 1) := by decide +kernel
theorem dX4_has_13 : decode cX4_has 13 = .ok (.goto 4, 3) := by decide +kernel
theorem dX4_has_16 : decode cX4_has 16 = .ok (.iconst 0, 1) := by decide +kernel
theorem dX4_has_17 : decode cX4_has 17 = .ok (.ireturn, 1) := by decide +kernel
theorem dX4_isAssigned_0 : decode cX4_isAssigned 0 = .ok (.aload_n 0, 1) := by decide +kernel
theorem dX4_isAssigned_1 : decode cX4_isAssigned 1 = .ok (.iload_n 1, 1) := by decide +kernel
theorem dX4_isAssigned_2 : decode cX4_isAssigned 2 = .ok (.invokevirtual 27, 3) := by decide +kernel
theorem dX4_isAssigned_5 : decode cX4_isAssigned 5 = .ok (.ifCond .eq 16, 3) := by decide +kernel
theorem dX4_isAssigned_8 : decode cX4_isAssigned 8 = .ok (.aload_n 0, 1) := by decide +kernel
theorem dX4_isAssigned_9 : decode cX4_isAssigned 9 = .ok (.getfield 19, 3) := by decide +kernel
theorem dX4_isAssigned_12 : decode cX4_isAssigned 12 = .ok (.iload_n 1, 1) := by decide +kernel
theorem dX4_isAssigned_13 : decode cX4_isAssigned 13 = .ok (.baload, 1) := by decide +kernel
theorem dX4_isAssigned_14 : decode cX4_isAssigned 14 = .ok (.ifCond .eq 7, 3) := by decide +kernel
theorem dX4_isAssigned_17 : decode cX4_isAssigned 17 = .ok (.iconst 1, 1) := by decide +kernel
theorem dX4_isAssigned_18 : decode cX4_isAssigned 18 = .ok (.goto 4, 3) := by decide +kernel
theorem dX4_isAssigned_21 : decode cX4_isAssigned 21 = .ok (.iconst 0, 1) := by decide +kernel
theorem dX4_isAssigned_22 : decode cX4_isAssigned 22 = .ok (.ireturn, 1) := by decide +kernel
theorem dX4_set_0 : decode cX4_set 0 = .ok (.aload_n 0, 1) := by decide +kernel
theorem dX4_set_1 : decode cX4_set 1 = .ok (.iload_n 1, 1) := by decide +kernel
theorem dX4_set_2 : decode cX4_set 2 = .ok (.invokevirtual 27, 3) := by decide +kernel
theorem dX4_set_5 : decode cX4_set 5 = .ok (.ifCond .eq 17, 3) := by decide +kernel
theorem dX4_set_8 : decode cX4_set 8 = .ok (.aload_n 0, 1) := by decide +kernel
theorem dX4_set_9 : decode cX4_set 9 = .ok (.getfield 15, 3) := by decide +kernel
theorem dX4_set_12 : decode cX4_set 12 = .ok (.iload_n 1, 1) := by decide +kernel
theorem dX4_set_13 : decode cX4_set 13 = .ok (.lload_n 2, 1) := by decide +kernel
theorem dX4_set_14 : decode cX4_set 14 = .ok (.lastore, 1) := by decide +kernel
theorem dX4_set_15 : decode cX4_set 15 = .ok (.aload_n 0, 1) := by decide +kernel
theorem dX4_set_16 : decode cX4_set 16 = .ok (.getfield 19, 3) := by decide +kernel
theorem dX4_set_19 : decode cX4_set 19 = .ok (.iload_n 1, 1) := by decide +kernel
theorem dX4_set_20 : decode cX4_set 20 = .ok (.iconst 1, 1) := by decide +kernel
theorem dX4_set_21 : decode cX4_set 21 = .ok (.bastore, 1) := by decide +kernel
theorem dX4_set_22 : decode cX4_set 22 = .ok (.return_, 1) := by decide +kernel
theorem dX4_latest_0 : decode cX4_latest 0 = .ok (.iload_n 2, 1) := by decide +kernel
theorem dX4_latest_1 : decode cX4_latest 1 = .ok (.aload_n 0, 1) := by decide +kernel
theorem dX4_latest_2 : decode cX4_latest 2 = .ok (.getfield 23, 3) := by decide +kernel
theorem dX4_latest_5 : decode cX4_latest 5 = .ok (.invokestatic 31, 3) := by decide +kernel
theorem dX4_latest_8 : decode cX4_latest 8 = .ok (.iconst 1, 1) := by decide +kernel
theorem dX4_latest_9 : decode cX4_latest 9 = .ok (.isub, 1) := by decide +kernel
theorem dX4_latest_10 : decode cX4_latest 10 = .ok (.istore_n 3, 1) := by decide +kernel
theorem dX4_latest_11 : decode cX4_latest 11 = .ok (.iload_n 3, 1) := by decide +kernel
theorem dX4_latest_12 : decode cX4_latest 12 = .ok (.ifCond .lt 21, 3) := by decide +kernel
theorem dX4_latest_15 : decode cX4_latest 15 = .ok (.aload_n 0, 1) := by decide +kernel
theorem dX4_latest_16 : decode cX4_latest 16 = .ok (.getfield 9, 3) := by decide +kernel
theorem dX4_latest_19 : decode cX4_latest 19 = .ok (.iload_n 3, 1) := by decide +kernel
theorem dX4_latest_20 : decode cX4_latest 20 = .ok (.iaload, 1) := by decide +kernel
theorem dX4_latest_21 : decode cX4_latest 21 = .ok (.iload_n 1, 1) := by decide +kernel
theorem dX4_latest_22 : decode cX4_latest 22 = .ok (.if_icmp .ne 5, 3) := by decide +kernel
theorem dX4_latest_25 : decode cX4_latest 25 = .ok (.iload_n 3, 1) := by decide +kernel
theorem dX4_latest_26 : decode cX4_latest 26 = .ok (.ireturn, 1) := by decide +kernel
theorem dX4_latest_27 : decode cX4_latest 27 = .ok (.iinc 3 (-1), 3) := by decide +kernel
theorem dX4_latest_30 : decode cX4_latest 30 = .ok (.goto (-19), 3) := by decide +kernel
theorem dX4_latest_33 : decode cX4_latest 33 = .ok (.iconst (-1), 1) := by decide +kernel
theorem dX4_latest_34 : decode cX4_latest 34 = .ok (.ireturn, 1) := by decide +kernel
theorem dX4_copyOfFirst_0 : decode cX4_copyOfFirst 0 = .ok (.iload_n 1, 1) := by decide +kernel
theorem dX4_copyOfFirst_1 : decode cX4_copyOfFirst 1 = .ok (.aload_n 0, 1) := by decide +kernel
theorem dX4_copyOfFirst_2 : decode cX4_copyOfFirst 2 = .ok (.getfield 23, 3) := by decide +kernel
theorem dX4_copyOfFirst_5 : decode cX4_copyOfFirst 5 = .ok (.invokestatic 31, 3) := by decide +kernel
theorem dX4_copyOfFirst_8 : decode cX4_copyOfFirst 8 = .ok (.istore_n 2, 1) := by decide +kernel
theorem dX4_copyOfFirst_9 : decode cX4_copyOfFirst 9 = .ok (.iload_n 2, 1) := by decide +kernel
theorem dX4_copyOfFirst_10 : decode cX4_copyOfFirst 10 = .ok (.ifCond .gt 9, 3) := by decide +kernel
theorem dX4_copyOfFirst_13 : decode cX4_copyOfFirst 13 = .ok (.getstatic 37, 3) := by decide +kernel
theorem dX4_copyOfFirst_16 : decode cX4_copyOfFirst 16 = .ok (.goto 11, 3) := by decide +kernel
theorem dX4_copyOfFirst_19 : decode cX4_copyOfFirst 19 = .ok (.aload_n 0, 1) := by decide +kernel
theorem dX4_copyOfFirst_20 : decode cX4_copyOfFirst 20 = .ok (.getfield 15, 3) := by decide +kernel
theorem dX4_copyOfFirst_23 : decode cX4_copyOfFirst 23 = .ok (.iload_n 2, 1) := by decide +kernel
theorem dX4_copyOfFirst_24 : decode cX4_copyOfFirst 24 = .ok (.invokestatic 40, 3) := by decide +kernel
theorem dX4_copyOfFirst_27 : decode cX4_copyOfFirst 27 = .ok (.areturn, 1) := by decide +kernel
theorem dX5_init_0 : decode cX5_init 0 = .ok (.aload_n 0, 1) := by decide +kernel
theorem dX5_init_1 : decode cX5_init 1 = .ok (.invokespecial 1, 3) := by decide +kernel
theorem dX5_init_4 : decode cX5_init 4 = .ok (.aload_n 0, 1) := by decide +kernel
theorem dX5_init_5 : decode cX5_init 5 = .ok (.aload_n 1, 1) := by decide +kernel
theorem dX5_init_6 : decode cX5_init 6 = .ok (.putfield 7, 3) := by decide +kernel
theorem dX5_init_9 : decode cX5_init 9 = .ok (.aload_n 0, 1) := by decide +kernel
theorem dX5_init_10 : decode cX5_init 10 = .ok (.aload_n 2, 1) := by decide +kernel
theorem dX5_init_11 : decode cX5_init 11 = .ok (.putfield 13, 3) := by decide +kernel
theorem dX5_init_14 : decode cX5_init 14 = .ok (.return_, 1) := by decide +kernel
theorem dX5_levelOf_0 : decode cX5_levelOf 0 = .ok (.iconst 0, 1) := by decide +kernel
theorem dX5_levelOf_1 : decode cX5_levelOf 1 = .ok (.istore_n 2, 1) := by decide +kernel
theorem dX5_levelOf_2 : decode cX5_levelOf 2 = .ok (.iload_n 2, 1) := by decide +kernel
theorem dX5_levelOf_3 : decode cX5_levelOf 3 = .ok (.aload_n 0, 1) := by decide +kernel
theorem dX5_levelOf_4 : decode cX5_levelOf 4 = .ok (.getfield 13, 3) := by decide +kernel
theorem dX5_levelOf_7 : decode cX5_levelOf 7 = .ok (.arraylength, 1) := by decide +kernel
theorem dX5_levelOf_8 : decode cX5_levelOf 8 = .ok (.if_icmp .ge 38, 3) := by decide +kernel
theorem dX5_levelOf_11 : decode cX5_levelOf 11 = .ok (.aload_n 0, 1) := by decide +kernel
theorem dX5_levelOf_12 : decode cX5_levelOf 12 = .ok (.getfield 13, 3) := by decide +kernel
theorem dX5_levelOf_15 : decode cX5_levelOf 15 = .ok (.iload_n 2, 1) := by decide +kernel
theorem dX5_levelOf_16 : decode cX5_levelOf 16 = .ok (.aaload, 1) := by decide +kernel
theorem dX5_levelOf_17 : decode cX5_levelOf 17 = .ok (.ifnull 23, 3) := by decide +kernel
theorem dX5_levelOf_20 : decode cX5_levelOf 20 = .ok (.aload_n 0, 1) := by decide +kernel
theorem dX5_levelOf_21 : decode cX5_levelOf 21 = .ok (.getfield 13, 3) := by decide +kernel
theorem dX5_levelOf_24 : decode cX5_levelOf 24 = .ok (.iload_n 2, 1) := by decide +kernel
theorem dX5_levelOf_25 : decode cX5_levelOf 25 = .ok (.aaload, 1) := by decide +kernel
theorem dX5_levelOf_26 : decode cX5_levelOf 26 = .ok (.getfield 17, 3) := by decide +kernel
theorem dX5_levelOf_29 : decode cX5_levelOf 29 = .ok (.aload_n 1, 1) := by decide +kernel
theorem dX5_levelOf_30 : decode cX5_levelOf 30 = .ok (.if_acmp .ne 10, 3) := by decide +kernel
theorem dX5_levelOf_33 : decode cX5_levelOf 33 = .ok (.aload_n 0, 1) := by decide +kernel
theorem dX5_levelOf_34 : decode cX5_levelOf 34 = .ok (.getfield 13, 3) := by decide +kernel
theorem dX5_levelOf_37 : decode cX5_levelOf 37 = .ok (.iload_n 2, 1) := by decide +kernel
theorem dX5_levelOf_38 : decode cX5_levelOf 38 = .ok (.aaload, 1) := by decide +kernel
theorem dX5_levelOf_39 : decode cX5_levelOf 39 = .ok (.areturn, 1) := by decide +kernel
theorem dX5_levelOf_40 : decode cX5_levelOf 40 = .ok (.iinc 2 1, 3) := by decide +kernel
theorem dX5_levelOf_43 : decode cX5_levelOf 43 = .ok (.goto (-41), 3) := by decide +kernel
theorem dX5_levelOf_46 : decode cX5_levelOf 46 = .ok (.aconst_null, 1) := by decide +kernel
theorem dX5_levelOf_47 : decode cX5_levelOf 47 = .ok (.areturn, 1) := by decide +kernel
theorem dX5_aroundAt_0 : decode cX5_aroundAt 0 = .ok (.aload_n 0, 1) := by decide +kernel
theorem dX5_aroundAt_1 : decode cX5_aroundAt 1 = .ok (.aload_n 1, 1) := by decide +kernel
theorem dX5_aroundAt_2 : decode cX5_aroundAt 2 = .ok (.invokevirtual 22, 3) := by decide +kernel
theorem dX5_aroundAt_5 : decode cX5_aroundAt 5 = .ok (.astore_n 2, 1) := by decide +kernel
theorem dX5_aroundAt_6 : decode cX5_aroundAt 6 = .ok (.aload_n 2, 1) := by decide +kernel
theorem dX5_aroundAt_7 : decode cX5_aroundAt 7 = .ok (.ifnonnull 7, 3) := by decide +kernel
theorem dX5_aroundAt_10 : decode cX5_aroundAt 10 = .ok (.aconst_null, 1) := by decide +kernel
theorem dX5_aroundAt_11 : decode cX5_aroundAt 11 = .ok (.goto 7, 3) := by decide +kernel
theorem dX5_aroundAt_14 : decode cX5_aroundAt 14 = .ok (.aload_n 2, 1) := by decide +kernel
theorem dX5_aroundAt_15 : decode cX5_aroundAt 15 = .ok (.getfield 26, 3) := by decide +kernel
theorem dX5_aroundAt_18 : decode cX5_aroundAt 18 = .ok (.areturn, 1) := by decide +kernel
theorem dX6_init_0 : decode cX6_init 0 = .ok (.aload_n 0, 1) := by decide +kernel
theorem dX6_init_1 : decode cX6_init 1 = .ok (.invokespecial 3, 3) := by decide +kernel
theorem dX6_init_4 : decode cX6_init 4 = .ok (.aload_n 0, 1) := by decide +kernel
theorem dX6_init_5 : decode cX6_init 5 = .ok (.new 9, 3) := by decide +kernel
theorem dX6_init_8 : decode cX6_init 8 = .ok (.dup, 1) := by decide +kernel
theorem dX6_init_9 : decode cX6_init 9 = .ok (.invokespecial 11, 3) := by decide +kernel
theorem dX6_init_12 : decode cX6_init 12 = .ok (.putfield 12, 3) := by decide +kernel
theorem dX6_init_15 : decode cX6_init 15 = .ok (.aload_n 0, 1) := by decide +kernel
theorem dX6_init_16 : decode cX6_init 16 = .ok (.new 18, 3) := by decide +kernel
theorem dX6_init_19 : decode cX6_init 19 = .ok (.dup, 1) := by decide +kernel
theorem dX6_init_20 : decode cX6_init 20 = .ok (.invokespecial 20, 3) := by decide +kernel
theorem dX6_init_23 : decode cX6_init 23 = .ok (.putfield 21, 3) := by decide +kernel
theorem dX6_init_26 : decode cX6_init 26 = .ok (.aload_n 0, 1) := by decide +kernel
theorem dX6_init_27 : decode cX6_init 27 = .ok (.iconst 0, 1) := by decide +kernel
theorem dX6_init_28 : decode cX6_init 28 = .ok (.putfield 25, 3) := by decide +kernel
theorem dX6_init_31 : decode cX6_init 31 = .ok (.aload_n 0, 1) := by decide +kernel
theorem dX6_init_32 : decode cX6_init 32 = .ok (.aconst_null, 1) := by decide +kernel
theorem dX6_init_33 : decode cX6_init 33 = .ok (.putfield 29, 3) := by decide +kernel
theorem dX6_init_36 : decode cX6_init 36 = .ok (.aload_n 0, 1) := by decide +kernel
theorem dX6_init_37 : decode cX6_init 37 = .ok (.iload_n 1, 1) := by decide +kernel
theorem dX6_init_38 : decode cX6_init 38 = .ok (.putfield 33, 3) := by decide +kernel
theorem dX6_init_41 : decode cX6_init 41 = .ok (.aload_n 0, 1) := by decide +kernel
theorem dX6_init_42 : decode cX6_init 42 = .ok (.iload_n 2, 1) := by decide +kernel
theorem dX6_init_43 : decode cX6_init 43 = .ok (.putfield 37, 3) := by decide +kernel
theorem dX6_init_46 : decode cX6_init 46 = .ok (.aload_n 0, 1) := by decide +kernel
theorem dX6_init_47 : decode cX6_init 47 = .ok (.aload_n 3, 1) := by decide +kernel
theorem dX6_init_48 : decode cX6_init 48 = .ok (.putfield 40, 3) := by decide +kernel
theorem dX6_init_51 : decode cX6_init 51 = .ok (.aload_n 0, 1) := by decide +kernel
theorem dX6_init_52 : decode cX6_init 52 = .ok (.iload 4, 2) := by decide +kernel
theorem dX6_init_54 : decode cX6_init 54 = .ok (.putfield 43, 3) := by decide +kernel
theorem dX6_init_57 : decode cX6_init 57 = .ok (.aload_n 3, 1) := by decide +kernel
theorem dX6_init_58 : decode cX6_init 58 = .ok (.ifnull 14, 3) := by decide +kernel
theorem dX6_init_61 : decode cX6_init 61 = .ok (.iload_n 2, 1) := by decide +kernel
theorem dX6_init_62 : decode cX6_init 62 = .ok (.invokestatic 46, 3) := by decide +kernel
theorem dX6_init_65 : decode cX6_init 65 = .ok (.ifCond .eq 7, 3) := by decide +kernel
theorem dX6_init_68 : decode cX6_init 68 = .ok (.iconst 1, 1) := by decide +kernel
theorem dX6_init_69 : decode cX6_init 69 = .ok (.goto 4, 3) := by decide +kernel
theorem dX6_init_72 : decode cX6_init 72 = .ok (.iconst 0, 1) := by decide +kernel
theorem dX6_init_73 : decode cX6_init 73 = .ok (.istore 6, 2) := by decide +kernel
theorem dX6_init_75 : decode cX6_init 75 = .ok (.aload_n 0, 1) := by decide +kernel
theorem dX6_init_76 : decode cX6_init 76 = .ok (.iload 6, 2) := by decide +kernel
theorem dX6_init_78 : decode cX6_init 78 = .ok (.ifCond .eq 13, 3) := by decide +kernel
theorem dX6_init_81 : decode cX6_init 81 = .ok (.aload_n 3, 1) := by decide +kernel
theorem dX6_init_82 : decode cX6_init 82 = .ok (.getfield 21, 3) := by decide +kernel
theorem dX6_init_85 : decode cX6_init 85 = .ok (.getfield 50, 3) := by decide +kernel
theorem dX6_init_88 : decode cX6_init 88 = .ok (.goto 4, 3) := by decide +kernel
theorem dX6_init_91 : decode cX6_init 91 = .ok (.iconst 0, 1) := by decide +kernel
theorem dX6_init_92 : decode cX6_init 92 = .ok (.putfield 53, 3) := by decide +kernel
theorem dX6_init_95 : decode cX6_init 95 = .ok (.aload_n 0, 1) := by decide +kernel
theorem dX6_init_96 : decode cX6_init 96 = .ok (.iload_n 2, 1) := by decide +kernel
theorem dX6_init_97 : decode cX6_init 97 = .ok (.iconst 2, 1) := by decide +kernel
theorem dX6_init_98 : decode cX6_init 98 = .ok (.if_icmp .eq 20, 3) := by decide +kernel
theorem dX6_init_101 : decode cX6_init 101 = .ok (.iload 6, 2) := by decide +kernel
theorem dX6_init_103 : decode cX6_init 103 = .ok (.ifCond .eq 19, 3) := by decide +kernel
theorem dX6_init_106 : decode cX6_init 106 = .ok (.iload_n 2, 1) := by decide +kernel
theorem dX6_init_107 : decode cX6_init 107 = .ok (.iconst 4, 1) := by decide +kernel
theorem dX6_init_108 : decode cX6_init 108 = .ok (.if_icmp .eq 14, 3) := by decide +kernel
theorem dX6_init_111 : decode cX6_init 111 = .ok (.aload_n 3, 1) := by decide +kernel
theorem dX6_init_112 : decode cX6_init 112 = .ok (.getfield 25, 3) := by decide +kernel
theorem dX6_init_115 : decode cX6_init 115 = .ok (.ifCond .ne 7, 3) := by decide +kernel
theorem dX6_init_118 : decode cX6_init 118 = .ok (.iconst 1, 1) := by decide +kernel
theorem dX6_init_119 : decode cX6_init 119 = .ok (.goto 4, 3) := by decide +kernel
theorem dX6_init_122 : decode cX6_init 122 = .ok (.iconst 0, 1) := by decide +kernel
theorem dX6_init_123 : decode cX6_init 123 = .ok (.putfield 56, 3) := by decide +kernel
theorem dX6_init_126 : decode cX6_init 126 = .ok (.aload_n 0, 1) := by decide +kernel
theorem dX6_init_127 : decode cX6_init 127 = .ok (.aload_n 3, 1) := by decide +kernel
theorem dX6_init_128 : decode cX6_init 128 = .ok (.iload 4, 2) := by decide +kernel
theorem dX6_init_130 : decode cX6_init 130 = .ok (.iload 5, 2) := by decide +kernel
theorem dX6_init_132 : decode cX6_init 132 = .ok (.invokestatic 59, 3) := by decide +kernel
theorem dX6_init_135 : decode cX6_init 135 = .ok (.putfield 63, 3) := by decide +kernel
theorem dX6_init_138 : decode cX6_init 138 = .ok (.return_, 1) := by decide +kernel
theorem dX6_classNameOf_0 : decode cX6_classNameOf 0 = .ok (.new 67, 3) := by decide +kernel
theorem dX6_classNameOf_3 : decode cX6_classNameOf 3 = .ok (.dup, 1) := by decide +kernel
theorem dX6_classNameOf_4 : decode cX6_classNameOf 4 = .ok (.invokespecial 69, 3) := by decide +kernel
theorem dX6_classNameOf_7 : decode cX6_classNameOf 7 = .ok (.astore_n 3, 1) := by decide +kernel
theorem dX6_classNameOf_8 : decode cX6_classNameOf 8 = .ok (.aload_n 0, 1) := by decide +kernel
theorem dX6_classNameOf_9 : decode cX6_classNameOf 9 = .ok (.ifnull 19, 3) := by decide +kernel
theorem dX6_classNameOf_12 : decode cX6_classNameOf 12 = .ok (.aload_n 3, 1) := by decide +kernel
theorem dX6_classNameOf_13 : decode cX6_classNameOf 13 = .ok (.aload_n 0, 1) := by decide +kernel
theorem dX6_classNameOf_14 : decode cX6_classNameOf 14 = .ok (.getfield 63, 3) := by decide +kernel
theorem dX6_classNameOf_17 : decode cX6_classNameOf 17 = .ok (.invokevirtual 70, 3) := by decide +kernel
theorem dX6_classNameOf_20 : decode cX6_classNameOf 20 = .ok (.pop, 1) := by decide +kernel
theorem dX6_classNameOf_21 : decode cX6_classNameOf 21 = .ok (.aload_n 3, 1) := by decide +kernel
theorem dX6_classNameOf_22 : decode cX6_classNameOf 22 = .ok (.bipush 36, 2) := by decide +kernel
theorem dX6_classNameOf_24 : decode cX6_classNameOf 24 = .ok (.invokevirtual 74, 3) := by decide +kernel
theorem dX6_classNameOf_27 : decode cX6_classNameOf 27 = .ok (.pop, 1) := by decide +kernel
theorem dX6_classNameOf_28 : decode cX6_classNameOf 28 = .ok (.iload_n 2, 1) := by decide +kernel
theorem dX6_classNameOf_29 : decode cX6_classNameOf 29 = .ok (.ifCond .le 9, 3) := by decide +kernel
theorem dX6_classNameOf_32 : decode cX6_classNameOf 32 = .ok (.aload_n 3, 1) := by decide +kernel
theorem dX6_classNameOf_33 : decode cX6_classNameOf 33 = .ok (.iload_n 2, 1) := by decide +kernel
theorem dX6_classNameOf_34 : decode cX6_classNameOf 34 = .ok (.invokevirtual 77, 3) := by decide +kernel
theorem dX6_classNameOf_37 : decode cX6_classNameOf 37 = .ok (.pop, 1) := by decide +kernel
theorem dX6_classNameOf_38 : decode cX6_classNameOf 38 = .ok (.iload_n 1, 1) := by decide +kernel
theorem dX6_classNameOf_39 : decode cX6_classNameOf 39 = .ok (.iconst (-1), 1) := by decide +kernel
theorem dX6_classNameOf_40 : decode cX6_classNameOf 40 = .ok (.if_icmp .eq 13, 3) := by decide +kernel
theorem dX6_classNameOf_43 : decode cX6_classNameOf 43 = .ok (.aload_n 3, 1) := by decide +kernel
theorem dX6_classNameOf_44 : decode cX6_classNameOf 44 = .ok (.bipush 65, 2) := by decide +kernel
theorem dX6_classNameOf_46 : decode cX6_classNameOf 46 = .ok (.iload_n 1, 1) := by decide +kernel
theorem dX6_classNameOf_47 : decode cX6_classNameOf 47 = .ok (.iadd, 1) := by decide +kernel
theorem dX6_classNameOf_48 : decode cX6_classNameOf 48 = .ok (.i2c, 1) := by decide +kernel
theorem dX6_classNameOf_49 : decode cX6_classNameOf 49 = .ok (.invokevirtual 74, 3) := by decide +kernel
theorem dX6_classNameOf_52 : decode cX6_classNameOf 52 = .ok (.pop, 1) := by decide +kernel
theorem dX6_classNameOf_53 : decode cX6_classNameOf 53 = .ok (.aload_n 3, 1) := by decide +kernel
theorem dX6_classNameOf_54 : decode cX6_classNameOf 54 = .ok (.invokevirtual 80, 3) := by decide +kernel
theorem dX6_classNameOf_57 : decode cX6_classNameOf 57 = .ok (.areturn, 1) := by decide +kernel
theorem dX6_latestLocalAhead_0 : decode cX6_latestLocalAhead 0 = .ok (.aload_n 0, 1) := by decide +kernel
theorem dX6_latestLocalAhead_1 : decode cX6_latestLocalAhead 1 = .ok (.getfield 40, 3) := by decide +kernel
theorem dX6_latestLocalAhead_4 : decode cX6_latestLocalAhead 4 = .ok (.ifnonnull 7, 3) := by decide +kernel
theorem dX6_latestLocalAhead_7 : decode cX6_latestLocalAhead 7 = .ok (.iconst (-1), 1) := by decide +kernel
theorem dX6_latestLocalAhead_8 : decode cX6_latestLocalAhead 8 = .ok (.goto 18, 3) := by decide +kernel
theorem dX6_latestLocalAhead_11 : decode cX6_latestLocalAhead 11 = .ok (.aload_n 0, 1) := by decide +kernel
theorem dX6_latestLocalAhead_12 : decode cX6_latestLocalAhead 12 = .ok (.getfield 40, 3) := by decide +kernel
theorem dX6_latestLocalAhead_15 : decode cX6_latestLocalAhead 15 = .ok (.getfield 21, 3) := by decide +kernel
theorem dX6_latestLocalAhead_18 : decode cX6_latestLocalAhead 18 = .ok (.iload_n 1, 1) := by decide +kernel
theorem dX6_latestLocalAhead_19 : decode cX6_latestLocalAhead 19 = .ok (.aload_n 0, 1) := by decide +kernel
theorem dX6_latestLocalAhead_20 : decode cX6_latestLocalAhead 20 = .ok (.getfield 53, 3) := by decide +kernel
theorem dX6_latestLocalAhead_23 : decode cX6_latestLocalAhead 23 = .ok (.invokevirtual 84, 3) := by decide +kernel
theorem dX6_latestLocalAhead_26 : decode cX6_latestLocalAhead 26 = .ok (.ireturn, 1) := by decide +kernel
theorem dX6_copyLocalsAhead_0 : decode cX6_copyLocalsAhead 0 = .ok (.aload_n 0, 1) := by decide +kernel
theorem dX6_copyLocalsAhead_1 : decode cX6_copyLocalsAhead 1 = .ok (.getfield 40, 3) := by decide +kernel
theorem dX6_copyLocalsAhead_4 : decode cX6_copyLocalsAhead 4 = .ok (.ifnull 11, 3) := by decide +kernel
theorem dX6_copyLocalsAhead_7 : decode cX6_copyLocalsAhead 7 = .ok (.aload_n 0, 1) := by decide +kernel
theorem dX6_copyLocalsAhead_8 : decode cX6_copyLocalsAhead 8 = .ok (.getfield 37, 3) := by decide +kernel
theorem dX6_copyLocalsAhead_11 : decode cX6_copyLocalsAhead 11 = .ok (.iconst 4, 1) := by decide +kernel
theorem dX6_copyLocalsAhead_12 : decode cX6_copyLocalsAhead 12 = .ok (.if_icmp .ne 7, 3) := by decide +kernel
theorem dX6_copyLocalsAhead_15 : decode cX6_copyLocalsAhead 15 = .ok (.getstatic 88, 3) := by decide +kernel
theorem dX6_copyLocalsAhead_18 : decode cX6_copyLocalsAhead 18 = .ok (.areturn, 1) := by decide +kernel
theorem dX6_copyLocalsAhead_19 : decode cX6_copyLocalsAhead 19 = .ok (.aload_n 0, 1) := by decide +kernel
theorem dX6_copyLocalsAhead_20 : decode cX6_copyLocalsAhead 20 = .ok (.getfield 40, 3) := by decide +kernel
theorem dX6_copyLocalsAhead_23 : decode cX6_copyLocalsAhead 23 = .ok (.getfield 21, 3) := by decide +kernel
theorem dX6_copyLocalsAhead_26 : decode cX6_copyLocalsAhead 26 = .ok (.aload_n 0, 1) := by decide +kernel
theorem dX6_copyLocalsAhead_27 : decode cX6_copyLocalsAhead 27 = .ok (.getfield 53, 3) := by decide +kernel
theorem dX6_copyLocalsAhead_30 : decode cX6_copyLocalsAhead 30 = .ok (.invokevirtual 92, 3) := by decide +kernel
theorem dX6_copyLocalsAhead_33 : decode cX6_copyLocalsAhead 33 = .ok (.areturn, 1) := by decide +kernel
theorem dX7_init_0 : decode cX7_init 0 = .ok (.aload_n 0, 1) := by decide +kernel
theorem dX7_init_1 : decode cX7_init 1 = .ok (.invokespecial 1, 3) := by decide +kernel
theorem dX7_init_4 : decode cX7_init 4 = .ok (.aload_n 0, 1) := by decide +kernel
theorem dX7_init_5 : decode cX7_init 5 = .ok (.bipush 12, 2) := by decide +kernel
theorem dX7_init_7 : decode cX7_init 7 = .ok (.anewarray 9, 3) := by decide +kernel
theorem dX7_init_10 : decode cX7_init 10 = .ok (.putfield 11, 3) := by decide +kernel
theorem dX7_init_13 : decode cX7_init 13 = .ok (.aload_n 0, 1) := by decide +kernel
theorem dX7_init_14 : decode cX7_init 14 = .ok (.iconst 0, 1) := by decide +kernel
theorem dX7_init_15 : decode cX7_init 15 = .ok (.putfield 15, 3) := by decide +kernel
theorem dX7_init_18 : decode cX7_init 18 = .ok (.aload_n 0, 1) := by decide +kernel
theorem dX7_init_19 : decode cX7_init 19 = .ok (.bipush 8, 2) := by decide +kernel
theorem dX7_init_21 : decode cX7_init 21 = .ok (.anewarray 19, 3) := by decide +kernel
theorem dX7_init_24 : decode cX7_init 24 = .ok (.putfield 21, 3) := by decide +kernel
theorem dX7_init_27 : decode cX7_init 27 = .ok (.aload_n 0, 1) := by decide +kernel
theorem dX7_init_28 : decode cX7_init 28 = .ok (.iconst 0, 1) := by decide +kernel
theorem dX7_init_29 : decode cX7_init 29 = .ok (.putfield 25, 3) := by decide +kernel
theorem dX7_init_32 : decode cX7_init 32 = .ok (.aload_n 0, 1) := by decide +kernel
theorem dX7_init_33 : decode cX7_init 33 = .ok (.bipush 6, 2) := by decide +kernel
theorem dX7_init_35 : decode cX7_init 35 = .ok (.anewarray 28, 3) := by decide +kernel
theorem dX7_init_38 : decode cX7_init 38 = .ok (.putfield 30, 3) := by decide +kernel
theorem dX7_init_41 : decode cX7_init 41 = .ok (.aload_n 0, 1) := by decide +kernel
theorem dX7_init_42 : decode cX7_init 42 = .ok (.iconst 0, 1) := by decide +kernel
theorem dX7_init_43 : decode cX7_init 43 = .ok (.putfield 34, 3) := by decide +kernel
theorem dX7_init_46 : decode cX7_init 46 = .ok (.aload_n 0, 1) := by decide +kernel
theorem dX7_init_47 : decode cX7_init 47 = .ok (.new 37, 3) := by decide +kernel
theorem dX7_init_50 : decode cX7_init 50 = .ok (.dup, 1) := by decide +kernel
theorem dX7_init_51 : decode cX7_init 51 = .ok (.invokespecial 39, 3) := by decide +kernel
theorem dX7_init_54 : decode cX7_init 54 = .ok (.putfield 40, 3) := by decide +kernel
theorem dX7_init_57 : decode cX7_init 57 = .ok (.aload_n 0, 1) := by decide +kernel
theorem dX7_init_58 : decode cX7_init 58 = .ok (.iconst 0, 1) := by decide +kernel
theorem dX7_init_59 : decode cX7_init 59 = .ok (.putfield 44, 3) := by decide +kernel
theorem dX7_init_62 : decode cX7_init 62 = .ok (.return_, 1) := by decide +kernel
theorem dX7_type_0 : decode cX7_type 0 = .ok (.iload_n 1, 1) := by decide +kernel
theorem dX7_type_1 : decode cX7_type 1 = .ok (.ifCond .lt 8, 3) := by decide +kernel
theorem dX7_type_4 : decode cX7_type 4 = .ok (.iload_n 1, 1) := by decide +kernel
theorem dX7_type_5 : decode cX7_type 5 = .ok (.iconst 5, 1) := by decide +kernel
theorem dX7_type_6 : decode cX7_type 6 = .ok (.if_icmp .le 5, 3) := by decide +kernel
theorem dX7_type_9 : decode cX7_type 9 = .ok (.iconst (-1), 1) := by decide +kernel
theorem dX7_type_10 : decode cX7_type 10 = .ok (.ireturn, 1) := by decide +kernel
theorem dX7_type_11 : decode cX7_type 11 = .ok (.iload_n 1, 1) := by decide +kernel
theorem dX7_type_12 : decode cX7_type 12 = .ok (.iconst 5, 1) := by decide +kernel
theorem dX7_type_13 : decode cX7_type 13 = .ok (.if_icmp .eq 15, 3) := by decide +kernel
theorem dX7_type_16 : decode cX7_type 16 = .ok (.iload_n 3, 1) := by decide +kernel
theorem dX7_type_17 : decode cX7_type 17 = .ok (.ifCond .lt 9, 3) := by decide +kernel
theorem dX7_type_20 : decode cX7_type 20 = .ok (.iload_n 3, 1) := by decide +kernel
theorem dX7_type_21 : decode cX7_type 21 = .ok (.bipush 26, 2) := by decide +kernel
theorem dX7_type_23 : decode cX7_type 23 = .ok (.if_icmp .lt 5, 3) := by decide +kernel
theorem dX7_type_26 : decode cX7_type 26 = .ok (.iconst (-1), 1) := by decide +kernel
theorem dX7_type_27 : decode cX7_type 27 = .ok (.ireturn, 1) := by decide +kernel
theorem dX7_type_28 : decode cX7_type 28 = .ok (.iload_n 1, 1) := by decide +kernel
theorem dX7_type_29 : decode cX7_type 29 = .ok (.ifCond .ne 7, 3) := by decide +kernel
theorem dX7_type_32 : decode cX7_type 32 = .ok (.aconst_null, 1) := by decide +kernel
theorem dX7_type_33 : decode cX7_type 33 = .ok (.goto 8, 3) := by decide +kernel
theorem dX7_type_36 : decode cX7_type 36 = .ok (.aload_n 0, 1) := by decide +kernel
theorem dX7_type_37 : decode cX7_type 37 = .ok (.iload_n 2, 1) := by decide +kernel
theorem dX7_type_38 : decode cX7_type 38 = .ok (.invokevirtual 47, 3) := by decide +kernel
theorem dX7_type_41 : decode cX7_type 41 = .ok (.astore 4, 2) := by decide +kernel
theorem dX7_type_43 : decode cX7_type 43 = .ok (.iload_n 1, 1) := by decide +kernel
theorem dX7_type_44 : decode cX7_type 44 = .ok (.ifCond .eq 10, 3) := by decide +kernel
theorem dX7_type_47 : decode cX7_type 47 = .ok (.aload 4, 2) := by decide +kernel
theorem dX7_type_49 : decode cX7_type 49 = .ok (.ifnonnull 5, 3) := by decide +kernel
theorem dX7_type_52 : decode cX7_type 52 = .ok (.iconst (-1), 1) := by decide +kernel
theorem dX7_type_53 : decode cX7_type 53 = .ok (.ireturn, 1) := by decide +kernel
theorem dX7_type_54 : decode cX7_type 54 = .ok (.aload_n 0, 1) := by decide +kernel
theorem dX7_type_55 : decode cX7_type 55 = .ok (.getfield 15, 3) := by decide +kernel
theorem dX7_type_58 : decode cX7_type 58 = .ok (.bipush 12, 2) := by decide +kernel
theorem dX7_type_60 : decode cX7_type 60 = .ok (.if_icmp .lt 6, 3) := by decide +kernel
theorem dX7_type_63 : decode cX7_type 63 = .ok (.bipush (-2), 2) := by decide +kernel
theorem dX7_type_65 : decode cX7_type 65 = .ok (.ireturn, 1) := by decide +kernel
theorem dX7_type_66 : decode cX7_type 66 = .ok (.iload_n 1, 1) := by decide +kernel
theorem dX7_type_67 : decode cX7_type 67 = .ok (.iconst 5, 1) := by decide +kernel
theorem dX7_type_68 : decode cX7_type 68 = .ok (.if_icmp .ne 7, 3) := by decide +kernel
theorem dX7_type_71 : decode cX7_type 71 = .ok (.iconst (-1), 1) := by decide +kernel
theorem dX7_type_72 : decode cX7_type 72 = .ok (.goto 4, 3) := by decide +kernel
theorem dX7_type_75 : decode cX7_type 75 = .ok (.iload_n 3, 1) := by decide +kernel
theorem dX7_type_76 : decode cX7_type 76 = .ok (.istore 5, 2) := by decide +kernel
theorem dX7_type_78 : decode cX7_type 78 = .ok (.aload_n 0, 1) := by decide +kernel
theorem dX7_type_79 : decode cX7_type 79 = .ok (.iload_n 1, 1) := by decide +kernel
theorem dX7_type_80 : decode cX7_type 80 = .ok (.aload 4, 2) := by decide +kernel
theorem dX7_type_82 : decode cX7_type 82 = .ok (.iload 5, 2) := by decide +kernel
theorem dX7_type_84 : decode cX7_type 84 = .ok (.invokevirtual 51, 3) := by decide +kernel
theorem dX7_type_87 : decode cX7_type 87 = .ok (.ifCond .eq 6, 3) := by decide +kernel
theorem dX7_type_90 : decode cX7_type 90 = .ok (.bipush (-4), 2) := by decide +kernel
theorem dX7_type_92 : decode cX7_type 92 = .ok (.ireturn, 1) := by decide +kernel
theorem dX7_type_93 : decode cX7_type 93 = .ok (.aload_n 0, 1) := by decide +kernel
theorem dX7_type_94 : decode cX7_type 94 = .ok (.iload_n 1, 1) := by decide +kernel
theorem dX7_type_95 : decode cX7_type 95 = .ok (.aload 4, 2) := by decide +kernel
theorem dX7_type_97 : decode cX7_type 97 = .ok (.iload 5, 2) := by decide +kernel
theorem dX7_type_99 : decode cX7_type 99 = .ok (.invokevirtual 55, 3) := by decide +kernel
theorem dX7_type_102 : decode cX7_type 102 = .ok (.istore 6, 2) := by decide +kernel
theorem dX7_type_104 : decode cX7_type 104 = .ok (.aload_n 0, 1) := by decide +kernel
theorem dX7_type_105 : decode cX7_type 105 = .ok (.getfield 11, 3) := by decide +kernel
theorem dX7_type_108 : decode cX7_type 108 = .ok (.aload_n 0, 1) := by decide +kernel
theorem dX7_type_109 : decode cX7_type 109 = .ok (.getfield 15, 3) := by decide +kernel
theorem dX7_type_112 : decode cX7_type 112 = .ok (.new 9, 3) := by decide +kernel
theorem dX7_type_115 : decode cX7_type 115 = .ok (.dup, 1) := by decide +kernel
theorem dX7_type_116 : decode cX7_type 116 = .ok (.aload_n 0, 1) := by decide +kernel
theorem dX7_type_117 : decode cX7_type 117 = .ok (.getfield 15, 3) := by decide +kernel
theorem dX7_type_120 : decode cX7_type 120 = .ok (.iload_n 1, 1) := by decide +kernel
theorem dX7_type_121 : decode cX7_type 121 = .ok (.aload 4, 2) := by decide +kernel
theorem dX7_type_123 : decode cX7_type 123 = .ok (.iload 5, 2) := by decide +kernel
theorem dX7_type_125 : decode cX7_type 125 = .ok (.iload 6, 2) := by decide +kernel
theorem dX7_type_127 : decode cX7_type 127 = .ok (.invokespecial 59, 3) := by decide +kernel
theorem dX7_type_130 : decode cX7_type 130 = .ok (.aastore, 1) := by decide +kernel
theorem dX7_type_131 : decode cX7_type 131 = .ok (.aload_n 0, 1) := by decide +kernel
theorem dX7_type_132 : decode cX7_type 132 = .ok (.dup, 1) := by decide +kernel
theorem dX7_type_133 : decode cX7_type 133 = .ok (.getfield 15, 3) := by decide +kernel
theorem dX7_type_136 : decode cX7_type 136 = .ok (.iconst 1, 1) := by decide +kernel
theorem dX7_type_137 : decode cX7_type 137 = .ok (.iadd, 1) := by decide +kernel
theorem dX7_type_138 : decode cX7_type 138 = .ok (.putfield 15, 3) := by decide +kernel
theorem dX7_type_141 : decode cX7_type 141 = .ok (.aload_n 0, 1) := by decide +kernel
theorem dX7_type_142 : decode cX7_type 142 = .ok (.getfield 15, 3) := by decide +kernel
theorem dX7_type_145 : decode cX7_type 145 = .ok (.iconst 1, 1) := by decide +kernel
theorem dX7_type_146 : decode cX7_type 146 = .ok (.isub, 1) := by decide +kernel
theorem dX7_type_147 : decode cX7_type 147 = .ok (.ireturn, 1) := by decide +kernel
theorem dX7_field_0 : decode cX7_field 0 = .ok (.aload_n 0, 1) := by decide +kernel
theorem dX7_field_1 : decode cX7_field 1 = .ok (.iload_n 1, 1) := by decide +kernel
theorem dX7_field_2 : decode cX7_field 2 = .ok (.invokevirtual 47, 3) := by decide +kernel
theorem dX7_field_5 : decode cX7_field 5 = .ok (.astore 6, 2) := by decide +kernel
theorem dX7_field_7 : decode cX7_field 7 = .ok (.aload 6, 2) := by decide +kernel
theorem dX7_field_9 : decode cX7_field 9 = .ok (.ifnull 10, 3) := by decide +kernel
theorem dX7_field_12 : decode cX7_field 12 = .ok (.iload_n 2, 1) := by decide +kernel
theorem dX7_field_13 : decode cX7_field 13 = .ok (.invokestatic 62, 3) := by decide +kernel
theorem dX7_field_16 : decode cX7_field 16 = .ok (.ifCond .ne 5, 3) := by decide +kernel
theorem dX7_field_19 : decode cX7_field 19 = .ok (.iconst (-1), 1) := by decide +kernel
theorem dX7_field_20 : decode cX7_field 20 = .ok (.ireturn, 1) := by decide +kernel
theorem dX7_field_21 : decode cX7_field 21 = .ok (.aload 6, 2) := by decide +kernel
theorem dX7_field_23 : decode cX7_field 23 = .ok (.getfield 66, 3) := by decide +kernel
theorem dX7_field_26 : decode cX7_field 26 = .ok (.astore 7, 2) := by decide +kernel
theorem dX7_field_28 : decode cX7_field 28 = .ok (.aload 7, 2) := by decide +kernel
theorem dX7_field_30 : decode cX7_field 30 = .ok (.getfield 70, 3) := by decide +kernel
theorem dX7_field_33 : decode cX7_field 33 = .ok (.iconst 4, 1) := by decide +kernel
theorem dX7_field_34 : decode cX7_field 34 = .ok (.if_icmp .lt 6, 3) := by decide +kernel
theorem dX7_field_37 : decode cX7_field 37 = .ok (.bipush (-2), 2) := by decide +kernel
theorem dX7_field_39 : decode cX7_field 39 = .ok (.ireturn, 1) := by decide +kernel
theorem dX7_field_40 : decode cX7_field 40 = .ok (.aload 7, 2) := by decide +kernel
theorem dX7_field_42 : decode cX7_field 42 = .ok (.iload_n 2, 1) := by decide +kernel
theorem dX7_field_43 : decode cX7_field 43 = .ok (.invokevirtual 75, 3) := by decide +kernel
theorem dX7_field_46 : decode cX7_field 46 = .ok (.iconst (-1), 1) := by decide +kernel
theorem dX7_field_47 : decode cX7_field 47 = .ok (.if_icmp .eq 6, 3) := by decide +kernel
theorem dX7_field_50 : decode cX7_field 50 = .ok (.bipush (-4), 2) := by decide +kernel
theorem dX7_field_52 : decode cX7_field 52 = .ok (.ireturn, 1) := by decide +kernel
theorem dX7_field_53 : decode cX7_field 53 = .ok (.aload 7, 2) := by decide +kernel
theorem dX7_field_55 : decode cX7_field 55 = .ok (.iload_n 2, 1) := by decide +kernel
theorem dX7_field_56 : decode cX7_field 56 = .ok (.lload_n 3, 1) := by decide +kernel
theorem dX7_field_57 : decode cX7_field 57 = .ok (.iload 5, 2) := by decide +kernel
theorem dX7_field_59 : decode cX7_field 59 = .ok (.invokevirtual 79, 3) := by decide +kernel
theorem dX7_field_62 : decode cX7_field 62 = .ok (.aload 7, 2) := by decide +kernel
theorem dX7_field_64 : decode cX7_field 64 = .ok (.getfield 70, 3) := by decide +kernel
theorem dX7_field_67 : decode cX7_field 67 = .ok (.ireturn, 1) := by decide +kernel
theorem dX7_local_0 : decode cX7_local 0 = .ok (.aload_n 0, 1) := by decide +kernel
theorem dX7_local_1 : decode cX7_local 1 = .ok (.iload_n 1, 1) := by decide +kernel
theorem dX7_local_2 : decode cX7_local 2 = .ok (.invokevirtual 47, 3) := by decide +kernel
theorem dX7_local_5 : decode cX7_local 5 = .ok (.astore 5, 2) := by decide +kernel
theorem dX7_local_7 : decode cX7_local 7 = .ok (.aload 5, 2) := by decide +kernel
theorem dX7_local_9 : decode cX7_local 9 = .ok (.ifnull 10, 3) := by decide +kernel
theorem dX7_local_12 : decode cX7_local 12 = .ok (.iload_n 2, 1) := by decide +kernel
theorem dX7_local_13 : decode cX7_local 13 = .ok (.invokestatic 62, 3) := by decide +kernel
theorem dX7_local_16 : decode cX7_local 16 = .ok (.ifCond .ne 5, 3) := by decide +kernel
theorem dX7_local_19 : decode cX7_local 19 = .ok (.iconst (-1), 1) := by decide +kernel
theorem dX7_local_20 : decode cX7_local 20 = .ok (.ireturn, 1) := by decide +kernel
theorem dX7_local_21 : decode cX7_local 21 = .ok (.aload 5, 2) := by decide +kernel
theorem dX7_local_23 : decode cX7_local 23 = .ok (.getfield 83, 3) := by decide +kernel
theorem dX7_local_26 : decode cX7_local 26 = .ok (.astore 6, 2) := by decide +kernel
theorem dX7_local_28 : decode cX7_local 28 = .ok (.aload 6, 2) := by decide +kernel
theorem dX7_local_30 : decode cX7_local 30 = .ok (.getfield 87, 3) := by decide +kernel
theorem dX7_local_33 : decode cX7_local 33 = .ok (.iconst 4, 1) := by decide +kernel
theorem dX7_local_34 : decode cX7_local 34 = .ok (.if_icmp .lt 6, 3) := by decide +kernel
theorem dX7_local_37 : decode cX7_local 37 = .ok (.bipush (-2), 2) := by decide +kernel
theorem dX7_local_39 : decode cX7_local 39 = .ok (.ireturn, 1) := by decide +kernel
theorem dX7_local_40 : decode cX7_local 40 = .ok (.aload 6, 2) := by decide +kernel
theorem dX7_local_42 : decode cX7_local 42 = .ok (.iload_n 2, 1) := by decide +kernel
theorem dX7_local_43 : decode cX7_local 43 = .ok (.lload_n 3, 1) := by decide +kernel
theorem dX7_local_44 : decode cX7_local 44 = .ok (.invokevirtual 90, 3) := by decide +kernel
theorem dX7_local_47 : decode cX7_local 47 = .ok (.aload 6, 2) := by decide +kernel
theorem dX7_local_49 : decode cX7_local 49 = .ok (.getfield 87, 3) := by decide +kernel
theorem dX7_local_52 : decode cX7_local 52 = .ok (.ireturn, 1) := by decide +kernel
theorem dX7_assign_0 : decode cX7_assign 0 = .ok (.aload_n 0, 1) := by decide +kernel
theorem dX7_assign_1 : decode cX7_assign 1 = .ok (.iload_n 1, 1) := by decide +kernel
theorem dX7_assign_2 : decode cX7_assign 2 = .ok (.invokevirtual 47, 3) := by decide +kernel
theorem dX7_assign_5 : decode cX7_assign 5 = .ok (.astore 5, 2) := by decide +kernel
theorem dX7_assign_7 : decode cX7_assign 7 = .ok (.aload 5, 2) := by decide +kernel
theorem dX7_assign_9 : decode cX7_assign 9 = .ok (.ifnull 15, 3) := by decide +kernel
theorem dX7_assign_12 : decode cX7_assign 12 = .ok (.aload 5, 2) := by decide +kernel
theorem dX7_assign_14 : decode cX7_assign 14 = .ok (.getfield 83, 3) := by decide +kernel
theorem dX7_assign_17 : decode cX7_assign 17 = .ok (.iload_n 2, 1) := by decide +kernel
theorem dX7_assign_18 : decode cX7_assign 18 = .ok (.invokevirtual 93, 3) := by decide +kernel
theorem dX7_assign_21 : decode cX7_assign 21 = .ok (.ifCond .ne 5, 3) := by decide +kernel
theorem dX7_assign_24 : decode cX7_assign 24 = .ok (.iconst (-1), 1) := by decide +kernel
theorem dX7_assign_25 : decode cX7_assign 25 = .ok (.ireturn, 1) := by decide +kernel
theorem dX7_assign_26 : decode cX7_assign 26 = .ok (.aload 5, 2) := by decide +kernel
theorem dX7_assign_28 : decode cX7_assign 28 = .ok (.getfield 83, 3) := by decide +kernel
theorem dX7_assign_31 : decode cX7_assign 31 = .ok (.iload_n 2, 1) := by decide +kernel
theorem dX7_assign_32 : decode cX7_assign 32 = .ok (.invokevirtual 96, 3) := by decide +kernel
theorem dX7_assign_35 : decode cX7_assign 35 = .ok (.istore 6, 2) := by decide +kernel
theorem dX7_assign_37 : decode cX7_assign 37 = .ok (.aload 5, 2) := by decide +kernel
theorem dX7_assign_39 : decode cX7_assign 39 = .ok (.getfield 83, 3) := by decide +kernel
theorem dX7_assign_42 : decode cX7_assign 42 = .ok (.iload_n 2, 1) := by decide +kernel
theorem dX7_assign_43 : decode cX7_assign 43 = .ok (.lload_n 3, 1) := by decide +kernel
theorem dX7_assign_44 : decode cX7_assign 44 = .ok (.invokevirtual 99, 3) := by decide +kernel
theorem dX7_assign_47 : decode cX7_assign 47 = .ok (.iload 6, 2) := by decide +kernel
theorem dX7_assign_49 : decode cX7_assign 49 = .ok (.ifCond .eq 7, 3) := by decide +kernel
theorem dX7_assign_52 : decode cX7_assign 52 = .ok (.iconst 1, 1) := by decide +kernel
theorem dX7_assign_53 : decode cX7_assign 53 = .ok (.goto 4, 3) := by decide +kernel
theorem dX7_assign_56 : decode cX7_assign 56 = .ok (.iconst 0, 1) := by decide +kernel
theorem dX7_assign_57 : decode cX7_assign 57 = .ok (.ireturn, 1) := by decide +kernel
theorem dX7_method_0 : decode cX7_method 0 = .ok (.aload_n 0, 1) := by decide +kernel
theorem dX7_method_1 : decode cX7_method 1 = .ok (.iload_n 1, 1) := by decide +kernel
theorem dX7_method_2 : decode cX7_method 2 = .ok (.invokevirtual 47, 3) := by decide +kernel
theorem dX7_method_5 : decode cX7_method 5 = .ok (.astore_n 3, 1) := by decide +kernel
theorem dX7_method_6 : decode cX7_method 6 = .ok (.aload_n 3, 1) := by decide +kernel
theorem dX7_method_7 : decode cX7_method 7 = .ok (.ifnonnull 5, 3) := by decide +kernel
theorem dX7_method_10 : decode cX7_method 10 = .ok (.iconst (-1), 1) := by decide +kernel
theorem dX7_method_11 : decode cX7_method 11 = .ok (.ireturn, 1) := by decide +kernel
theorem dX7_method_12 : decode cX7_method 12 = .ok (.aload_n 0, 1) := by decide +kernel
theorem dX7_method_13 : decode cX7_method 13 = .ok (.aload_n 3, 1) := by decide +kernel
theorem dX7_method_14 : decode cX7_method 14 = .ok (.invokevirtual 102, 3) := by decide +kernel
theorem dX7_method_17 : decode cX7_method 17 = .ok (.ifCond .eq 6, 3) := by decide +kernel
theorem dX7_method_20 : decode cX7_method 20 = .ok (.bipush (-4), 2) := by decide +kernel
theorem dX7_method_22 : decode cX7_method 22 = .ok (.ireturn, 1) := by decide +kernel
theorem dX7_method_23 : decode cX7_method 23 = .ok (.aload_n 3, 1) := by decide +kernel
theorem dX7_method_24 : decode cX7_method 24 = .ok (.getfield 106, 3) := by decide +kernel
theorem dX7_method_27 : decode cX7_method 27 = .ok (.istore 4, 2) := by decide +kernel
theorem dX7_method_29 : decode cX7_method 29 = .ok (.aload_n 3, 1) := by decide +kernel
theorem dX7_method_30 : decode cX7_method 30 = .ok (.iload_n 2, 1) := by decide +kernel
theorem dX7_method_31 : decode cX7_method 31 = .ok (.putfield 106, 3) := by decide +kernel
theorem dX7_method_34 : decode cX7_method 34 = .ok (.iload 4, 2) := by decide +kernel
theorem dX7_method_36 : decode cX7_method 36 = .ok (.ifCond .eq 7, 3) := by decide +kernel
theorem dX7_method_39 : decode cX7_method 39 = .ok (.iconst 1, 1) := by decide +kernel
theorem dX7_method_40 : decode cX7_method 40 = .ok (.goto 4, 3) := by decide +kernel
theorem dX7_method_43 : decode cX7_method 43 = .ok (.iconst 0, 1) := by decide +kernel
theorem dX7_method_44 : decode cX7_method 44 = .ok (.ireturn, 1) := by decide +kernel
theorem dX7_parent_0 : decode cX7_parent 0 = .ok (.aload_n 0, 1) := by decide +kernel
theorem dX7_parent_1 : decode cX7_parent 1 = .ok (.iload_n 1, 1) := by decide +kernel
theorem dX7_parent_2 : decode cX7_parent 2 = .ok (.invokevirtual 47, 3) := by decide +kernel
theorem dX7_parent_5 : decode cX7_parent 5 = .ok (.astore_n 3, 1) := by decide +kernel
theorem dX7_parent_6 : decode cX7_parent 6 = .ok (.aload_n 0, 1) := by decide +kernel
theorem dX7_parent_7 : decode cX7_parent 7 = .ok (.iload_n 2, 1) := by decide +kernel
theorem dX7_parent_8 : decode cX7_parent 8 = .ok (.invokevirtual 47, 3) := by decide +kernel
theorem dX7_parent_11 : decode cX7_parent 11 = .ok (.astore 4, 2) := by decide +kernel
theorem dX7_parent_13 : decode cX7_parent 13 = .ok (.aload_n 3, 1) := by decide +kernel
theorem dX7_parent_14 : decode cX7_parent 14 = .ok (.ifnull 8, 3) := by decide +kernel
theorem dX7_parent_17 : decode cX7_parent 17 = .ok (.aload 4, 2) := by decide +kernel
theorem dX7_parent_19 : decode cX7_parent 19 = .ok (.ifnonnull 5, 3) := by decide +kernel
theorem dX7_parent_22 : decode cX7_parent 22 = .ok (.iconst (-1), 1) := by decide +kernel
theorem dX7_parent_23 : decode cX7_parent 23 = .ok (.ireturn, 1) := by decide +kernel
theorem dX7_parent_24 : decode cX7_parent 24 = .ok (.aload_n 3, 1) := by decide +kernel
theorem dX7_parent_25 : decode cX7_parent 25 = .ok (.getfield 110, 3) := by decide +kernel
theorem dX7_parent_28 : decode cX7_parent 28 = .ok (.iconst 4, 1) := by decide +kernel
theorem dX7_parent_29 : decode cX7_parent 29 = .ok (.if_icmp .eq 12, 3) := by decide +kernel
theorem dX7_parent_32 : decode cX7_parent 32 = .ok (.aload 4, 2) := by decide +kernel
theorem dX7_parent_34 : decode cX7_parent 34 = .ok (.getfield 110, 3) := by decide +kernel
theorem dX7_parent_37 : decode cX7_parent 37 = .ok (.iconst 4, 1) := by decide +kernel
theorem dX7_parent_38 : decode cX7_parent 38 = .ok (.if_icmp .ne 5, 3) := by decide +kernel
theorem dX7_parent_41 : decode cX7_parent 41 = .ok (.iconst (-1), 1) := by decide +kernel
theorem dX7_parent_42 : decode cX7_parent 42 = .ok (.ireturn, 1) := by decide +kernel
theorem dX7_parent_43 : decode cX7_parent 43 = .ok (.aload_n 3, 1) := by decide +kernel
theorem dX7_parent_44 : decode cX7_parent 44 = .ok (.getfield 113, 3) := by decide +kernel
theorem dX7_parent_47 : decode cX7_parent 47 = .ok (.ifnonnull 12, 3) := by decide +kernel
theorem dX7_parent_50 : decode cX7_parent 50 = .ok (.aload_n 3, 1) := by decide +kernel
theorem dX7_parent_51 : decode cX7_parent 51 = .ok (.aload 4, 2) := by decide +kernel
theorem dX7_parent_53 : decode cX7_parent 53 = .ok (.invokestatic 117, 3) := by decide +kernel
theorem dX7_parent_56 : decode cX7_parent 56 = .ok (.ifCond .eq 6, 3) := by decide +kernel
theorem dX7_parent_59 : decode cX7_parent 59 = .ok (.bipush (-4), 2) := by decide +kernel
theorem dX7_parent_61 : decode cX7_parent 61 = .ok (.ireturn, 1) := by decide +kernel
theorem dX7_parent_62 : decode cX7_parent 62 = .ok (.aload_n 3, 1) := by decide +kernel
theorem dX7_parent_63 : decode cX7_parent 63 = .ok (.aload 4, 2) := by decide +kernel
theorem dX7_parent_65 : decode cX7_parent 65 = .ok (.putfield 113, 3) := by decide +kernel
theorem dX7_parent_68 : decode cX7_parent 68 = .ok (.iconst 1, 1) := by decide +kernel
theorem dX7_parent_69 : decode cX7_parent 69 = .ok (.ireturn, 1) := by decide +kernel
theorem dX7_name_0 : decode cX7_name 0 = .ok (.aload_n 0, 1) := by decide +kernel
theorem dX7_name_1 : decode cX7_name 1 = .ok (.iload_n 1, 1) := by decide +kernel
theorem dX7_name_2 : decode cX7_name 2 = .ok (.invokevirtual 47, 3) := by decide +kernel
theorem dX7_name_5 : decode cX7_name 5 = .ok (.astore_n 3, 1) := by decide +kernel
theorem dX7_name_6 : decode cX7_name 6 = .ok (.aload_n 3, 1) := by decide +kernel
theorem dX7_name_7 : decode cX7_name 7 = .ok (.ifnonnull 5, 3) := by decide +kernel
theorem dX7_name_10 : decode cX7_name 10 = .ok (.iconst (-1), 1) := by decide +kernel
theorem dX7_name_11 : decode cX7_name 11 = .ok (.ireturn, 1) := by decide +kernel
theorem dX7_name_12 : decode cX7_name 12 = .ok (.aload_n 3, 1) := by decide +kernel
theorem dX7_name_13 : decode cX7_name 13 = .ok (.getfield 121, 3) := by decide +kernel
theorem dX7_name_16 : decode cX7_name 16 = .ok (.astore 4, 2) := by decide +kernel
theorem dX7_name_18 : decode cX7_name 18 = .ok (.iload_n 2, 1) := by decide +kernel
theorem dX7_name_19 : decode cX7_name 19 = .ok (.bipush (-3), 2) := by decide +kernel
theorem dX7_name_21 : decode cX7_name 21 = .ok (.if_icmp .ne 9, 3) := by decide +kernel
theorem dX7_name_24 : decode cX7_name 24 = .ok (.aload 4, 2) := by decide +kernel
theorem dX7_name_26 : decode cX7_name 26 = .ok (.invokevirtual 125, 3) := by decide +kernel
theorem dX7_name_29 : decode cX7_name 29 = .ok (.ireturn, 1) := by decide +kernel
theorem dX7_name_30 : decode cX7_name 30 = .ok (.iload_n 2, 1) := by decide +kernel
theorem dX7_name_31 : decode cX7_name 31 = .ok (.ifCond .lt 12, 3) := by decide +kernel
theorem dX7_name_34 : decode cX7_name 34 = .ok (.iload_n 2, 1) := by decide +kernel
theorem dX7_name_35 : decode cX7_name 35 = .ok (.aload 4, 2) := by decide +kernel
theorem dX7_name_37 : decode cX7_name 37 = .ok (.invokevirtual 125, 3) := by decide +kernel
theorem dX7_name_40 : decode cX7_name 40 = .ok (.if_icmp .lt 5, 3) := by decide +kernel
theorem dX7_name_43 : decode cX7_name 43 = .ok (.iconst (-1), 1) := by decide +kernel
theorem dX7_name_44 : decode cX7_name 44 = .ok (.ireturn, 1) := by decide +kernel
theorem dX7_name_45 : decode cX7_name 45 = .ok (.aload 4, 2) := by decide +kernel
theorem dX7_name_47 : decode cX7_name 47 = .ok (.iload_n 2, 1) := by decide +kernel
theorem dX7_name_48 : decode cX7_name 48 = .ok (.invokevirtual 131, 3) := by decide +kernel
theorem dX7_name_51 : decode cX7_name 51 = .ok (.ireturn, 1) := by decide +kernel
theorem dX7_make_0 : decode cX7_make 0 = .ok (.aload_n 0, 1) := by decide +kernel
theorem dX7_make_1 : decode cX7_make 1 = .ok (.aload_n 0, 1) := by decide +kernel
theorem dX7_make_2 : decode cX7_make 2 = .ok (.iload_n 1, 1) := by decide +kernel
theorem dX7_make_3 : decode cX7_make 3 = .ok (.iload_n 2, 1) := by decide +kernel
theorem dX7_make_4 : decode cX7_make 4 = .ok (.iload_n 3, 1) := by decide +kernel
theorem dX7_make_5 : decode cX7_make 5 = .ok (.invokevirtual 135, 3) := by decide +kernel
theorem dX7_make_8 : decode cX7_make 8 = .ok (.putfield 44, 3) := by decide +kernel
theorem dX7_make_11 : decode cX7_make 11 = .ok (.aload_n 0, 1) := by decide +kernel
theorem dX7_make_12 : decode cX7_make 12 = .ok (.getfield 44, 3) := by decide +kernel
theorem dX7_make_15 : decode cX7_make 15 = .ok (.ireturn, 1) := by decide +kernel
theorem dX7_share_0 : decode cX7_share 0 = .ok (.iload_n 1, 1) := by decide +kernel
theorem dX7_share_1 : decode cX7_share 1 = .ok (.invokestatic 139, 3) := by decide +kernel
theorem dX7_share_4 : decode cX7_share 4 = .ok (.ifCond .eq 10, 3) := by decide +kernel
theorem dX7_share_7 : decode cX7_share 7 = .ok (.iload_n 2, 1) := by decide +kernel
theorem dX7_share_8 : decode cX7_share 8 = .ok (.invokestatic 139, 3) := by decide +kernel
theorem dX7_share_11 : decode cX7_share 11 = .ok (.ifCond .ne 5, 3) := by decide +kernel
theorem dX7_share_14 : decode cX7_share 14 = .ok (.iconst (-1), 1) := by decide +kernel
theorem dX7_share_15 : decode cX7_share 15 = .ok (.ireturn, 1) := by decide +kernel
theorem dX7_share_16 : decode cX7_share 16 = .ok (.aload_n 0, 1) := by decide +kernel
theorem dX7_share_17 : decode cX7_share 17 = .ok (.getfield 21, 3) := by decide +kernel
theorem dX7_share_20 : decode cX7_share 20 = .ok (.iload_n 2, 1) := by decide +kernel
theorem dX7_share_21 : decode cX7_share 21 = .ok (.aload_n 0, 1) := by decide +kernel
theorem dX7_share_22 : decode cX7_share 22 = .ok (.getfield 21, 3) := by decide +kernel
theorem dX7_share_25 : decode cX7_share 25 = .ok (.iload_n 1, 1) := by decide +kernel
theorem dX7_share_26 : decode cX7_share 26 = .ok (.aaload, 1) := by decide +kernel
theorem dX7_share_27 : decode cX7_share 27 = .ok (.aastore, 1) := by decide +kernel
theorem dX7_share_28 : decode cX7_share 28 = .ok (.aload_n 0, 1) := by decide +kernel
theorem dX7_share_29 : decode cX7_share 29 = .ok (.getfield 21, 3) := by decide +kernel
theorem dX7_share_32 : decode cX7_share 32 = .ok (.iload_n 2, 1) := by decide +kernel
theorem dX7_share_33 : decode cX7_share 33 = .ok (.aaload, 1) := by decide +kernel
theorem dX7_share_34 : decode cX7_share 34 = .ok (.ifnull 7, 3) := by decide +kernel
theorem dX7_share_37 : decode cX7_share 37 = .ok (.iconst 1, 1) := by decide +kernel
theorem dX7_share_38 : decode cX7_share 38 = .ok (.goto 4, 3) := by decide +kernel
theorem dX7_share_41 : decode cX7_share 41 = .ok (.iconst 0, 1) := by decide +kernel
theorem dX7_share_42 : decode cX7_share 42 = .ok (.ireturn, 1) := by decide +kernel
theorem dX7_free_0 : decode cX7_free 0 = .ok (.iload_n 1, 1) := by decide +kernel
theorem dX7_free_1 : decode cX7_free 1 = .ok (.invokestatic 139, 3) := by decide +kernel
theorem dX7_free_4 : decode cX7_free 4 = .ok (.ifCond .ne 5, 3) := by decide +kernel
theorem dX7_free_7 : decode cX7_free 7 = .ok (.iconst (-1), 1) := by decide +kernel
theorem dX7_free_8 : decode cX7_free 8 = .ok (.ireturn, 1) := by decide +kernel
theorem dX7_free_9 : decode cX7_free 9 = .ok (.aload_n 0, 1) := by decide +kernel
theorem dX7_free_10 : decode cX7_free 10 = .ok (.getfield 21, 3) := by decide +kernel
theorem dX7_free_13 : decode cX7_free 13 = .ok (.iload_n 1, 1) := by decide +kernel
theorem dX7_free_14 : decode cX7_free 14 = .ok (.aaload, 1) := by decide +kernel
theorem dX7_free_15 : decode cX7_free 15 = .ok (.ifnull 7, 3) := by decide +kernel
theorem dX7_free_18 : decode cX7_free 18 = .ok (.iconst 1, 1) := by decide +kernel
theorem dX7_free_19 : decode cX7_free 19 = .ok (.goto 4, 3) := by decide +kernel
theorem dX7_free_22 : decode cX7_free 22 = .ok (.iconst 0, 1) := by decide +kernel
theorem dX7_free_23 : decode cX7_free 23 = .ok (.istore_n 2, 1) := by decide +kernel
theorem dX7_free_24 : decode cX7_free 24 = .ok (.aload_n 0, 1) := by decide +kernel
theorem dX7_free_25 : decode cX7_free 25 = .ok (.getfield 21, 3) := by decide +kernel
theorem dX7_free_28 : decode cX7_free 28 = .ok (.iload_n 1, 1) := by decide +kernel
theorem dX7_free_29 : decode cX7_free 29 = .ok (.aconst_null, 1) := by decide +kernel
theorem dX7_free_30 : decode cX7_free 30 = .ok (.aastore, 1) := by decide +kernel
theorem dX7_free_31 : decode cX7_free 31 = .ok (.iload_n 2, 1) := by decide +kernel
theorem dX7_free_32 : decode cX7_free 32 = .ok (.ifCond .eq 7, 3) := by decide +kernel
theorem dX7_free_35 : decode cX7_free 35 = .ok (.iconst 1, 1) := by decide +kernel
theorem dX7_free_36 : decode cX7_free 36 = .ok (.goto 4, 3) := by decide +kernel
theorem dX7_free_39 : decode cX7_free 39 = .ok (.iconst 0, 1) := by decide +kernel
theorem dX7_free_40 : decode cX7_free 40 = .ok (.ireturn, 1) := by decide +kernel
theorem dX7_about_0 : decode cX7_about 0 = .ok (.iload_n 1, 1) := by decide +kernel
theorem dX7_about_1 : decode cX7_about 1 = .ok (.invokestatic 139, 3) := by decide +kernel
theorem dX7_about_4 : decode cX7_about 4 = .ok (.ifCond .eq 12, 3) := by decide +kernel
theorem dX7_about_7 : decode cX7_about 7 = .ok (.iload_n 2, 1) := by decide +kernel
theorem dX7_about_8 : decode cX7_about 8 = .ok (.ifCond .lt 8, 3) := by decide +kernel
theorem dX7_about_11 : decode cX7_about 11 = .ok (.iload_n 2, 1) := by decide +kernel
theorem dX7_about_12 : decode cX7_about 12 = .ok (.iconst 3, 1) := by decide +kernel
theorem dX7_about_13 : decode cX7_about 13 = .ok (.if_icmp .le 5, 3) := by decide +kernel
theorem dX7_about_16 : decode cX7_about 16 = .ok (.iconst (-1), 1) := by decide +kernel
theorem dX7_about_17 : decode cX7_about 17 = .ok (.ireturn, 1) := by decide +kernel
theorem dX7_about_18 : decode cX7_about 18 = .ok (.aload_n 0, 1) := by decide +kernel
theorem dX7_about_19 : decode cX7_about 19 = .ok (.getfield 21, 3) := by decide +kernel
theorem dX7_about_22 : decode cX7_about 22 = .ok (.iload_n 1, 1) := by decide +kernel
theorem dX7_about_23 : decode cX7_about 23 = .ok (.aaload, 1) := by decide +kernel
theorem dX7_about_24 : decode cX7_about 24 = .ok (.astore_n 3, 1) := by decide +kernel
theorem dX7_about_25 : decode cX7_about 25 = .ok (.aload_n 3, 1) := by decide +kernel
theorem dX7_about_26 : decode cX7_about 26 = .ok (.ifnonnull 6, 3) := by decide +kernel
theorem dX7_about_29 : decode cX7_about 29 = .ok (.bipush (-3), 2) := by decide +kernel
theorem dX7_about_31 : decode cX7_about 31 = .ok (.ireturn, 1) := by decide +kernel
theorem dX7_about_32 : decode cX7_about 32 = .ok (.iload_n 2, 1) := by decide +kernel
theorem dX7_about_33 : decode cX7_about 33 = .ok (.tableswitch 70 0 2 #[27, 35, 41], 27) := by decide +kernel
theorem dX7_about_60 : decode cX7_about 60 = .ok (.aload_n 3, 1) := by decide +kernel
theorem dX7_about_61 : decode cX7_about 61 = .ok (.getfield 142, 3) := by decide +kernel
theorem dX7_about_64 : decode cX7_about 64 = .ok (.getfield 145, 3) := by decide +kernel
theorem dX7_about_67 : decode cX7_about 67 = .ok (.ireturn, 1) := by decide +kernel
theorem dX7_about_68 : decode cX7_about 68 = .ok (.aload_n 3, 1) := by decide +kernel
theorem dX7_about_69 : decode cX7_about 69 = .ok (.getfield 148, 3) := by decide +kernel
theorem dX7_about_72 : decode cX7_about 72 = .ok (.arraylength, 1) := by decide +kernel
theorem dX7_about_73 : decode cX7_about 73 = .ok (.ireturn, 1) := by decide +kernel
theorem dX7_about_74 : decode cX7_about 74 = .ok (.aload_n 3, 1) := by decide +kernel
theorem dX7_about_75 : decode cX7_about 75 = .ok (.aload_n 3, 1) := by decide +kernel
theorem dX7_about_76 : decode cX7_about 76 = .ok (.getfield 142, 3) := by decide +kernel
theorem dX7_about_79 : decode cX7_about 79 = .ok (.invokevirtual 152, 3) := by decide +kernel
theorem dX7_about_82 : decode cX7_about 82 = .ok (.astore 4, 2) := by decide +kernel
theorem dX7_about_84 : decode cX7_about 84 = .ok (.aload 4, 2) := by decide +kernel
theorem dX7_about_86 : decode cX7_about 86 = .ok (.ifnonnull 8, 3) := by decide +kernel
theorem dX7_about_89 : decode cX7_about 89 = .ok (.bipush (-3), 2) := by decide +kernel
theorem dX7_about_91 : decode cX7_about 91 = .ok (.goto 11, 3) := by decide +kernel
theorem dX7_about_94 : decode cX7_about 94 = .ok (.aload 4, 2) := by decide +kernel
theorem dX7_about_96 : decode cX7_about 96 = .ok (.getfield 142, 3) := by decide +kernel
theorem dX7_about_99 : decode cX7_about 99 = .ok (.getfield 145, 3) := by decide +kernel
theorem dX7_about_102 : decode cX7_about 102 = .ok (.ireturn, 1) := by decide +kernel
theorem dX7_about_103 : decode cX7_about 103 = .ok (.aload_n 3, 1) := by decide +kernel
theorem dX7_about_104 : decode cX7_about 104 = .ok (.aload_n 3, 1) := by decide +kernel
theorem dX7_about_105 : decode cX7_about 105 = .ok (.getfield 142, 3) := by decide +kernel
theorem dX7_about_108 : decode cX7_about 108 = .ok (.invokevirtual 156, 3) := by decide +kernel
theorem dX7_about_111 : decode cX7_about 111 = .ok (.astore 5, 2) := by decide +kernel
theorem dX7_about_113 : decode cX7_about 113 = .ok (.aload 5, 2) := by decide +kernel
theorem dX7_about_115 : decode cX7_about 115 = .ok (.ifnonnull 7, 3) := by decide +kernel
theorem dX7_about_118 : decode cX7_about 118 = .ok (.iconst 0, 1) := by decide +kernel
theorem dX7_about_119 : decode cX7_about 119 = .ok (.goto 9, 3) := by decide +kernel
theorem dX7_about_122 : decode cX7_about 122 = .ok (.aload 5, 2) := by decide +kernel
theorem dX7_about_124 : decode cX7_about 124 = .ok (.getfield 160, 3) := by decide +kernel
theorem dX7_about_127 : decode cX7_about 127 = .ok (.arraylength, 1) := by decide +kernel
theorem dX7_about_128 : decode cX7_about 128 = .ok (.ireturn, 1) := by decide +kernel
theorem dX7_same_0 : decode cX7_same 0 = .ok (.iload_n 1, 1) := by decide +kernel
theorem dX7_same_1 : decode cX7_same 1 = .ok (.invokestatic 139, 3) := by decide +kernel
theorem dX7_same_4 : decode cX7_same 4 = .ok (.ifCond .eq 10, 3) := by decide +kernel
theorem dX7_same_7 : decode cX7_same 7 = .ok (.iload_n 2, 1) := by decide +kernel
theorem dX7_same_8 : decode cX7_same 8 = .ok (.invokestatic 139, 3) := by decide +kernel
theorem dX7_same_11 : decode cX7_same 11 = .ok (.ifCond .ne 5, 3) := by decide +kernel
theorem dX7_same_14 : decode cX7_same 14 = .ok (.iconst (-1), 1) := by decide +kernel
theorem dX7_same_15 : decode cX7_same 15 = .ok (.ireturn, 1) := by decide +kernel
theorem dX7_same_16 : decode cX7_same 16 = .ok (.aload_n 0, 1) := by decide +kernel
theorem dX7_same_17 : decode cX7_same 17 = .ok (.getfield 21, 3) := by decide +kernel
theorem dX7_same_20 : decode cX7_same 20 = .ok (.iload_n 1, 1) := by decide +kernel
theorem dX7_same_21 : decode cX7_same 21 = .ok (.aaload, 1) := by decide +kernel
theorem dX7_same_22 : decode cX7_same 22 = .ok (.aload_n 0, 1) := by decide +kernel
theorem dX7_same_23 : decode cX7_same 23 = .ok (.getfield 21, 3) := by decide +kernel
theorem dX7_same_26 : decode cX7_same 26 = .ok (.iload_n 2, 1) := by decide +kernel
theorem dX7_same_27 : decode cX7_same 27 = .ok (.aaload, 1) := by decide +kernel
theorem dX7_same_28 : decode cX7_same 28 = .ok (.if_acmp .ne 7, 3) := by decide +kernel
theorem dX7_same_31 : decode cX7_same 31 = .ok (.iconst 1, 1) := by decide +kernel
theorem dX7_same_32 : decode cX7_same 32 = .ok (.goto 4, 3) := by decide +kernel
theorem dX7_same_35 : decode cX7_same 35 = .ok (.iconst 0, 1) := by decide +kernel
theorem dX7_same_36 : decode cX7_same 36 = .ok (.ireturn, 1) := by decide +kernel
theorem dX7_see_0 : decode cX7_see 0 = .ok (.aload_n 0, 1) := by decide +kernel
theorem dX7_see_1 : decode cX7_see 1 = .ok (.aload_n 0, 1) := by decide +kernel
theorem dX7_see_2 : decode cX7_see 2 = .ok (.iload_n 1, 1) := by decide +kernel
theorem dX7_see_3 : decode cX7_see 3 = .ok (.iload_n 2, 1) := by decide +kernel
theorem dX7_see_4 : decode cX7_see 4 = .ok (.invokevirtual 166, 3) := by decide +kernel
theorem dX7_see_7 : decode cX7_see 7 = .ok (.putfield 44, 3) := by decide +kernel
theorem dX7_see_10 : decode cX7_see 10 = .ok (.aload_n 0, 1) := by decide +kernel
theorem dX7_see_11 : decode cX7_see 11 = .ok (.getfield 44, 3) := by decide +kernel
theorem dX7_see_14 : decode cX7_see 14 = .ok (.ifCond .ne 13, 3) := by decide +kernel
theorem dX7_see_17 : decode cX7_see 17 = .ok (.aload_n 0, 1) := by decide +kernel
theorem dX7_see_18 : decode cX7_see 18 = .ok (.getfield 40, 3) := by decide +kernel
theorem dX7_see_21 : decode cX7_see 21 = .ok (.invokevirtual 170, 3) := by decide +kernel
theorem dX7_see_24 : decode cX7_see 24 = .ok (.goto 4, 3) := by decide +kernel
theorem dX7_see_27 : decode cX7_see 27 = .ok (.lconst 0, 1) := by decide +kernel
theorem dX7_see_28 : decode cX7_see 28 = .ok (.lreturn, 1) := by decide +kernel
theorem dX7_put_0 : decode cX7_put 0 = .ok (.aload_n 0, 1) := by decide +kernel
theorem dX7_put_1 : decode cX7_put 1 = .ok (.aload_n 0, 1) := by decide +kernel
theorem dX7_put_2 : decode cX7_put 2 = .ok (.iload_n 1, 1) := by decide +kernel
theorem dX7_put_3 : decode cX7_put 3 = .ok (.iload_n 2, 1) := by decide +kernel
theorem dX7_put_4 : decode cX7_put 4 = .ok (.invokevirtual 166, 3) := by decide +kernel
theorem dX7_put_7 : decode cX7_put 7 = .ok (.putfield 44, 3) := by decide +kernel
theorem dX7_put_10 : decode cX7_put 10 = .ok (.aload_n 0, 1) := by decide +kernel
theorem dX7_put_11 : decode cX7_put 11 = .ok (.getfield 44, 3) := by decide +kernel
theorem dX7_put_14 : decode cX7_put 14 = .ok (.ifCond .ne 19, 3) := by decide +kernel
theorem dX7_put_17 : decode cX7_put 17 = .ok (.aload_n 0, 1) := by decide +kernel
theorem dX7_put_18 : decode cX7_put 18 = .ok (.getfield 40, 3) := by decide +kernel
theorem dX7_put_21 : decode cX7_put 21 = .ok (.getfield 174, 3) := by decide +kernel
theorem dX7_put_24 : decode cX7_put 24 = .ok (.ifCond .eq 9, 3) := by decide +kernel
theorem dX7_put_27 : decode cX7_put 27 = .ok (.aload_n 0, 1) := by decide +kernel
theorem dX7_put_28 : decode cX7_put 28 = .ok (.bipush 7, 2) := by decide +kernel
theorem dX7_put_30 : decode cX7_put 30 = .ok (.putfield 44, 3) := by decide +kernel
theorem dX7_put_33 : decode cX7_put 33 = .ok (.aload_n 0, 1) := by decide +kernel
theorem dX7_put_34 : decode cX7_put 34 = .ok (.getfield 44, 3) := by decide +kernel
theorem dX7_put_37 : decode cX7_put 37 = .ok (.ifCond .ne 11, 3) := by decide +kernel
theorem dX7_put_40 : decode cX7_put 40 = .ok (.aload_n 0, 1) := by decide +kernel
theorem dX7_put_41 : decode cX7_put 41 = .ok (.getfield 40, 3) := by decide +kernel
theorem dX7_put_44 : decode cX7_put 44 = .ok (.lload_n 3, 1) := by decide +kernel
theorem dX7_put_45 : decode cX7_put 45 = .ok (.invokevirtual 177, 3) := by decide +kernel
theorem dX7_put_48 : decode cX7_put 48 = .ok (.aload_n 0, 1) := by decide +kernel
theorem dX7_put_49 : decode cX7_put 49 = .ok (.getfield 44, 3) := by decide +kernel
theorem dX7_put_52 : decode cX7_put 52 = .ok (.ireturn, 1) := by decide +kernel
theorem dX7_that_0 : decode cX7_that 0 = .ok (.aload_n 0, 1) := by decide +kernel
theorem dX7_that_1 : decode cX7_that 1 = .ok (.aload_n 0, 1) := by decide +kernel
theorem dX7_that_2 : decode cX7_that 2 = .ok (.iload_n 1, 1) := by decide +kernel
theorem dX7_that_3 : decode cX7_that 3 = .ok (.iload_n 2, 1) := by decide +kernel
theorem dX7_that_4 : decode cX7_that 4 = .ok (.iload_n 3, 1) := by decide +kernel
theorem dX7_that_5 : decode cX7_that 5 = .ok (.invokevirtual 181, 3) := by decide +kernel
theorem dX7_that_8 : decode cX7_that 8 = .ok (.putfield 44, 3) := by decide +kernel
theorem dX7_that_11 : decode cX7_that 11 = .ok (.aload_n 0, 1) := by decide +kernel
theorem dX7_that_12 : decode cX7_that 12 = .ok (.getfield 44, 3) := by decide +kernel
theorem dX7_that_15 : decode cX7_that 15 = .ok (.ireturn, 1) := by decide +kernel
theorem dX7_constant_0 : decode cX7_constant 0 = .ok (.aload_n 0, 1) := by decide +kernel
theorem dX7_constant_1 : decode cX7_constant 1 = .ok (.iload_n 1, 1) := by decide +kernel
theorem dX7_constant_2 : decode cX7_constant 2 = .ok (.invokevirtual 47, 3) := by decide +kernel
theorem dX7_constant_5 : decode cX7_constant 5 = .ok (.astore_n 3, 1) := by decide +kernel
theorem dX7_constant_6 : decode cX7_constant 6 = .ok (.aload_n 3, 1) := by decide +kernel
theorem dX7_constant_7 : decode cX7_constant 7 = .ok (.ifnull 14, 3) := by decide +kernel
theorem dX7_constant_10 : decode cX7_constant 10 = .ok (.aload_n 3, 1) := by decide +kernel
theorem dX7_constant_11 : decode cX7_constant 11 = .ok (.getfield 66, 3) := by decide +kernel
theorem dX7_constant_14 : decode cX7_constant 14 = .ok (.iload_n 2, 1) := by decide +kernel
theorem dX7_constant_15 : decode cX7_constant 15 = .ok (.invokevirtual 184, 3) := by decide +kernel
theorem dX7_constant_18 : decode cX7_constant 18 = .ok (.ifCond .ne 10, 3) := by decide +kernel
theorem dX7_constant_21 : decode cX7_constant 21 = .ok (.aload_n 0, 1) := by decide +kernel
theorem dX7_constant_22 : decode cX7_constant 22 = .ok (.iconst (-1), 1) := by decide +kernel
theorem dX7_constant_23 : decode cX7_constant 23 = .ok (.putfield 44, 3) := by decide +kernel
theorem dX7_constant_26 : decode cX7_constant 26 = .ok (.lconst 0, 1) := by decide +kernel
theorem dX7_constant_27 : decode cX7_constant 27 = .ok (.lreturn, 1) := by decide +kernel
theorem dX7_constant_28 : decode cX7_constant 28 = .ok (.aload_n 0, 1) := by decide +kernel
theorem dX7_constant_29 : decode cX7_constant 29 = .ok (.iconst 0, 1) := by decide +kernel
theorem dX7_constant_30 : decode cX7_constant 30 = .ok (.putfield 44, 3) := by decide +kernel
theorem dX7_constant_33 : decode cX7_constant 33 = .ok (.aload_n 3, 1) := by decide +kernel
theorem dX7_constant_34 : decode cX7_constant 34 = .ok (.getfield 66, 3) := by decide +kernel
theorem dX7_constant_37 : decode cX7_constant 37 = .ok (.getfield 187, 3) := by decide +kernel
theorem dX7_constant_40 : decode cX7_constant 40 = .ok (.iload_n 2, 1) := by decide +kernel
theorem dX7_constant_41 : decode cX7_constant 41 = .ok (.laload, 1) := by decide +kernel
theorem dX7_constant_42 : decode cX7_constant 42 = .ok (.lreturn, 1) := by decide +kernel
theorem dX7_lambda_0 : decode cX7_lambda 0 = .ok (.iload_n 1, 1) := by decide +kernel
theorem dX7_lambda_1 : decode cX7_lambda 1 = .ok (.invokestatic 139, 3) := by decide +kernel
theorem dX7_lambda_4 : decode cX7_lambda 4 = .ok (.ifCond .ne 5, 3) := by decide +kernel
theorem dX7_lambda_7 : decode cX7_lambda 7 = .ok (.iconst (-1), 1) := by decide +kernel
theorem dX7_lambda_8 : decode cX7_lambda 8 = .ok (.ireturn, 1) := by decide +kernel
theorem dX7_lambda_9 : decode cX7_lambda 9 = .ok (.aload_n 0, 1) := by decide +kernel
theorem dX7_lambda_10 : decode cX7_lambda 10 = .ok (.getfield 21, 3) := by decide +kernel
theorem dX7_lambda_13 : decode cX7_lambda 13 = .ok (.iload_n 1, 1) := by decide +kernel
theorem dX7_lambda_14 : decode cX7_lambda 14 = .ok (.aaload, 1) := by decide +kernel
theorem dX7_lambda_15 : decode cX7_lambda 15 = .ok (.astore_n 3, 1) := by decide +kernel
theorem dX7_lambda_16 : decode cX7_lambda 16 = .ok (.aload_n 3, 1) := by decide +kernel
theorem dX7_lambda_17 : decode cX7_lambda 17 = .ok (.ifnonnull 6, 3) := by decide +kernel
theorem dX7_lambda_20 : decode cX7_lambda 20 = .ok (.bipush (-3), 2) := by decide +kernel
theorem dX7_lambda_22 : decode cX7_lambda 22 = .ok (.ireturn, 1) := by decide +kernel
theorem dX7_lambda_23 : decode cX7_lambda 23 = .ok (.aload_n 3, 1) := by decide +kernel
theorem dX7_lambda_24 : decode cX7_lambda 24 = .ok (.getfield 142, 3) := by decide +kernel
theorem dX7_lambda_27 : decode cX7_lambda 27 = .ok (.astore 4, 2) := by decide +kernel
theorem dX7_lambda_29 : decode cX7_lambda 29 = .ok (.iload_n 2, 1) := by decide +kernel
theorem dX7_lambda_30 : decode cX7_lambda 30 = .ok (.ifCond .lt 15, 3) := by decide +kernel
theorem dX7_lambda_33 : decode cX7_lambda 33 = .ok (.iload_n 2, 1) := by decide +kernel
theorem dX7_lambda_34 : decode cX7_lambda 34 = .ok (.aload 4, 2) := by decide +kernel
theorem dX7_lambda_36 : decode cX7_lambda 36 = .ok (.getfield 83, 3) := by decide +kernel
theorem dX7_lambda_39 : decode cX7_lambda 39 = .ok (.getfield 87, 3) := by decide +kernel
theorem dX7_lambda_42 : decode cX7_lambda 42 = .ok (.if_icmp .le 5, 3) := by decide +kernel
theorem dX7_lambda_45 : decode cX7_lambda 45 = .ok (.iconst (-1), 1) := by decide +kernel
theorem dX7_lambda_46 : decode cX7_lambda 46 = .ok (.ireturn, 1) := by decide +kernel
theorem dX7_lambda_47 : decode cX7_lambda 47 = .ok (.aload_n 0, 1) := by decide +kernel
theorem dX7_lambda_48 : decode cX7_lambda 48 = .ok (.getfield 34, 3) := by decide +kernel
theorem dX7_lambda_51 : decode cX7_lambda 51 = .ok (.bipush 6, 2) := by decide +kernel
theorem dX7_lambda_53 : decode cX7_lambda 53 = .ok (.if_icmp .lt 6, 3) := by decide +kernel
theorem dX7_lambda_56 : decode cX7_lambda 56 = .ok (.bipush (-2), 2) := by decide +kernel
theorem dX7_lambda_58 : decode cX7_lambda 58 = .ok (.ireturn, 1) := by decide +kernel
theorem dX7_lambda_59 : decode cX7_lambda 59 = .ok (.aload 4, 2) := by decide +kernel
theorem dX7_lambda_61 : decode cX7_lambda 61 = .ok (.getfield 106, 3) := by decide +kernel
theorem dX7_lambda_64 : decode cX7_lambda 64 = .ok (.ifCond .eq 7, 3) := by decide +kernel
theorem dX7_lambda_67 : decode cX7_lambda 67 = .ok (.aconst_null, 1) := by decide +kernel
theorem dX7_lambda_68 : decode cX7_lambda 68 = .ok (.goto 4, 3) := by decide +kernel
theorem dX7_lambda_71 : decode cX7_lambda 71 = .ok (.aload_n 3, 1) := by decide +kernel
theorem dX7_lambda_72 : decode cX7_lambda 72 = .ok (.astore 5, 2) := by decide +kernel
theorem dX7_lambda_74 : decode cX7_lambda 74 = .ok (.aload_n 0, 1) := by decide +kernel
theorem dX7_lambda_75 : decode cX7_lambda 75 = .ok (.getfield 30, 3) := by decide +kernel
theorem dX7_lambda_78 : decode cX7_lambda 78 = .ok (.aload_n 0, 1) := by decide +kernel
theorem dX7_lambda_79 : decode cX7_lambda 79 = .ok (.getfield 34, 3) := by decide +kernel
theorem dX7_lambda_82 : decode cX7_lambda 82 = .ok (.new 28, 3) := by decide +kernel
theorem dX7_lambda_85 : decode cX7_lambda 85 = .ok (.dup, 1) := by decide +kernel
theorem dX7_lambda_86 : decode cX7_lambda 86 = .ok (.aload 4, 2) := by decide +kernel
theorem dX7_lambda_88 : decode cX7_lambda 88 = .ok (.aload 5, 2) := by decide +kernel
theorem dX7_lambda_90 : decode cX7_lambda 90 = .ok (.aload 4, 2) := by decide +kernel
theorem dX7_lambda_92 : decode cX7_lambda 92 = .ok (.getfield 83, 3) := by decide +kernel
theorem dX7_lambda_95 : decode cX7_lambda 95 = .ok (.iload_n 2, 1) := by decide +kernel
theorem dX7_lambda_96 : decode cX7_lambda 96 = .ok (.invokevirtual 190, 3) := by decide +kernel
theorem dX7_lambda_99 : decode cX7_lambda 99 = .ok (.invokespecial 194, 3) := by decide +kernel
theorem dX7_lambda_102 : decode cX7_lambda 102 = .ok (.aastore, 1) := by decide +kernel
theorem dX7_lambda_103 : decode cX7_lambda 103 = .ok (.aload_n 0, 1) := by decide +kernel
theorem dX7_lambda_104 : decode cX7_lambda 104 = .ok (.dup, 1) := by decide +kernel
theorem dX7_lambda_105 : decode cX7_lambda 105 = .ok (.getfield 34, 3) := by decide +kernel
theorem dX7_lambda_108 : decode cX7_lambda 108 = .ok (.iconst 1, 1) := by decide +kernel
theorem dX7_lambda_109 : decode cX7_lambda 109 = .ok (.iadd, 1) := by decide +kernel
theorem dX7_lambda_110 : decode cX7_lambda 110 = .ok (.putfield 34, 3) := by decide +kernel
theorem dX7_lambda_113 : decode cX7_lambda 113 = .ok (.aload_n 0, 1) := by decide +kernel
theorem dX7_lambda_114 : decode cX7_lambda 114 = .ok (.getfield 34, 3) := by decide +kernel
theorem dX7_lambda_117 : decode cX7_lambda 117 = .ok (.iconst 1, 1) := by decide +kernel
theorem dX7_lambda_118 : decode cX7_lambda 118 = .ok (.isub, 1) := by decide +kernel
theorem dX7_lambda_119 : decode cX7_lambda 119 = .ok (.ireturn, 1) := by decide +kernel
theorem dX7_seen_0 : decode cX7_seen 0 = .ok (.aload_n 0, 1) := by decide +kernel
theorem dX7_seen_1 : decode cX7_seen 1 = .ok (.aload_n 0, 1) := by decide +kernel
theorem dX7_seen_2 : decode cX7_seen 2 = .ok (.iload_n 1, 1) := by decide +kernel
theorem dX7_seen_3 : decode cX7_seen 3 = .ok (.iload_n 2, 1) := by decide +kernel
theorem dX7_seen_4 : decode cX7_seen 4 = .ok (.invokevirtual 197, 3) := by decide +kernel
theorem dX7_seen_7 : decode cX7_seen 7 = .ok (.putfield 44, 3) := by decide +kernel
theorem dX7_seen_10 : decode cX7_seen 10 = .ok (.aload_n 0, 1) := by decide +kernel
theorem dX7_seen_11 : decode cX7_seen 11 = .ok (.getfield 44, 3) := by decide +kernel
theorem dX7_seen_14 : decode cX7_seen 14 = .ok (.ifCond .ne 13, 3) := by decide +kernel
theorem dX7_seen_17 : decode cX7_seen 17 = .ok (.aload_n 0, 1) := by decide +kernel
theorem dX7_seen_18 : decode cX7_seen 18 = .ok (.getfield 40, 3) := by decide +kernel
theorem dX7_seen_21 : decode cX7_seen 21 = .ok (.invokevirtual 170, 3) := by decide +kernel
theorem dX7_seen_24 : decode cX7_seen 24 = .ok (.goto 4, 3) := by decide +kernel
theorem dX7_seen_27 : decode cX7_seen 27 = .ok (.lconst 0, 1) := by decide +kernel
theorem dX7_seen_28 : decode cX7_seen 28 = .ok (.lreturn, 1) := by decide +kernel
theorem dX7_why_0 : decode cX7_why 0 = .ok (.aload_n 0, 1) := by decide +kernel
theorem dX7_why_1 : decode cX7_why 1 = .ok (.getfield 44, 3) := by decide +kernel
theorem dX7_why_4 : decode cX7_why 4 = .ok (.ireturn, 1) := by decide +kernel
theorem dX7_count_0 : decode cX7_count 0 = .ok (.iload_n 1, 1) := by decide +kernel
theorem dX7_count_1 : decode cX7_count 1 = .ok (.tableswitch 51 0 3 #[31, 36, 41, 46], 31) := by decide +kernel
theorem dX7_count_32 : decode cX7_count 32 = .ok (.aload_n 0, 1) := by decide +kernel
theorem dX7_count_33 : decode cX7_count 33 = .ok (.getfield 15, 3) := by decide +kernel
theorem dX7_count_36 : decode cX7_count 36 = .ok (.ireturn, 1) := by decide +kernel
theorem dX7_count_37 : decode cX7_count 37 = .ok (.aload_n 0, 1) := by decide +kernel
theorem dX7_count_38 : decode cX7_count 38 = .ok (.getfield 25, 3) := by decide +kernel
theorem dX7_count_41 : decode cX7_count 41 = .ok (.ireturn, 1) := by decide +kernel
theorem dX7_count_42 : decode cX7_count 42 = .ok (.aload_n 0, 1) := by decide +kernel
theorem dX7_count_43 : decode cX7_count 43 = .ok (.getfield 34, 3) := by decide +kernel
theorem dX7_count_46 : decode cX7_count 46 = .ok (.ireturn, 1) := by decide +kernel
theorem dX7_count_47 : decode cX7_count 47 = .ok (.aload_n 0, 1) := by decide +kernel
theorem dX7_count_48 : decode cX7_count 48 = .ok (.invokevirtual 200, 3) := by decide +kernel
theorem dX7_count_51 : decode cX7_count 51 = .ok (.ireturn, 1) := by decide +kernel
theorem dX7_count_52 : decode cX7_count 52 = .ok (.iconst (-1), 1) := by decide +kernel
theorem dX7_count_53 : decode cX7_count 53 = .ok (.ireturn, 1) := by decide +kernel
theorem dX7_typeAt_0 : decode cX7_typeAt 0 = .ok (.iload_n 1, 1) := by decide +kernel
theorem dX7_typeAt_1 : decode cX7_typeAt 1 = .ok (.ifCond .lt 20, 3) := by decide +kernel
theorem dX7_typeAt_4 : decode cX7_typeAt 4 = .ok (.iload_n 1, 1) := by decide +kernel
theorem dX7_typeAt_5 : decode cX7_typeAt 5 = .ok (.aload_n 0, 1) := by decide +kernel
theorem dX7_typeAt_6 : decode cX7_typeAt 6 = .ok (.getfield 15, 3) := by decide +kernel
theorem dX7_typeAt_9 : decode cX7_typeAt 9 = .ok (.if_icmp .ge 12, 3) := by decide +kernel
theorem dX7_typeAt_12 : decode cX7_typeAt 12 = .ok (.aload_n 0, 1) := by decide +kernel
theorem dX7_typeAt_13 : decode cX7_typeAt 13 = .ok (.getfield 11, 3) := by decide +kernel
theorem dX7_typeAt_16 : decode cX7_typeAt 16 = .ok (.iload_n 1, 1) := by decide +kernel
theorem dX7_typeAt_17 : decode cX7_typeAt 17 = .ok (.aaload, 1) := by decide +kernel
theorem dX7_typeAt_18 : decode cX7_typeAt 18 = .ok (.goto 4, 3) := by decide +kernel
theorem dX7_typeAt_21 : decode cX7_typeAt 21 = .ok (.aconst_null, 1) := by decide +kernel
theorem dX7_typeAt_22 : decode cX7_typeAt 22 = .ok (.areturn, 1) := by decide +kernel
theorem dX7_lambdaAt_0 : decode cX7_lambdaAt 0 = .ok (.iload_n 1, 1) := by decide +kernel
theorem dX7_lambdaAt_1 : decode cX7_lambdaAt 1 = .ok (.ifCond .lt 20, 3) := by decide +kernel
theorem dX7_lambdaAt_4 : decode cX7_lambdaAt 4 = .ok (.iload_n 1, 1) := by decide +kernel
theorem dX7_lambdaAt_5 : decode cX7_lambdaAt 5 = .ok (.aload_n 0, 1) := by decide +kernel
theorem dX7_lambdaAt_6 : decode cX7_lambdaAt 6 = .ok (.getfield 34, 3) := by decide +kernel
theorem dX7_lambdaAt_9 : decode cX7_lambdaAt 9 = .ok (.if_icmp .ge 12, 3) := by decide +kernel
theorem dX7_lambdaAt_12 : decode cX7_lambdaAt 12 = .ok (.aload_n 0, 1) := by decide +kernel
theorem dX7_lambdaAt_13 : decode cX7_lambdaAt 13 = .ok (.getfield 30, 3) := by decide +kernel
theorem dX7_lambdaAt_16 : decode cX7_lambdaAt 16 = .ok (.iload_n 1, 1) := by decide +kernel
theorem dX7_lambdaAt_17 : decode cX7_lambdaAt 17 = .ok (.aaload, 1) := by decide +kernel
theorem dX7_lambdaAt_18 : decode cX7_lambdaAt 18 = .ok (.goto 4, 3) := by decide +kernel
theorem dX7_lambdaAt_21 : decode cX7_lambdaAt 21 = .ok (.aconst_null, 1) := by decide +kernel
theorem dX7_lambdaAt_22 : decode cX7_lambdaAt 22 = .ok (.areturn, 1) := by decide +kernel
theorem dX7_isPlace_0 : decode cX7_isPlace 0 = .ok (.iload_n 0, 1) := by decide +kernel
theorem dX7_isPlace_1 : decode cX7_isPlace 1 = .ok (.ifCond .lt 13, 3) := by decide +kernel
theorem dX7_isPlace_4 : decode cX7_isPlace 4 = .ok (.iload_n 0, 1) := by decide +kernel
theorem dX7_isPlace_5 : decode cX7_isPlace 5 = .ok (.bipush 8, 2) := by decide +kernel
theorem dX7_isPlace_7 : decode cX7_isPlace 7 = .ok (.if_icmp .ge 7, 3) := by decide +kernel
theorem dX7_isPlace_10 : decode cX7_isPlace 10 = .ok (.iconst 1, 1) := by decide +kernel
theorem dX7_isPlace_11 : decode cX7_isPlace 11 = .ok (.goto 4, 3) := by decide +kernel
theorem dX7_isPlace_14 : decode cX7_isPlace 14 = .ok (.iconst 0, 1) := by decide +kernel
theorem dX7_isPlace_15 : decode cX7_isPlace 15 = .ok (.ireturn, 1) := by decide +kernel
theorem dX7_isName_0 : decode cX7_isName 0 = .ok (.iload_n 0, 1) := by decide +kernel
theorem dX7_isName_1 : decode cX7_isName 1 = .ok (.ifCond .lt 13, 3) := by decide +kernel
theorem dX7_isName_4 : decode cX7_isName 4 = .ok (.iload_n 0, 1) := by decide +kernel
theorem dX7_isName_5 : decode cX7_isName 5 = .ok (.bipush 8, 2) := by decide +kernel
theorem dX7_isName_7 : decode cX7_isName 7 = .ok (.if_icmp .ge 7, 3) := by decide +kernel
theorem dX7_isName_10 : decode cX7_isName 10 = .ok (.iconst 1, 1) := by decide +kernel
theorem dX7_isName_11 : decode cX7_isName 11 = .ok (.goto 4, 3) := by decide +kernel
theorem dX7_isName_14 : decode cX7_isName 14 = .ok (.iconst 0, 1) := by decide +kernel
theorem dX7_isName_15 : decode cX7_isName 15 = .ok (.ireturn, 1) := by decide +kernel
theorem dX7_heldPlaces_0 : decode cX7_heldPlaces 0 = .ok (.iconst 0, 1) := by decide +kernel
theorem dX7_heldPlaces_1 : decode cX7_heldPlaces 1 = .ok (.istore_n 1, 1) := by decide +kernel
theorem dX7_heldPlaces_2 : decode cX7_heldPlaces 2 = .ok (.iconst 0, 1) := by decide +kernel
theorem dX7_heldPlaces_3 : decode cX7_heldPlaces 3 = .ok (.istore_n 2, 1) := by decide +kernel
theorem dX7_heldPlaces_4 : decode cX7_heldPlaces 4 = .ok (.iload_n 2, 1) := by decide +kernel
theorem dX7_heldPlaces_5 : decode cX7_heldPlaces 5 = .ok (.bipush 8, 2) := by decide +kernel
theorem dX7_heldPlaces_7 : decode cX7_heldPlaces 7 = .ok (.if_icmp .ge 21, 3) := by decide +kernel
theorem dX7_heldPlaces_10 : decode cX7_heldPlaces 10 = .ok (.aload_n 0, 1) := by decide +kernel
theorem dX7_heldPlaces_11 : decode cX7_heldPlaces 11 = .ok (.getfield 21, 3) := by decide +kernel
theorem dX7_heldPlaces_14 : decode cX7_heldPlaces 14 = .ok (.iload_n 2, 1) := by decide +kernel
theorem dX7_heldPlaces_15 : decode cX7_heldPlaces 15 = .ok (.aaload, 1) := by decide +kernel
theorem dX7_heldPlaces_16 : decode cX7_heldPlaces 16 = .ok (.ifnull 6, 3) := by decide +kernel
theorem dX7_heldPlaces_19 : decode cX7_heldPlaces 19 = .ok (.iinc 1 1, 3) := by decide +kernel
theorem dX7_heldPlaces_22 : decode cX7_heldPlaces 22 = .ok (.iinc 2 1, 3) := by decide +kernel
theorem dX7_heldPlaces_25 : decode cX7_heldPlaces 25 = .ok (.goto (-21), 3) := by decide +kernel
theorem dX7_heldPlaces_28 : decode cX7_heldPlaces 28 = .ok (.iload_n 1, 1) := by decide +kernel
theorem dX7_heldPlaces_29 : decode cX7_heldPlaces 29 = .ok (.ireturn, 1) := by decide +kernel
theorem dX7_isMember_0 : decode cX7_isMember 0 = .ok (.iload_n 0, 1) := by decide +kernel
theorem dX7_isMember_1 : decode cX7_isMember 1 = .ok (.iconst 1, 1) := by decide +kernel
theorem dX7_isMember_2 : decode cX7_isMember 2 = .ok (.if_icmp .eq 8, 3) := by decide +kernel
theorem dX7_isMember_5 : decode cX7_isMember 5 = .ok (.iload_n 0, 1) := by decide +kernel
theorem dX7_isMember_6 : decode cX7_isMember 6 = .ok (.iconst 2, 1) := by decide +kernel
theorem dX7_isMember_7 : decode cX7_isMember 7 = .ok (.if_icmp .ne 7, 3) := by decide +kernel
theorem dX7_isMember_10 : decode cX7_isMember 10 = .ok (.iconst 1, 1) := by decide +kernel
theorem dX7_isMember_11 : decode cX7_isMember 11 = .ok (.goto 4, 3) := by decide +kernel
theorem dX7_isMember_14 : decode cX7_isMember 14 = .ok (.iconst 0, 1) := by decide +kernel
theorem dX7_isMember_15 : decode cX7_isMember 15 = .ok (.ireturn, 1) := by decide +kernel
theorem dX7_standsInMethod_0 : decode cX7_standsInMethod 0 = .ok (.iload_n 0, 1) := by decide +kernel
theorem dX7_standsInMethod_1 : decode cX7_standsInMethod 1 = .ok (.iconst 3, 1) := by decide +kernel
theorem dX7_standsInMethod_2 : decode cX7_standsInMethod 2 = .ok (.if_icmp .eq 13, 3) := by decide +kernel
theorem dX7_standsInMethod_5 : decode cX7_standsInMethod 5 = .ok (.iload_n 0, 1) := by decide +kernel
theorem dX7_standsInMethod_6 : decode cX7_standsInMethod 6 = .ok (.iconst 4, 1) := by decide +kernel
theorem dX7_standsInMethod_7 : decode cX7_standsInMethod 7 = .ok (.if_icmp .eq 8, 3) := by decide +kernel
theorem dX7_standsInMethod_10 : decode cX7_standsInMethod 10 = .ok (.iload_n 0, 1) := by decide +kernel
theorem dX7_standsInMethod_11 : decode cX7_standsInMethod 11 = .ok (.iconst 5, 1) := by decide +kernel
theorem dX7_standsInMethod_12 : decode cX7_standsInMethod 12 = .ok (.if_icmp .ne 7, 3) := by decide +kernel
theorem dX7_standsInMethod_15 : decode cX7_standsInMethod 15 = .ok (.iconst 1, 1) := by decide +kernel
theorem dX7_standsInMethod_16 : decode cX7_standsInMethod 16 = .ok (.goto 4, 3) := by decide +kernel
theorem dX7_standsInMethod_19 : decode cX7_standsInMethod 19 = .ok (.iconst 0, 1) := by decide +kernel
theorem dX7_standsInMethod_20 : decode cX7_standsInMethod 20 = .ok (.ireturn, 1) := by decide +kernel
theorem dX7_isLetterTaken_0 : decode cX7_isLetterTaken 0 = .ok (.iload_n 1, 1) := by decide +kernel
theorem dX7_isLetterTaken_1 : decode cX7_isLetterTaken 1 = .ok (.iconst 5, 1) := by decide +kernel
theorem dX7_isLetterTaken_2 : decode cX7_isLetterTaken 2 = .ok (.if_icmp .ne 5, 3) := by decide +kernel
theorem dX7_isLetterTaken_5 : decode cX7_isLetterTaken 5 = .ok (.iconst 0, 1) := by decide +kernel
theorem dX7_isLetterTaken_6 : decode cX7_isLetterTaken 6 = .ok (.ireturn, 1) := by decide +kernel
theorem dX7_isLetterTaken_7 : decode cX7_isLetterTaken 7 = .ok (.iload_n 1, 1) := by decide +kernel
theorem dX7_isLetterTaken_8 : decode cX7_isLetterTaken 8 = .ok (.ifCond .ne 9, 3) := by decide +kernel
theorem dX7_isLetterTaken_11 : decode cX7_isLetterTaken 11 = .ok (.aload_n 0, 1) := by decide +kernel
theorem dX7_isLetterTaken_12 : decode cX7_isLetterTaken 12 = .ok (.iload_n 3, 1) := by decide +kernel
theorem dX7_isLetterTaken_13 : decode cX7_isLetterTaken 13 = .ok (.invokevirtual 203, 3) := by decide +kernel
theorem dX7_isLetterTaken_16 : decode cX7_isLetterTaken 16 = .ok (.ireturn, 1) := by decide +kernel
theorem dX7_isLetterTaken_17 : decode cX7_isLetterTaken 17 = .ok (.iload_n 1, 1) := by decide +kernel
theorem dX7_isLetterTaken_18 : decode cX7_isLetterTaken 18 = .ok (.invokestatic 206, 3) := by decide +kernel
theorem dX7_isLetterTaken_21 : decode cX7_isLetterTaken 21 = .ok (.ifCond .eq 14, 3) := by decide +kernel
theorem dX7_isLetterTaken_24 : decode cX7_isLetterTaken 24 = .ok (.aload_n 0, 1) := by decide +kernel
theorem dX7_isLetterTaken_25 : decode cX7_isLetterTaken 25 = .ok (.aload_n 2, 1) := by decide +kernel
theorem dX7_isLetterTaken_26 : decode cX7_isLetterTaken 26 = .ok (.iload_n 3, 1) := by decide +kernel
theorem dX7_isLetterTaken_27 : decode cX7_isLetterTaken 27 = .ok (.invokevirtual 209, 3) := by decide +kernel
theorem dX7_isLetterTaken_30 : decode cX7_isLetterTaken 30 = .ok (.ifCond .eq 5, 3) := by decide +kernel
theorem dX7_isLetterTaken_33 : decode cX7_isLetterTaken 33 = .ok (.iconst 1, 1) := by decide +kernel
theorem dX7_isLetterTaken_34 : decode cX7_isLetterTaken 34 = .ok (.ireturn, 1) := by decide +kernel
theorem dX7_isLetterTaken_35 : decode cX7_isLetterTaken 35 = .ok (.aload_n 2, 1) := by decide +kernel
theorem dX7_isLetterTaken_36 : decode cX7_isLetterTaken 36 = .ok (.astore 4, 2) := by decide +kernel
theorem dX7_isLetterTaken_38 : decode cX7_isLetterTaken 38 = .ok (.iconst 0, 1) := by decide +kernel
theorem dX7_isLetterTaken_39 : decode cX7_isLetterTaken 39 = .ok (.istore 5, 2) := by decide +kernel
theorem dX7_isLetterTaken_41 : decode cX7_isLetterTaken 41 = .ok (.aload 4, 2) := by decide +kernel
theorem dX7_isLetterTaken_43 : decode cX7_isLetterTaken 43 = .ok (.ifnull 34, 3) := by decide +kernel
theorem dX7_isLetterTaken_46 : decode cX7_isLetterTaken 46 = .ok (.iload 5, 2) := by decide +kernel
theorem dX7_isLetterTaken_48 : decode cX7_isLetterTaken 48 = .ok (.bipush 12, 2) := by decide +kernel
theorem dX7_isLetterTaken_50 : decode cX7_isLetterTaken 50 = .ok (.if_icmp .ge 27, 3) := by decide +kernel
theorem dX7_isLetterTaken_53 : decode cX7_isLetterTaken 53 = .ok (.aload 4, 2) := by decide +kernel
theorem dX7_isLetterTaken_55 : decode cX7_isLetterTaken 55 = .ok (.getfield 213, 3) := by decide +kernel
theorem dX7_isLetterTaken_58 : decode cX7_isLetterTaken 58 = .ok (.iload_n 3, 1) := by decide +kernel
theorem dX7_isLetterTaken_59 : decode cX7_isLetterTaken 59 = .ok (.if_icmp .ne 5, 3) := by decide +kernel
theorem dX7_isLetterTaken_62 : decode cX7_isLetterTaken 62 = .ok (.iconst 1, 1) := by decide +kernel
theorem dX7_isLetterTaken_63 : decode cX7_isLetterTaken 63 = .ok (.ireturn, 1) := by decide +kernel
theorem dX7_isLetterTaken_64 : decode cX7_isLetterTaken 64 = .ok (.aload 4, 2) := by decide +kernel
theorem dX7_isLetterTaken_66 : decode cX7_isLetterTaken 66 = .ok (.getfield 216, 3) := by decide +kernel
theorem dX7_isLetterTaken_69 : decode cX7_isLetterTaken 69 = .ok (.astore 4, 2) := by decide +kernel
theorem dX7_isLetterTaken_71 : decode cX7_isLetterTaken 71 = .ok (.iinc 5 1, 3) := by decide +kernel
theorem dX7_isLetterTaken_74 : decode cX7_isLetterTaken 74 = .ok (.goto (-33), 3) := by decide +kernel
theorem dX7_isLetterTaken_77 : decode cX7_isLetterTaken 77 = .ok (.iconst 0, 1) := by decide +kernel
theorem dX7_isLetterTaken_78 : decode cX7_isLetterTaken 78 = .ok (.ireturn, 1) := by decide +kernel
theorem dX7_hasTopWith_0 : decode cX7_hasTopWith 0 = .ok (.iconst 0, 1) := by decide +kernel
theorem dX7_hasTopWith_1 : decode cX7_hasTopWith 1 = .ok (.istore_n 2, 1) := by decide +kernel
theorem dX7_hasTopWith_2 : decode cX7_hasTopWith 2 = .ok (.iload_n 2, 1) := by decide +kernel
theorem dX7_hasTopWith_3 : decode cX7_hasTopWith 3 = .ok (.aload_n 0, 1) := by decide +kernel
theorem dX7_hasTopWith_4 : decode cX7_hasTopWith 4 = .ok (.getfield 15, 3) := by decide +kernel
theorem dX7_hasTopWith_7 : decode cX7_hasTopWith 7 = .ok (.if_icmp .ge 37, 3) := by decide +kernel
theorem dX7_hasTopWith_10 : decode cX7_hasTopWith 10 = .ok (.aload_n 0, 1) := by decide +kernel
theorem dX7_hasTopWith_11 : decode cX7_hasTopWith 11 = .ok (.getfield 11, 3) := by decide +kernel
theorem dX7_hasTopWith_14 : decode cX7_hasTopWith 14 = .ok (.iload_n 2, 1) := by decide +kernel
theorem dX7_hasTopWith_15 : decode cX7_hasTopWith 15 = .ok (.aaload, 1) := by decide +kernel
theorem dX7_hasTopWith_16 : decode cX7_hasTopWith 16 = .ok (.astore_n 3, 1) := by decide +kernel
theorem dX7_hasTopWith_17 : decode cX7_hasTopWith 17 = .ok (.aload_n 3, 1) := by decide +kernel
theorem dX7_hasTopWith_18 : decode cX7_hasTopWith 18 = .ok (.ifnull 20, 3) := by decide +kernel
theorem dX7_hasTopWith_21 : decode cX7_hasTopWith 21 = .ok (.aload_n 3, 1) := by decide +kernel
theorem dX7_hasTopWith_22 : decode cX7_hasTopWith 22 = .ok (.getfield 110, 3) := by decide +kernel
theorem dX7_hasTopWith_25 : decode cX7_hasTopWith 25 = .ok (.ifCond .ne 13, 3) := by decide +kernel
theorem dX7_hasTopWith_28 : decode cX7_hasTopWith 28 = .ok (.aload_n 3, 1) := by decide +kernel
theorem dX7_hasTopWith_29 : decode cX7_hasTopWith 29 = .ok (.getfield 213, 3) := by decide +kernel
theorem dX7_hasTopWith_32 : decode cX7_hasTopWith 32 = .ok (.iload_n 1, 1) := by decide +kernel
theorem dX7_hasTopWith_33 : decode cX7_hasTopWith 33 = .ok (.if_icmp .ne 5, 3) := by decide +kernel
theorem dX7_hasTopWith_36 : decode cX7_hasTopWith 36 = .ok (.iconst 1, 1) := by decide +kernel
theorem dX7_hasTopWith_37 : decode cX7_hasTopWith 37 = .ok (.ireturn, 1) := by decide +kernel
theorem dX7_hasTopWith_38 : decode cX7_hasTopWith 38 = .ok (.iinc 2 1, 3) := by decide +kernel
theorem dX7_hasTopWith_41 : decode cX7_hasTopWith 41 = .ok (.goto (-39), 3) := by decide +kernel
theorem dX7_hasTopWith_44 : decode cX7_hasTopWith 44 = .ok (.iconst 0, 1) := by decide +kernel
theorem dX7_hasTopWith_45 : decode cX7_hasTopWith 45 = .ok (.ireturn, 1) := by decide +kernel
theorem dX7_hasMemberWith_0 : decode cX7_hasMemberWith 0 = .ok (.iconst 0, 1) := by decide +kernel
theorem dX7_hasMemberWith_1 : decode cX7_hasMemberWith 1 = .ok (.istore_n 3, 1) := by decide +kernel
theorem dX7_hasMemberWith_2 : decode cX7_hasMemberWith 2 = .ok (.iload_n 3, 1) := by decide +kernel
theorem dX7_hasMemberWith_3 : decode cX7_hasMemberWith 3 = .ok (.aload_n 0, 1) := by decide +kernel
theorem dX7_hasMemberWith_4 : decode cX7_hasMemberWith 4 = .ok (.getfield 15, 3) := by decide +kernel
theorem dX7_hasMemberWith_7 : decode cX7_hasMemberWith 7 = .ok (.if_icmp .ge 53, 3) := by decide +kernel
theorem dX7_hasMemberWith_10 : decode cX7_hasMemberWith 10 = .ok (.aload_n 0, 1) := by decide +kernel
theorem dX7_hasMemberWith_11 : decode cX7_hasMemberWith 11 = .ok (.getfield 11, 3) := by decide +kernel
theorem dX7_hasMemberWith_14 : decode cX7_hasMemberWith 14 = .ok (.iload_n 3, 1) := by decide +kernel
theorem dX7_hasMemberWith_15 : decode cX7_hasMemberWith 15 = .ok (.aaload, 1) := by decide +kernel
theorem dX7_hasMemberWith_16 : decode cX7_hasMemberWith 16 = .ok (.astore 4, 2) := by decide +kernel
theorem dX7_hasMemberWith_18 : decode cX7_hasMemberWith 18 = .ok (.aload 4, 2) := by decide +kernel
theorem dX7_hasMemberWith_20 : decode cX7_hasMemberWith 20 = .ok (.ifnull 34, 3) := by decide +kernel
theorem dX7_hasMemberWith_23 : decode cX7_hasMemberWith 23 = .ok (.aload 4, 2) := by decide +kernel
theorem dX7_hasMemberWith_25 : decode cX7_hasMemberWith 25 = .ok (.getfield 110, 3) := by decide +kernel
theorem dX7_hasMemberWith_28 : decode cX7_hasMemberWith 28 = .ok (.invokestatic 206, 3) := by decide +kernel
theorem dX7_hasMemberWith_31 : decode cX7_hasMemberWith 31 = .ok (.ifCond .eq 23, 3) := by decide +kernel
theorem dX7_hasMemberWith_34 : decode cX7_hasMemberWith 34 = .ok (.aload 4, 2) := by decide +kernel
theorem dX7_hasMemberWith_36 : decode cX7_hasMemberWith 36 = .ok (.getfield 216, 3) := by decide +kernel
theorem dX7_hasMemberWith_39 : decode cX7_hasMemberWith 39 = .ok (.aload_n 1, 1) := by decide +kernel
theorem dX7_hasMemberWith_40 : decode cX7_hasMemberWith 40 = .ok (.if_acmp .ne 14, 3) := by decide +kernel
theorem dX7_hasMemberWith_43 : decode cX7_hasMemberWith 43 = .ok (.aload 4, 2) := by decide +kernel
theorem dX7_hasMemberWith_45 : decode cX7_hasMemberWith 45 = .ok (.getfield 213, 3) := by decide +kernel
theorem dX7_hasMemberWith_48 : decode cX7_hasMemberWith 48 = .ok (.iload_n 2, 1) := by decide +kernel
theorem dX7_hasMemberWith_49 : decode cX7_hasMemberWith 49 = .ok (.if_icmp .ne 5, 3) := by decide +kernel
theorem dX7_hasMemberWith_52 : decode cX7_hasMemberWith 52 = .ok (.iconst 1, 1) := by decide +kernel
theorem dX7_hasMemberWith_53 : decode cX7_hasMemberWith 53 = .ok (.ireturn, 1) := by decide +kernel
theorem dX7_hasMemberWith_54 : decode cX7_hasMemberWith 54 = .ok (.iinc 3 1, 3) := by decide +kernel
theorem dX7_hasMemberWith_57 : decode cX7_hasMemberWith 57 = .ok (.goto (-55), 3) := by decide +kernel
theorem dX7_hasMemberWith_60 : decode cX7_hasMemberWith 60 = .ok (.iconst 0, 1) := by decide +kernel
theorem dX7_hasMemberWith_61 : decode cX7_hasMemberWith 61 = .ok (.ireturn, 1) := by decide +kernel
theorem dX7_twinNumber_0 : decode cX7_twinNumber 0 = .ok (.iload_n 1, 1) := by decide +kernel
theorem dX7_twinNumber_1 : decode cX7_twinNumber 1 = .ok (.invokestatic 219, 3) := by decide +kernel
theorem dX7_twinNumber_4 : decode cX7_twinNumber 4 = .ok (.ifCond .ne 5, 3) := by decide +kernel
theorem dX7_twinNumber_7 : decode cX7_twinNumber 7 = .ok (.iconst 0, 1) := by decide +kernel
theorem dX7_twinNumber_8 : decode cX7_twinNumber 8 = .ok (.ireturn, 1) := by decide +kernel
theorem dX7_twinNumber_9 : decode cX7_twinNumber 9 = .ok (.iconst 1, 1) := by decide +kernel
theorem dX7_twinNumber_10 : decode cX7_twinNumber 10 = .ok (.istore 4, 2) := by decide +kernel
theorem dX7_twinNumber_12 : decode cX7_twinNumber 12 = .ok (.iconst 0, 1) := by decide +kernel
theorem dX7_twinNumber_13 : decode cX7_twinNumber 13 = .ok (.istore 5, 2) := by decide +kernel
theorem dX7_twinNumber_15 : decode cX7_twinNumber 15 = .ok (.iload 5, 2) := by decide +kernel
theorem dX7_twinNumber_17 : decode cX7_twinNumber 17 = .ok (.aload_n 0, 1) := by decide +kernel
theorem dX7_twinNumber_18 : decode cX7_twinNumber 18 = .ok (.getfield 15, 3) := by decide +kernel
theorem dX7_twinNumber_21 : decode cX7_twinNumber 21 = .ok (.if_icmp .ge 55, 3) := by decide +kernel
theorem dX7_twinNumber_24 : decode cX7_twinNumber 24 = .ok (.aload_n 0, 1) := by decide +kernel
theorem dX7_twinNumber_25 : decode cX7_twinNumber 25 = .ok (.getfield 11, 3) := by decide +kernel
theorem dX7_twinNumber_28 : decode cX7_twinNumber 28 = .ok (.iload 5, 2) := by decide +kernel
theorem dX7_twinNumber_30 : decode cX7_twinNumber 30 = .ok (.aaload, 1) := by decide +kernel
theorem dX7_twinNumber_31 : decode cX7_twinNumber 31 = .ok (.astore 6, 2) := by decide +kernel
theorem dX7_twinNumber_33 : decode cX7_twinNumber 33 = .ok (.aload 6, 2) := by decide +kernel
theorem dX7_twinNumber_35 : decode cX7_twinNumber 35 = .ok (.ifnull 35, 3) := by decide +kernel
theorem dX7_twinNumber_38 : decode cX7_twinNumber 38 = .ok (.aload 6, 2) := by decide +kernel
theorem dX7_twinNumber_40 : decode cX7_twinNumber 40 = .ok (.getfield 110, 3) := by decide +kernel
theorem dX7_twinNumber_43 : decode cX7_twinNumber 43 = .ok (.invokestatic 219, 3) := by decide +kernel
theorem dX7_twinNumber_46 : decode cX7_twinNumber 46 = .ok (.ifCond .eq 24, 3) := by decide +kernel
theorem dX7_twinNumber_49 : decode cX7_twinNumber 49 = .ok (.aload 6, 2) := by decide +kernel
theorem dX7_twinNumber_51 : decode cX7_twinNumber 51 = .ok (.getfield 216, 3) := by decide +kernel
theorem dX7_twinNumber_54 : decode cX7_twinNumber 54 = .ok (.aload_n 2, 1) := by decide +kernel
theorem dX7_twinNumber_55 : decode cX7_twinNumber 55 = .ok (.if_acmp .ne 15, 3) := by decide +kernel
theorem dX7_twinNumber_58 : decode cX7_twinNumber 58 = .ok (.aload 6, 2) := by decide +kernel
theorem dX7_twinNumber_60 : decode cX7_twinNumber 60 = .ok (.getfield 213, 3) := by decide +kernel
theorem dX7_twinNumber_63 : decode cX7_twinNumber 63 = .ok (.iload_n 3, 1) := by decide +kernel
theorem dX7_twinNumber_64 : decode cX7_twinNumber 64 = .ok (.if_icmp .ne 6, 3) := by decide +kernel
theorem dX7_twinNumber_67 : decode cX7_twinNumber 67 = .ok (.iinc 4 1, 3) := by decide +kernel
theorem dX7_twinNumber_70 : decode cX7_twinNumber 70 = .ok (.iinc 5 1, 3) := by decide +kernel
theorem dX7_twinNumber_73 : decode cX7_twinNumber 73 = .ok (.goto (-58), 3) := by decide +kernel
theorem dX7_twinNumber_76 : decode cX7_twinNumber 76 = .ok (.iload 4, 2) := by decide +kernel
theorem dX7_twinNumber_78 : decode cX7_twinNumber 78 = .ok (.ireturn, 1) := by decide +kernel
theorem dX7_hasTypeInMethod_0 : decode cX7_hasTypeInMethod 0 = .ok (.iconst 0, 1) := by decide +kernel
theorem dX7_hasTypeInMethod_1 : decode cX7_hasTypeInMethod 1 = .ok (.istore_n 2, 1) := by decide +kernel
theorem dX7_hasTypeInMethod_2 : decode cX7_hasTypeInMethod 2 = .ok (.iload_n 2, 1) := by decide +kernel
theorem dX7_hasTypeInMethod_3 : decode cX7_hasTypeInMethod 3 = .ok (.aload_n 0, 1) := by decide +kernel
theorem dX7_hasTypeInMethod_4 : decode cX7_hasTypeInMethod 4 = .ok (.getfield 15, 3) := by decide +kernel
theorem dX7_hasTypeInMethod_7 : decode cX7_hasTypeInMethod 7 = .ok (.if_icmp .ge 40, 3) := by decide +kernel
theorem dX7_hasTypeInMethod_10 : decode cX7_hasTypeInMethod 10 = .ok (.aload_n 0, 1) := by decide +kernel
theorem dX7_hasTypeInMethod_11 : decode cX7_hasTypeInMethod 11 = .ok (.getfield 11, 3) := by decide +kernel
theorem dX7_hasTypeInMethod_14 : decode cX7_hasTypeInMethod 14 = .ok (.iload_n 2, 1) := by decide +kernel
theorem dX7_hasTypeInMethod_15 : decode cX7_hasTypeInMethod 15 = .ok (.aaload, 1) := by decide +kernel
theorem dX7_hasTypeInMethod_16 : decode cX7_hasTypeInMethod 16 = .ok (.astore_n 3, 1) := by decide +kernel
theorem dX7_hasTypeInMethod_17 : decode cX7_hasTypeInMethod 17 = .ok (.aload_n 3, 1) := by decide +kernel
theorem dX7_hasTypeInMethod_18 : decode cX7_hasTypeInMethod 18 = .ok (.ifnull 23, 3) := by decide +kernel
theorem dX7_hasTypeInMethod_21 : decode cX7_hasTypeInMethod 21 = .ok (.aload_n 3, 1) := by decide +kernel
theorem dX7_hasTypeInMethod_22 : decode cX7_hasTypeInMethod 22 = .ok (.getfield 110, 3) := by decide +kernel
theorem dX7_hasTypeInMethod_25 : decode cX7_hasTypeInMethod 25 = .ok (.invokestatic 219, 3) := by decide +kernel
theorem dX7_hasTypeInMethod_28 : decode cX7_hasTypeInMethod 28 = .ok (.ifCond .eq 13, 3) := by decide +kernel
theorem dX7_hasTypeInMethod_31 : decode cX7_hasTypeInMethod 31 = .ok (.aload_n 3, 1) := by decide +kernel
theorem dX7_hasTypeInMethod_32 : decode cX7_hasTypeInMethod 32 = .ok (.getfield 216, 3) := by decide +kernel
theorem dX7_hasTypeInMethod_35 : decode cX7_hasTypeInMethod 35 = .ok (.aload_n 1, 1) := by decide +kernel
theorem dX7_hasTypeInMethod_36 : decode cX7_hasTypeInMethod 36 = .ok (.if_acmp .ne 5, 3) := by decide +kernel
theorem dX7_hasTypeInMethod_39 : decode cX7_hasTypeInMethod 39 = .ok (.iconst 1, 1) := by decide +kernel
theorem dX7_hasTypeInMethod_40 : decode cX7_hasTypeInMethod 40 = .ok (.ireturn, 1) := by decide +kernel
theorem dX7_hasTypeInMethod_41 : decode cX7_hasTypeInMethod 41 = .ok (.iinc 2 1, 3) := by decide +kernel
theorem dX7_hasTypeInMethod_44 : decode cX7_hasTypeInMethod 44 = .ok (.goto (-42), 3) := by decide +kernel
theorem dX7_hasTypeInMethod_47 : decode cX7_hasTypeInMethod 47 = .ok (.iconst 0, 1) := by decide +kernel
theorem dX7_hasTypeInMethod_48 : decode cX7_hasTypeInMethod 48 = .ok (.ireturn, 1) := by decide +kernel
theorem dX7_isSameOrAbove_0 : decode cX7_isSameOrAbove 0 = .ok (.aload_n 1, 1) := by decide +kernel
theorem dX7_isSameOrAbove_1 : decode cX7_isSameOrAbove 1 = .ok (.astore_n 2, 1) := by decide +kernel
theorem dX7_isSameOrAbove_2 : decode cX7_isSameOrAbove 2 = .ok (.iconst 0, 1) := by decide +kernel
theorem dX7_isSameOrAbove_3 : decode cX7_isSameOrAbove 3 = .ok (.istore_n 3, 1) := by decide +kernel
theorem dX7_isSameOrAbove_4 : decode cX7_isSameOrAbove 4 = .ok (.aload_n 2, 1) := by decide +kernel
theorem dX7_isSameOrAbove_5 : decode cX7_isSameOrAbove 5 = .ok (.ifnull 27, 3) := by decide +kernel
theorem dX7_isSameOrAbove_8 : decode cX7_isSameOrAbove 8 = .ok (.iload_n 3, 1) := by decide +kernel
theorem dX7_isSameOrAbove_9 : decode cX7_isSameOrAbove 9 = .ok (.bipush 12, 2) := by decide +kernel
theorem dX7_isSameOrAbove_11 : decode cX7_isSameOrAbove 11 = .ok (.if_icmp .ge 21, 3) := by decide +kernel
theorem dX7_isSameOrAbove_14 : decode cX7_isSameOrAbove 14 = .ok (.aload_n 2, 1) := by decide +kernel
theorem dX7_isSameOrAbove_15 : decode cX7_isSameOrAbove 15 = .ok (.aload_n 0, 1) := by decide +kernel
theorem dX7_isSameOrAbove_16 : decode cX7_isSameOrAbove 16 = .ok (.if_acmp .ne 5, 3) := by decide +kernel
theorem dX7_isSameOrAbove_19 : decode cX7_isSameOrAbove 19 = .ok (.iconst 1, 1) := by decide +kernel
theorem dX7_isSameOrAbove_20 : decode cX7_isSameOrAbove 20 = .ok (.ireturn, 1) := by decide +kernel
theorem dX7_isSameOrAbove_21 : decode cX7_isSameOrAbove 21 = .ok (.aload_n 2, 1) := by decide +kernel
theorem dX7_isSameOrAbove_22 : decode cX7_isSameOrAbove 22 = .ok (.getfield 113, 3) := by decide +kernel
theorem dX7_isSameOrAbove_25 : decode cX7_isSameOrAbove 25 = .ok (.astore_n 2, 1) := by decide +kernel
theorem dX7_isSameOrAbove_26 : decode cX7_isSameOrAbove 26 = .ok (.iinc 3 1, 3) := by decide +kernel
theorem dX7_isSameOrAbove_29 : decode cX7_isSameOrAbove 29 = .ok (.goto (-25), 3) := by decide +kernel
theorem dX7_isSameOrAbove_32 : decode cX7_isSameOrAbove 32 = .ok (.iconst 0, 1) := by decide +kernel
theorem dX7_isSameOrAbove_33 : decode cX7_isSameOrAbove 33 = .ok (.ireturn, 1) := by decide +kernel
theorem dX7_makeInto_0 : decode cX7_makeInto 0 = .ok (.aload_n 0, 1) := by decide +kernel
theorem dX7_makeInto_1 : decode cX7_makeInto 1 = .ok (.iload_n 1, 1) := by decide +kernel
theorem dX7_makeInto_2 : decode cX7_makeInto 2 = .ok (.invokevirtual 47, 3) := by decide +kernel
theorem dX7_makeInto_5 : decode cX7_makeInto 5 = .ok (.astore 4, 2) := by decide +kernel
theorem dX7_makeInto_7 : decode cX7_makeInto 7 = .ok (.aload 4, 2) := by decide +kernel
theorem dX7_makeInto_9 : decode cX7_makeInto 9 = .ok (.ifnull 10, 3) := by decide +kernel
theorem dX7_makeInto_12 : decode cX7_makeInto 12 = .ok (.iload_n 3, 1) := by decide +kernel
theorem dX7_makeInto_13 : decode cX7_makeInto 13 = .ok (.invokestatic 139, 3) := by decide +kernel
theorem dX7_makeInto_16 : decode cX7_makeInto 16 = .ok (.ifCond .ne 5, 3) := by decide +kernel
theorem dX7_makeInto_19 : decode cX7_makeInto 19 = .ok (.iconst (-1), 1) := by decide +kernel
theorem dX7_makeInto_20 : decode cX7_makeInto 20 = .ok (.ireturn, 1) := by decide +kernel
theorem dX7_makeInto_21 : decode cX7_makeInto 21 = .ok (.aconst_null, 1) := by decide +kernel
theorem dX7_makeInto_22 : decode cX7_makeInto 22 = .ok (.astore 5, 2) := by decide +kernel
theorem dX7_makeInto_24 : decode cX7_makeInto 24 = .ok (.aload 4, 2) := by decide +kernel
theorem dX7_makeInto_26 : decode cX7_makeInto 26 = .ok (.getfield 222, 3) := by decide +kernel
theorem dX7_makeInto_29 : decode cX7_makeInto 29 = .ok (.ifCond .eq 42, 3) := by decide +kernel
theorem dX7_makeInto_32 : decode cX7_makeInto 32 = .ok (.iload_n 2, 1) := by decide +kernel
theorem dX7_makeInto_33 : decode cX7_makeInto 33 = .ok (.invokestatic 139, 3) := by decide +kernel
theorem dX7_makeInto_36 : decode cX7_makeInto 36 = .ok (.ifCond .ne 5, 3) := by decide +kernel
theorem dX7_makeInto_39 : decode cX7_makeInto 39 = .ok (.iconst (-1), 1) := by decide +kernel
theorem dX7_makeInto_40 : decode cX7_makeInto 40 = .ok (.ireturn, 1) := by decide +kernel
theorem dX7_makeInto_41 : decode cX7_makeInto 41 = .ok (.aload_n 0, 1) := by decide +kernel
theorem dX7_makeInto_42 : decode cX7_makeInto 42 = .ok (.getfield 21, 3) := by decide +kernel
theorem dX7_makeInto_45 : decode cX7_makeInto 45 = .ok (.iload_n 2, 1) := by decide +kernel
theorem dX7_makeInto_46 : decode cX7_makeInto 46 = .ok (.aaload, 1) := by decide +kernel
theorem dX7_makeInto_47 : decode cX7_makeInto 47 = .ok (.astore 5, 2) := by decide +kernel
theorem dX7_makeInto_49 : decode cX7_makeInto 49 = .ok (.aload 5, 2) := by decide +kernel
theorem dX7_makeInto_51 : decode cX7_makeInto 51 = .ok (.ifnonnull 5, 3) := by decide +kernel
theorem dX7_makeInto_54 : decode cX7_makeInto 54 = .ok (.iconst 1, 1) := by decide +kernel
theorem dX7_makeInto_55 : decode cX7_makeInto 55 = .ok (.ireturn, 1) := by decide +kernel
theorem dX7_makeInto_56 : decode cX7_makeInto 56 = .ok (.aload 5, 2) := by decide +kernel
theorem dX7_makeInto_58 : decode cX7_makeInto 58 = .ok (.aload 4, 2) := by decide +kernel
theorem dX7_makeInto_60 : decode cX7_makeInto 60 = .ok (.getfield 216, 3) := by decide +kernel
theorem dX7_makeInto_63 : decode cX7_makeInto 63 = .ok (.invokevirtual 156, 3) := by decide +kernel
theorem dX7_makeInto_66 : decode cX7_makeInto 66 = .ok (.ifnonnull 5, 3) := by decide +kernel
theorem dX7_makeInto_69 : decode cX7_makeInto 69 = .ok (.iconst 2, 1) := by decide +kernel
theorem dX7_makeInto_70 : decode cX7_makeInto 70 = .ok (.ireturn, 1) := by decide +kernel
theorem dX7_makeInto_71 : decode cX7_makeInto 71 = .ok (.aload 4, 2) := by decide +kernel
theorem dX7_makeInto_73 : decode cX7_makeInto 73 = .ok (.aload 5, 2) := by decide +kernel
theorem dX7_makeInto_75 : decode cX7_makeInto 75 = .ok (.invokestatic 225, 3) := by decide +kernel
theorem dX7_makeInto_78 : decode cX7_makeInto 78 = .ok (.astore 6, 2) := by decide +kernel
theorem dX7_makeInto_80 : decode cX7_makeInto 80 = .ok (.aload 6, 2) := by decide +kernel
theorem dX7_makeInto_82 : decode cX7_makeInto 82 = .ok (.ifnonnull 5, 3) := by decide +kernel
theorem dX7_makeInto_85 : decode cX7_makeInto 85 = .ok (.iconst 3, 1) := by decide +kernel
theorem dX7_makeInto_86 : decode cX7_makeInto 86 = .ok (.ireturn, 1) := by decide +kernel
theorem dX7_makeInto_87 : decode cX7_makeInto 87 = .ok (.aload_n 0, 1) := by decide +kernel
theorem dX7_makeInto_88 : decode cX7_makeInto 88 = .ok (.getfield 21, 3) := by decide +kernel
theorem dX7_makeInto_91 : decode cX7_makeInto 91 = .ok (.iload_n 3, 1) := by decide +kernel
theorem dX7_makeInto_92 : decode cX7_makeInto 92 = .ok (.new 19, 3) := by decide +kernel
theorem dX7_makeInto_95 : decode cX7_makeInto 95 = .ok (.dup, 1) := by decide +kernel
theorem dX7_makeInto_96 : decode cX7_makeInto 96 = .ok (.aload 4, 2) := by decide +kernel
theorem dX7_makeInto_98 : decode cX7_makeInto 98 = .ok (.aload 6, 2) := by decide +kernel
theorem dX7_makeInto_100 : decode cX7_makeInto 100 = .ok (.invokespecial 229, 3) := by decide +kernel
theorem dX7_makeInto_103 : decode cX7_makeInto 103 = .ok (.aastore, 1) := by decide +kernel
theorem dX7_makeInto_104 : decode cX7_makeInto 104 = .ok (.aload_n 0, 1) := by decide +kernel
theorem dX7_makeInto_105 : decode cX7_makeInto 105 = .ok (.dup, 1) := by decide +kernel
theorem dX7_makeInto_106 : decode cX7_makeInto 106 = .ok (.getfield 25, 3) := by decide +kernel
theorem dX7_makeInto_109 : decode cX7_makeInto 109 = .ok (.iconst 1, 1) := by decide +kernel
theorem dX7_makeInto_110 : decode cX7_makeInto 110 = .ok (.iadd, 1) := by decide +kernel
theorem dX7_makeInto_111 : decode cX7_makeInto 111 = .ok (.putfield 25, 3) := by decide +kernel
theorem dX7_makeInto_114 : decode cX7_makeInto 114 = .ok (.iconst 0, 1) := by decide +kernel
theorem dX7_makeInto_115 : decode cX7_makeInto 115 = .ok (.ireturn, 1) := by decide +kernel
theorem dX7_levelCount_0 : decode cX7_levelCount 0 = .ok (.iconst 0, 1) := by decide +kernel
theorem dX7_levelCount_1 : decode cX7_levelCount 1 = .ok (.istore_n 1, 1) := by decide +kernel
theorem dX7_levelCount_2 : decode cX7_levelCount 2 = .ok (.aload_n 0, 1) := by decide +kernel
theorem dX7_levelCount_3 : decode cX7_levelCount 3 = .ok (.astore_n 2, 1) := by decide +kernel
theorem dX7_levelCount_4 : decode cX7_levelCount 4 = .ok (.aload_n 2, 1) := by decide +kernel
theorem dX7_levelCount_5 : decode cX7_levelCount 5 = .ok (.ifnull 20, 3) := by decide +kernel
theorem dX7_levelCount_8 : decode cX7_levelCount 8 = .ok (.iload_n 1, 1) := by decide +kernel
theorem dX7_levelCount_9 : decode cX7_levelCount 9 = .ok (.bipush 12, 2) := by decide +kernel
theorem dX7_levelCount_11 : decode cX7_levelCount 11 = .ok (.if_icmp .ge 14, 3) := by decide +kernel
theorem dX7_levelCount_14 : decode cX7_levelCount 14 = .ok (.iinc 1 1, 3) := by decide +kernel
theorem dX7_levelCount_17 : decode cX7_levelCount 17 = .ok (.aload_n 2, 1) := by decide +kernel
theorem dX7_levelCount_18 : decode cX7_levelCount 18 = .ok (.getfield 113, 3) := by decide +kernel
theorem dX7_levelCount_21 : decode cX7_levelCount 21 = .ok (.astore_n 2, 1) := by decide +kernel
theorem dX7_levelCount_22 : decode cX7_levelCount 22 = .ok (.goto (-18), 3) := by decide +kernel
theorem dX7_levelCount_25 : decode cX7_levelCount 25 = .ok (.iload_n 1, 1) := by decide +kernel
theorem dX7_levelCount_26 : decode cX7_levelCount 26 = .ok (.ireturn, 1) := by decide +kernel
theorem dX7_levelsFor_0 : decode cX7_levelsFor 0 = .ok (.aload_n 0, 1) := by decide +kernel
theorem dX7_levelsFor_1 : decode cX7_levelsFor 1 = .ok (.invokestatic 232, 3) := by decide +kernel
theorem dX7_levelsFor_4 : decode cX7_levelsFor 4 = .ok (.anewarray 161, 3) := by decide +kernel
theorem dX7_levelsFor_7 : decode cX7_levelsFor 7 = .ok (.astore_n 2, 1) := by decide +kernel
theorem dX7_levelsFor_8 : decode cX7_levelsFor 8 = .ok (.aload_n 0, 1) := by decide +kernel
theorem dX7_levelsFor_9 : decode cX7_levelsFor 9 = .ok (.astore_n 3, 1) := by decide +kernel
theorem dX7_levelsFor_10 : decode cX7_levelsFor 10 = .ok (.iconst 0, 1) := by decide +kernel
theorem dX7_levelsFor_11 : decode cX7_levelsFor 11 = .ok (.istore 4, 2) := by decide +kernel
theorem dX7_levelsFor_13 : decode cX7_levelsFor 13 = .ok (.iload 4, 2) := by decide +kernel
theorem dX7_levelsFor_15 : decode cX7_levelsFor 15 = .ok (.aload_n 2, 1) := by decide +kernel
theorem dX7_levelsFor_16 : decode cX7_levelsFor 16 = .ok (.arraylength, 1) := by decide +kernel
theorem dX7_levelsFor_17 : decode cX7_levelsFor 17 = .ok (.if_icmp .ge 69, 3) := by decide +kernel
theorem dX7_levelsFor_20 : decode cX7_levelsFor 20 = .ok (.aload_n 3, 1) := by decide +kernel
theorem dX7_levelsFor_21 : decode cX7_levelsFor 21 = .ok (.ifnull 65, 3) := by decide +kernel
theorem dX7_levelsFor_24 : decode cX7_levelsFor 24 = .ok (.aconst_null, 1) := by decide +kernel
theorem dX7_levelsFor_25 : decode cX7_levelsFor 25 = .ok (.astore 5, 2) := by decide +kernel
theorem dX7_levelsFor_27 : decode cX7_levelsFor 27 = .ok (.aload_n 3, 1) := by decide +kernel
theorem dX7_levelsFor_28 : decode cX7_levelsFor 28 = .ok (.getfield 222, 3) := by decide +kernel
theorem dX7_levelsFor_31 : decode cX7_levelsFor 31 = .ok (.ifCond .eq 30, 3) := by decide +kernel
theorem dX7_levelsFor_34 : decode cX7_levelsFor 34 = .ok (.iload 4, 2) := by decide +kernel
theorem dX7_levelsFor_36 : decode cX7_levelsFor 36 = .ok (.ifCond .ne 7, 3) := by decide +kernel
theorem dX7_levelsFor_39 : decode cX7_levelsFor 39 = .ok (.aload_n 1, 1) := by decide +kernel
theorem dX7_levelsFor_40 : decode cX7_levelsFor 40 = .ok (.goto 12, 3) := by decide +kernel
theorem dX7_levelsFor_43 : decode cX7_levelsFor 43 = .ok (.aload_n 3, 1) := by decide +kernel
theorem dX7_levelsFor_44 : decode cX7_levelsFor 44 = .ok (.getfield 216, 3) := by decide +kernel
theorem dX7_levelsFor_47 : decode cX7_levelsFor 47 = .ok (.aload_n 0, 1) := by decide +kernel
theorem dX7_levelsFor_48 : decode cX7_levelsFor 48 = .ok (.aload_n 1, 1) := by decide +kernel
theorem dX7_levelsFor_49 : decode cX7_levelsFor 49 = .ok (.invokestatic 236, 3) := by decide +kernel
theorem dX7_levelsFor_52 : decode cX7_levelsFor 52 = .ok (.astore 5, 2) := by decide +kernel
theorem dX7_levelsFor_54 : decode cX7_levelsFor 54 = .ok (.aload 5, 2) := by decide +kernel
theorem dX7_levelsFor_56 : decode cX7_levelsFor 56 = .ok (.ifnonnull 5, 3) := by decide +kernel
theorem dX7_levelsFor_59 : decode cX7_levelsFor 59 = .ok (.aconst_null, 1) := by decide +kernel
theorem dX7_levelsFor_60 : decode cX7_levelsFor 60 = .ok (.areturn, 1) := by decide +kernel
theorem dX7_levelsFor_61 : decode cX7_levelsFor 61 = .ok (.aload_n 2, 1) := by decide +kernel
theorem dX7_levelsFor_62 : decode cX7_levelsFor 62 = .ok (.iload 4, 2) := by decide +kernel
theorem dX7_levelsFor_64 : decode cX7_levelsFor 64 = .ok (.new 161, 3) := by decide +kernel
theorem dX7_levelsFor_67 : decode cX7_levelsFor 67 = .ok (.dup, 1) := by decide +kernel
theorem dX7_levelsFor_68 : decode cX7_levelsFor 68 = .ok (.aload_n 3, 1) := by decide +kernel
theorem dX7_levelsFor_69 : decode cX7_levelsFor 69 = .ok (.aload 5, 2) := by decide +kernel
theorem dX7_levelsFor_71 : decode cX7_levelsFor 71 = .ok (.invokespecial 240, 3) := by decide +kernel
theorem dX7_levelsFor_74 : decode cX7_levelsFor 74 = .ok (.aastore, 1) := by decide +kernel
theorem dX7_levelsFor_75 : decode cX7_levelsFor 75 = .ok (.aload_n 3, 1) := by decide +kernel
theorem dX7_levelsFor_76 : decode cX7_levelsFor 76 = .ok (.getfield 113, 3) := by decide +kernel
theorem dX7_levelsFor_79 : decode cX7_levelsFor 79 = .ok (.astore_n 3, 1) := by decide +kernel
theorem dX7_levelsFor_80 : decode cX7_levelsFor 80 = .ok (.iinc 4 1, 3) := by decide +kernel
theorem dX7_levelsFor_83 : decode cX7_levelsFor 83 = .ok (.goto (-70), 3) := by decide +kernel
theorem dX7_levelsFor_86 : decode cX7_levelsFor 86 = .ok (.aload_n 2, 1) := by decide +kernel
theorem dX7_levelsFor_87 : decode cX7_levelsFor 87 = .ok (.areturn, 1) := by decide +kernel
theorem dX7_nearestOf_0 : decode cX7_nearestOf 0 = .ok (.aload_n 2, 1) := by decide +kernel
theorem dX7_nearestOf_1 : decode cX7_nearestOf 1 = .ok (.astore_n 3, 1) := by decide +kernel
theorem dX7_nearestOf_2 : decode cX7_nearestOf 2 = .ok (.aload_n 1, 1) := by decide +kernel
theorem dX7_nearestOf_3 : decode cX7_nearestOf 3 = .ok (.getfield 216, 3) := by decide +kernel
theorem dX7_nearestOf_6 : decode cX7_nearestOf 6 = .ok (.astore 4, 2) := by decide +kernel
theorem dX7_nearestOf_8 : decode cX7_nearestOf 8 = .ok (.iconst 0, 1) := by decide +kernel
theorem dX7_nearestOf_9 : decode cX7_nearestOf 9 = .ok (.istore 5, 2) := by decide +kernel
theorem dX7_nearestOf_11 : decode cX7_nearestOf 11 = .ok (.aload_n 3, 1) := by decide +kernel
theorem dX7_nearestOf_12 : decode cX7_nearestOf 12 = .ok (.ifnull 45, 3) := by decide +kernel
theorem dX7_nearestOf_15 : decode cX7_nearestOf 15 = .ok (.aload 4, 2) := by decide +kernel
theorem dX7_nearestOf_17 : decode cX7_nearestOf 17 = .ok (.ifnull 40, 3) := by decide +kernel
theorem dX7_nearestOf_20 : decode cX7_nearestOf 20 = .ok (.iload 5, 2) := by decide +kernel
theorem dX7_nearestOf_22 : decode cX7_nearestOf 22 = .ok (.bipush 12, 2) := by decide +kernel
theorem dX7_nearestOf_24 : decode cX7_nearestOf 24 = .ok (.if_icmp .ge 33, 3) := by decide +kernel
theorem dX7_nearestOf_27 : decode cX7_nearestOf 27 = .ok (.aload_n 3, 1) := by decide +kernel
theorem dX7_nearestOf_28 : decode cX7_nearestOf 28 = .ok (.aload_n 0, 1) := by decide +kernel
theorem dX7_nearestOf_29 : decode cX7_nearestOf 29 = .ok (.invokevirtual 156, 3) := by decide +kernel
theorem dX7_nearestOf_32 : decode cX7_nearestOf 32 = .ok (.ifnull 5, 3) := by decide +kernel
theorem dX7_nearestOf_35 : decode cX7_nearestOf 35 = .ok (.aload_n 3, 1) := by decide +kernel
theorem dX7_nearestOf_36 : decode cX7_nearestOf 36 = .ok (.areturn, 1) := by decide +kernel
theorem dX7_nearestOf_37 : decode cX7_nearestOf 37 = .ok (.aload_n 3, 1) := by decide +kernel
theorem dX7_nearestOf_38 : decode cX7_nearestOf 38 = .ok (.aload 4, 2) := by decide +kernel
theorem dX7_nearestOf_40 : decode cX7_nearestOf 40 = .ok (.invokevirtual 152, 3) := by decide +kernel
theorem dX7_nearestOf_43 : decode cX7_nearestOf 43 = .ok (.astore_n 3, 1) := by decide +kernel
theorem dX7_nearestOf_44 : decode cX7_nearestOf 44 = .ok (.aload 4, 2) := by decide +kernel
theorem dX7_nearestOf_46 : decode cX7_nearestOf 46 = .ok (.getfield 216, 3) := by decide +kernel
theorem dX7_nearestOf_49 : decode cX7_nearestOf 49 = .ok (.astore 4, 2) := by decide +kernel
theorem dX7_nearestOf_51 : decode cX7_nearestOf 51 = .ok (.iinc 5 1, 3) := by decide +kernel
theorem dX7_nearestOf_54 : decode cX7_nearestOf 54 = .ok (.goto (-43), 3) := by decide +kernel
theorem dX7_nearestOf_57 : decode cX7_nearestOf 57 = .ok (.aconst_null, 1) := by decide +kernel
theorem dX7_nearestOf_58 : decode cX7_nearestOf 58 = .ok (.areturn, 1) := by decide +kernel
theorem dX7_findFromPlace_0 : decode cX7_findFromPlace 0 = .ok (.iload_n 1, 1) := by decide +kernel
theorem dX7_findFromPlace_1 : decode cX7_findFromPlace 1 = .ok (.invokestatic 139, 3) := by decide +kernel
theorem dX7_findFromPlace_4 : decode cX7_findFromPlace 4 = .ok (.ifCond .eq 10, 3) := by decide +kernel
theorem dX7_findFromPlace_7 : decode cX7_findFromPlace 7 = .ok (.iload_n 2, 1) := by decide +kernel
theorem dX7_findFromPlace_8 : decode cX7_findFromPlace 8 = .ok (.invokestatic 62, 3) := by decide +kernel
theorem dX7_findFromPlace_11 : decode cX7_findFromPlace 11 = .ok (.ifCond .ne 5, 3) := by decide +kernel
theorem dX7_findFromPlace_14 : decode cX7_findFromPlace 14 = .ok (.iconst (-1), 1) := by decide +kernel
theorem dX7_findFromPlace_15 : decode cX7_findFromPlace 15 = .ok (.ireturn, 1) := by decide +kernel
theorem dX7_findFromPlace_16 : decode cX7_findFromPlace 16 = .ok (.aload_n 0, 1) := by decide +kernel
theorem dX7_findFromPlace_17 : decode cX7_findFromPlace 17 = .ok (.getfield 21, 3) := by decide +kernel
theorem dX7_findFromPlace_20 : decode cX7_findFromPlace 20 = .ok (.iload_n 1, 1) := by decide +kernel
theorem dX7_findFromPlace_21 : decode cX7_findFromPlace 21 = .ok (.aaload, 1) := by decide +kernel
theorem dX7_findFromPlace_22 : decode cX7_findFromPlace 22 = .ok (.astore_n 3, 1) := by decide +kernel
theorem dX7_findFromPlace_23 : decode cX7_findFromPlace 23 = .ok (.aload_n 3, 1) := by decide +kernel
theorem dX7_findFromPlace_24 : decode cX7_findFromPlace 24 = .ok (.ifnonnull 6, 3) := by decide +kernel
theorem dX7_findFromPlace_27 : decode cX7_findFromPlace 27 = .ok (.bipush 9, 2) := by decide +kernel
theorem dX7_findFromPlace_29 : decode cX7_findFromPlace 29 = .ok (.ireturn, 1) := by decide +kernel
theorem dX7_findFromPlace_30 : decode cX7_findFromPlace 30 = .ok (.aload_n 0, 1) := by decide +kernel
theorem dX7_findFromPlace_31 : decode cX7_findFromPlace 31 = .ok (.aload_n 3, 1) := by decide +kernel
theorem dX7_findFromPlace_32 : decode cX7_findFromPlace 32 = .ok (.getfield 142, 3) := by decide +kernel
theorem dX7_findFromPlace_35 : decode cX7_findFromPlace 35 = .ok (.aload_n 3, 1) := by decide +kernel
theorem dX7_findFromPlace_36 : decode cX7_findFromPlace 36 = .ok (.iload_n 2, 1) := by decide +kernel
theorem dX7_findFromPlace_37 : decode cX7_findFromPlace 37 = .ok (.invokevirtual 243, 3) := by decide +kernel
theorem dX7_findFromPlace_40 : decode cX7_findFromPlace 40 = .ok (.ireturn, 1) := by decide +kernel
theorem dX7_findFromLambda_0 : decode cX7_findFromLambda 0 = .ok (.aload_n 0, 1) := by decide +kernel
theorem dX7_findFromLambda_1 : decode cX7_findFromLambda 1 = .ok (.iload_n 1, 1) := by decide +kernel
theorem dX7_findFromLambda_2 : decode cX7_findFromLambda 2 = .ok (.invokevirtual 247, 3) := by decide +kernel
theorem dX7_findFromLambda_5 : decode cX7_findFromLambda 5 = .ok (.astore_n 3, 1) := by decide +kernel
theorem dX7_findFromLambda_6 : decode cX7_findFromLambda 6 = .ok (.aload_n 3, 1) := by decide +kernel
theorem dX7_findFromLambda_7 : decode cX7_findFromLambda 7 = .ok (.ifnull 10, 3) := by decide +kernel
theorem dX7_findFromLambda_10 : decode cX7_findFromLambda 10 = .ok (.iload_n 2, 1) := by decide +kernel
theorem dX7_findFromLambda_11 : decode cX7_findFromLambda 11 = .ok (.invokestatic 62, 3) := by decide +kernel
theorem dX7_findFromLambda_14 : decode cX7_findFromLambda 14 = .ok (.ifCond .ne 5, 3) := by decide +kernel
theorem dX7_findFromLambda_17 : decode cX7_findFromLambda 17 = .ok (.iconst (-1), 1) := by decide +kernel
theorem dX7_findFromLambda_18 : decode cX7_findFromLambda 18 = .ok (.ireturn, 1) := by decide +kernel
theorem dX7_findFromLambda_19 : decode cX7_findFromLambda 19 = .ok (.aload_n 3, 1) := by decide +kernel
theorem dX7_findFromLambda_20 : decode cX7_findFromLambda 20 = .ok (.getfield 251, 3) := by decide +kernel
theorem dX7_findFromLambda_23 : decode cX7_findFromLambda 23 = .ok (.getfield 83, 3) := by decide +kernel
theorem dX7_findFromLambda_26 : decode cX7_findFromLambda 26 = .ok (.astore 4, 2) := by decide +kernel
theorem dX7_findFromLambda_28 : decode cX7_findFromLambda 28 = .ok (.aload 4, 2) := by decide +kernel
theorem dX7_findFromLambda_30 : decode cX7_findFromLambda 30 = .ok (.iload_n 2, 1) := by decide +kernel
theorem dX7_findFromLambda_31 : decode cX7_findFromLambda 31 = .ok (.aload_n 3, 1) := by decide +kernel
theorem dX7_findFromLambda_32 : decode cX7_findFromLambda 32 = .ok (.getfield 254, 3) := by decide +kernel
theorem dX7_findFromLambda_35 : decode cX7_findFromLambda 35 = .ok (.arraylength, 1) := by decide +kernel
theorem dX7_findFromLambda_36 : decode cX7_findFromLambda 36 = .ok (.invokevirtual 255, 3) := by decide +kernel
theorem dX7_findFromLambda_39 : decode cX7_findFromLambda 39 = .ok (.istore 5, 2) := by decide +kernel
theorem dX7_findFromLambda_41 : decode cX7_findFromLambda 41 = .ok (.iload 5, 2) := by decide +kernel
theorem dX7_findFromLambda_43 : decode cX7_findFromLambda 43 = .ok (.iconst (-1), 1) := by decide +kernel
theorem dX7_findFromLambda_44 : decode cX7_findFromLambda 44 = .ok (.if_icmp .ne 17, 3) := by decide +kernel
theorem dX7_findFromLambda_47 : decode cX7_findFromLambda 47 = .ok (.aload_n 0, 1) := by decide +kernel
theorem dX7_findFromLambda_48 : decode cX7_findFromLambda 48 = .ok (.aload_n 3, 1) := by decide +kernel
theorem dX7_findFromLambda_49 : decode cX7_findFromLambda 49 = .ok (.getfield 251, 3) := by decide +kernel
theorem dX7_findFromLambda_52 : decode cX7_findFromLambda 52 = .ok (.aload_n 3, 1) := by decide +kernel
theorem dX7_findFromLambda_53 : decode cX7_findFromLambda 53 = .ok (.getfield 258, 3) := by decide +kernel
theorem dX7_findFromLambda_56 : decode cX7_findFromLambda 56 = .ok (.iload_n 2, 1) := by decide +kernel
theorem dX7_findFromLambda_57 : decode cX7_findFromLambda 57 = .ok (.invokevirtual 243, 3) := by decide +kernel
theorem dX7_findFromLambda_60 : decode cX7_findFromLambda 60 = .ok (.ireturn, 1) := by decide +kernel
theorem dX7_findFromLambda_61 : decode cX7_findFromLambda 61 = .ok (.aload 4, 2) := by decide +kernel
theorem dX7_findFromLambda_63 : decode cX7_findFromLambda 63 = .ok (.iload 5, 2) := by decide +kernel
theorem dX7_findFromLambda_65 : decode cX7_findFromLambda 65 = .ok (.invokevirtual 96, 3) := by decide +kernel
theorem dX7_findFromLambda_68 : decode cX7_findFromLambda 68 = .ok (.ifCond .eq 6, 3) := by decide +kernel
theorem dX7_findFromLambda_71 : decode cX7_findFromLambda 71 = .ok (.bipush 7, 2) := by decide +kernel
theorem dX7_findFromLambda_73 : decode cX7_findFromLambda 73 = .ok (.ireturn, 1) := by decide +kernel
theorem dX7_findFromLambda_74 : decode cX7_findFromLambda 74 = .ok (.aload_n 0, 1) := by decide +kernel
theorem dX7_findFromLambda_75 : decode cX7_findFromLambda 75 = .ok (.getfield 40, 3) := by decide +kernel
theorem dX7_findFromLambda_78 : decode cX7_findFromLambda 78 = .ok (.aload_n 3, 1) := by decide +kernel
theorem dX7_findFromLambda_79 : decode cX7_findFromLambda 79 = .ok (.getfield 254, 3) := by decide +kernel
theorem dX7_findFromLambda_82 : decode cX7_findFromLambda 82 = .ok (.iload 5, 2) := by decide +kernel
theorem dX7_findFromLambda_84 : decode cX7_findFromLambda 84 = .ok (.iconst 1, 1) := by decide +kernel
theorem dX7_findFromLambda_85 : decode cX7_findFromLambda 85 = .ok (.invokevirtual 262, 3) := by decide +kernel
theorem dX7_findFromLambda_88 : decode cX7_findFromLambda 88 = .ok (.iconst 0, 1) := by decide +kernel
theorem dX7_findFromLambda_89 : decode cX7_findFromLambda 89 = .ok (.ireturn, 1) := by decide +kernel
theorem dX7_findFromType_0 : decode cX7_findFromType 0 = .ok (.aload_n 1, 1) := by decide +kernel
theorem dX7_findFromType_1 : decode cX7_findFromType 1 = .ok (.astore 4, 2) := by decide +kernel
theorem dX7_findFromType_3 : decode cX7_findFromType 3 = .ok (.aload_n 2, 1) := by decide +kernel
theorem dX7_findFromType_4 : decode cX7_findFromType 4 = .ok (.astore 5, 2) := by decide +kernel
theorem dX7_findFromType_6 : decode cX7_findFromType 6 = .ok (.iconst 0, 1) := by decide +kernel
theorem dX7_findFromType_7 : decode cX7_findFromType 7 = .ok (.istore 6, 2) := by decide +kernel
theorem dX7_findFromType_9 : decode cX7_findFromType 9 = .ok (.aload 4, 2) := by decide +kernel
theorem dX7_findFromType_11 : decode cX7_findFromType 11 = .ok (.ifnull 89, 3) := by decide +kernel
theorem dX7_findFromType_14 : decode cX7_findFromType 14 = .ok (.iload 6, 2) := by decide +kernel
theorem dX7_findFromType_16 : decode cX7_findFromType 16 = .ok (.bipush 12, 2) := by decide +kernel
theorem dX7_findFromType_18 : decode cX7_findFromType 18 = .ok (.if_icmp .ge 82, 3) := by decide +kernel
theorem dX7_findFromType_21 : decode cX7_findFromType 21 = .ok (.aload 4, 2) := by decide +kernel
theorem dX7_findFromType_23 : decode cX7_findFromType 23 = .ok (.iload_n 3, 1) := by decide +kernel
theorem dX7_findFromType_24 : decode cX7_findFromType 24 = .ok (.invokestatic 266, 3) := by decide +kernel
theorem dX7_findFromType_27 : decode cX7_findFromType 27 = .ok (.astore 7, 2) := by decide +kernel
theorem dX7_findFromType_29 : decode cX7_findFromType 29 = .ok (.aload 7, 2) := by decide +kernel
theorem dX7_findFromType_31 : decode cX7_findFromType 31 = .ok (.ifnull 13, 3) := by decide +kernel
theorem dX7_findFromType_34 : decode cX7_findFromType 34 = .ok (.aload_n 0, 1) := by decide +kernel
theorem dX7_findFromType_35 : decode cX7_findFromType 35 = .ok (.aload 7, 2) := by decide +kernel
theorem dX7_findFromType_37 : decode cX7_findFromType 37 = .ok (.aload 5, 2) := by decide +kernel
theorem dX7_findFromType_39 : decode cX7_findFromType 39 = .ok (.iload_n 3, 1) := by decide +kernel
theorem dX7_findFromType_40 : decode cX7_findFromType 40 = .ok (.invokevirtual 270, 3) := by decide +kernel
theorem dX7_findFromType_43 : decode cX7_findFromType 43 = .ok (.ireturn, 1) := by decide +kernel
theorem dX7_findFromType_44 : decode cX7_findFromType 44 = .ok (.aload 4, 2) := by decide +kernel
theorem dX7_findFromType_46 : decode cX7_findFromType 46 = .ok (.iload_n 3, 1) := by decide +kernel
theorem dX7_findFromType_47 : decode cX7_findFromType 47 = .ok (.invokevirtual 273, 3) := by decide +kernel
theorem dX7_findFromType_50 : decode cX7_findFromType 50 = .ok (.istore 8, 2) := by decide +kernel
theorem dX7_findFromType_52 : decode cX7_findFromType 52 = .ok (.iload 8, 2) := by decide +kernel
theorem dX7_findFromType_54 : decode cX7_findFromType 54 = .ok (.iconst (-1), 1) := by decide +kernel
theorem dX7_findFromType_55 : decode cX7_findFromType 55 = .ok (.if_icmp .eq 14, 3) := by decide +kernel
theorem dX7_findFromType_58 : decode cX7_findFromType 58 = .ok (.aload_n 0, 1) := by decide +kernel
theorem dX7_findFromType_59 : decode cX7_findFromType 59 = .ok (.aload 4, 2) := by decide +kernel
theorem dX7_findFromType_61 : decode cX7_findFromType 61 = .ok (.aload 5, 2) := by decide +kernel
theorem dX7_findFromType_63 : decode cX7_findFromType 63 = .ok (.iload 8, 2) := by decide +kernel
theorem dX7_findFromType_65 : decode cX7_findFromType 65 = .ok (.invokevirtual 276, 3) := by decide +kernel
theorem dX7_findFromType_68 : decode cX7_findFromType 68 = .ok (.ireturn, 1) := by decide +kernel
theorem dX7_findFromType_69 : decode cX7_findFromType 69 = .ok (.aload 5, 2) := by decide +kernel
theorem dX7_findFromType_71 : decode cX7_findFromType 71 = .ok (.ifnonnull 7, 3) := by decide +kernel
theorem dX7_findFromType_74 : decode cX7_findFromType 74 = .ok (.aconst_null, 1) := by decide +kernel
theorem dX7_findFromType_75 : decode cX7_findFromType 75 = .ok (.goto 10, 3) := by decide +kernel
theorem dX7_findFromType_78 : decode cX7_findFromType 78 = .ok (.aload 5, 2) := by decide +kernel
theorem dX7_findFromType_80 : decode cX7_findFromType 80 = .ok (.aload 4, 2) := by decide +kernel
theorem dX7_findFromType_82 : decode cX7_findFromType 82 = .ok (.invokevirtual 152, 3) := by decide +kernel
theorem dX7_findFromType_85 : decode cX7_findFromType 85 = .ok (.astore 5, 2) := by decide +kernel
theorem dX7_findFromType_87 : decode cX7_findFromType 87 = .ok (.aload 4, 2) := by decide +kernel
theorem dX7_findFromType_89 : decode cX7_findFromType 89 = .ok (.getfield 216, 3) := by decide +kernel
theorem dX7_findFromType_92 : decode cX7_findFromType 92 = .ok (.astore 4, 2) := by decide +kernel
theorem dX7_findFromType_94 : decode cX7_findFromType 94 = .ok (.iinc 6 1, 3) := by decide +kernel
theorem dX7_findFromType_97 : decode cX7_findFromType 97 = .ok (.goto (-88), 3) := by decide +kernel
theorem dX7_findFromType_100 : decode cX7_findFromType 100 = .ok (.bipush 8, 2) := by decide +kernel
theorem dX7_findFromType_102 : decode cX7_findFromType 102 = .ok (.ireturn, 1) := by decide +kernel
theorem dX7_ownerOfField_0 : decode cX7_ownerOfField 0 = .ok (.aload_n 0, 1) := by decide +kernel
theorem dX7_ownerOfField_1 : decode cX7_ownerOfField 1 = .ok (.astore_n 2, 1) := by decide +kernel
theorem dX7_ownerOfField_2 : decode cX7_ownerOfField 2 = .ok (.iconst 0, 1) := by decide +kernel
theorem dX7_ownerOfField_3 : decode cX7_ownerOfField 3 = .ok (.istore_n 3, 1) := by decide +kernel
theorem dX7_ownerOfField_4 : decode cX7_ownerOfField 4 = .ok (.aload_n 2, 1) := by decide +kernel
theorem dX7_ownerOfField_5 : decode cX7_ownerOfField 5 = .ok (.ifnull 34, 3) := by decide +kernel
theorem dX7_ownerOfField_8 : decode cX7_ownerOfField 8 = .ok (.iload_n 3, 1) := by decide +kernel
theorem dX7_ownerOfField_9 : decode cX7_ownerOfField 9 = .ok (.bipush 12, 2) := by decide +kernel
theorem dX7_ownerOfField_11 : decode cX7_ownerOfField 11 = .ok (.if_icmp .ge 28, 3) := by decide +kernel
theorem dX7_ownerOfField_14 : decode cX7_ownerOfField 14 = .ok (.aload_n 2, 1) := by decide +kernel
theorem dX7_ownerOfField_15 : decode cX7_ownerOfField 15 = .ok (.getfield 66, 3) := by decide +kernel
theorem dX7_ownerOfField_18 : decode cX7_ownerOfField 18 = .ok (.iload_n 1, 1) := by decide +kernel
theorem dX7_ownerOfField_19 : decode cX7_ownerOfField 19 = .ok (.invokevirtual 75, 3) := by decide +kernel
theorem dX7_ownerOfField_22 : decode cX7_ownerOfField 22 = .ok (.iconst (-1), 1) := by decide +kernel
theorem dX7_ownerOfField_23 : decode cX7_ownerOfField 23 = .ok (.if_icmp .eq 5, 3) := by decide +kernel
theorem dX7_ownerOfField_26 : decode cX7_ownerOfField 26 = .ok (.aload_n 2, 1) := by decide +kernel
theorem dX7_ownerOfField_27 : decode cX7_ownerOfField 27 = .ok (.areturn, 1) := by decide +kernel
theorem dX7_ownerOfField_28 : decode cX7_ownerOfField 28 = .ok (.aload_n 2, 1) := by decide +kernel
theorem dX7_ownerOfField_29 : decode cX7_ownerOfField 29 = .ok (.getfield 113, 3) := by decide +kernel
theorem dX7_ownerOfField_32 : decode cX7_ownerOfField 32 = .ok (.astore_n 2, 1) := by decide +kernel
theorem dX7_ownerOfField_33 : decode cX7_ownerOfField 33 = .ok (.iinc 3 1, 3) := by decide +kernel
theorem dX7_ownerOfField_36 : decode cX7_ownerOfField 36 = .ok (.goto (-32), 3) := by decide +kernel
theorem dX7_ownerOfField_39 : decode cX7_ownerOfField 39 = .ok (.aconst_null, 1) := by decide +kernel
theorem dX7_ownerOfField_40 : decode cX7_ownerOfField 40 = .ok (.areturn, 1) := by decide +kernel
theorem dX7_findField_0 : decode cX7_findField 0 = .ok (.aload_n 1, 1) := by decide +kernel
theorem dX7_findField_1 : decode cX7_findField 1 = .ok (.getfield 66, 3) := by decide +kernel
theorem dX7_findField_4 : decode cX7_findField 4 = .ok (.astore 4, 2) := by decide +kernel
theorem dX7_findField_6 : decode cX7_findField 6 = .ok (.aload 4, 2) := by decide +kernel
theorem dX7_findField_8 : decode cX7_findField 8 = .ok (.iload_n 3, 1) := by decide +kernel
theorem dX7_findField_9 : decode cX7_findField 9 = .ok (.invokevirtual 75, 3) := by decide +kernel
theorem dX7_findField_12 : decode cX7_findField 12 = .ok (.istore 5, 2) := by decide +kernel
theorem dX7_findField_14 : decode cX7_findField 14 = .ok (.aload 4, 2) := by decide +kernel
theorem dX7_findField_16 : decode cX7_findField 16 = .ok (.iload 5, 2) := by decide +kernel
theorem dX7_findField_18 : decode cX7_findField 18 = .ok (.invokevirtual 184, 3) := by decide +kernel
theorem dX7_findField_21 : decode cX7_findField 21 = .ok (.ifCond .eq 20, 3) := by decide +kernel
theorem dX7_findField_24 : decode cX7_findField 24 = .ok (.aload_n 0, 1) := by decide +kernel
theorem dX7_findField_25 : decode cX7_findField 25 = .ok (.getfield 40, 3) := by decide +kernel
theorem dX7_findField_28 : decode cX7_findField 28 = .ok (.aload 4, 2) := by decide +kernel
theorem dX7_findField_30 : decode cX7_findField 30 = .ok (.getfield 187, 3) := by decide +kernel
theorem dX7_findField_33 : decode cX7_findField 33 = .ok (.iload 5, 2) := by decide +kernel
theorem dX7_findField_35 : decode cX7_findField 35 = .ok (.iconst 0, 1) := by decide +kernel
theorem dX7_findField_36 : decode cX7_findField 36 = .ok (.invokevirtual 262, 3) := by decide +kernel
theorem dX7_findField_39 : decode cX7_findField 39 = .ok (.iconst 0, 1) := by decide +kernel
theorem dX7_findField_40 : decode cX7_findField 40 = .ok (.ireturn, 1) := by decide +kernel
theorem dX7_findField_41 : decode cX7_findField 41 = .ok (.aload_n 2, 1) := by decide +kernel
theorem dX7_findField_42 : decode cX7_findField 42 = .ok (.ifnonnull 5, 3) := by decide +kernel
theorem dX7_findField_45 : decode cX7_findField 45 = .ok (.iconst 4, 1) := by decide +kernel
theorem dX7_findField_46 : decode cX7_findField 46 = .ok (.ireturn, 1) := by decide +kernel
theorem dX7_findField_47 : decode cX7_findField 47 = .ok (.aload_n 2, 1) := by decide +kernel
theorem dX7_findField_48 : decode cX7_findField 48 = .ok (.aload_n 1, 1) := by decide +kernel
theorem dX7_findField_49 : decode cX7_findField 49 = .ok (.invokevirtual 156, 3) := by decide +kernel
theorem dX7_findField_52 : decode cX7_findField 52 = .ok (.astore 6, 2) := by decide +kernel
theorem dX7_findField_54 : decode cX7_findField 54 = .ok (.aload 6, 2) := by decide +kernel
theorem dX7_findField_56 : decode cX7_findField 56 = .ok (.ifnull 14, 3) := by decide +kernel
theorem dX7_findField_59 : decode cX7_findField 59 = .ok (.iload 5, 2) := by decide +kernel
theorem dX7_findField_61 : decode cX7_findField 61 = .ok (.aload 6, 2) := by decide +kernel
theorem dX7_findField_63 : decode cX7_findField 63 = .ok (.getfield 279, 3) := by decide +kernel
theorem dX7_findField_66 : decode cX7_findField 66 = .ok (.arraylength, 1) := by decide +kernel
theorem dX7_findField_67 : decode cX7_findField 67 = .ok (.if_icmp .lt 5, 3) := by decide +kernel
theorem dX7_findField_70 : decode cX7_findField 70 = .ok (.iconst 5, 1) := by decide +kernel
theorem dX7_findField_71 : decode cX7_findField 71 = .ok (.ireturn, 1) := by decide +kernel
theorem dX7_findField_72 : decode cX7_findField 72 = .ok (.aload_n 0, 1) := by decide +kernel
theorem dX7_findField_73 : decode cX7_findField 73 = .ok (.getfield 40, 3) := by decide +kernel
theorem dX7_findField_76 : decode cX7_findField 76 = .ok (.aload 6, 2) := by decide +kernel
theorem dX7_findField_78 : decode cX7_findField 78 = .ok (.getfield 279, 3) := by decide +kernel
theorem dX7_findField_81 : decode cX7_findField 81 = .ok (.iload 5, 2) := by decide +kernel
theorem dX7_findField_83 : decode cX7_findField 83 = .ok (.iconst 0, 1) := by decide +kernel
theorem dX7_findField_84 : decode cX7_findField 84 = .ok (.invokevirtual 262, 3) := by decide +kernel
theorem dX7_findField_87 : decode cX7_findField 87 = .ok (.iconst 0, 1) := by decide +kernel
theorem dX7_findField_88 : decode cX7_findField 88 = .ok (.ireturn, 1) := by decide +kernel
theorem dX7_findCopy_0 : decode cX7_findCopy 0 = .ok (.aload_n 1, 1) := by decide +kernel
theorem dX7_findCopy_1 : decode cX7_findCopy 1 = .ok (.getfield 110, 3) := by decide +kernel
theorem dX7_findCopy_4 : decode cX7_findCopy 4 = .ok (.iconst 4, 1) := by decide +kernel
theorem dX7_findCopy_5 : decode cX7_findCopy 5 = .ok (.if_icmp .ne 6, 3) := by decide +kernel
theorem dX7_findCopy_8 : decode cX7_findCopy 8 = .ok (.bipush 6, 2) := by decide +kernel
theorem dX7_findCopy_10 : decode cX7_findCopy 10 = .ok (.ireturn, 1) := by decide +kernel
theorem dX7_findCopy_11 : decode cX7_findCopy 11 = .ok (.aload_n 1, 1) := by decide +kernel
theorem dX7_findCopy_12 : decode cX7_findCopy 12 = .ok (.getfield 216, 3) := by decide +kernel
theorem dX7_findCopy_15 : decode cX7_findCopy 15 = .ok (.ifnull 20, 3) := by decide +kernel
theorem dX7_findCopy_18 : decode cX7_findCopy 18 = .ok (.aload_n 1, 1) := by decide +kernel
theorem dX7_findCopy_19 : decode cX7_findCopy 19 = .ok (.getfield 216, 3) := by decide +kernel
theorem dX7_findCopy_22 : decode cX7_findCopy 22 = .ok (.getfield 83, 3) := by decide +kernel
theorem dX7_findCopy_25 : decode cX7_findCopy 25 = .ok (.iload_n 3, 1) := by decide +kernel
theorem dX7_findCopy_26 : decode cX7_findCopy 26 = .ok (.invokevirtual 96, 3) := by decide +kernel
theorem dX7_findCopy_29 : decode cX7_findCopy 29 = .ok (.ifCond .eq 6, 3) := by decide +kernel
theorem dX7_findCopy_32 : decode cX7_findCopy 32 = .ok (.bipush 7, 2) := by decide +kernel
theorem dX7_findCopy_34 : decode cX7_findCopy 34 = .ok (.ireturn, 1) := by decide +kernel
theorem dX7_findCopy_35 : decode cX7_findCopy 35 = .ok (.aload_n 2, 1) := by decide +kernel
theorem dX7_findCopy_36 : decode cX7_findCopy 36 = .ok (.ifnonnull 5, 3) := by decide +kernel
theorem dX7_findCopy_39 : decode cX7_findCopy 39 = .ok (.iconst 4, 1) := by decide +kernel
theorem dX7_findCopy_40 : decode cX7_findCopy 40 = .ok (.ireturn, 1) := by decide +kernel
theorem dX7_findCopy_41 : decode cX7_findCopy 41 = .ok (.aload_n 2, 1) := by decide +kernel
theorem dX7_findCopy_42 : decode cX7_findCopy 42 = .ok (.aload_n 1, 1) := by decide +kernel
theorem dX7_findCopy_43 : decode cX7_findCopy 43 = .ok (.invokevirtual 156, 3) := by decide +kernel
theorem dX7_findCopy_46 : decode cX7_findCopy 46 = .ok (.astore 4, 2) := by decide +kernel
theorem dX7_findCopy_48 : decode cX7_findCopy 48 = .ok (.aload 4, 2) := by decide +kernel
theorem dX7_findCopy_50 : decode cX7_findCopy 50 = .ok (.ifnull 13, 3) := by decide +kernel
theorem dX7_findCopy_53 : decode cX7_findCopy 53 = .ok (.iload_n 3, 1) := by decide +kernel
theorem dX7_findCopy_54 : decode cX7_findCopy 54 = .ok (.aload 4, 2) := by decide +kernel
theorem dX7_findCopy_56 : decode cX7_findCopy 56 = .ok (.getfield 160, 3) := by decide +kernel
theorem dX7_findCopy_59 : decode cX7_findCopy 59 = .ok (.arraylength, 1) := by decide +kernel
theorem dX7_findCopy_60 : decode cX7_findCopy 60 = .ok (.if_icmp .lt 5, 3) := by decide +kernel
theorem dX7_findCopy_63 : decode cX7_findCopy 63 = .ok (.iconst 5, 1) := by decide +kernel
theorem dX7_findCopy_64 : decode cX7_findCopy 64 = .ok (.ireturn, 1) := by decide +kernel
theorem dX7_findCopy_65 : decode cX7_findCopy 65 = .ok (.aload_n 0, 1) := by decide +kernel
theorem dX7_findCopy_66 : decode cX7_findCopy 66 = .ok (.getfield 40, 3) := by decide +kernel
theorem dX7_findCopy_69 : decode cX7_findCopy 69 = .ok (.aload 4, 2) := by decide +kernel
theorem dX7_findCopy_71 : decode cX7_findCopy 71 = .ok (.getfield 160, 3) := by decide +kernel
theorem dX7_findCopy_74 : decode cX7_findCopy 74 = .ok (.iload_n 3, 1) := by decide +kernel
theorem dX7_findCopy_75 : decode cX7_findCopy 75 = .ok (.iconst 1, 1) := by decide +kernel
theorem dX7_findCopy_76 : decode cX7_findCopy 76 = .ok (.invokevirtual 262, 3) := by decide +kernel
theorem dX7_findCopy_79 : decode cX7_findCopy 79 = .ok (.iconst 0, 1) := by decide +kernel
theorem dX7_findCopy_80 : decode cX7_findCopy 80 = .ok (.ireturn, 1) := by decide +kernel
theorem dX7_holdThat_0 : decode cX7_holdThat 0 = .ok (.aload_n 0, 1) := by decide +kernel
theorem dX7_holdThat_1 : decode cX7_holdThat 1 = .ok (.iload_n 2, 1) := by decide +kernel
theorem dX7_holdThat_2 : decode cX7_holdThat 2 = .ok (.invokevirtual 47, 3) := by decide +kernel
theorem dX7_holdThat_5 : decode cX7_holdThat 5 = .ok (.astore 4, 2) := by decide +kernel
theorem dX7_holdThat_7 : decode cX7_holdThat 7 = .ok (.iload_n 1, 1) := by decide +kernel
theorem dX7_holdThat_8 : decode cX7_holdThat 8 = .ok (.invokestatic 139, 3) := by decide +kernel
theorem dX7_holdThat_11 : decode cX7_holdThat 11 = .ok (.ifCond .eq 15, 3) := by decide +kernel
theorem dX7_holdThat_14 : decode cX7_holdThat 14 = .ok (.aload 4, 2) := by decide +kernel
theorem dX7_holdThat_16 : decode cX7_holdThat 16 = .ok (.ifnull 10, 3) := by decide +kernel
theorem dX7_holdThat_19 : decode cX7_holdThat 19 = .ok (.iload_n 3, 1) := by decide +kernel
theorem dX7_holdThat_20 : decode cX7_holdThat 20 = .ok (.invokestatic 139, 3) := by decide +kernel
theorem dX7_holdThat_23 : decode cX7_holdThat 23 = .ok (.ifCond .ne 5, 3) := by decide +kernel
theorem dX7_holdThat_26 : decode cX7_holdThat 26 = .ok (.iconst (-1), 1) := by decide +kernel
theorem dX7_holdThat_27 : decode cX7_holdThat 27 = .ok (.ireturn, 1) := by decide +kernel
theorem dX7_holdThat_28 : decode cX7_holdThat 28 = .ok (.aload_n 0, 1) := by decide +kernel
theorem dX7_holdThat_29 : decode cX7_holdThat 29 = .ok (.getfield 21, 3) := by decide +kernel
theorem dX7_holdThat_32 : decode cX7_holdThat 32 = .ok (.iload_n 1, 1) := by decide +kernel
theorem dX7_holdThat_33 : decode cX7_holdThat 33 = .ok (.aaload, 1) := by decide +kernel
theorem dX7_holdThat_34 : decode cX7_holdThat 34 = .ok (.astore 5, 2) := by decide +kernel
theorem dX7_holdThat_36 : decode cX7_holdThat 36 = .ok (.aload 5, 2) := by decide +kernel
theorem dX7_holdThat_38 : decode cX7_holdThat 38 = .ok (.ifnonnull 6, 3) := by decide +kernel
theorem dX7_holdThat_41 : decode cX7_holdThat 41 = .ok (.bipush 9, 2) := by decide +kernel
theorem dX7_holdThat_43 : decode cX7_holdThat 43 = .ok (.ireturn, 1) := by decide +kernel
theorem dX7_holdThat_44 : decode cX7_holdThat 44 = .ok (.aload 5, 2) := by decide +kernel
theorem dX7_holdThat_46 : decode cX7_holdThat 46 = .ok (.getfield 142, 3) := by decide +kernel
theorem dX7_holdThat_49 : decode cX7_holdThat 49 = .ok (.astore 6, 2) := by decide +kernel
theorem dX7_holdThat_51 : decode cX7_holdThat 51 = .ok (.iconst 0, 1) := by decide +kernel
theorem dX7_holdThat_52 : decode cX7_holdThat 52 = .ok (.istore 7, 2) := by decide +kernel
theorem dX7_holdThat_54 : decode cX7_holdThat 54 = .ok (.aload 6, 2) := by decide +kernel
theorem dX7_holdThat_56 : decode cX7_holdThat 56 = .ok (.ifnull 48, 3) := by decide +kernel
theorem dX7_holdThat_59 : decode cX7_holdThat 59 = .ok (.aload 6, 2) := by decide +kernel
theorem dX7_holdThat_61 : decode cX7_holdThat 61 = .ok (.aload 4, 2) := by decide +kernel
theorem dX7_holdThat_63 : decode cX7_holdThat 63 = .ok (.if_acmp .eq 41, 3) := by decide +kernel
theorem dX7_holdThat_66 : decode cX7_holdThat 66 = .ok (.iload 7, 2) := by decide +kernel
theorem dX7_holdThat_68 : decode cX7_holdThat 68 = .ok (.bipush 12, 2) := by decide +kernel
theorem dX7_holdThat_70 : decode cX7_holdThat 70 = .ok (.if_icmp .ge 34, 3) := by decide +kernel
theorem dX7_holdThat_73 : decode cX7_holdThat 73 = .ok (.aload 5, 2) := by decide +kernel
theorem dX7_holdThat_75 : decode cX7_holdThat 75 = .ok (.ifnonnull 7, 3) := by decide +kernel
theorem dX7_holdThat_78 : decode cX7_holdThat 78 = .ok (.aconst_null, 1) := by decide +kernel
theorem dX7_holdThat_79 : decode cX7_holdThat 79 = .ok (.goto 10, 3) := by decide +kernel
theorem dX7_holdThat_82 : decode cX7_holdThat 82 = .ok (.aload 5, 2) := by decide +kernel
theorem dX7_holdThat_84 : decode cX7_holdThat 84 = .ok (.aload 6, 2) := by decide +kernel
theorem dX7_holdThat_86 : decode cX7_holdThat 86 = .ok (.invokevirtual 152, 3) := by decide +kernel
theorem dX7_holdThat_89 : decode cX7_holdThat 89 = .ok (.astore 5, 2) := by decide +kernel
theorem dX7_holdThat_91 : decode cX7_holdThat 91 = .ok (.aload 6, 2) := by decide +kernel
theorem dX7_holdThat_93 : decode cX7_holdThat 93 = .ok (.getfield 216, 3) := by decide +kernel
theorem dX7_holdThat_96 : decode cX7_holdThat 96 = .ok (.astore 6, 2) := by decide +kernel
theorem dX7_holdThat_98 : decode cX7_holdThat 98 = .ok (.iinc 7 1, 3) := by decide +kernel
theorem dX7_holdThat_101 : decode cX7_holdThat 101 = .ok (.goto (-47), 3) := by decide +kernel
theorem dX7_holdThat_104 : decode cX7_holdThat 104 = .ok (.aload 6, 2) := by decide +kernel
theorem dX7_holdThat_106 : decode cX7_holdThat 106 = .ok (.aload 4, 2) := by decide +kernel
theorem dX7_holdThat_108 : decode cX7_holdThat 108 = .ok (.if_acmp .eq 6, 3) := by decide +kernel
theorem dX7_holdThat_111 : decode cX7_holdThat 111 = .ok (.bipush 8, 2) := by decide +kernel
theorem dX7_holdThat_113 : decode cX7_holdThat 113 = .ok (.ireturn, 1) := by decide +kernel
theorem dX7_holdThat_114 : decode cX7_holdThat 114 = .ok (.aload 5, 2) := by decide +kernel
theorem dX7_holdThat_116 : decode cX7_holdThat 116 = .ok (.ifnonnull 5, 3) := by decide +kernel
theorem dX7_holdThat_119 : decode cX7_holdThat 119 = .ok (.iconst 4, 1) := by decide +kernel
theorem dX7_holdThat_120 : decode cX7_holdThat 120 = .ok (.ireturn, 1) := by decide +kernel
theorem dX7_holdThat_121 : decode cX7_holdThat 121 = .ok (.aload_n 0, 1) := by decide +kernel
theorem dX7_holdThat_122 : decode cX7_holdThat 122 = .ok (.getfield 21, 3) := by decide +kernel
theorem dX7_holdThat_125 : decode cX7_holdThat 125 = .ok (.iload_n 3, 1) := by decide +kernel
theorem dX7_holdThat_126 : decode cX7_holdThat 126 = .ok (.aload 5, 2) := by decide +kernel
theorem dX7_holdThat_128 : decode cX7_holdThat 128 = .ok (.aastore, 1) := by decide +kernel
theorem dX7_holdThat_129 : decode cX7_holdThat 129 = .ok (.iconst 0, 1) := by decide +kernel
theorem dX7_holdThat_130 : decode cX7_holdThat 130 = .ok (.ireturn, 1) := by decide +kernel
