theorem dX0_init_0 : decode cX0_init 0 = .ok (.aload_n 0, 1) := by decide +kernel
theorem dX0_init_1 : decode cX0_init 1 = .ok (.invokespecial 3, 3) := by decide +kernel
theorem dX0_init_4 : decode cX0_init 4 = .ok (.aload_n 0, 1) := by decide +kernel
theorem dX0_init_5 : decode cX0_init 5 = .ok (.bipush 12, 2) := by decide +kernel
theorem dX0_init_7 : decode cX0_init 7 = .ok (.newarray .int, 2) := by decide +kernel
theorem dX0_init_9 : decode cX0_init 9 = .ok (.putfield 9, 3) := by decide +kernel
theorem dX0_init_12 : decode cX0_init 12 = .ok (.aload_n 0, 1) := by decide +kernel
theorem dX0_init_13 : decode cX0_init 13 = .ok (.bipush 6, 2) := by decide +kernel
theorem dX0_init_15 : decode cX0_init 15 = .ok (.newarray .int, 2) := by decide +kernel
theorem dX0_init_17 : decode cX0_init 17 = .ok (.putfield 15, 3) := by decide +kernel
theorem dX0_init_20 : decode cX0_init 20 = .ok (.aload_n 0, 1) := by decide +kernel
theorem dX0_init_21 : decode cX0_init 21 = .ok (.iconst 1, 1) := by decide +kernel
theorem dX0_init_22 : decode cX0_init 22 = .ok (.putfield 18, 3) := by decide +kernel
theorem dX0_init_25 : decode cX0_init 25 = .ok (.aload_n 0, 1) := by decide +kernel
theorem dX0_init_26 : decode cX0_init 26 = .ok (.iconst 1, 1) := by decide +kernel
theorem dX0_init_27 : decode cX0_init 27 = .ok (.putfield 22, 3) := by decide +kernel
theorem dX0_init_30 : decode cX0_init 30 = .ok (.aload_n 0, 1) := by decide +kernel
theorem dX0_init_31 : decode cX0_init 31 = .ok (.bipush 6, 2) := by decide +kernel
theorem dX0_init_33 : decode cX0_init 33 = .ok (.putfield 25, 3) := by decide +kernel
theorem dX0_init_36 : decode cX0_init 36 = .ok (.return_, 1) := by decide +kernel
theorem dX0_changeAt_0 : decode cX0_changeAt 0 = .ok (.iload_n 1, 1) := by decide +kernel
theorem dX0_changeAt_1 : decode cX0_changeAt 1 = .ok (.ifCond .lt 20, 3) := by decide +kernel
theorem dX0_changeAt_4 : decode cX0_changeAt 4 = .ok (.iload_n 1, 1) := by decide +kernel
theorem dX0_changeAt_5 : decode cX0_changeAt 5 = .ok (.aload_n 0, 1) := by decide +kernel
theorem dX0_changeAt_6 : decode cX0_changeAt 6 = .ok (.getfield 28, 3) := by decide +kernel
theorem dX0_changeAt_9 : decode cX0_changeAt 9 = .ok (.if_icmp .ge 12, 3) := by decide +kernel
theorem dX0_changeAt_12 : decode cX0_changeAt 12 = .ok (.aload_n 0, 1) := by decide +kernel
theorem dX0_changeAt_13 : decode cX0_changeAt 13 = .ok (.getfield 9, 3) := by decide +kernel
theorem dX0_changeAt_16 : decode cX0_changeAt 16 = .ok (.iload_n 1, 1) := by decide +kernel
theorem dX0_changeAt_17 : decode cX0_changeAt 17 = .ok (.iaload, 1) := by decide +kernel
theorem dX0_changeAt_18 : decode cX0_changeAt 18 = .ok (.goto 4, 3) := by decide +kernel
theorem dX0_changeAt_21 : decode cX0_changeAt 21 = .ok (.iconst 0, 1) := by decide +kernel
theorem dX0_changeAt_22 : decode cX0_changeAt 22 = .ok (.ireturn, 1) := by decide +kernel
theorem dX0_append_0 : decode cX0_append 0 = .ok (.aload_n 0, 1) := by decide +kernel
theorem dX0_append_1 : decode cX0_append 1 = .ok (.getfield 28, 3) := by decide +kernel
theorem dX0_append_4 : decode cX0_append 4 = .ok (.bipush 12, 2) := by decide +kernel
theorem dX0_append_6 : decode cX0_append 6 = .ok (.if_icmp .ge 23, 3) := by decide +kernel
theorem dX0_append_9 : decode cX0_append 9 = .ok (.aload_n 0, 1) := by decide +kernel
theorem dX0_append_10 : decode cX0_append 10 = .ok (.getfield 9, 3) := by decide +kernel
theorem dX0_append_13 : decode cX0_append 13 = .ok (.aload_n 0, 1) := by decide +kernel
theorem dX0_append_14 : decode cX0_append 14 = .ok (.getfield 28, 3) := by decide +kernel
theorem dX0_append_17 : decode cX0_append 17 = .ok (.iload_n 1, 1) := by decide +kernel
theorem dX0_append_18 : decode cX0_append 18 = .ok (.iastore, 1) := by decide +kernel
theorem dX0_append_19 : decode cX0_append 19 = .ok (.aload_n 0, 1) := by decide +kernel
theorem dX0_append_20 : decode cX0_append 20 = .ok (.dup, 1) := by decide +kernel
theorem dX0_append_21 : decode cX0_append 21 = .ok (.getfield 28, 3) := by decide +kernel
theorem dX0_append_24 : decode cX0_append 24 = .ok (.iconst 1, 1) := by decide +kernel
theorem dX0_append_25 : decode cX0_append 25 = .ok (.iadd, 1) := by decide +kernel
theorem dX0_append_26 : decode cX0_append 26 = .ok (.putfield 28, 3) := by decide +kernel
theorem dX0_append_29 : decode cX0_append 29 = .ok (.return_, 1) := by decide +kernel
theorem dX0_measureCourse_0 : decode cX0_measureCourse 0 = .ok (.aload_n 0, 1) := by decide +kernel
theorem dX0_measureCourse_1 : decode cX0_measureCourse 1 = .ok (.getfield 15, 3) := by decide +kernel
theorem dX0_measureCourse_4 : decode cX0_measureCourse 4 = .ok (.iconst 0, 1) := by decide +kernel
theorem dX0_measureCourse_5 : decode cX0_measureCourse 5 = .ok (.invokestatic 31, 3) := by decide +kernel
theorem dX0_measureCourse_8 : decode cX0_measureCourse 8 = .ok (.aload_n 1, 1) := by decide +kernel
theorem dX0_measureCourse_9 : decode cX0_measureCourse 9 = .ok (.invokevirtual 37, 3) := by decide +kernel
theorem dX0_measureCourse_12 : decode cX0_measureCourse 12 = .ok (.aload_n 0, 1) := by decide +kernel
theorem dX0_measureCourse_13 : decode cX0_measureCourse 13 = .ok (.aload_n 1, 1) := by decide +kernel
theorem dX0_measureCourse_14 : decode cX0_measureCourse 14 = .ok (.invokevirtual 42, 3) := by decide +kernel
theorem dX0_measureCourse_17 : decode cX0_measureCourse 17 = .ok (.aload_n 0, 1) := by decide +kernel
theorem dX0_measureCourse_18 : decode cX0_measureCourse 18 = .ok (.aload_n 1, 1) := by decide +kernel
theorem dX0_measureCourse_19 : decode cX0_measureCourse 19 = .ok (.invokevirtual 46, 3) := by decide +kernel
theorem dX0_measureCourse_22 : decode cX0_measureCourse 22 = .ok (.putfield 25, 3) := by decide +kernel
theorem dX0_measureCourse_25 : decode cX0_measureCourse 25 = .ok (.iconst 1, 1) := by decide +kernel
theorem dX0_measureCourse_26 : decode cX0_measureCourse 26 = .ok (.istore_n 2, 1) := by decide +kernel
theorem dX0_measureCourse_27 : decode cX0_measureCourse 27 = .ok (.iload_n 2, 1) := by decide +kernel
theorem dX0_measureCourse_28 : decode cX0_measureCourse 28 = .ok (.bipush 6, 2) := by decide +kernel
theorem dX0_measureCourse_30 : decode cX0_measureCourse 30 = .ok (.if_icmp .ge 21, 3) := by decide +kernel
theorem dX0_measureCourse_33 : decode cX0_measureCourse 33 = .ok (.aload_n 1, 1) := by decide +kernel
theorem dX0_measureCourse_34 : decode cX0_measureCourse 34 = .ok (.invokevirtual 50, 3) := by decide +kernel
theorem dX0_measureCourse_37 : decode cX0_measureCourse 37 = .ok (.ifCond .ne 14, 3) := by decide +kernel
theorem dX0_measureCourse_40 : decode cX0_measureCourse 40 = .ok (.aload_n 0, 1) := by decide +kernel
theorem dX0_measureCourse_41 : decode cX0_measureCourse 41 = .ok (.aload_n 1, 1) := by decide +kernel
theorem dX0_measureCourse_42 : decode cX0_measureCourse 42 = .ok (.invokevirtual 42, 3) := by decide +kernel
theorem dX0_measureCourse_45 : decode cX0_measureCourse 45 = .ok (.iinc 2 1, 3) := by decide +kernel
theorem dX0_measureCourse_48 : decode cX0_measureCourse 48 = .ok (.goto (-21), 3) := by decide +kernel
theorem dX0_measureCourse_51 : decode cX0_measureCourse 51 = .ok (.aload_n 0, 1) := by decide +kernel
theorem dX0_measureCourse_52 : decode cX0_measureCourse 52 = .ok (.iload_n 2, 1) := by decide +kernel
theorem dX0_measureCourse_53 : decode cX0_measureCourse 53 = .ok (.putfield 18, 3) := by decide +kernel
theorem dX0_measureCourse_56 : decode cX0_measureCourse 56 = .ok (.aload_n 0, 1) := by decide +kernel
theorem dX0_measureCourse_57 : decode cX0_measureCourse 57 = .ok (.aload_n 1, 1) := by decide +kernel
theorem dX0_measureCourse_58 : decode cX0_measureCourse 58 = .ok (.invokevirtual 54, 3) := by decide +kernel
theorem dX0_measureCourse_61 : decode cX0_measureCourse 61 = .ok (.putfield 22, 3) := by decide +kernel
theorem dX0_measureCourse_64 : decode cX0_measureCourse 64 = .ok (.aload_n 0, 1) := by decide +kernel
theorem dX0_measureCourse_65 : decode cX0_measureCourse 65 = .ok (.aload_n 1, 1) := by decide +kernel
theorem dX0_measureCourse_66 : decode cX0_measureCourse 66 = .ok (.invokevirtual 57, 3) := by decide +kernel
theorem dX0_measureCourse_69 : decode cX0_measureCourse 69 = .ok (.putfield 60, 3) := by decide +kernel
theorem dX0_measureCourse_72 : decode cX0_measureCourse 72 = .ok (.return_, 1) := by decide +kernel
theorem dX0_goThroughLead_0 : decode cX0_goThroughLead 0 = .ok (.iconst 0, 1) := by decide +kernel
theorem dX0_goThroughLead_1 : decode cX0_goThroughLead 1 = .ok (.istore_n 2, 1) := by decide +kernel
theorem dX0_goThroughLead_2 : decode cX0_goThroughLead 2 = .ok (.iload_n 2, 1) := by decide +kernel
theorem dX0_goThroughLead_3 : decode cX0_goThroughLead 3 = .ok (.aload_n 0, 1) := by decide +kernel
theorem dX0_goThroughLead_4 : decode cX0_goThroughLead 4 = .ok (.getfield 28, 3) := by decide +kernel
theorem dX0_goThroughLead_7 : decode cX0_goThroughLead 7 = .ok (.if_icmp .ge 51, 3) := by decide +kernel
theorem dX0_goThroughLead_10 : decode cX0_goThroughLead 10 = .ok (.aload_n 1, 1) := by decide +kernel
theorem dX0_goThroughLead_11 : decode cX0_goThroughLead 11 = .ok (.aload_n 0, 1) := by decide +kernel
theorem dX0_goThroughLead_12 : decode cX0_goThroughLead 12 = .ok (.getfield 9, 3) := by decide +kernel
theorem dX0_goThroughLead_15 : decode cX0_goThroughLead 15 = .ok (.iload_n 2, 1) := by decide +kernel
theorem dX0_goThroughLead_16 : decode cX0_goThroughLead 16 = .ok (.iaload, 1) := by decide +kernel
theorem dX0_goThroughLead_17 : decode cX0_goThroughLead 17 = .ok (.invokevirtual 63, 3) := by decide +kernel
theorem dX0_goThroughLead_20 : decode cX0_goThroughLead 20 = .ok (.iconst 0, 1) := by decide +kernel
theorem dX0_goThroughLead_21 : decode cX0_goThroughLead 21 = .ok (.istore_n 3, 1) := by decide +kernel
theorem dX0_goThroughLead_22 : decode cX0_goThroughLead 22 = .ok (.iload_n 3, 1) := by decide +kernel
theorem dX0_goThroughLead_23 : decode cX0_goThroughLead 23 = .ok (.bipush 6, 2) := by decide +kernel
theorem dX0_goThroughLead_25 : decode cX0_goThroughLead 25 = .ok (.if_icmp .ge 27, 3) := by decide +kernel
theorem dX0_goThroughLead_28 : decode cX0_goThroughLead 28 = .ok (.aload_n 1, 1) := by decide +kernel
theorem dX0_goThroughLead_29 : decode cX0_goThroughLead 29 = .ok (.iload_n 3, 1) := by decide +kernel
theorem dX0_goThroughLead_30 : decode cX0_goThroughLead 30 = .ok (.invokevirtual 67, 3) := by decide +kernel
theorem dX0_goThroughLead_33 : decode cX0_goThroughLead 33 = .ok (.ifCond .eq 13, 3) := by decide +kernel
theorem dX0_goThroughLead_36 : decode cX0_goThroughLead 36 = .ok (.aload_n 0, 1) := by decide +kernel
theorem dX0_goThroughLead_37 : decode cX0_goThroughLead 37 = .ok (.getfield 15, 3) := by decide +kernel
theorem dX0_goThroughLead_40 : decode cX0_goThroughLead 40 = .ok (.iload_n 3, 1) := by decide +kernel
theorem dX0_goThroughLead_41 : decode cX0_goThroughLead 41 = .ok (.dup2, 1) := by decide +kernel
theorem dX0_goThroughLead_42 : decode cX0_goThroughLead 42 = .ok (.iaload, 1) := by decide +kernel
theorem dX0_goThroughLead_43 : decode cX0_goThroughLead 43 = .ok (.iconst 1, 1) := by decide +kernel
theorem dX0_goThroughLead_44 : decode cX0_goThroughLead 44 = .ok (.iadd, 1) := by decide +kernel
theorem dX0_goThroughLead_45 : decode cX0_goThroughLead 45 = .ok (.iastore, 1) := by decide +kernel
theorem dX0_goThroughLead_46 : decode cX0_goThroughLead 46 = .ok (.iinc 3 1, 3) := by decide +kernel
theorem dX0_goThroughLead_49 : decode cX0_goThroughLead 49 = .ok (.goto (-27), 3) := by decide +kernel
theorem dX0_goThroughLead_52 : decode cX0_goThroughLead 52 = .ok (.iinc 2 1, 3) := by decide +kernel
theorem dX0_goThroughLead_55 : decode cX0_goThroughLead 55 = .ok (.goto (-53), 3) := by decide +kernel
theorem dX0_goThroughLead_58 : decode cX0_goThroughLead 58 = .ok (.return_, 1) := by decide +kernel
theorem dX0_tellOfCourse_0 : decode cX0_tellOfCourse 0 = .ok (.iload_n 1, 1) := by decide +kernel
theorem dX0_tellOfCourse_1 : decode cX0_tellOfCourse 1 = .ok (.tableswitch 60 0 4 #[35, 40, 45, 50, 55], 35) := by decide +kernel
theorem dX0_tellOfCourse_36 : decode cX0_tellOfCourse 36 = .ok (.aload_n 0, 1) := by decide +kernel
theorem dX0_tellOfCourse_37 : decode cX0_tellOfCourse 37 = .ok (.getfield 28, 3) := by decide +kernel
theorem dX0_tellOfCourse_40 : decode cX0_tellOfCourse 40 = .ok (.ireturn, 1) := by decide +kernel
theorem dX0_tellOfCourse_41 : decode cX0_tellOfCourse 41 = .ok (.aload_n 0, 1) := by decide +kernel
theorem dX0_tellOfCourse_42 : decode cX0_tellOfCourse 42 = .ok (.getfield 18, 3) := by decide +kernel
theorem dX0_tellOfCourse_45 : decode cX0_tellOfCourse 45 = .ok (.ireturn, 1) := by decide +kernel
theorem dX0_tellOfCourse_46 : decode cX0_tellOfCourse 46 = .ok (.aload_n 0, 1) := by decide +kernel
theorem dX0_tellOfCourse_47 : decode cX0_tellOfCourse 47 = .ok (.getfield 22, 3) := by decide +kernel
theorem dX0_tellOfCourse_50 : decode cX0_tellOfCourse 50 = .ok (.ireturn, 1) := by decide +kernel
theorem dX0_tellOfCourse_51 : decode cX0_tellOfCourse 51 = .ok (.aload_n 0, 1) := by decide +kernel
theorem dX0_tellOfCourse_52 : decode cX0_tellOfCourse 52 = .ok (.getfield 60, 3) := by decide +kernel
theorem dX0_tellOfCourse_55 : decode cX0_tellOfCourse 55 = .ok (.ireturn, 1) := by decide +kernel
theorem dX0_tellOfCourse_56 : decode cX0_tellOfCourse 56 = .ok (.aload_n 0, 1) := by decide +kernel
theorem dX0_tellOfCourse_57 : decode cX0_tellOfCourse 57 = .ok (.invokevirtual 71, 3) := by decide +kernel
theorem dX0_tellOfCourse_60 : decode cX0_tellOfCourse 60 = .ok (.ireturn, 1) := by decide +kernel
theorem dX0_tellOfCourse_61 : decode cX0_tellOfCourse 61 = .ok (.aload_n 0, 1) := by decide +kernel
theorem dX0_tellOfCourse_62 : decode cX0_tellOfCourse 62 = .ok (.getfield 25, 3) := by decide +kernel
theorem dX0_tellOfCourse_65 : decode cX0_tellOfCourse 65 = .ok (.ireturn, 1) := by decide +kernel
theorem dX0_allDodges_0 : decode cX0_allDodges 0 = .ok (.iconst 0, 1) := by decide +kernel
theorem dX0_allDodges_1 : decode cX0_allDodges 1 = .ok (.istore_n 1, 1) := by decide +kernel
theorem dX0_allDodges_2 : decode cX0_allDodges 2 = .ok (.iconst 0, 1) := by decide +kernel
theorem dX0_allDodges_3 : decode cX0_allDodges 3 = .ok (.istore_n 2, 1) := by decide +kernel
theorem dX0_allDodges_4 : decode cX0_allDodges 4 = .ok (.iload_n 2, 1) := by decide +kernel
theorem dX0_allDodges_5 : decode cX0_allDodges 5 = .ok (.bipush 6, 2) := by decide +kernel
theorem dX0_allDodges_7 : decode cX0_allDodges 7 = .ok (.if_icmp .ge 18, 3) := by decide +kernel
theorem dX0_allDodges_10 : decode cX0_allDodges 10 = .ok (.iload_n 1, 1) := by decide +kernel
theorem dX0_allDodges_11 : decode cX0_allDodges 11 = .ok (.aload_n 0, 1) := by decide +kernel
theorem dX0_allDodges_12 : decode cX0_allDodges 12 = .ok (.getfield 15, 3) := by decide +kernel
theorem dX0_allDodges_15 : decode cX0_allDodges 15 = .ok (.iload_n 2, 1) := by decide +kernel
theorem dX0_allDodges_16 : decode cX0_allDodges 16 = .ok (.iaload, 1) := by decide +kernel
theorem dX0_allDodges_17 : decode cX0_allDodges 17 = .ok (.iadd, 1) := by decide +kernel
theorem dX0_allDodges_18 : decode cX0_allDodges 18 = .ok (.istore_n 1, 1) := by decide +kernel
theorem dX0_allDodges_19 : decode cX0_allDodges 19 = .ok (.iinc 2 1, 3) := by decide +kernel
theorem dX0_allDodges_22 : decode cX0_allDodges 22 = .ok (.goto (-18), 3) := by decide +kernel
theorem dX0_allDodges_25 : decode cX0_allDodges 25 = .ok (.iload_n 1, 1) := by decide +kernel
theorem dX0_allDodges_26 : decode cX0_allDodges 26 = .ok (.ireturn, 1) := by decide +kernel
theorem dX1_init_0 : decode cX1_init 0 = .ok (.aload_n 0, 1) := by decide +kernel
theorem dX1_init_1 : decode cX1_init 1 = .ok (.invokespecial 3, 3) := by decide +kernel
theorem dX1_init_4 : decode cX1_init 4 = .ok (.aload_n 0, 1) := by decide +kernel
theorem dX1_init_5 : decode cX1_init 5 = .ok (.bipush 6, 2) := by decide +kernel
theorem dX1_init_7 : decode cX1_init 7 = .ok (.newarray .int, 2) := by decide +kernel
theorem dX1_init_9 : decode cX1_init 9 = .ok (.putfield 9, 3) := by decide +kernel
theorem dX1_init_12 : decode cX1_init 12 = .ok (.aload_n 0, 1) := by decide +kernel
theorem dX1_init_13 : decode cX1_init 13 = .ok (.bipush 6, 2) := by decide +kernel
theorem dX1_init_15 : decode cX1_init 15 = .ok (.newarray .int, 2) := by decide +kernel
theorem dX1_init_17 : decode cX1_init 17 = .ok (.putfield 15, 3) := by decide +kernel
theorem dX1_init_20 : decode cX1_init 20 = .ok (.aload_n 0, 1) := by decide +kernel
theorem dX1_init_21 : decode cX1_init 21 = .ok (.bipush 6, 2) := by decide +kernel
theorem dX1_init_23 : decode cX1_init 23 = .ok (.newarray .int, 2) := by decide +kernel
theorem dX1_init_25 : decode cX1_init 25 = .ok (.putfield 18, 3) := by decide +kernel
theorem dX1_init_28 : decode cX1_init 28 = .ok (.aload_n 0, 1) := by decide +kernel
theorem dX1_init_29 : decode cX1_init 29 = .ok (.bipush 122, 2) := by decide +kernel
theorem dX1_init_31 : decode cX1_init 31 = .ok (.newarray .long, 2) := by decide +kernel
theorem dX1_init_33 : decode cX1_init 33 = .ok (.putfield 21, 3) := by decide +kernel
theorem dX1_init_36 : decode cX1_init 36 = .ok (.return_, 1) := by decide +kernel
theorem dX1_begin_0 : decode cX1_begin 0 = .ok (.aload_n 0, 1) := by decide +kernel
theorem dX1_begin_1 : decode cX1_begin 1 = .ok (.getfield 21, 3) := by decide +kernel
theorem dX1_begin_4 : decode cX1_begin 4 = .ok (.lconst 0, 1) := by decide +kernel
theorem dX1_begin_5 : decode cX1_begin 5 = .ok (.invokestatic 25, 3) := by decide +kernel
theorem dX1_begin_8 : decode cX1_begin 8 = .ok (.iconst 0, 1) := by decide +kernel
theorem dX1_begin_9 : decode cX1_begin 9 = .ok (.istore_n 1, 1) := by decide +kernel
theorem dX1_begin_10 : decode cX1_begin 10 = .ok (.iload_n 1, 1) := by decide +kernel
theorem dX1_begin_11 : decode cX1_begin 11 = .ok (.bipush 6, 2) := by decide +kernel
theorem dX1_begin_13 : decode cX1_begin 13 = .ok (.if_icmp .ge 23, 3) := by decide +kernel
theorem dX1_begin_16 : decode cX1_begin 16 = .ok (.aload_n 0, 1) := by decide +kernel
theorem dX1_begin_17 : decode cX1_begin 17 = .ok (.getfield 9, 3) := by decide +kernel
theorem dX1_begin_20 : decode cX1_begin 20 = .ok (.iload_n 1, 1) := by decide +kernel
theorem dX1_begin_21 : decode cX1_begin 21 = .ok (.iload_n 1, 1) := by decide +kernel
theorem dX1_begin_22 : decode cX1_begin 22 = .ok (.iastore, 1) := by decide +kernel
theorem dX1_begin_23 : decode cX1_begin 23 = .ok (.aload_n 0, 1) := by decide +kernel
theorem dX1_begin_24 : decode cX1_begin 24 = .ok (.getfield 15, 3) := by decide +kernel
theorem dX1_begin_27 : decode cX1_begin 27 = .ok (.iload_n 1, 1) := by decide +kernel
theorem dX1_begin_28 : decode cX1_begin 28 = .ok (.iconst 0, 1) := by decide +kernel
theorem dX1_begin_29 : decode cX1_begin 29 = .ok (.iastore, 1) := by decide +kernel
theorem dX1_begin_30 : decode cX1_begin 30 = .ok (.iinc 1 1, 3) := by decide +kernel
theorem dX1_begin_33 : decode cX1_begin 33 = .ok (.goto (-23), 3) := by decide +kernel
theorem dX1_begin_36 : decode cX1_begin 36 = .ok (.aload_n 0, 1) := by decide +kernel
theorem dX1_begin_37 : decode cX1_begin 37 = .ok (.iconst 0, 1) := by decide +kernel
theorem dX1_begin_38 : decode cX1_begin 38 = .ok (.putfield 31, 3) := by decide +kernel
theorem dX1_begin_41 : decode cX1_begin 41 = .ok (.aload_n 0, 1) := by decide +kernel
theorem dX1_begin_42 : decode cX1_begin 42 = .ok (.iconst 0, 1) := by decide +kernel
theorem dX1_begin_43 : decode cX1_begin 43 = .ok (.putfield 35, 3) := by decide +kernel
theorem dX1_begin_46 : decode cX1_begin 46 = .ok (.aload_n 0, 1) := by decide +kernel
theorem dX1_begin_47 : decode cX1_begin 47 = .ok (.invokevirtual 38, 3) := by decide +kernel
theorem dX1_begin_50 : decode cX1_begin 50 = .ok (.return_, 1) := by decide +kernel
theorem dX1_makeChange_0 : decode cX1_makeChange 0 = .ok (.iconst 0, 1) := by decide +kernel
theorem dX1_makeChange_1 : decode cX1_makeChange 1 = .ok (.istore_n 2, 1) := by decide +kernel
theorem dX1_makeChange_2 : decode cX1_makeChange 2 = .ok (.iload_n 2, 1) := by decide +kernel
theorem dX1_makeChange_3 : decode cX1_makeChange 3 = .ok (.bipush 6, 2) := by decide +kernel
theorem dX1_makeChange_5 : decode cX1_makeChange 5 = .ok (.if_icmp .ge 49, 3) := by decide +kernel
theorem dX1_makeChange_8 : decode cX1_makeChange 8 = .ok (.aload_n 0, 1) := by decide +kernel
theorem dX1_makeChange_9 : decode cX1_makeChange 9 = .ok (.getfield 9, 3) := by decide +kernel
theorem dX1_makeChange_12 : decode cX1_makeChange 12 = .ok (.iload_n 2, 1) := by decide +kernel
theorem dX1_makeChange_13 : decode cX1_makeChange 13 = .ok (.iaload, 1) := by decide +kernel
theorem dX1_makeChange_14 : decode cX1_makeChange 14 = .ok (.iload_n 1, 1) := by decide +kernel
theorem dX1_makeChange_15 : decode cX1_makeChange 15 = .ok (.invokestatic 41, 3) := by decide +kernel
theorem dX1_makeChange_18 : decode cX1_makeChange 18 = .ok (.istore_n 3, 1) := by decide +kernel
theorem dX1_makeChange_19 : decode cX1_makeChange 19 = .ok (.aload_n 0, 1) := by decide +kernel
theorem dX1_makeChange_20 : decode cX1_makeChange 20 = .ok (.getfield 18, 3) := by decide +kernel
theorem dX1_makeChange_23 : decode cX1_makeChange 23 = .ok (.iload_n 2, 1) := by decide +kernel
theorem dX1_makeChange_24 : decode cX1_makeChange 24 = .ok (.aload_n 0, 1) := by decide +kernel
theorem dX1_makeChange_25 : decode cX1_makeChange 25 = .ok (.getfield 15, 3) := by decide +kernel
theorem dX1_makeChange_28 : decode cX1_makeChange 28 = .ok (.iload_n 2, 1) := by decide +kernel
theorem dX1_makeChange_29 : decode cX1_makeChange 29 = .ok (.iaload, 1) := by decide +kernel
theorem dX1_makeChange_30 : decode cX1_makeChange 30 = .ok (.iastore, 1) := by decide +kernel
theorem dX1_makeChange_31 : decode cX1_makeChange 31 = .ok (.aload_n 0, 1) := by decide +kernel
theorem dX1_makeChange_32 : decode cX1_makeChange 32 = .ok (.getfield 15, 3) := by decide +kernel
theorem dX1_makeChange_35 : decode cX1_makeChange 35 = .ok (.iload_n 2, 1) := by decide +kernel
theorem dX1_makeChange_36 : decode cX1_makeChange 36 = .ok (.iload_n 3, 1) := by decide +kernel
theorem dX1_makeChange_37 : decode cX1_makeChange 37 = .ok (.iastore, 1) := by decide +kernel
theorem dX1_makeChange_38 : decode cX1_makeChange 38 = .ok (.aload_n 0, 1) := by decide +kernel
theorem dX1_makeChange_39 : decode cX1_makeChange 39 = .ok (.getfield 9, 3) := by decide +kernel
theorem dX1_makeChange_42 : decode cX1_makeChange 42 = .ok (.iload_n 2, 1) := by decide +kernel
theorem dX1_makeChange_43 : decode cX1_makeChange 43 = .ok (.dup2, 1) := by decide +kernel
theorem dX1_makeChange_44 : decode cX1_makeChange 44 = .ok (.iaload, 1) := by decide +kernel
theorem dX1_makeChange_45 : decode cX1_makeChange 45 = .ok (.iload_n 3, 1) := by decide +kernel
theorem dX1_makeChange_46 : decode cX1_makeChange 46 = .ok (.iadd, 1) := by decide +kernel
theorem dX1_makeChange_47 : decode cX1_makeChange 47 = .ok (.iastore, 1) := by decide +kernel
theorem dX1_makeChange_48 : decode cX1_makeChange 48 = .ok (.iinc 2 1, 3) := by decide +kernel
theorem dX1_makeChange_51 : decode cX1_makeChange 51 = .ok (.goto (-49), 3) := by decide +kernel
theorem dX1_makeChange_54 : decode cX1_makeChange 54 = .ok (.aload_n 0, 1) := by decide +kernel
theorem dX1_makeChange_55 : decode cX1_makeChange 55 = .ok (.dup, 1) := by decide +kernel
theorem dX1_makeChange_56 : decode cX1_makeChange 56 = .ok (.getfield 31, 3) := by decide +kernel
theorem dX1_makeChange_59 : decode cX1_makeChange 59 = .ok (.iconst 1, 1) := by decide +kernel
theorem dX1_makeChange_60 : decode cX1_makeChange 60 = .ok (.iadd, 1) := by decide +kernel
theorem dX1_makeChange_61 : decode cX1_makeChange 61 = .ok (.putfield 31, 3) := by decide +kernel
theorem dX1_makeChange_64 : decode cX1_makeChange 64 = .ok (.aload_n 0, 1) := by decide +kernel
theorem dX1_makeChange_65 : decode cX1_makeChange 65 = .ok (.invokevirtual 38, 3) := by decide +kernel
theorem dX1_makeChange_68 : decode cX1_makeChange 68 = .ok (.return_, 1) := by decide +kernel
theorem dX1_moveFrom_0 : decode cX1_moveFrom 0 = .ok (.iload_n 1, 1) := by decide +kernel
theorem dX1_moveFrom_1 : decode cX1_moveFrom 1 = .ok (.iload_n 0, 1) := by decide +kernel
theorem dX1_moveFrom_2 : decode cX1_moveFrom 2 = .ok (.ishr, 1) := by decide +kernel
theorem dX1_moveFrom_3 : decode cX1_moveFrom 3 = .ok (.iconst 1, 1) := by decide +kernel
theorem dX1_moveFrom_4 : decode cX1_moveFrom 4 = .ok (.iand, 1) := by decide +kernel
theorem dX1_moveFrom_5 : decode cX1_moveFrom 5 = .ok (.ifCond .eq 5, 3) := by decide +kernel
theorem dX1_moveFrom_8 : decode cX1_moveFrom 8 = .ok (.iconst 1, 1) := by decide +kernel
theorem dX1_moveFrom_9 : decode cX1_moveFrom 9 = .ok (.ireturn, 1) := by decide +kernel
theorem dX1_moveFrom_10 : decode cX1_moveFrom 10 = .ok (.iload_n 0, 1) := by decide +kernel
theorem dX1_moveFrom_11 : decode cX1_moveFrom 11 = .ok (.ifCond .le 15, 3) := by decide +kernel
theorem dX1_moveFrom_14 : decode cX1_moveFrom 14 = .ok (.iload_n 1, 1) := by decide +kernel
theorem dX1_moveFrom_15 : decode cX1_moveFrom 15 = .ok (.iload_n 0, 1) := by decide +kernel
theorem dX1_moveFrom_16 : decode cX1_moveFrom 16 = .ok (.iconst 1, 1) := by decide +kernel
theorem dX1_moveFrom_17 : decode cX1_moveFrom 17 = .ok (.isub, 1) := by decide +kernel
theorem dX1_moveFrom_18 : decode cX1_moveFrom 18 = .ok (.ishr, 1) := by decide +kernel
theorem dX1_moveFrom_19 : decode cX1_moveFrom 19 = .ok (.iconst 1, 1) := by decide +kernel
theorem dX1_moveFrom_20 : decode cX1_moveFrom 20 = .ok (.iand, 1) := by decide +kernel
theorem dX1_moveFrom_21 : decode cX1_moveFrom 21 = .ok (.ifCond .eq 5, 3) := by decide +kernel
theorem dX1_moveFrom_24 : decode cX1_moveFrom 24 = .ok (.iconst (-1), 1) := by decide +kernel
theorem dX1_moveFrom_25 : decode cX1_moveFrom 25 = .ok (.ireturn, 1) := by decide +kernel
theorem dX1_moveFrom_26 : decode cX1_moveFrom 26 = .ok (.iconst 0, 1) := by decide +kernel
theorem dX1_moveFrom_27 : decode cX1_moveFrom 27 = .ok (.ireturn, 1) := by decide +kernel
theorem dX1_noteRow_0 : decode cX1_noteRow 0 = .ok (.iconst 0, 1) := by decide +kernel
theorem dX1_noteRow_1 : decode cX1_noteRow 1 = .ok (.istore_n 1, 1) := by decide +kernel
theorem dX1_noteRow_2 : decode cX1_noteRow 2 = .ok (.iconst 0, 1) := by decide +kernel
theorem dX1_noteRow_3 : decode cX1_noteRow 3 = .ok (.istore_n 2, 1) := by decide +kernel
theorem dX1_noteRow_4 : decode cX1_noteRow 4 = .ok (.iload_n 2, 1) := by decide +kernel
theorem dX1_noteRow_5 : decode cX1_noteRow 5 = .ok (.iconst 5, 1) := by decide +kernel
theorem dX1_noteRow_6 : decode cX1_noteRow 6 = .ok (.if_icmp .ge 21, 3) := by decide +kernel
theorem dX1_noteRow_9 : decode cX1_noteRow 9 = .ok (.iload_n 1, 1) := by decide +kernel
theorem dX1_noteRow_10 : decode cX1_noteRow 10 = .ok (.bipush 6, 2) := by decide +kernel
theorem dX1_noteRow_12 : decode cX1_noteRow 12 = .ok (.imul, 1) := by decide +kernel
theorem dX1_noteRow_13 : decode cX1_noteRow 13 = .ok (.aload_n 0, 1) := by decide +kernel
theorem dX1_noteRow_14 : decode cX1_noteRow 14 = .ok (.getfield 9, 3) := by decide +kernel
theorem dX1_noteRow_17 : decode cX1_noteRow 17 = .ok (.iload_n 2, 1) := by decide +kernel
theorem dX1_noteRow_18 : decode cX1_noteRow 18 = .ok (.iaload, 1) := by decide +kernel
theorem dX1_noteRow_19 : decode cX1_noteRow 19 = .ok (.iadd, 1) := by decide +kernel
theorem dX1_noteRow_20 : decode cX1_noteRow 20 = .ok (.istore_n 1, 1) := by decide +kernel
theorem dX1_noteRow_21 : decode cX1_noteRow 21 = .ok (.iinc 2 1, 3) := by decide +kernel
theorem dX1_noteRow_24 : decode cX1_noteRow 24 = .ok (.goto (-20), 3) := by decide +kernel
theorem dX1_noteRow_27 : decode cX1_noteRow 27 = .ok (.iload_n 1, 1) := by decide +kernel
theorem dX1_noteRow_28 : decode cX1_noteRow 28 = .ok (.bipush 64, 2) := by decide +kernel
theorem dX1_noteRow_30 : decode cX1_noteRow 30 = .ok (.idiv, 1) := by decide +kernel
theorem dX1_noteRow_31 : decode cX1_noteRow 31 = .ok (.istore_n 2, 1) := by decide +kernel
theorem dX1_noteRow_32 : decode cX1_noteRow 32 = .ok (.iload_n 2, 1) := by decide +kernel
theorem dX1_noteRow_33 : decode cX1_noteRow 33 = .ok (.ifCond .lt 9, 3) := by decide +kernel
theorem dX1_noteRow_36 : decode cX1_noteRow 36 = .ok (.iload_n 2, 1) := by decide +kernel
theorem dX1_noteRow_37 : decode cX1_noteRow 37 = .ok (.bipush 122, 2) := by decide +kernel
theorem dX1_noteRow_39 : decode cX1_noteRow 39 = .ok (.if_icmp .lt 4, 3) := by decide +kernel
theorem dX1_noteRow_42 : decode cX1_noteRow 42 = .ok (.return_, 1) := by decide +kernel
theorem dX1_noteRow_43 : decode cX1_noteRow 43 = .ok (.lconst 1, 1) := by decide +kernel
theorem dX1_noteRow_44 : decode cX1_noteRow 44 = .ok (.iload_n 1, 1) := by decide +kernel
theorem dX1_noteRow_45 : decode cX1_noteRow 45 = .ok (.bipush 64, 2) := by decide +kernel
theorem dX1_noteRow_47 : decode cX1_noteRow 47 = .ok (.irem, 1) := by decide +kernel
theorem dX1_noteRow_48 : decode cX1_noteRow 48 = .ok (.lshl, 1) := by decide +kernel
theorem dX1_noteRow_49 : decode cX1_noteRow 49 = .ok (.lstore_n 3, 1) := by decide +kernel
theorem dX1_noteRow_50 : decode cX1_noteRow 50 = .ok (.aload_n 0, 1) := by decide +kernel
theorem dX1_noteRow_51 : decode cX1_noteRow 51 = .ok (.getfield 21, 3) := by decide +kernel
theorem dX1_noteRow_54 : decode cX1_noteRow 54 = .ok (.iload_n 2, 1) := by decide +kernel
theorem dX1_noteRow_55 : decode cX1_noteRow 55 = .ok (.laload, 1) := by decide +kernel
theorem dX1_noteRow_56 : decode cX1_noteRow 56 = .ok (.lload_n 3, 1) := by decide +kernel
theorem dX1_noteRow_57 : decode cX1_noteRow 57 = .ok (.land, 1) := by decide +kernel
theorem dX1_noteRow_58 : decode cX1_noteRow 58 = .ok (.lconst 0, 1) := by decide +kernel
theorem dX1_noteRow_59 : decode cX1_noteRow 59 = .ok (.lcmp, 1) := by decide +kernel
theorem dX1_noteRow_60 : decode cX1_noteRow 60 = .ok (.ifCond .eq 13, 3) := by decide +kernel
theorem dX1_noteRow_63 : decode cX1_noteRow 63 = .ok (.aload_n 0, 1) := by decide +kernel
theorem dX1_noteRow_64 : decode cX1_noteRow 64 = .ok (.dup, 1) := by decide +kernel
theorem dX1_noteRow_65 : decode cX1_noteRow 65 = .ok (.getfield 35, 3) := by decide +kernel
theorem dX1_noteRow_68 : decode cX1_noteRow 68 = .ok (.iconst 1, 1) := by decide +kernel
theorem dX1_noteRow_69 : decode cX1_noteRow 69 = .ok (.iadd, 1) := by decide +kernel
theorem dX1_noteRow_70 : decode cX1_noteRow 70 = .ok (.putfield 35, 3) := by decide +kernel
theorem dX1_noteRow_73 : decode cX1_noteRow 73 = .ok (.aload_n 0, 1) := by decide +kernel
theorem dX1_noteRow_74 : decode cX1_noteRow 74 = .ok (.getfield 21, 3) := by decide +kernel
theorem dX1_noteRow_77 : decode cX1_noteRow 77 = .ok (.iload_n 2, 1) := by decide +kernel
theorem dX1_noteRow_78 : decode cX1_noteRow 78 = .ok (.dup2, 1) := by decide +kernel
theorem dX1_noteRow_79 : decode cX1_noteRow 79 = .ok (.laload, 1) := by decide +kernel
theorem dX1_noteRow_80 : decode cX1_noteRow 80 = .ok (.lload_n 3, 1) := by decide +kernel
theorem dX1_noteRow_81 : decode cX1_noteRow 81 = .ok (.lor, 1) := by decide +kernel
theorem dX1_noteRow_82 : decode cX1_noteRow 82 = .ok (.lastore, 1) := by decide +kernel
theorem dX1_noteRow_83 : decode cX1_noteRow 83 = .ok (.return_, 1) := by decide +kernel
theorem dX1_hasDodged_0 : decode cX1_hasDodged 0 = .ok (.iload_n 1, 1) := by decide +kernel
theorem dX1_hasDodged_1 : decode cX1_hasDodged 1 = .ok (.ifCond .lt 9, 3) := by decide +kernel
theorem dX1_hasDodged_4 : decode cX1_hasDodged 4 = .ok (.iload_n 1, 1) := by decide +kernel
theorem dX1_hasDodged_5 : decode cX1_hasDodged 5 = .ok (.bipush 6, 2) := by decide +kernel
theorem dX1_hasDodged_7 : decode cX1_hasDodged 7 = .ok (.if_icmp .lt 5, 3) := by decide +kernel
theorem dX1_hasDodged_10 : decode cX1_hasDodged 10 = .ok (.iconst 0, 1) := by decide +kernel
theorem dX1_hasDodged_11 : decode cX1_hasDodged 11 = .ok (.ireturn, 1) := by decide +kernel
theorem dX1_hasDodged_12 : decode cX1_hasDodged 12 = .ok (.aload_n 0, 1) := by decide +kernel
theorem dX1_hasDodged_13 : decode cX1_hasDodged 13 = .ok (.getfield 15, 3) := by decide +kernel
theorem dX1_hasDodged_16 : decode cX1_hasDodged 16 = .ok (.iload_n 1, 1) := by decide +kernel
theorem dX1_hasDodged_17 : decode cX1_hasDodged 17 = .ok (.iaload, 1) := by decide +kernel
theorem dX1_hasDodged_18 : decode cX1_hasDodged 18 = .ok (.ifCond .eq 23, 3) := by decide +kernel
theorem dX1_hasDodged_21 : decode cX1_hasDodged 21 = .ok (.aload_n 0, 1) := by decide +kernel
theorem dX1_hasDodged_22 : decode cX1_hasDodged 22 = .ok (.getfield 15, 3) := by decide +kernel
theorem dX1_hasDodged_25 : decode cX1_hasDodged 25 = .ok (.iload_n 1, 1) := by decide +kernel
theorem dX1_hasDodged_26 : decode cX1_hasDodged 26 = .ok (.iaload, 1) := by decide +kernel
theorem dX1_hasDodged_27 : decode cX1_hasDodged 27 = .ok (.aload_n 0, 1) := by decide +kernel
theorem dX1_hasDodged_28 : decode cX1_hasDodged 28 = .ok (.getfield 18, 3) := by decide +kernel
theorem dX1_hasDodged_31 : decode cX1_hasDodged 31 = .ok (.iload_n 1, 1) := by decide +kernel
theorem dX1_hasDodged_32 : decode cX1_hasDodged 32 = .ok (.iaload, 1) := by decide +kernel
theorem dX1_hasDodged_33 : decode cX1_hasDodged 33 = .ok (.ineg, 1) := by decide +kernel
theorem dX1_hasDodged_34 : decode cX1_hasDodged 34 = .ok (.if_icmp .ne 7, 3) := by decide +kernel
theorem dX1_hasDodged_37 : decode cX1_hasDodged 37 = .ok (.iconst 1, 1) := by decide +kernel
theorem dX1_hasDodged_38 : decode cX1_hasDodged 38 = .ok (.goto 4, 3) := by decide +kernel
theorem dX1_hasDodged_41 : decode cX1_hasDodged 41 = .ok (.iconst 0, 1) := by decide +kernel
theorem dX1_hasDodged_42 : decode cX1_hasDodged 42 = .ok (.ireturn, 1) := by decide +kernel
theorem dX1_bellsAtHome_0 : decode cX1_bellsAtHome 0 = .ok (.iconst 0, 1) := by decide +kernel
theorem dX1_bellsAtHome_1 : decode cX1_bellsAtHome 1 = .ok (.istore_n 1, 1) := by decide +kernel
theorem dX1_bellsAtHome_2 : decode cX1_bellsAtHome 2 = .ok (.iconst 0, 1) := by decide +kernel
theorem dX1_bellsAtHome_3 : decode cX1_bellsAtHome 3 = .ok (.istore_n 2, 1) := by decide +kernel
theorem dX1_bellsAtHome_4 : decode cX1_bellsAtHome 4 = .ok (.iload_n 2, 1) := by decide +kernel
theorem dX1_bellsAtHome_5 : decode cX1_bellsAtHome 5 = .ok (.bipush 6, 2) := by decide +kernel
theorem dX1_bellsAtHome_7 : decode cX1_bellsAtHome 7 = .ok (.if_icmp .ge 22, 3) := by decide +kernel
theorem dX1_bellsAtHome_10 : decode cX1_bellsAtHome 10 = .ok (.aload_n 0, 1) := by decide +kernel
theorem dX1_bellsAtHome_11 : decode cX1_bellsAtHome 11 = .ok (.getfield 9, 3) := by decide +kernel
theorem dX1_bellsAtHome_14 : decode cX1_bellsAtHome 14 = .ok (.iload_n 2, 1) := by decide +kernel
theorem dX1_bellsAtHome_15 : decode cX1_bellsAtHome 15 = .ok (.iaload, 1) := by decide +kernel
theorem dX1_bellsAtHome_16 : decode cX1_bellsAtHome 16 = .ok (.iload_n 2, 1) := by decide +kernel
theorem dX1_bellsAtHome_17 : decode cX1_bellsAtHome 17 = .ok (.if_icmp .ne 6, 3) := by decide +kernel
theorem dX1_bellsAtHome_20 : decode cX1_bellsAtHome 20 = .ok (.iinc 1 1, 3) := by decide +kernel
theorem dX1_bellsAtHome_23 : decode cX1_bellsAtHome 23 = .ok (.iinc 2 1, 3) := by decide +kernel
theorem dX1_bellsAtHome_26 : decode cX1_bellsAtHome 26 = .ok (.goto (-22), 3) := by decide +kernel
theorem dX1_bellsAtHome_29 : decode cX1_bellsAtHome 29 = .ok (.iload_n 1, 1) := by decide +kernel
theorem dX1_bellsAtHome_30 : decode cX1_bellsAtHome 30 = .ok (.ireturn, 1) := by decide +kernel
theorem dX1_isRounds_0 : decode cX1_isRounds 0 = .ok (.aload_n 0, 1) := by decide +kernel
theorem dX1_isRounds_1 : decode cX1_isRounds 1 = .ok (.invokevirtual 45, 3) := by decide +kernel
theorem dX1_isRounds_4 : decode cX1_isRounds 4 = .ok (.bipush 6, 2) := by decide +kernel
theorem dX1_isRounds_6 : decode cX1_isRounds 6 = .ok (.if_icmp .ne 7, 3) := by decide +kernel
theorem dX1_isRounds_9 : decode cX1_isRounds 9 = .ok (.iconst 1, 1) := by decide +kernel
theorem dX1_isRounds_10 : decode cX1_isRounds 10 = .ok (.goto 4, 3) := by decide +kernel
theorem dX1_isRounds_13 : decode cX1_isRounds 13 = .ok (.iconst 0, 1) := by decide +kernel
theorem dX1_isRounds_14 : decode cX1_isRounds 14 = .ok (.ireturn, 1) := by decide +kernel
theorem dX1_falseRows_0 : decode cX1_falseRows 0 = .ok (.aload_n 0, 1) := by decide +kernel
theorem dX1_falseRows_1 : decode cX1_falseRows 1 = .ok (.invokevirtual 49, 3) := by decide +kernel
theorem dX1_falseRows_4 : decode cX1_falseRows 4 = .ok (.ifCond .eq 19, 3) := by decide +kernel
theorem dX1_falseRows_7 : decode cX1_falseRows 7 = .ok (.aload_n 0, 1) := by decide +kernel
theorem dX1_falseRows_8 : decode cX1_falseRows 8 = .ok (.getfield 31, 3) := by decide +kernel
theorem dX1_falseRows_11 : decode cX1_falseRows 11 = .ok (.ifCond .le 12, 3) := by decide +kernel
theorem dX1_falseRows_14 : decode cX1_falseRows 14 = .ok (.aload_n 0, 1) := by decide +kernel
theorem dX1_falseRows_15 : decode cX1_falseRows 15 = .ok (.getfield 35, 3) := by decide +kernel
theorem dX1_falseRows_18 : decode cX1_falseRows 18 = .ok (.iconst 1, 1) := by decide +kernel
theorem dX1_falseRows_19 : decode cX1_falseRows 19 = .ok (.isub, 1) := by decide +kernel
theorem dX1_falseRows_20 : decode cX1_falseRows 20 = .ok (.goto 7, 3) := by decide +kernel
theorem dX1_falseRows_23 : decode cX1_falseRows 23 = .ok (.aload_n 0, 1) := by decide +kernel
theorem dX1_falseRows_24 : decode cX1_falseRows 24 = .ok (.getfield 35, 3) := by decide +kernel
theorem dX1_falseRows_27 : decode cX1_falseRows 27 = .ok (.ireturn, 1) := by decide +kernel
theorem dX1_differentRows_0 : decode cX1_differentRows 0 = .ok (.aload_n 0, 1) := by decide +kernel
theorem dX1_differentRows_1 : decode cX1_differentRows 1 = .ok (.getfield 31, 3) := by decide +kernel
theorem dX1_differentRows_4 : decode cX1_differentRows 4 = .ok (.iconst 1, 1) := by decide +kernel
theorem dX1_differentRows_5 : decode cX1_differentRows 5 = .ok (.iadd, 1) := by decide +kernel
theorem dX1_differentRows_6 : decode cX1_differentRows 6 = .ok (.aload_n 0, 1) := by decide +kernel
theorem dX1_differentRows_7 : decode cX1_differentRows 7 = .ok (.getfield 35, 3) := by decide +kernel
theorem dX1_differentRows_10 : decode cX1_differentRows 10 = .ok (.isub, 1) := by decide +kernel
theorem dX1_differentRows_11 : decode cX1_differentRows 11 = .ok (.ireturn, 1) := by decide +kernel
theorem dX1_rowCode_0 : decode cX1_rowCode 0 = .ok (.iconst 0, 1) := by decide +kernel
theorem dX1_rowCode_1 : decode cX1_rowCode 1 = .ok (.istore_n 1, 1) := by decide +kernel
theorem dX1_rowCode_2 : decode cX1_rowCode 2 = .ok (.iconst 0, 1) := by decide +kernel
theorem dX1_rowCode_3 : decode cX1_rowCode 3 = .ok (.istore_n 2, 1) := by decide +kernel
theorem dX1_rowCode_4 : decode cX1_rowCode 4 = .ok (.iload_n 2, 1) := by decide +kernel
theorem dX1_rowCode_5 : decode cX1_rowCode 5 = .ok (.bipush 6, 2) := by decide +kernel
theorem dX1_rowCode_7 : decode cX1_rowCode 7 = .ok (.if_icmp .ge 20, 3) := by decide +kernel
theorem dX1_rowCode_10 : decode cX1_rowCode 10 = .ok (.iload_n 1, 1) := by decide +kernel
theorem dX1_rowCode_11 : decode cX1_rowCode 11 = .ok (.bipush 6, 2) := by decide +kernel
theorem dX1_rowCode_13 : decode cX1_rowCode 13 = .ok (.imul, 1) := by decide +kernel
theorem dX1_rowCode_14 : decode cX1_rowCode 14 = .ok (.aload_n 0, 1) := by decide +kernel
theorem dX1_rowCode_15 : decode cX1_rowCode 15 = .ok (.iload_n 2, 1) := by decide +kernel
theorem dX1_rowCode_16 : decode cX1_rowCode 16 = .ok (.invokevirtual 53, 3) := by decide +kernel
theorem dX1_rowCode_19 : decode cX1_rowCode 19 = .ok (.iadd, 1) := by decide +kernel
theorem dX1_rowCode_20 : decode cX1_rowCode 20 = .ok (.istore_n 1, 1) := by decide +kernel
theorem dX1_rowCode_21 : decode cX1_rowCode 21 = .ok (.iinc 2 1, 3) := by decide +kernel
theorem dX1_rowCode_24 : decode cX1_rowCode 24 = .ok (.goto (-20), 3) := by decide +kernel
theorem dX1_rowCode_27 : decode cX1_rowCode 27 = .ok (.iload_n 1, 1) := by decide +kernel
theorem dX1_rowCode_28 : decode cX1_rowCode 28 = .ok (.ireturn, 1) := by decide +kernel
theorem dX1_bellAt_0 : decode cX1_bellAt 0 = .ok (.iconst 0, 1) := by decide +kernel
theorem dX1_bellAt_1 : decode cX1_bellAt 1 = .ok (.istore_n 2, 1) := by decide +kernel
theorem dX1_bellAt_2 : decode cX1_bellAt 2 = .ok (.iload_n 2, 1) := by decide +kernel
theorem dX1_bellAt_3 : decode cX1_bellAt 3 = .ok (.bipush 6, 2) := by decide +kernel
theorem dX1_bellAt_5 : decode cX1_bellAt 5 = .ok (.if_icmp .ge 21, 3) := by decide +kernel
theorem dX1_bellAt_8 : decode cX1_bellAt 8 = .ok (.aload_n 0, 1) := by decide +kernel
theorem dX1_bellAt_9 : decode cX1_bellAt 9 = .ok (.getfield 9, 3) := by decide +kernel
theorem dX1_bellAt_12 : decode cX1_bellAt 12 = .ok (.iload_n 2, 1) := by decide +kernel
theorem dX1_bellAt_13 : decode cX1_bellAt 13 = .ok (.iaload, 1) := by decide +kernel
theorem dX1_bellAt_14 : decode cX1_bellAt 14 = .ok (.iload_n 1, 1) := by decide +kernel
theorem dX1_bellAt_15 : decode cX1_bellAt 15 = .ok (.if_icmp .ne 5, 3) := by decide +kernel
theorem dX1_bellAt_18 : decode cX1_bellAt 18 = .ok (.iload_n 2, 1) := by decide +kernel
theorem dX1_bellAt_19 : decode cX1_bellAt 19 = .ok (.ireturn, 1) := by decide +kernel
theorem dX1_bellAt_20 : decode cX1_bellAt 20 = .ok (.iinc 2 1, 3) := by decide +kernel
theorem dX1_bellAt_23 : decode cX1_bellAt 23 = .ok (.goto (-21), 3) := by decide +kernel
theorem dX1_bellAt_26 : decode cX1_bellAt 26 = .ok (.iconst 0, 1) := by decide +kernel
theorem dX1_bellAt_27 : decode cX1_bellAt 27 = .ok (.ireturn, 1) := by decide +kernel
theorem dX2_init_0 : decode cX2_init 0 = .ok (.aload_n 0, 1) := by decide +kernel
theorem dX2_init_1 : decode cX2_init 1 = .ok (.invokespecial 3, 3) := by decide +kernel
theorem dX2_init_4 : decode cX2_init 4 = .ok (.aload_n 0, 1) := by decide +kernel
theorem dX2_init_5 : decode cX2_init 5 = .ok (.bipush 20, 2) := by decide +kernel
theorem dX2_init_7 : decode cX2_init 7 = .ok (.newarray .int, 2) := by decide +kernel
theorem dX2_init_9 : decode cX2_init 9 = .ok (.putfield 9, 3) := by decide +kernel
theorem dX2_init_12 : decode cX2_init 12 = .ok (.aload_n 0, 1) := by decide +kernel
theorem dX2_init_13 : decode cX2_init 13 = .ok (.bipush 20, 2) := by decide +kernel
theorem dX2_init_15 : decode cX2_init 15 = .ok (.newarray .int, 2) := by decide +kernel
theorem dX2_init_17 : decode cX2_init 17 = .ok (.putfield 15, 3) := by decide +kernel
theorem dX2_init_20 : decode cX2_init 20 = .ok (.aload_n 0, 1) := by decide +kernel
theorem dX2_init_21 : decode cX2_init 21 = .ok (.bipush 20, 2) := by decide +kernel
theorem dX2_init_23 : decode cX2_init 23 = .ok (.newarray .int, 2) := by decide +kernel
theorem dX2_init_25 : decode cX2_init 25 = .ok (.putfield 18, 3) := by decide +kernel
theorem dX2_init_28 : decode cX2_init 28 = .ok (.aload_n 0, 1) := by decide +kernel
theorem dX2_init_29 : decode cX2_init 29 = .ok (.bipush 20, 2) := by decide +kernel
theorem dX2_init_31 : decode cX2_init 31 = .ok (.newarray .int, 2) := by decide +kernel
theorem dX2_init_33 : decode cX2_init 33 = .ok (.putfield 21, 3) := by decide +kernel
theorem dX2_init_36 : decode cX2_init 36 = .ok (.aload_n 0, 1) := by decide +kernel
theorem dX2_init_37 : decode cX2_init 37 = .ok (.bipush 20, 2) := by decide +kernel
theorem dX2_init_39 : decode cX2_init 39 = .ok (.newarray .int, 2) := by decide +kernel
theorem dX2_init_41 : decode cX2_init 41 = .ok (.putfield 24, 3) := by decide +kernel
theorem dX2_init_44 : decode cX2_init 44 = .ok (.aload_n 0, 1) := by decide +kernel
theorem dX2_init_45 : decode cX2_init 45 = .ok (.bipush 20, 2) := by decide +kernel
theorem dX2_init_47 : decode cX2_init 47 = .ok (.newarray .int, 2) := by decide +kernel
theorem dX2_init_49 : decode cX2_init 49 = .ok (.putfield 27, 3) := by decide +kernel
theorem dX2_init_52 : decode cX2_init 52 = .ok (.aload_n 0, 1) := by decide +kernel
theorem dX2_init_53 : decode cX2_init 53 = .ok (.bipush 20, 2) := by decide +kernel
theorem dX2_init_55 : decode cX2_init 55 = .ok (.newarray .int, 2) := by decide +kernel
theorem dX2_init_57 : decode cX2_init 57 = .ok (.putfield 30, 3) := by decide +kernel
theorem dX2_init_60 : decode cX2_init 60 = .ok (.aload_n 0, 1) := by decide +kernel
theorem dX2_init_61 : decode cX2_init 61 = .ok (.bipush 18, 2) := by decide +kernel
theorem dX2_init_63 : decode cX2_init 63 = .ok (.newarray .int, 2) := by decide +kernel
theorem dX2_init_65 : decode cX2_init 65 = .ok (.putfield 33, 3) := by decide +kernel
theorem dX2_init_68 : decode cX2_init 68 = .ok (.iconst 0, 1) := by decide +kernel
theorem dX2_init_69 : decode cX2_init 69 = .ok (.istore_n 1, 1) := by decide +kernel
theorem dX2_init_70 : decode cX2_init 70 = .ok (.iload_n 1, 1) := by decide +kernel
theorem dX2_init_71 : decode cX2_init 71 = .ok (.bipush 18, 2) := by decide +kernel
theorem dX2_init_73 : decode cX2_init 73 = .ok (.if_icmp .ge 21, 3) := by decide +kernel
theorem dX2_init_76 : decode cX2_init 76 = .ok (.aload_n 0, 1) := by decide +kernel
theorem dX2_init_77 : decode cX2_init 77 = .ok (.getfield 33, 3) := by decide +kernel
theorem dX2_init_80 : decode cX2_init 80 = .ok (.iload_n 1, 1) := by decide +kernel
theorem dX2_init_81 : decode cX2_init 81 = .ok (.iload_n 1, 1) := by decide +kernel
theorem dX2_init_82 : decode cX2_init 82 = .ok (.bipush 6, 2) := by decide +kernel
theorem dX2_init_84 : decode cX2_init 84 = .ok (.irem, 1) := by decide +kernel
theorem dX2_init_85 : decode cX2_init 85 = .ok (.iconst 4, 1) := by decide +kernel
theorem dX2_init_86 : decode cX2_init 86 = .ok (.irem, 1) := by decide +kernel
theorem dX2_init_87 : decode cX2_init 87 = .ok (.iastore, 1) := by decide +kernel
theorem dX2_init_88 : decode cX2_init 88 = .ok (.iinc 1 1, 3) := by decide +kernel
theorem dX2_init_91 : decode cX2_init 91 = .ok (.goto (-21), 3) := by decide +kernel
theorem dX2_init_94 : decode cX2_init 94 = .ok (.return_, 1) := by decide +kernel
theorem dX2_copyFrom_0 : decode cX2_copyFrom 0 = .ok (.aload_n 1, 1) := by decide +kernel
theorem dX2_copyFrom_1 : decode cX2_copyFrom 1 = .ok (.getfield 9, 3) := by decide +kernel
theorem dX2_copyFrom_4 : decode cX2_copyFrom 4 = .ok (.iconst 0, 1) := by decide +kernel
theorem dX2_copyFrom_5 : decode cX2_copyFrom 5 = .ok (.aload_n 0, 1) := by decide +kernel
theorem dX2_copyFrom_6 : decode cX2_copyFrom 6 = .ok (.getfield 9, 3) := by decide +kernel
theorem dX2_copyFrom_9 : decode cX2_copyFrom 9 = .ok (.iconst 0, 1) := by decide +kernel
theorem dX2_copyFrom_10 : decode cX2_copyFrom 10 = .ok (.bipush 20, 2) := by decide +kernel
theorem dX2_copyFrom_12 : decode cX2_copyFrom 12 = .ok (.invokestatic 36, 3) := by decide +kernel
theorem dX2_copyFrom_15 : decode cX2_copyFrom 15 = .ok (.aload_n 1, 1) := by decide +kernel
theorem dX2_copyFrom_16 : decode cX2_copyFrom 16 = .ok (.getfield 15, 3) := by decide +kernel
theorem dX2_copyFrom_19 : decode cX2_copyFrom 19 = .ok (.iconst 0, 1) := by decide +kernel
theorem dX2_copyFrom_20 : decode cX2_copyFrom 20 = .ok (.aload_n 0, 1) := by decide +kernel
theorem dX2_copyFrom_21 : decode cX2_copyFrom 21 = .ok (.getfield 15, 3) := by decide +kernel
theorem dX2_copyFrom_24 : decode cX2_copyFrom 24 = .ok (.iconst 0, 1) := by decide +kernel
theorem dX2_copyFrom_25 : decode cX2_copyFrom 25 = .ok (.bipush 20, 2) := by decide +kernel
theorem dX2_copyFrom_27 : decode cX2_copyFrom 27 = .ok (.invokestatic 36, 3) := by decide +kernel
theorem dX2_copyFrom_30 : decode cX2_copyFrom 30 = .ok (.aload_n 1, 1) := by decide +kernel
theorem dX2_copyFrom_31 : decode cX2_copyFrom 31 = .ok (.getfield 18, 3) := by decide +kernel
theorem dX2_copyFrom_34 : decode cX2_copyFrom 34 = .ok (.iconst 0, 1) := by decide +kernel
theorem dX2_copyFrom_35 : decode cX2_copyFrom 35 = .ok (.aload_n 0, 1) := by decide +kernel
theorem dX2_copyFrom_36 : decode cX2_copyFrom 36 = .ok (.getfield 18, 3) := by decide +kernel
theorem dX2_copyFrom_39 : decode cX2_copyFrom 39 = .ok (.iconst 0, 1) := by decide +kernel
theorem dX2_copyFrom_40 : decode cX2_copyFrom 40 = .ok (.bipush 20, 2) := by decide +kernel
theorem dX2_copyFrom_42 : decode cX2_copyFrom 42 = .ok (.invokestatic 36, 3) := by decide +kernel
theorem dX2_copyFrom_45 : decode cX2_copyFrom 45 = .ok (.aload_n 1, 1) := by decide +kernel
theorem dX2_copyFrom_46 : decode cX2_copyFrom 46 = .ok (.getfield 21, 3) := by decide +kernel
theorem dX2_copyFrom_49 : decode cX2_copyFrom 49 = .ok (.iconst 0, 1) := by decide +kernel
theorem dX2_copyFrom_50 : decode cX2_copyFrom 50 = .ok (.aload_n 0, 1) := by decide +kernel
theorem dX2_copyFrom_51 : decode cX2_copyFrom 51 = .ok (.getfield 21, 3) := by decide +kernel
theorem dX2_copyFrom_54 : decode cX2_copyFrom 54 = .ok (.iconst 0, 1) := by decide +kernel
theorem dX2_copyFrom_55 : decode cX2_copyFrom 55 = .ok (.bipush 20, 2) := by decide +kernel
theorem dX2_copyFrom_57 : decode cX2_copyFrom 57 = .ok (.invokestatic 36, 3) := by decide +kernel
theorem dX2_copyFrom_60 : decode cX2_copyFrom 60 = .ok (.aload_n 1, 1) := by decide +kernel
theorem dX2_copyFrom_61 : decode cX2_copyFrom 61 = .ok (.getfield 24, 3) := by decide +kernel
theorem dX2_copyFrom_64 : decode cX2_copyFrom 64 = .ok (.iconst 0, 1) := by decide +kernel
theorem dX2_copyFrom_65 : decode cX2_copyFrom 65 = .ok (.aload_n 0, 1) := by decide +kernel
theorem dX2_copyFrom_66 : decode cX2_copyFrom 66 = .ok (.getfield 24, 3) := by decide +kernel
theorem dX2_copyFrom_69 : decode cX2_copyFrom 69 = .ok (.iconst 0, 1) := by decide +kernel
theorem dX2_copyFrom_70 : decode cX2_copyFrom 70 = .ok (.bipush 20, 2) := by decide +kernel
theorem dX2_copyFrom_72 : decode cX2_copyFrom 72 = .ok (.invokestatic 36, 3) := by decide +kernel
theorem dX2_copyFrom_75 : decode cX2_copyFrom 75 = .ok (.aload_n 1, 1) := by decide +kernel
theorem dX2_copyFrom_76 : decode cX2_copyFrom 76 = .ok (.getfield 30, 3) := by decide +kernel
theorem dX2_copyFrom_79 : decode cX2_copyFrom 79 = .ok (.iconst 0, 1) := by decide +kernel
theorem dX2_copyFrom_80 : decode cX2_copyFrom 80 = .ok (.aload_n 0, 1) := by decide +kernel
theorem dX2_copyFrom_81 : decode cX2_copyFrom 81 = .ok (.getfield 30, 3) := by decide +kernel
theorem dX2_copyFrom_84 : decode cX2_copyFrom 84 = .ok (.iconst 0, 1) := by decide +kernel
theorem dX2_copyFrom_85 : decode cX2_copyFrom 85 = .ok (.bipush 20, 2) := by decide +kernel
theorem dX2_copyFrom_87 : decode cX2_copyFrom 87 = .ok (.invokestatic 36, 3) := by decide +kernel
theorem dX2_copyFrom_90 : decode cX2_copyFrom 90 = .ok (.aload_n 1, 1) := by decide +kernel
theorem dX2_copyFrom_91 : decode cX2_copyFrom 91 = .ok (.getfield 33, 3) := by decide +kernel
theorem dX2_copyFrom_94 : decode cX2_copyFrom 94 = .ok (.iconst 0, 1) := by decide +kernel
theorem dX2_copyFrom_95 : decode cX2_copyFrom 95 = .ok (.aload_n 0, 1) := by decide +kernel
theorem dX2_copyFrom_96 : decode cX2_copyFrom 96 = .ok (.getfield 33, 3) := by decide +kernel
theorem dX2_copyFrom_99 : decode cX2_copyFrom 99 = .ok (.iconst 0, 1) := by decide +kernel
theorem dX2_copyFrom_100 : decode cX2_copyFrom 100 = .ok (.bipush 18, 2) := by decide +kernel
theorem dX2_copyFrom_102 : decode cX2_copyFrom 102 = .ok (.invokestatic 36, 3) := by decide +kernel
theorem dX2_copyFrom_105 : decode cX2_copyFrom 105 = .ok (.aload_n 0, 1) := by decide +kernel
theorem dX2_copyFrom_106 : decode cX2_copyFrom 106 = .ok (.aload_n 1, 1) := by decide +kernel
theorem dX2_copyFrom_107 : decode cX2_copyFrom 107 = .ok (.getfield 42, 3) := by decide +kernel
theorem dX2_copyFrom_110 : decode cX2_copyFrom 110 = .ok (.putfield 42, 3) := by decide +kernel
theorem dX2_copyFrom_113 : decode cX2_copyFrom 113 = .ok (.aload_n 0, 1) := by decide +kernel
theorem dX2_copyFrom_114 : decode cX2_copyFrom 114 = .ok (.aload_n 1, 1) := by decide +kernel
theorem dX2_copyFrom_115 : decode cX2_copyFrom 115 = .ok (.getfield 46, 3) := by decide +kernel
theorem dX2_copyFrom_118 : decode cX2_copyFrom 118 = .ok (.putfield 46, 3) := by decide +kernel
theorem dX2_copyFrom_121 : decode cX2_copyFrom 121 = .ok (.return_, 1) := by decide +kernel
theorem dX2_enrol_0 : decode cX2_enrol 0 = .ok (.aload_n 0, 1) := by decide +kernel
theorem dX2_enrol_1 : decode cX2_enrol 1 = .ok (.getfield 42, 3) := by decide +kernel
theorem dX2_enrol_4 : decode cX2_enrol 4 = .ok (.bipush 20, 2) := by decide +kernel
theorem dX2_enrol_6 : decode cX2_enrol 6 = .ok (.if_icmp .lt 5, 3) := by decide +kernel
theorem dX2_enrol_9 : decode cX2_enrol 9 = .ok (.iconst (-1), 1) := by decide +kernel
theorem dX2_enrol_10 : decode cX2_enrol 10 = .ok (.ireturn, 1) := by decide +kernel
theorem dX2_enrol_11 : decode cX2_enrol 11 = .ok (.aload_n 0, 1) := by decide +kernel
theorem dX2_enrol_12 : decode cX2_enrol 12 = .ok (.getfield 42, 3) := by decide +kernel
theorem dX2_enrol_15 : decode cX2_enrol 15 = .ok (.istore 4, 2) := by decide +kernel
theorem dX2_enrol_17 : decode cX2_enrol 17 = .ok (.aload_n 0, 1) := by decide +kernel
theorem dX2_enrol_18 : decode cX2_enrol 18 = .ok (.getfield 9, 3) := by decide +kernel
theorem dX2_enrol_21 : decode cX2_enrol 21 = .ok (.iload 4, 2) := by decide +kernel
theorem dX2_enrol_23 : decode cX2_enrol 23 = .ok (.iload_n 1, 1) := by decide +kernel
theorem dX2_enrol_24 : decode cX2_enrol 24 = .ok (.iastore, 1) := by decide +kernel
theorem dX2_enrol_25 : decode cX2_enrol 25 = .ok (.aload_n 0, 1) := by decide +kernel
theorem dX2_enrol_26 : decode cX2_enrol 26 = .ok (.getfield 15, 3) := by decide +kernel
theorem dX2_enrol_29 : decode cX2_enrol 29 = .ok (.iload 4, 2) := by decide +kernel
theorem dX2_enrol_31 : decode cX2_enrol 31 = .ok (.iload_n 2, 1) := by decide +kernel
theorem dX2_enrol_32 : decode cX2_enrol 32 = .ok (.iastore, 1) := by decide +kernel
theorem dX2_enrol_33 : decode cX2_enrol 33 = .ok (.aload_n 0, 1) := by decide +kernel
theorem dX2_enrol_34 : decode cX2_enrol 34 = .ok (.getfield 18, 3) := by decide +kernel
theorem dX2_enrol_37 : decode cX2_enrol 37 = .ok (.iload 4, 2) := by decide +kernel
theorem dX2_enrol_39 : decode cX2_enrol 39 = .ok (.iload_n 3, 1) := by decide +kernel
theorem dX2_enrol_40 : decode cX2_enrol 40 = .ok (.iastore, 1) := by decide +kernel
theorem dX2_enrol_41 : decode cX2_enrol 41 = .ok (.aload_n 0, 1) := by decide +kernel
theorem dX2_enrol_42 : decode cX2_enrol 42 = .ok (.getfield 30, 3) := by decide +kernel
theorem dX2_enrol_45 : decode cX2_enrol 45 = .ok (.iload 4, 2) := by decide +kernel
theorem dX2_enrol_47 : decode cX2_enrol 47 = .ok (.iconst (-1), 1) := by decide +kernel
theorem dX2_enrol_48 : decode cX2_enrol 48 = .ok (.iastore, 1) := by decide +kernel
theorem dX2_enrol_49 : decode cX2_enrol 49 = .ok (.aload_n 0, 1) := by decide +kernel
theorem dX2_enrol_50 : decode cX2_enrol 50 = .ok (.dup, 1) := by decide +kernel
theorem dX2_enrol_51 : decode cX2_enrol 51 = .ok (.getfield 42, 3) := by decide +kernel
theorem dX2_enrol_54 : decode cX2_enrol 54 = .ok (.iconst 1, 1) := by decide +kernel
theorem dX2_enrol_55 : decode cX2_enrol 55 = .ok (.iadd, 1) := by decide +kernel
theorem dX2_enrol_56 : decode cX2_enrol 56 = .ok (.putfield 42, 3) := by decide +kernel
theorem dX2_enrol_59 : decode cX2_enrol 59 = .ok (.iload 4, 2) := by decide +kernel
theorem dX2_enrol_61 : decode cX2_enrol 61 = .ok (.ireturn, 1) := by decide +kernel
theorem dX2_changeVotes_0 : decode cX2_changeVotes 0 = .ok (.aload_n 0, 1) := by decide +kernel
theorem dX2_changeVotes_1 : decode cX2_changeVotes 1 = .ok (.getfield 18, 3) := by decide +kernel
theorem dX2_changeVotes_4 : decode cX2_changeVotes 4 = .ok (.iload_n 1, 1) := by decide +kernel
theorem dX2_changeVotes_5 : decode cX2_changeVotes 5 = .ok (.iconst 0, 1) := by decide +kernel
theorem dX2_changeVotes_6 : decode cX2_changeVotes 6 = .ok (.bipush 99, 2) := by decide +kernel
theorem dX2_changeVotes_8 : decode cX2_changeVotes 8 = .ok (.aload_n 0, 1) := by decide +kernel
theorem dX2_changeVotes_9 : decode cX2_changeVotes 9 = .ok (.getfield 18, 3) := by decide +kernel
theorem dX2_changeVotes_12 : decode cX2_changeVotes 12 = .ok (.iload_n 1, 1) := by decide +kernel
theorem dX2_changeVotes_13 : decode cX2_changeVotes 13 = .ok (.iaload, 1) := by decide +kernel
theorem dX2_changeVotes_14 : decode cX2_changeVotes 14 = .ok (.iload_n 2, 1) := by decide +kernel
theorem dX2_changeVotes_15 : decode cX2_changeVotes 15 = .ok (.iadd, 1) := by decide +kernel
theorem dX2_changeVotes_16 : decode cX2_changeVotes 16 = .ok (.invokestatic 49, 3) := by decide +kernel
theorem dX2_changeVotes_19 : decode cX2_changeVotes 19 = .ok (.invokestatic 55, 3) := by decide +kernel
theorem dX2_changeVotes_22 : decode cX2_changeVotes 22 = .ok (.iastore, 1) := by decide +kernel
theorem dX2_changeVotes_23 : decode cX2_changeVotes 23 = .ok (.return_, 1) := by decide +kernel
theorem dX2_ringsBell_0 : decode cX2_ringsBell 0 = .ok (.aload_n 0, 1) := by decide +kernel
theorem dX2_ringsBell_1 : decode cX2_ringsBell 1 = .ok (.getfield 30, 3) := by decide +kernel
theorem dX2_ringsBell_4 : decode cX2_ringsBell 4 = .ok (.iload_n 1, 1) := by decide +kernel
theorem dX2_ringsBell_5 : decode cX2_ringsBell 5 = .ok (.iaload, 1) := by decide +kernel
theorem dX2_ringsBell_6 : decode cX2_ringsBell 6 = .ok (.iconst (-1), 1) := by decide +kernel
theorem dX2_ringsBell_7 : decode cX2_ringsBell 7 = .ok (.if_icmp .eq 7, 3) := by decide +kernel
theorem dX2_ringsBell_10 : decode cX2_ringsBell 10 = .ok (.iconst 1, 1) := by decide +kernel
theorem dX2_ringsBell_11 : decode cX2_ringsBell 11 = .ok (.goto 4, 3) := by decide +kernel
theorem dX2_ringsBell_14 : decode cX2_ringsBell 14 = .ok (.iconst 0, 1) := by decide +kernel
theorem dX2_ringsBell_15 : decode cX2_ringsBell 15 = .ok (.ireturn, 1) := by decide +kernel
theorem dX2_bandOf_0 : decode cX2_bandOf 0 = .ok (.aload_n 0, 1) := by decide +kernel
theorem dX2_bandOf_1 : decode cX2_bandOf 1 = .ok (.iload_n 1, 1) := by decide +kernel
theorem dX2_bandOf_2 : decode cX2_bandOf 2 = .ok (.invokevirtual 58, 3) := by decide +kernel
theorem dX2_bandOf_5 : decode cX2_bandOf 5 = .ok (.ifCond .eq 15, 3) := by decide +kernel
theorem dX2_bandOf_8 : decode cX2_bandOf 8 = .ok (.aload_n 0, 1) := by decide +kernel
theorem dX2_bandOf_9 : decode cX2_bandOf 9 = .ok (.getfield 30, 3) := by decide +kernel
theorem dX2_bandOf_12 : decode cX2_bandOf 12 = .ok (.iload_n 1, 1) := by decide +kernel
theorem dX2_bandOf_13 : decode cX2_bandOf 13 = .ok (.iaload, 1) := by decide +kernel
theorem dX2_bandOf_14 : decode cX2_bandOf 14 = .ok (.bipush 6, 2) := by decide +kernel
theorem dX2_bandOf_16 : decode cX2_bandOf 16 = .ok (.idiv, 1) := by decide +kernel
theorem dX2_bandOf_17 : decode cX2_bandOf 17 = .ok (.goto 4, 3) := by decide +kernel
theorem dX2_bandOf_20 : decode cX2_bandOf 20 = .ok (.iconst (-1), 1) := by decide +kernel
theorem dX2_bandOf_21 : decode cX2_bandOf 21 = .ok (.ireturn, 1) := by decide +kernel
theorem dX2_bellOf_0 : decode cX2_bellOf 0 = .ok (.aload_n 0, 1) := by decide +kernel
theorem dX2_bellOf_1 : decode cX2_bellOf 1 = .ok (.iload_n 1, 1) := by decide +kernel
theorem dX2_bellOf_2 : decode cX2_bellOf 2 = .ok (.invokevirtual 58, 3) := by decide +kernel
theorem dX2_bellOf_5 : decode cX2_bellOf 5 = .ok (.ifCond .eq 15, 3) := by decide +kernel
theorem dX2_bellOf_8 : decode cX2_bellOf 8 = .ok (.aload_n 0, 1) := by decide +kernel
theorem dX2_bellOf_9 : decode cX2_bellOf 9 = .ok (.getfield 30, 3) := by decide +kernel
theorem dX2_bellOf_12 : decode cX2_bellOf 12 = .ok (.iload_n 1, 1) := by decide +kernel
theorem dX2_bellOf_13 : decode cX2_bellOf 13 = .ok (.iaload, 1) := by decide +kernel
theorem dX2_bellOf_14 : decode cX2_bellOf 14 = .ok (.bipush 6, 2) := by decide +kernel
theorem dX2_bellOf_16 : decode cX2_bellOf 16 = .ok (.irem, 1) := by decide +kernel
theorem dX2_bellOf_17 : decode cX2_bellOf 17 = .ok (.goto 4, 3) := by decide +kernel
theorem dX2_bellOf_20 : decode cX2_bellOf 20 = .ok (.iconst (-1), 1) := by decide +kernel
theorem dX2_bellOf_21 : decode cX2_bellOf 21 = .ok (.ireturn, 1) := by decide +kernel
theorem dX2_ringerAt_0 : decode cX2_ringerAt 0 = .ok (.iconst 0, 1) := by decide +kernel
theorem dX2_ringerAt_1 : decode cX2_ringerAt 1 = .ok (.istore_n 2, 1) := by decide +kernel
theorem dX2_ringerAt_2 : decode cX2_ringerAt 2 = .ok (.iload_n 2, 1) := by decide +kernel
theorem dX2_ringerAt_3 : decode cX2_ringerAt 3 = .ok (.aload_n 0, 1) := by decide +kernel
theorem dX2_ringerAt_4 : decode cX2_ringerAt 4 = .ok (.getfield 42, 3) := by decide +kernel
theorem dX2_ringerAt_7 : decode cX2_ringerAt 7 = .ok (.if_icmp .ge 21, 3) := by decide +kernel
theorem dX2_ringerAt_10 : decode cX2_ringerAt 10 = .ok (.aload_n 0, 1) := by decide +kernel
theorem dX2_ringerAt_11 : decode cX2_ringerAt 11 = .ok (.getfield 30, 3) := by decide +kernel
theorem dX2_ringerAt_14 : decode cX2_ringerAt 14 = .ok (.iload_n 2, 1) := by decide +kernel
theorem dX2_ringerAt_15 : decode cX2_ringerAt 15 = .ok (.iaload, 1) := by decide +kernel
theorem dX2_ringerAt_16 : decode cX2_ringerAt 16 = .ok (.iload_n 1, 1) := by decide +kernel
theorem dX2_ringerAt_17 : decode cX2_ringerAt 17 = .ok (.if_icmp .ne 5, 3) := by decide +kernel
theorem dX2_ringerAt_20 : decode cX2_ringerAt 20 = .ok (.iload_n 2, 1) := by decide +kernel
theorem dX2_ringerAt_21 : decode cX2_ringerAt 21 = .ok (.ireturn, 1) := by decide +kernel
theorem dX2_ringerAt_22 : decode cX2_ringerAt 22 = .ok (.iinc 2 1, 3) := by decide +kernel
theorem dX2_ringerAt_25 : decode cX2_ringerAt 25 = .ok (.goto (-23), 3) := by decide +kernel
theorem dX2_ringerAt_28 : decode cX2_ringerAt 28 = .ok (.iconst (-1), 1) := by decide +kernel
theorem dX2_ringerAt_29 : decode cX2_ringerAt 29 = .ok (.ireturn, 1) := by decide +kernel
theorem dX2_rankOf_0 : decode cX2_rankOf 0 = .ok (.iconst 1, 1) := by decide +kernel
theorem dX2_rankOf_1 : decode cX2_rankOf 1 = .ok (.istore_n 2, 1) := by decide +kernel
theorem dX2_rankOf_2 : decode cX2_rankOf 2 = .ok (.iconst 0, 1) := by decide +kernel
theorem dX2_rankOf_3 : decode cX2_rankOf 3 = .ok (.istore_n 3, 1) := by decide +kernel
theorem dX2_rankOf_4 : decode cX2_rankOf 4 = .ok (.iload_n 3, 1) := by decide +kernel
theorem dX2_rankOf_5 : decode cX2_rankOf 5 = .ok (.aload_n 0, 1) := by decide +kernel
theorem dX2_rankOf_6 : decode cX2_rankOf 6 = .ok (.getfield 42, 3) := by decide +kernel
theorem dX2_rankOf_9 : decode cX2_rankOf 9 = .ok (.if_icmp .ge 42, 3) := by decide +kernel
theorem dX2_rankOf_12 : decode cX2_rankOf 12 = .ok (.aload_n 0, 1) := by decide +kernel
theorem dX2_rankOf_13 : decode cX2_rankOf 13 = .ok (.getfield 9, 3) := by decide +kernel
theorem dX2_rankOf_16 : decode cX2_rankOf 16 = .ok (.iload_n 3, 1) := by decide +kernel
theorem dX2_rankOf_17 : decode cX2_rankOf 17 = .ok (.iaload, 1) := by decide +kernel
theorem dX2_rankOf_18 : decode cX2_rankOf 18 = .ok (.aload_n 0, 1) := by decide +kernel
theorem dX2_rankOf_19 : decode cX2_rankOf 19 = .ok (.getfield 9, 3) := by decide +kernel
theorem dX2_rankOf_22 : decode cX2_rankOf 22 = .ok (.iload_n 1, 1) := by decide +kernel
theorem dX2_rankOf_23 : decode cX2_rankOf 23 = .ok (.iaload, 1) := by decide +kernel
theorem dX2_rankOf_24 : decode cX2_rankOf 24 = .ok (.if_icmp .ne 21, 3) := by decide +kernel
theorem dX2_rankOf_27 : decode cX2_rankOf 27 = .ok (.aload_n 0, 1) := by decide +kernel
theorem dX2_rankOf_28 : decode cX2_rankOf 28 = .ok (.getfield 18, 3) := by decide +kernel
theorem dX2_rankOf_31 : decode cX2_rankOf 31 = .ok (.iload_n 3, 1) := by decide +kernel
theorem dX2_rankOf_32 : decode cX2_rankOf 32 = .ok (.iaload, 1) := by decide +kernel
theorem dX2_rankOf_33 : decode cX2_rankOf 33 = .ok (.aload_n 0, 1) := by decide +kernel
theorem dX2_rankOf_34 : decode cX2_rankOf 34 = .ok (.getfield 18, 3) := by decide +kernel
theorem dX2_rankOf_37 : decode cX2_rankOf 37 = .ok (.iload_n 1, 1) := by decide +kernel
theorem dX2_rankOf_38 : decode cX2_rankOf 38 = .ok (.iaload, 1) := by decide +kernel
theorem dX2_rankOf_39 : decode cX2_rankOf 39 = .ok (.if_icmp .le 6, 3) := by decide +kernel
theorem dX2_rankOf_42 : decode cX2_rankOf 42 = .ok (.iinc 2 1, 3) := by decide +kernel
theorem dX2_rankOf_45 : decode cX2_rankOf 45 = .ok (.iinc 3 1, 3) := by decide +kernel
theorem dX2_rankOf_48 : decode cX2_rankOf 48 = .ok (.goto (-44), 3) := by decide +kernel
theorem dX2_rankOf_51 : decode cX2_rankOf 51 = .ok (.iload_n 2, 1) := by decide +kernel
theorem dX2_rankOf_52 : decode cX2_rankOf 52 = .ok (.ireturn, 1) := by decide +kernel
theorem dX2_tellOfRinger_0 : decode cX2_tellOfRinger 0 = .ok (.iload_n 2, 1) := by decide +kernel
theorem dX2_tellOfRinger_1 : decode cX2_tellOfRinger 1 = .ok (.tableswitch 90 0 6 #[43, 50, 57, 64, 71, 77, 83], 43) := by decide +kernel
theorem dX2_tellOfRinger_44 : decode cX2_tellOfRinger 44 = .ok (.aload_n 0, 1) := by decide +kernel
theorem dX2_tellOfRinger_45 : decode cX2_tellOfRinger 45 = .ok (.getfield 9, 3) := by decide +kernel
theorem dX2_tellOfRinger_48 : decode cX2_tellOfRinger 48 = .ok (.iload_n 1, 1) := by decide +kernel
theorem dX2_tellOfRinger_49 : decode cX2_tellOfRinger 49 = .ok (.iaload, 1) := by decide +kernel
theorem dX2_tellOfRinger_50 : decode cX2_tellOfRinger 50 = .ok (.ireturn, 1) := by decide +kernel
theorem dX2_tellOfRinger_51 : decode cX2_tellOfRinger 51 = .ok (.aload_n 0, 1) := by decide +kernel
theorem dX2_tellOfRinger_52 : decode cX2_tellOfRinger 52 = .ok (.getfield 15, 3) := by decide +kernel
theorem dX2_tellOfRinger_55 : decode cX2_tellOfRinger 55 = .ok (.iload_n 1, 1) := by decide +kernel
theorem dX2_tellOfRinger_56 : decode cX2_tellOfRinger 56 = .ok (.iaload, 1) := by decide +kernel
theorem dX2_tellOfRinger_57 : decode cX2_tellOfRinger 57 = .ok (.ireturn, 1) := by decide +kernel
theorem dX2_tellOfRinger_58 : decode cX2_tellOfRinger 58 = .ok (.aload_n 0, 1) := by decide +kernel
theorem dX2_tellOfRinger_59 : decode cX2_tellOfRinger 59 = .ok (.getfield 18, 3) := by decide +kernel
theorem dX2_tellOfRinger_62 : decode cX2_tellOfRinger 62 = .ok (.iload_n 1, 1) := by decide +kernel
theorem dX2_tellOfRinger_63 : decode cX2_tellOfRinger 63 = .ok (.iaload, 1) := by decide +kernel
theorem dX2_tellOfRinger_64 : decode cX2_tellOfRinger 64 = .ok (.ireturn, 1) := by decide +kernel
theorem dX2_tellOfRinger_65 : decode cX2_tellOfRinger 65 = .ok (.aload_n 0, 1) := by decide +kernel
theorem dX2_tellOfRinger_66 : decode cX2_tellOfRinger 66 = .ok (.getfield 21, 3) := by decide +kernel
theorem dX2_tellOfRinger_69 : decode cX2_tellOfRinger 69 = .ok (.iload_n 1, 1) := by decide +kernel
theorem dX2_tellOfRinger_70 : decode cX2_tellOfRinger 70 = .ok (.iaload, 1) := by decide +kernel
theorem dX2_tellOfRinger_71 : decode cX2_tellOfRinger 71 = .ok (.ireturn, 1) := by decide +kernel
theorem dX2_tellOfRinger_72 : decode cX2_tellOfRinger 72 = .ok (.aload_n 0, 1) := by decide +kernel
theorem dX2_tellOfRinger_73 : decode cX2_tellOfRinger 73 = .ok (.iload_n 1, 1) := by decide +kernel
theorem dX2_tellOfRinger_74 : decode cX2_tellOfRinger 74 = .ok (.invokevirtual 62, 3) := by decide +kernel
theorem dX2_tellOfRinger_77 : decode cX2_tellOfRinger 77 = .ok (.ireturn, 1) := by decide +kernel
theorem dX2_tellOfRinger_78 : decode cX2_tellOfRinger 78 = .ok (.aload_n 0, 1) := by decide +kernel
theorem dX2_tellOfRinger_79 : decode cX2_tellOfRinger 79 = .ok (.iload_n 1, 1) := by decide +kernel
theorem dX2_tellOfRinger_80 : decode cX2_tellOfRinger 80 = .ok (.invokevirtual 66, 3) := by decide +kernel
theorem dX2_tellOfRinger_83 : decode cX2_tellOfRinger 83 = .ok (.ireturn, 1) := by decide +kernel
theorem dX2_tellOfRinger_84 : decode cX2_tellOfRinger 84 = .ok (.aload_n 0, 1) := by decide +kernel
theorem dX2_tellOfRinger_85 : decode cX2_tellOfRinger 85 = .ok (.getfield 24, 3) := by decide +kernel
theorem dX2_tellOfRinger_88 : decode cX2_tellOfRinger 88 = .ok (.iload_n 1, 1) := by decide +kernel
theorem dX2_tellOfRinger_89 : decode cX2_tellOfRinger 89 = .ok (.iaload, 1) := by decide +kernel
theorem dX2_tellOfRinger_90 : decode cX2_tellOfRinger 90 = .ok (.ireturn, 1) := by decide +kernel
theorem dX2_tellOfRinger_91 : decode cX2_tellOfRinger 91 = .ok (.aload_n 0, 1) := by decide +kernel
theorem dX2_tellOfRinger_92 : decode cX2_tellOfRinger 92 = .ok (.iload_n 1, 1) := by decide +kernel
theorem dX2_tellOfRinger_93 : decode cX2_tellOfRinger 93 = .ok (.invokevirtual 69, 3) := by decide +kernel
theorem dX2_tellOfRinger_96 : decode cX2_tellOfRinger 96 = .ok (.ireturn, 1) := by decide +kernel
theorem dX2_electBand_0 : decode cX2_electBand 0 = .ok (.iconst 0, 1) := by decide +kernel
theorem dX2_electBand_1 : decode cX2_electBand 1 = .ok (.istore_n 2, 1) := by decide +kernel
theorem dX2_electBand_2 : decode cX2_electBand 2 = .ok (.iload_n 2, 1) := by decide +kernel
theorem dX2_electBand_3 : decode cX2_electBand 3 = .ok (.aload_n 0, 1) := by decide +kernel
theorem dX2_electBand_4 : decode cX2_electBand 4 = .ok (.getfield 42, 3) := by decide +kernel
theorem dX2_electBand_7 : decode cX2_electBand 7 = .ok (.if_icmp .ge 25, 3) := by decide +kernel
theorem dX2_electBand_10 : decode cX2_electBand 10 = .ok (.aload_n 0, 1) := by decide +kernel
theorem dX2_electBand_11 : decode cX2_electBand 11 = .ok (.iload_n 2, 1) := by decide +kernel
theorem dX2_electBand_12 : decode cX2_electBand 12 = .ok (.invokevirtual 62, 3) := by decide +kernel
theorem dX2_electBand_15 : decode cX2_electBand 15 = .ok (.iload_n 1, 1) := by decide +kernel
theorem dX2_electBand_16 : decode cX2_electBand 16 = .ok (.if_icmp .ne 10, 3) := by decide +kernel
theorem dX2_electBand_19 : decode cX2_electBand 19 = .ok (.aload_n 0, 1) := by decide +kernel
theorem dX2_electBand_20 : decode cX2_electBand 20 = .ok (.getfield 30, 3) := by decide +kernel
theorem dX2_electBand_23 : decode cX2_electBand 23 = .ok (.iload_n 2, 1) := by decide +kernel
theorem dX2_electBand_24 : decode cX2_electBand 24 = .ok (.iconst (-1), 1) := by decide +kernel
theorem dX2_electBand_25 : decode cX2_electBand 25 = .ok (.iastore, 1) := by decide +kernel
theorem dX2_electBand_26 : decode cX2_electBand 26 = .ok (.iinc 2 1, 3) := by decide +kernel
theorem dX2_electBand_29 : decode cX2_electBand 29 = .ok (.goto (-27), 3) := by decide +kernel
theorem dX2_electBand_32 : decode cX2_electBand 32 = .ok (.iload_n 1, 1) := by decide +kernel
theorem dX2_electBand_33 : decode cX2_electBand 33 = .ok (.bipush 6, 2) := by decide +kernel
theorem dX2_electBand_35 : decode cX2_electBand 35 = .ok (.imul, 1) := by decide +kernel
theorem dX2_electBand_36 : decode cX2_electBand 36 = .ok (.istore_n 2, 1) := by decide +kernel
theorem dX2_electBand_37 : decode cX2_electBand 37 = .ok (.iconst 0, 1) := by decide +kernel
theorem dX2_electBand_38 : decode cX2_electBand 38 = .ok (.istore_n 3, 1) := by decide +kernel
theorem dX2_electBand_39 : decode cX2_electBand 39 = .ok (.iload_n 3, 1) := by decide +kernel
theorem dX2_electBand_40 : decode cX2_electBand 40 = .ok (.bipush 6, 2) := by decide +kernel
theorem dX2_electBand_42 : decode cX2_electBand 42 = .ok (.if_icmp .ge 16, 3) := by decide +kernel
theorem dX2_electBand_45 : decode cX2_electBand 45 = .ok (.aload_n 0, 1) := by decide +kernel
theorem dX2_electBand_46 : decode cX2_electBand 46 = .ok (.iload_n 2, 1) := by decide +kernel
theorem dX2_electBand_47 : decode cX2_electBand 47 = .ok (.iload_n 3, 1) := by decide +kernel
theorem dX2_electBand_48 : decode cX2_electBand 48 = .ok (.iadd, 1) := by decide +kernel
theorem dX2_electBand_49 : decode cX2_electBand 49 = .ok (.invokevirtual 72, 3) := by decide +kernel
theorem dX2_electBand_52 : decode cX2_electBand 52 = .ok (.iinc 3 1, 3) := by decide +kernel
theorem dX2_electBand_55 : decode cX2_electBand 55 = .ok (.goto (-16), 3) := by decide +kernel
theorem dX2_electBand_58 : decode cX2_electBand 58 = .ok (.return_, 1) := by decide +kernel
theorem dX2_electTo_0 : decode cX2_electTo 0 = .ok (.iconst (-1), 1) := by decide +kernel
theorem dX2_electTo_1 : decode cX2_electTo 1 = .ok (.istore_n 2, 1) := by decide +kernel
theorem dX2_electTo_2 : decode cX2_electTo 2 = .ok (.iconst (-1), 1) := by decide +kernel
theorem dX2_electTo_3 : decode cX2_electTo 3 = .ok (.istore_n 3, 1) := by decide +kernel
theorem dX2_electTo_4 : decode cX2_electTo 4 = .ok (.iconst 0, 1) := by decide +kernel
theorem dX2_electTo_5 : decode cX2_electTo 5 = .ok (.istore 4, 2) := by decide +kernel
theorem dX2_electTo_7 : decode cX2_electTo 7 = .ok (.iload 4, 2) := by decide +kernel
theorem dX2_electTo_9 : decode cX2_electTo 9 = .ok (.aload_n 0, 1) := by decide +kernel
theorem dX2_electTo_10 : decode cX2_electTo 10 = .ok (.getfield 42, 3) := by decide +kernel
theorem dX2_electTo_13 : decode cX2_electTo 13 = .ok (.if_icmp .ge 56, 3) := by decide +kernel
theorem dX2_electTo_16 : decode cX2_electTo 16 = .ok (.aload_n 0, 1) := by decide +kernel
theorem dX2_electTo_17 : decode cX2_electTo 17 = .ok (.iload 4, 2) := by decide +kernel
theorem dX2_electTo_19 : decode cX2_electTo 19 = .ok (.invokevirtual 58, 3) := by decide +kernel
theorem dX2_electTo_22 : decode cX2_electTo 22 = .ok (.ifCond .ne 41, 3) := by decide +kernel
theorem dX2_electTo_25 : decode cX2_electTo 25 = .ok (.aload_n 0, 1) := by decide +kernel
theorem dX2_electTo_26 : decode cX2_electTo 26 = .ok (.getfield 9, 3) := by decide +kernel
theorem dX2_electTo_29 : decode cX2_electTo 29 = .ok (.iload 4, 2) := by decide +kernel
theorem dX2_electTo_31 : decode cX2_electTo 31 = .ok (.iaload, 1) := by decide +kernel
theorem dX2_electTo_32 : decode cX2_electTo 32 = .ok (.aload_n 0, 1) := by decide +kernel
theorem dX2_electTo_33 : decode cX2_electTo 33 = .ok (.getfield 33, 3) := by decide +kernel
theorem dX2_electTo_36 : decode cX2_electTo 36 = .ok (.iload_n 1, 1) := by decide +kernel
theorem dX2_electTo_37 : decode cX2_electTo 37 = .ok (.iaload, 1) := by decide +kernel
theorem dX2_electTo_38 : decode cX2_electTo 38 = .ok (.if_icmp .ne 25, 3) := by decide +kernel
theorem dX2_electTo_41 : decode cX2_electTo 41 = .ok (.aload_n 0, 1) := by decide +kernel
theorem dX2_electTo_42 : decode cX2_electTo 42 = .ok (.getfield 18, 3) := by decide +kernel
theorem dX2_electTo_45 : decode cX2_electTo 45 = .ok (.iload 4, 2) := by decide +kernel
theorem dX2_electTo_47 : decode cX2_electTo 47 = .ok (.iaload, 1) := by decide +kernel
theorem dX2_electTo_48 : decode cX2_electTo 48 = .ok (.iload_n 3, 1) := by decide +kernel
theorem dX2_electTo_49 : decode cX2_electTo 49 = .ok (.if_icmp .le 14, 3) := by decide +kernel
theorem dX2_electTo_52 : decode cX2_electTo 52 = .ok (.aload_n 0, 1) := by decide +kernel
theorem dX2_electTo_53 : decode cX2_electTo 53 = .ok (.getfield 18, 3) := by decide +kernel
theorem dX2_electTo_56 : decode cX2_electTo 56 = .ok (.iload 4, 2) := by decide +kernel
theorem dX2_electTo_58 : decode cX2_electTo 58 = .ok (.iaload, 1) := by decide +kernel
theorem dX2_electTo_59 : decode cX2_electTo 59 = .ok (.istore_n 3, 1) := by decide +kernel
theorem dX2_electTo_60 : decode cX2_electTo 60 = .ok (.iload 4, 2) := by decide +kernel
theorem dX2_electTo_62 : decode cX2_electTo 62 = .ok (.istore_n 2, 1) := by decide +kernel
theorem dX2_electTo_63 : decode cX2_electTo 63 = .ok (.iinc 4 1, 3) := by decide +kernel
theorem dX2_electTo_66 : decode cX2_electTo 66 = .ok (.goto (-59), 3) := by decide +kernel
theorem dX2_electTo_69 : decode cX2_electTo 69 = .ok (.iload_n 2, 1) := by decide +kernel
theorem dX2_electTo_70 : decode cX2_electTo 70 = .ok (.iconst (-1), 1) := by decide +kernel
theorem dX2_electTo_71 : decode cX2_electTo 71 = .ok (.if_icmp .eq 10, 3) := by decide +kernel
theorem dX2_electTo_74 : decode cX2_electTo 74 = .ok (.aload_n 0, 1) := by decide +kernel
theorem dX2_electTo_75 : decode cX2_electTo 75 = .ok (.getfield 30, 3) := by decide +kernel
theorem dX2_electTo_78 : decode cX2_electTo 78 = .ok (.iload_n 2, 1) := by decide +kernel
theorem dX2_electTo_79 : decode cX2_electTo 79 = .ok (.iload_n 1, 1) := by decide +kernel
theorem dX2_electTo_80 : decode cX2_electTo 80 = .ok (.iastore, 1) := by decide +kernel
theorem dX2_electTo_81 : decode cX2_electTo 81 = .ok (.return_, 1) := by decide +kernel
theorem dX2_ringersIn_0 : decode cX2_ringersIn 0 = .ok (.iconst 0, 1) := by decide +kernel
theorem dX2_ringersIn_1 : decode cX2_ringersIn 1 = .ok (.istore_n 2, 1) := by decide +kernel
theorem dX2_ringersIn_2 : decode cX2_ringersIn 2 = .ok (.iconst 0, 1) := by decide +kernel
theorem dX2_ringersIn_3 : decode cX2_ringersIn 3 = .ok (.istore_n 3, 1) := by decide +kernel
theorem dX2_ringersIn_4 : decode cX2_ringersIn 4 = .ok (.iload_n 3, 1) := by decide +kernel
theorem dX2_ringersIn_5 : decode cX2_ringersIn 5 = .ok (.aload_n 0, 1) := by decide +kernel
theorem dX2_ringersIn_6 : decode cX2_ringersIn 6 = .ok (.getfield 42, 3) := by decide +kernel
theorem dX2_ringersIn_9 : decode cX2_ringersIn 9 = .ok (.if_icmp .ge 21, 3) := by decide +kernel
theorem dX2_ringersIn_12 : decode cX2_ringersIn 12 = .ok (.aload_n 0, 1) := by decide +kernel
theorem dX2_ringersIn_13 : decode cX2_ringersIn 13 = .ok (.iload_n 3, 1) := by decide +kernel
theorem dX2_ringersIn_14 : decode cX2_ringersIn 14 = .ok (.invokevirtual 62, 3) := by decide +kernel
theorem dX2_ringersIn_17 : decode cX2_ringersIn 17 = .ok (.iload_n 1, 1) := by decide +kernel
theorem dX2_ringersIn_18 : decode cX2_ringersIn 18 = .ok (.if_icmp .ne 6, 3) := by decide +kernel
theorem dX2_ringersIn_21 : decode cX2_ringersIn 21 = .ok (.iinc 2 1, 3) := by decide +kernel
theorem dX2_ringersIn_24 : decode cX2_ringersIn 24 = .ok (.iinc 3 1, 3) := by decide +kernel
theorem dX2_ringersIn_27 : decode cX2_ringersIn 27 = .ok (.goto (-23), 3) := by decide +kernel
theorem dX2_ringersIn_30 : decode cX2_ringersIn 30 = .ok (.iload_n 2, 1) := by decide +kernel
theorem dX2_ringersIn_31 : decode cX2_ringersIn 31 = .ok (.ireturn, 1) := by decide +kernel
theorem dX2_ringersAtBells_0 : decode cX2_ringersAtBells 0 = .ok (.iconst 0, 1) := by decide +kernel
theorem dX2_ringersAtBells_1 : decode cX2_ringersAtBells 1 = .ok (.istore_n 1, 1) := by decide +kernel
theorem dX2_ringersAtBells_2 : decode cX2_ringersAtBells 2 = .ok (.iconst 0, 1) := by decide +kernel
theorem dX2_ringersAtBells_3 : decode cX2_ringersAtBells 3 = .ok (.istore_n 2, 1) := by decide +kernel
theorem dX2_ringersAtBells_4 : decode cX2_ringersAtBells 4 = .ok (.iload_n 2, 1) := by decide +kernel
theorem dX2_ringersAtBells_5 : decode cX2_ringersAtBells 5 = .ok (.iconst 3, 1) := by decide +kernel
theorem dX2_ringersAtBells_6 : decode cX2_ringersAtBells 6 = .ok (.if_icmp .ge 17, 3) := by decide +kernel
theorem dX2_ringersAtBells_9 : decode cX2_ringersAtBells 9 = .ok (.iload_n 1, 1) := by decide +kernel
theorem dX2_ringersAtBells_10 : decode cX2_ringersAtBells 10 = .ok (.aload_n 0, 1) := by decide +kernel
theorem dX2_ringersAtBells_11 : decode cX2_ringersAtBells 11 = .ok (.iload_n 2, 1) := by decide +kernel
theorem dX2_ringersAtBells_12 : decode cX2_ringersAtBells 12 = .ok (.invokevirtual 76, 3) := by decide +kernel
theorem dX2_ringersAtBells_15 : decode cX2_ringersAtBells 15 = .ok (.iadd, 1) := by decide +kernel
theorem dX2_ringersAtBells_16 : decode cX2_ringersAtBells 16 = .ok (.istore_n 1, 1) := by decide +kernel
theorem dX2_ringersAtBells_17 : decode cX2_ringersAtBells 17 = .ok (.iinc 2 1, 3) := by decide +kernel
theorem dX2_ringersAtBells_20 : decode cX2_ringersAtBells 20 = .ok (.goto (-16), 3) := by decide +kernel
theorem dX2_ringersAtBells_23 : decode cX2_ringersAtBells 23 = .ok (.iload_n 1, 1) := by decide +kernel
theorem dX2_ringersAtBells_24 : decode cX2_ringersAtBells 24 = .ok (.ireturn, 1) := by decide +kernel
theorem dX2_fullBands_0 : decode cX2_fullBands 0 = .ok (.iconst 0, 1) := by decide +kernel
theorem dX2_fullBands_1 : decode cX2_fullBands 1 = .ok (.istore_n 1, 1) := by decide +kernel
theorem dX2_fullBands_2 : decode cX2_fullBands 2 = .ok (.iconst 0, 1) := by decide +kernel
theorem dX2_fullBands_3 : decode cX2_fullBands 3 = .ok (.istore_n 2, 1) := by decide +kernel
theorem dX2_fullBands_4 : decode cX2_fullBands 4 = .ok (.iload_n 2, 1) := by decide +kernel
theorem dX2_fullBands_5 : decode cX2_fullBands 5 = .ok (.iconst 3, 1) := by decide +kernel
theorem dX2_fullBands_6 : decode cX2_fullBands 6 = .ok (.if_icmp .ge 22, 3) := by decide +kernel
theorem dX2_fullBands_9 : decode cX2_fullBands 9 = .ok (.aload_n 0, 1) := by decide +kernel
theorem dX2_fullBands_10 : decode cX2_fullBands 10 = .ok (.iload_n 2, 1) := by decide +kernel
theorem dX2_fullBands_11 : decode cX2_fullBands 11 = .ok (.invokevirtual 76, 3) := by decide +kernel
theorem dX2_fullBands_14 : decode cX2_fullBands 14 = .ok (.bipush 6, 2) := by decide +kernel
theorem dX2_fullBands_16 : decode cX2_fullBands 16 = .ok (.if_icmp .ne 6, 3) := by decide +kernel
theorem dX2_fullBands_19 : decode cX2_fullBands 19 = .ok (.iinc 1 1, 3) := by decide +kernel
theorem dX2_fullBands_22 : decode cX2_fullBands 22 = .ok (.iinc 2 1, 3) := by decide +kernel
theorem dX2_fullBands_25 : decode cX2_fullBands 25 = .ok (.goto (-21), 3) := by decide +kernel
theorem dX2_fullBands_28 : decode cX2_fullBands 28 = .ok (.iload_n 1, 1) := by decide +kernel
theorem dX2_fullBands_29 : decode cX2_fullBands 29 = .ok (.ireturn, 1) := by decide +kernel
theorem dX2_skillAtBells_0 : decode cX2_skillAtBells 0 = .ok (.iconst 0, 1) := by decide +kernel
theorem dX2_skillAtBells_1 : decode cX2_skillAtBells 1 = .ok (.istore_n 1, 1) := by decide +kernel
theorem dX2_skillAtBells_2 : decode cX2_skillAtBells 2 = .ok (.iconst 0, 1) := by decide +kernel
theorem dX2_skillAtBells_3 : decode cX2_skillAtBells 3 = .ok (.istore_n 2, 1) := by decide +kernel
theorem dX2_skillAtBells_4 : decode cX2_skillAtBells 4 = .ok (.iload_n 2, 1) := by decide +kernel
theorem dX2_skillAtBells_5 : decode cX2_skillAtBells 5 = .ok (.aload_n 0, 1) := by decide +kernel
theorem dX2_skillAtBells_6 : decode cX2_skillAtBells 6 = .ok (.getfield 42, 3) := by decide +kernel
theorem dX2_skillAtBells_9 : decode cX2_skillAtBells 9 = .ok (.if_icmp .ge 26, 3) := by decide +kernel
theorem dX2_skillAtBells_12 : decode cX2_skillAtBells 12 = .ok (.aload_n 0, 1) := by decide +kernel
theorem dX2_skillAtBells_13 : decode cX2_skillAtBells 13 = .ok (.iload_n 2, 1) := by decide +kernel
theorem dX2_skillAtBells_14 : decode cX2_skillAtBells 14 = .ok (.invokevirtual 58, 3) := by decide +kernel
theorem dX2_skillAtBells_17 : decode cX2_skillAtBells 17 = .ok (.ifCond .eq 12, 3) := by decide +kernel
theorem dX2_skillAtBells_20 : decode cX2_skillAtBells 20 = .ok (.iload_n 1, 1) := by decide +kernel
theorem dX2_skillAtBells_21 : decode cX2_skillAtBells 21 = .ok (.aload_n 0, 1) := by decide +kernel
theorem dX2_skillAtBells_22 : decode cX2_skillAtBells 22 = .ok (.getfield 15, 3) := by decide +kernel
theorem dX2_skillAtBells_25 : decode cX2_skillAtBells 25 = .ok (.iload_n 2, 1) := by decide +kernel
theorem dX2_skillAtBells_26 : decode cX2_skillAtBells 26 = .ok (.iaload, 1) := by decide +kernel
theorem dX2_skillAtBells_27 : decode cX2_skillAtBells 27 = .ok (.iadd, 1) := by decide +kernel
theorem dX2_skillAtBells_28 : decode cX2_skillAtBells 28 = .ok (.istore_n 1, 1) := by decide +kernel
theorem dX2_skillAtBells_29 : decode cX2_skillAtBells 29 = .ok (.iinc 2 1, 3) := by decide +kernel
theorem dX2_skillAtBells_32 : decode cX2_skillAtBells 32 = .ok (.goto (-28), 3) := by decide +kernel
theorem dX2_skillAtBells_35 : decode cX2_skillAtBells 35 = .ok (.iload_n 1, 1) := by decide +kernel
theorem dX2_skillAtBells_36 : decode cX2_skillAtBells 36 = .ok (.ireturn, 1) := by decide +kernel
theorem dX2_allFaults_0 : decode cX2_allFaults 0 = .ok (.iconst 0, 1) := by decide +kernel
theorem dX2_allFaults_1 : decode cX2_allFaults 1 = .ok (.istore_n 1, 1) := by decide +kernel
theorem dX2_allFaults_2 : decode cX2_allFaults 2 = .ok (.iconst 0, 1) := by decide +kernel
theorem dX2_allFaults_3 : decode cX2_allFaults 3 = .ok (.istore_n 2, 1) := by decide +kernel
theorem dX2_allFaults_4 : decode cX2_allFaults 4 = .ok (.iload_n 2, 1) := by decide +kernel
theorem dX2_allFaults_5 : decode cX2_allFaults 5 = .ok (.aload_n 0, 1) := by decide +kernel
theorem dX2_allFaults_6 : decode cX2_allFaults 6 = .ok (.getfield 42, 3) := by decide +kernel
theorem dX2_allFaults_9 : decode cX2_allFaults 9 = .ok (.if_icmp .ge 18, 3) := by decide +kernel
theorem dX2_allFaults_12 : decode cX2_allFaults 12 = .ok (.iload_n 1, 1) := by decide +kernel
theorem dX2_allFaults_13 : decode cX2_allFaults 13 = .ok (.aload_n 0, 1) := by decide +kernel
theorem dX2_allFaults_14 : decode cX2_allFaults 14 = .ok (.getfield 24, 3) := by decide +kernel
theorem dX2_allFaults_17 : decode cX2_allFaults 17 = .ok (.iload_n 2, 1) := by decide +kernel
theorem dX2_allFaults_18 : decode cX2_allFaults 18 = .ok (.iaload, 1) := by decide +kernel
theorem dX2_allFaults_19 : decode cX2_allFaults 19 = .ok (.iadd, 1) := by decide +kernel
theorem dX2_allFaults_20 : decode cX2_allFaults 20 = .ok (.istore_n 1, 1) := by decide +kernel
theorem dX2_allFaults_21 : decode cX2_allFaults 21 = .ok (.iinc 2 1, 3) := by decide +kernel
theorem dX2_allFaults_24 : decode cX2_allFaults 24 = .ok (.goto (-20), 3) := by decide +kernel
theorem dX2_allFaults_27 : decode cX2_allFaults 27 = .ok (.iload_n 1, 1) := by decide +kernel
theorem dX2_allFaults_28 : decode cX2_allFaults 28 = .ok (.ireturn, 1) := by decide +kernel
theorem dX2_allVotes_0 : decode cX2_allVotes 0 = .ok (.iconst 0, 1) := by decide +kernel
theorem dX2_allVotes_1 : decode cX2_allVotes 1 = .ok (.istore_n 1, 1) := by decide +kernel
theorem dX2_allVotes_2 : decode cX2_allVotes 2 = .ok (.iconst 0, 1) := by decide +kernel
theorem dX2_allVotes_3 : decode cX2_allVotes 3 = .ok (.istore_n 2, 1) := by decide +kernel
theorem dX2_allVotes_4 : decode cX2_allVotes 4 = .ok (.iload_n 2, 1) := by decide +kernel
theorem dX2_allVotes_5 : decode cX2_allVotes 5 = .ok (.aload_n 0, 1) := by decide +kernel
theorem dX2_allVotes_6 : decode cX2_allVotes 6 = .ok (.getfield 42, 3) := by decide +kernel
theorem dX2_allVotes_9 : decode cX2_allVotes 9 = .ok (.if_icmp .ge 18, 3) := by decide +kernel
theorem dX2_allVotes_12 : decode cX2_allVotes 12 = .ok (.iload_n 1, 1) := by decide +kernel
theorem dX2_allVotes_13 : decode cX2_allVotes 13 = .ok (.aload_n 0, 1) := by decide +kernel
theorem dX2_allVotes_14 : decode cX2_allVotes 14 = .ok (.getfield 18, 3) := by decide +kernel
theorem dX2_allVotes_17 : decode cX2_allVotes 17 = .ok (.iload_n 2, 1) := by decide +kernel
theorem dX2_allVotes_18 : decode cX2_allVotes 18 = .ok (.iaload, 1) := by decide +kernel
theorem dX2_allVotes_19 : decode cX2_allVotes 19 = .ok (.iadd, 1) := by decide +kernel
theorem dX2_allVotes_20 : decode cX2_allVotes 20 = .ok (.istore_n 1, 1) := by decide +kernel
theorem dX2_allVotes_21 : decode cX2_allVotes 21 = .ok (.iinc 2 1, 3) := by decide +kernel
theorem dX2_allVotes_24 : decode cX2_allVotes 24 = .ok (.goto (-20), 3) := by decide +kernel
theorem dX2_allVotes_27 : decode cX2_allVotes 27 = .ok (.iload_n 1, 1) := by decide +kernel
theorem dX2_allVotes_28 : decode cX2_allVotes 28 = .ok (.ireturn, 1) := by decide +kernel
theorem dX2_isFresh_0 : decode cX2_isFresh 0 = .ok (.iconst 0, 1) := by decide +kernel
theorem dX2_isFresh_1 : decode cX2_isFresh 1 = .ok (.istore_n 2, 1) := by decide +kernel
theorem dX2_isFresh_2 : decode cX2_isFresh 2 = .ok (.iconst 0, 1) := by decide +kernel
theorem dX2_isFresh_3 : decode cX2_isFresh 3 = .ok (.istore_n 3, 1) := by decide +kernel
theorem dX2_isFresh_4 : decode cX2_isFresh 4 = .ok (.iload_n 3, 1) := by decide +kernel
theorem dX2_isFresh_5 : decode cX2_isFresh 5 = .ok (.aload_n 0, 1) := by decide +kernel
theorem dX2_isFresh_6 : decode cX2_isFresh 6 = .ok (.getfield 42, 3) := by decide +kernel
theorem dX2_isFresh_9 : decode cX2_isFresh 9 = .ok (.if_icmp .ge 32, 3) := by decide +kernel
theorem dX2_isFresh_12 : decode cX2_isFresh 12 = .ok (.aload_n 0, 1) := by decide +kernel
theorem dX2_isFresh_13 : decode cX2_isFresh 13 = .ok (.iload_n 3, 1) := by decide +kernel
theorem dX2_isFresh_14 : decode cX2_isFresh 14 = .ok (.invokevirtual 62, 3) := by decide +kernel
theorem dX2_isFresh_17 : decode cX2_isFresh 17 = .ok (.iload_n 1, 1) := by decide +kernel
theorem dX2_isFresh_18 : decode cX2_isFresh 18 = .ok (.if_icmp .ne 17, 3) := by decide +kernel
theorem dX2_isFresh_21 : decode cX2_isFresh 21 = .ok (.aload_n 0, 1) := by decide +kernel
theorem dX2_isFresh_22 : decode cX2_isFresh 22 = .ok (.getfield 21, 3) := by decide +kernel
theorem dX2_isFresh_25 : decode cX2_isFresh 25 = .ok (.iload_n 3, 1) := by decide +kernel
theorem dX2_isFresh_26 : decode cX2_isFresh 26 = .ok (.iaload, 1) := by decide +kernel
theorem dX2_isFresh_27 : decode cX2_isFresh 27 = .ok (.bipush 15, 2) := by decide +kernel
theorem dX2_isFresh_29 : decode cX2_isFresh 29 = .ok (.if_icmp .ge 6, 3) := by decide +kernel
theorem dX2_isFresh_32 : decode cX2_isFresh 32 = .ok (.iinc 2 1, 3) := by decide +kernel
theorem dX2_isFresh_35 : decode cX2_isFresh 35 = .ok (.iinc 3 1, 3) := by decide +kernel
theorem dX2_isFresh_38 : decode cX2_isFresh 38 = .ok (.goto (-34), 3) := by decide +kernel
theorem dX2_isFresh_41 : decode cX2_isFresh 41 = .ok (.iload_n 2, 1) := by decide +kernel
theorem dX2_isFresh_42 : decode cX2_isFresh 42 = .ok (.bipush 6, 2) := by decide +kernel
theorem dX2_isFresh_44 : decode cX2_isFresh 44 = .ok (.if_icmp .ne 7, 3) := by decide +kernel
theorem dX2_isFresh_47 : decode cX2_isFresh 47 = .ok (.iconst 1, 1) := by decide +kernel
theorem dX2_isFresh_48 : decode cX2_isFresh 48 = .ok (.goto 4, 3) := by decide +kernel
theorem dX2_isFresh_51 : decode cX2_isFresh 51 = .ok (.iconst 0, 1) := by decide +kernel
theorem dX2_isFresh_52 : decode cX2_isFresh 52 = .ok (.ireturn, 1) := by decide +kernel
theorem dX2_ringTouch_0 : decode cX2_ringTouch 0 = .ok (.aload_n 0, 1) := by decide +kernel
theorem dX2_ringTouch_1 : decode cX2_ringTouch 1 = .ok (.getfield 27, 3) := by decide +kernel
theorem dX2_ringTouch_4 : decode cX2_ringTouch 4 = .ok (.iconst 0, 1) := by decide +kernel
theorem dX2_ringTouch_5 : decode cX2_ringTouch 5 = .ok (.invokestatic 79, 3) := by decide +kernel
theorem dX2_ringTouch_8 : decode cX2_ringTouch 8 = .ok (.aload 4, 2) := by decide +kernel
theorem dX2_ringTouch_10 : decode cX2_ringTouch 10 = .ok (.invokevirtual 85, 3) := by decide +kernel
theorem dX2_ringTouch_13 : decode cX2_ringTouch 13 = .ok (.iconst 0, 1) := by decide +kernel
theorem dX2_ringTouch_14 : decode cX2_ringTouch 14 = .ok (.istore 5, 2) := by decide +kernel
theorem dX2_ringTouch_16 : decode cX2_ringTouch 16 = .ok (.iload 5, 2) := by decide +kernel
theorem dX2_ringTouch_18 : decode cX2_ringTouch 18 = .ok (.iload_n 3, 1) := by decide +kernel
theorem dX2_ringTouch_19 : decode cX2_ringTouch 19 = .ok (.if_icmp .ge 45, 3) := by decide +kernel
theorem dX2_ringTouch_22 : decode cX2_ringTouch 22 = .ok (.iconst 0, 1) := by decide +kernel
theorem dX2_ringTouch_23 : decode cX2_ringTouch 23 = .ok (.istore 6, 2) := by decide +kernel
theorem dX2_ringTouch_25 : decode cX2_ringTouch 25 = .ok (.iload 6, 2) := by decide +kernel
theorem dX2_ringTouch_27 : decode cX2_ringTouch 27 = .ok (.aload_n 2, 1) := by decide +kernel
theorem dX2_ringTouch_28 : decode cX2_ringTouch 28 = .ok (.getfield 90, 3) := by decide +kernel
theorem dX2_ringTouch_31 : decode cX2_ringTouch 31 = .ok (.if_icmp .ge 27, 3) := by decide +kernel
theorem dX2_ringTouch_34 : decode cX2_ringTouch 34 = .ok (.aload 4, 2) := by decide +kernel
theorem dX2_ringTouch_36 : decode cX2_ringTouch 36 = .ok (.aload_n 2, 1) := by decide +kernel
theorem dX2_ringTouch_37 : decode cX2_ringTouch 37 = .ok (.iload 6, 2) := by decide +kernel
theorem dX2_ringTouch_39 : decode cX2_ringTouch 39 = .ok (.invokevirtual 95, 3) := by decide +kernel
theorem dX2_ringTouch_42 : decode cX2_ringTouch 42 = .ok (.invokevirtual 98, 3) := by decide +kernel
theorem dX2_ringTouch_45 : decode cX2_ringTouch 45 = .ok (.aload_n 0, 1) := by decide +kernel
theorem dX2_ringTouch_46 : decode cX2_ringTouch 46 = .ok (.iload_n 1, 1) := by decide +kernel
theorem dX2_ringTouch_47 : decode cX2_ringTouch 47 = .ok (.aload 4, 2) := by decide +kernel
theorem dX2_ringTouch_49 : decode cX2_ringTouch 49 = .ok (.invokevirtual 101, 3) := by decide +kernel
theorem dX2_ringTouch_52 : decode cX2_ringTouch 52 = .ok (.iinc 6 1, 3) := by decide +kernel
theorem dX2_ringTouch_55 : decode cX2_ringTouch 55 = .ok (.goto (-30), 3) := by decide +kernel
theorem dX2_ringTouch_58 : decode cX2_ringTouch 58 = .ok (.iinc 5 1, 3) := by decide +kernel
theorem dX2_ringTouch_61 : decode cX2_ringTouch 61 = .ok (.goto (-45), 3) := by decide +kernel
theorem dX2_ringTouch_64 : decode cX2_ringTouch 64 = .ok (.aload 4, 2) := by decide +kernel
theorem dX2_ringTouch_66 : decode cX2_ringTouch 66 = .ok (.invokevirtual 105, 3) := by decide +kernel
theorem dX2_ringTouch_69 : decode cX2_ringTouch 69 = .ok (.istore 5, 2) := by decide +kernel
theorem dX2_ringTouch_71 : decode cX2_ringTouch 71 = .ok (.iload 5, 2) := by decide +kernel
theorem dX2_ringTouch_73 : decode cX2_ringTouch 73 = .ok (.ifCond .ne 15, 3) := by decide +kernel
theorem dX2_ringTouch_76 : decode cX2_ringTouch 76 = .ok (.aload 4, 2) := by decide +kernel
theorem dX2_ringTouch_78 : decode cX2_ringTouch 78 = .ok (.invokevirtual 109, 3) := by decide +kernel
theorem dX2_ringTouch_81 : decode cX2_ringTouch 81 = .ok (.ifCond .eq 7, 3) := by decide +kernel
theorem dX2_ringTouch_84 : decode cX2_ringTouch 84 = .ok (.iconst 1, 1) := by decide +kernel
theorem dX2_ringTouch_85 : decode cX2_ringTouch 85 = .ok (.goto 4, 3) := by decide +kernel
theorem dX2_ringTouch_88 : decode cX2_ringTouch 88 = .ok (.iconst 0, 1) := by decide +kernel
theorem dX2_ringTouch_89 : decode cX2_ringTouch 89 = .ok (.istore 6, 2) := by decide +kernel
theorem dX2_ringTouch_91 : decode cX2_ringTouch 91 = .ok (.iload 6, 2) := by decide +kernel
theorem dX2_ringTouch_93 : decode cX2_ringTouch 93 = .ok (.ifCond .eq 7, 3) := by decide +kernel
theorem dX2_ringTouch_96 : decode cX2_ringTouch 96 = .ok (.iload_n 3, 1) := by decide +kernel
theorem dX2_ringTouch_97 : decode cX2_ringTouch 97 = .ok (.goto 6, 3) := by decide +kernel
theorem dX2_ringTouch_100 : decode cX2_ringTouch 100 = .ok (.iload 5, 2) := by decide +kernel
theorem dX2_ringTouch_102 : decode cX2_ringTouch 102 = .ok (.ineg, 1) := by decide +kernel
theorem dX2_ringTouch_103 : decode cX2_ringTouch 103 = .ok (.istore 7, 2) := by decide +kernel
theorem dX2_ringTouch_105 : decode cX2_ringTouch 105 = .ok (.iconst 0, 1) := by decide +kernel
theorem dX2_ringTouch_106 : decode cX2_ringTouch 106 = .ok (.istore 8, 2) := by decide +kernel
theorem dX2_ringTouch_108 : decode cX2_ringTouch 108 = .ok (.iload 8, 2) := by decide +kernel
theorem dX2_ringTouch_110 : decode cX2_ringTouch 110 = .ok (.aload_n 0, 1) := by decide +kernel
theorem dX2_ringTouch_111 : decode cX2_ringTouch 111 = .ok (.getfield 42, 3) := by decide +kernel
theorem dX2_ringTouch_114 : decode cX2_ringTouch 114 = .ok (.if_icmp .ge 35, 3) := by decide +kernel
theorem dX2_ringTouch_117 : decode cX2_ringTouch 117 = .ok (.aload_n 0, 1) := by decide +kernel
theorem dX2_ringTouch_118 : decode cX2_ringTouch 118 = .ok (.iload 8, 2) := by decide +kernel
theorem dX2_ringTouch_120 : decode cX2_ringTouch 120 = .ok (.invokevirtual 62, 3) := by decide +kernel
theorem dX2_ringTouch_123 : decode cX2_ringTouch 123 = .ok (.iload_n 1, 1) := by decide +kernel
theorem dX2_ringTouch_124 : decode cX2_ringTouch 124 = .ok (.if_icmp .ne 19, 3) := by decide +kernel
theorem dX2_ringTouch_127 : decode cX2_ringTouch 127 = .ok (.aload_n 0, 1) := by decide +kernel
theorem dX2_ringTouch_128 : decode cX2_ringTouch 128 = .ok (.iload 8, 2) := by decide +kernel
theorem dX2_ringTouch_130 : decode cX2_ringTouch 130 = .ok (.iload 7, 2) := by decide +kernel
theorem dX2_ringTouch_132 : decode cX2_ringTouch 132 = .ok (.aload_n 0, 1) := by decide +kernel
theorem dX2_ringTouch_133 : decode cX2_ringTouch 133 = .ok (.getfield 27, 3) := by decide +kernel
theorem dX2_ringTouch_136 : decode cX2_ringTouch 136 = .ok (.iload 8, 2) := by decide +kernel
theorem dX2_ringTouch_138 : decode cX2_ringTouch 138 = .ok (.iaload, 1) := by decide +kernel
theorem dX2_ringTouch_139 : decode cX2_ringTouch 139 = .ok (.isub, 1) := by decide +kernel
theorem dX2_ringTouch_140 : decode cX2_ringTouch 140 = .ok (.invokevirtual 113, 3) := by decide +kernel
theorem dX2_ringTouch_143 : decode cX2_ringTouch 143 = .ok (.iinc 8 1, 3) := by decide +kernel
theorem dX2_ringTouch_146 : decode cX2_ringTouch 146 = .ok (.goto (-38), 3) := by decide +kernel
theorem dX2_ringTouch_149 : decode cX2_ringTouch 149 = .ok (.iload 5, 2) := by decide +kernel
theorem dX2_ringTouch_151 : decode cX2_ringTouch 151 = .ok (.ireturn, 1) := by decide +kernel
theorem dX2_tireDodgers_0 : decode cX2_tireDodgers 0 = .ok (.iconst 0, 1) := by decide +kernel
theorem dX2_tireDodgers_1 : decode cX2_tireDodgers 1 = .ok (.istore_n 3, 1) := by decide +kernel
theorem dX2_tireDodgers_2 : decode cX2_tireDodgers 2 = .ok (.iload_n 3, 1) := by decide +kernel
theorem dX2_tireDodgers_3 : decode cX2_tireDodgers 3 = .ok (.aload_n 0, 1) := by decide +kernel
theorem dX2_tireDodgers_4 : decode cX2_tireDodgers 4 = .ok (.getfield 42, 3) := by decide +kernel
theorem dX2_tireDodgers_7 : decode cX2_tireDodgers 7 = .ok (.if_icmp .ge 35, 3) := by decide +kernel
theorem dX2_tireDodgers_10 : decode cX2_tireDodgers 10 = .ok (.aload_n 0, 1) := by decide +kernel
theorem dX2_tireDodgers_11 : decode cX2_tireDodgers 11 = .ok (.iload_n 3, 1) := by decide +kernel
theorem dX2_tireDodgers_12 : decode cX2_tireDodgers 12 = .ok (.invokevirtual 62, 3) := by decide +kernel
theorem dX2_tireDodgers_15 : decode cX2_tireDodgers 15 = .ok (.iload_n 1, 1) := by decide +kernel
theorem dX2_tireDodgers_16 : decode cX2_tireDodgers 16 = .ok (.if_icmp .ne 20, 3) := by decide +kernel
theorem dX2_tireDodgers_19 : decode cX2_tireDodgers 19 = .ok (.aload_n 2, 1) := by decide +kernel
theorem dX2_tireDodgers_20 : decode cX2_tireDodgers 20 = .ok (.aload_n 0, 1) := by decide +kernel
theorem dX2_tireDodgers_21 : decode cX2_tireDodgers 21 = .ok (.iload_n 3, 1) := by decide +kernel
theorem dX2_tireDodgers_22 : decode cX2_tireDodgers 22 = .ok (.invokevirtual 66, 3) := by decide +kernel
theorem dX2_tireDodgers_25 : decode cX2_tireDodgers 25 = .ok (.invokevirtual 117, 3) := by decide +kernel
theorem dX2_tireDodgers_28 : decode cX2_tireDodgers 28 = .ok (.ifCond .eq 8, 3) := by decide +kernel
theorem dX2_tireDodgers_31 : decode cX2_tireDodgers 31 = .ok (.aload_n 0, 1) := by decide +kernel
theorem dX2_tireDodgers_32 : decode cX2_tireDodgers 32 = .ok (.iload_n 3, 1) := by decide +kernel
theorem dX2_tireDodgers_33 : decode cX2_tireDodgers 33 = .ok (.invokevirtual 120, 3) := by decide +kernel
theorem dX2_tireDodgers_36 : decode cX2_tireDodgers 36 = .ok (.iinc 3 1, 3) := by decide +kernel
theorem dX2_tireDodgers_39 : decode cX2_tireDodgers 39 = .ok (.goto (-37), 3) := by decide +kernel
theorem dX2_tireDodgers_42 : decode cX2_tireDodgers 42 = .ok (.return_, 1) := by decide +kernel
theorem dX2_tire_0 : decode cX2_tire 0 = .ok (.aload_n 0, 1) := by decide +kernel
theorem dX2_tire_1 : decode cX2_tire 1 = .ok (.getfield 21, 3) := by decide +kernel
theorem dX2_tire_4 : decode cX2_tire 4 = .ok (.iload_n 1, 1) := by decide +kernel
theorem dX2_tire_5 : decode cX2_tire 5 = .ok (.bipush 20, 2) := by decide +kernel
theorem dX2_tire_7 : decode cX2_tire 7 = .ok (.aload_n 0, 1) := by decide +kernel
theorem dX2_tire_8 : decode cX2_tire 8 = .ok (.getfield 21, 3) := by decide +kernel
theorem dX2_tire_11 : decode cX2_tire 11 = .ok (.iload_n 1, 1) := by decide +kernel
theorem dX2_tire_12 : decode cX2_tire 12 = .ok (.iaload, 1) := by decide +kernel
theorem dX2_tire_13 : decode cX2_tire 13 = .ok (.iconst 1, 1) := by decide +kernel
theorem dX2_tire_14 : decode cX2_tire 14 = .ok (.iadd, 1) := by decide +kernel
theorem dX2_tire_15 : decode cX2_tire 15 = .ok (.invokestatic 49, 3) := by decide +kernel
theorem dX2_tire_18 : decode cX2_tire 18 = .ok (.iastore, 1) := by decide +kernel
theorem dX2_tire_19 : decode cX2_tire 19 = .ok (.aload_n 0, 1) := by decide +kernel
theorem dX2_tire_20 : decode cX2_tire 20 = .ok (.getfield 21, 3) := by decide +kernel
theorem dX2_tire_23 : decode cX2_tire 23 = .ok (.iload_n 1, 1) := by decide +kernel
theorem dX2_tire_24 : decode cX2_tire 24 = .ok (.iaload, 1) := by decide +kernel
theorem dX2_tire_25 : decode cX2_tire 25 = .ok (.iconst 2, 1) := by decide +kernel
theorem dX2_tire_26 : decode cX2_tire 26 = .ok (.aload_n 0, 1) := by decide +kernel
theorem dX2_tire_27 : decode cX2_tire 27 = .ok (.getfield 15, 3) := by decide +kernel
theorem dX2_tire_30 : decode cX2_tire 30 = .ok (.iload_n 1, 1) := by decide +kernel
theorem dX2_tire_31 : decode cX2_tire 31 = .ok (.iaload, 1) := by decide +kernel
theorem dX2_tire_32 : decode cX2_tire 32 = .ok (.imul, 1) := by decide +kernel
theorem dX2_tire_33 : decode cX2_tire 33 = .ok (.if_icmp .le 23, 3) := by decide +kernel
theorem dX2_tire_36 : decode cX2_tire 36 = .ok (.aload_n 0, 1) := by decide +kernel
theorem dX2_tire_37 : decode cX2_tire 37 = .ok (.getfield 24, 3) := by decide +kernel
theorem dX2_tire_40 : decode cX2_tire 40 = .ok (.iload_n 1, 1) := by decide +kernel
theorem dX2_tire_41 : decode cX2_tire 41 = .ok (.dup2, 1) := by decide +kernel
theorem dX2_tire_42 : decode cX2_tire 42 = .ok (.iaload, 1) := by decide +kernel
theorem dX2_tire_43 : decode cX2_tire 43 = .ok (.iconst 1, 1) := by decide +kernel
theorem dX2_tire_44 : decode cX2_tire 44 = .ok (.iadd, 1) := by decide +kernel
theorem dX2_tire_45 : decode cX2_tire 45 = .ok (.iastore, 1) := by decide +kernel
theorem dX2_tire_46 : decode cX2_tire 46 = .ok (.aload_n 0, 1) := by decide +kernel
theorem dX2_tire_47 : decode cX2_tire 47 = .ok (.getfield 27, 3) := by decide +kernel
theorem dX2_tire_50 : decode cX2_tire 50 = .ok (.iload_n 1, 1) := by decide +kernel
theorem dX2_tire_51 : decode cX2_tire 51 = .ok (.dup2, 1) := by decide +kernel
theorem dX2_tire_52 : decode cX2_tire 52 = .ok (.iaload, 1) := by decide +kernel
theorem dX2_tire_53 : decode cX2_tire 53 = .ok (.iconst 1, 1) := by decide +kernel
theorem dX2_tire_54 : decode cX2_tire 54 = .ok (.iadd, 1) := by decide +kernel
theorem dX2_tire_55 : decode cX2_tire 55 = .ok (.iastore, 1) := by decide +kernel
theorem dX2_tire_56 : decode cX2_tire 56 = .ok (.return_, 1) := by decide +kernel
theorem dX2_passDays_0 : decode cX2_passDays 0 = .ok (.iconst 0, 1) := by decide +kernel
theorem dX2_passDays_1 : decode cX2_passDays 1 = .ok (.istore_n 2, 1) := by decide +kernel
theorem dX2_passDays_2 : decode cX2_passDays 2 = .ok (.iload_n 2, 1) := by decide +kernel
theorem dX2_passDays_3 : decode cX2_passDays 3 = .ok (.iload_n 1, 1) := by decide +kernel
theorem dX2_passDays_4 : decode cX2_passDays 4 = .ok (.if_icmp .ge 13, 3) := by decide +kernel
theorem dX2_passDays_7 : decode cX2_passDays 7 = .ok (.aload_n 0, 1) := by decide +kernel
theorem dX2_passDays_8 : decode cX2_passDays 8 = .ok (.invokevirtual 123, 3) := by decide +kernel
theorem dX2_passDays_11 : decode cX2_passDays 11 = .ok (.iinc 2 1, 3) := by decide +kernel
theorem dX2_passDays_14 : decode cX2_passDays 14 = .ok (.goto (-12), 3) := by decide +kernel
theorem dX2_passDays_17 : decode cX2_passDays 17 = .ok (.return_, 1) := by decide +kernel
theorem dX2_passDay_0 : decode cX2_passDay 0 = .ok (.iconst 0, 1) := by decide +kernel
theorem dX2_passDay_1 : decode cX2_passDay 1 = .ok (.istore_n 1, 1) := by decide +kernel
theorem dX2_passDay_2 : decode cX2_passDay 2 = .ok (.iload_n 1, 1) := by decide +kernel
theorem dX2_passDay_3 : decode cX2_passDay 3 = .ok (.aload_n 0, 1) := by decide +kernel
theorem dX2_passDay_4 : decode cX2_passDay 4 = .ok (.getfield 42, 3) := by decide +kernel
theorem dX2_passDay_7 : decode cX2_passDay 7 = .ok (.if_icmp .ge 41, 3) := by decide +kernel
theorem dX2_passDay_10 : decode cX2_passDay 10 = .ok (.aload_n 0, 1) := by decide +kernel
theorem dX2_passDay_11 : decode cX2_passDay 11 = .ok (.iload_n 1, 1) := by decide +kernel
theorem dX2_passDay_12 : decode cX2_passDay 12 = .ok (.invokevirtual 58, 3) := by decide +kernel
theorem dX2_passDay_15 : decode cX2_passDay 15 = .ok (.ifCond .eq 7, 3) := by decide +kernel
theorem dX2_passDay_18 : decode cX2_passDay 18 = .ok (.iconst 3, 1) := by decide +kernel
theorem dX2_passDay_19 : decode cX2_passDay 19 = .ok (.goto 4, 3) := by decide +kernel
theorem dX2_passDay_22 : decode cX2_passDay 22 = .ok (.iconst 5, 1) := by decide +kernel
theorem dX2_passDay_23 : decode cX2_passDay 23 = .ok (.istore_n 2, 1) := by decide +kernel
theorem dX2_passDay_24 : decode cX2_passDay 24 = .ok (.aload_n 0, 1) := by decide +kernel
theorem dX2_passDay_25 : decode cX2_passDay 25 = .ok (.getfield 21, 3) := by decide +kernel
theorem dX2_passDay_28 : decode cX2_passDay 28 = .ok (.iload_n 1, 1) := by decide +kernel
theorem dX2_passDay_29 : decode cX2_passDay 29 = .ok (.iconst 0, 1) := by decide +kernel
theorem dX2_passDay_30 : decode cX2_passDay 30 = .ok (.aload_n 0, 1) := by decide +kernel
theorem dX2_passDay_31 : decode cX2_passDay 31 = .ok (.getfield 21, 3) := by decide +kernel
theorem dX2_passDay_34 : decode cX2_passDay 34 = .ok (.iload_n 1, 1) := by decide +kernel
theorem dX2_passDay_35 : decode cX2_passDay 35 = .ok (.iaload, 1) := by decide +kernel
theorem dX2_passDay_36 : decode cX2_passDay 36 = .ok (.iload_n 2, 1) := by decide +kernel
theorem dX2_passDay_37 : decode cX2_passDay 37 = .ok (.isub, 1) := by decide +kernel
theorem dX2_passDay_38 : decode cX2_passDay 38 = .ok (.invokestatic 55, 3) := by decide +kernel
theorem dX2_passDay_41 : decode cX2_passDay 41 = .ok (.iastore, 1) := by decide +kernel
theorem dX2_passDay_42 : decode cX2_passDay 42 = .ok (.iinc 1 1, 3) := by decide +kernel
theorem dX2_passDay_45 : decode cX2_passDay 45 = .ok (.goto (-43), 3) := by decide +kernel
theorem dX2_passDay_48 : decode cX2_passDay 48 = .ok (.aload_n 0, 1) := by decide +kernel
theorem dX2_passDay_49 : decode cX2_passDay 49 = .ok (.getfield 46, 3) := by decide +kernel
theorem dX2_passDay_52 : decode cX2_passDay 52 = .ok (.bipush 7, 2) := by decide +kernel
theorem dX2_passDay_54 : decode cX2_passDay 54 = .ok (.irem, 1) := by decide +kernel
theorem dX2_passDay_55 : decode cX2_passDay 55 = .ok (.bipush 6, 2) := by decide +kernel
theorem dX2_passDay_57 : decode cX2_passDay 57 = .ok (.if_icmp .ne 21, 3) := by decide +kernel
theorem dX2_passDay_60 : decode cX2_passDay 60 = .ok (.iconst 0, 1) := by decide +kernel
theorem dX2_passDay_61 : decode cX2_passDay 61 = .ok (.istore_n 1, 1) := by decide +kernel
theorem dX2_passDay_62 : decode cX2_passDay 62 = .ok (.iload_n 1, 1) := by decide +kernel
theorem dX2_passDay_63 : decode cX2_passDay 63 = .ok (.iconst 3, 1) := by decide +kernel
theorem dX2_passDay_64 : decode cX2_passDay 64 = .ok (.if_icmp .ge 14, 3) := by decide +kernel
theorem dX2_passDay_67 : decode cX2_passDay 67 = .ok (.aload_n 0, 1) := by decide +kernel
theorem dX2_passDay_68 : decode cX2_passDay 68 = .ok (.iload_n 1, 1) := by decide +kernel
theorem dX2_passDay_69 : decode cX2_passDay 69 = .ok (.invokevirtual 126, 3) := by decide +kernel
theorem dX2_passDay_72 : decode cX2_passDay 72 = .ok (.iinc 1 1, 3) := by decide +kernel
theorem dX2_passDay_75 : decode cX2_passDay 75 = .ok (.goto (-13), 3) := by decide +kernel
theorem dX2_passDay_78 : decode cX2_passDay 78 = .ok (.aload_n 0, 1) := by decide +kernel
theorem dX2_passDay_79 : decode cX2_passDay 79 = .ok (.dup, 1) := by decide +kernel
theorem dX2_passDay_80 : decode cX2_passDay 80 = .ok (.getfield 46, 3) := by decide +kernel
theorem dX2_passDay_83 : decode cX2_passDay 83 = .ok (.iconst 1, 1) := by decide +kernel
theorem dX2_passDay_84 : decode cX2_passDay 84 = .ok (.iadd, 1) := by decide +kernel
theorem dX2_passDay_85 : decode cX2_passDay 85 = .ok (.putfield 46, 3) := by decide +kernel
theorem dX2_passDay_88 : decode cX2_passDay 88 = .ok (.return_, 1) := by decide +kernel
theorem dX2_seatedUnlike_0 : decode cX2_seatedUnlike 0 = .ok (.iconst 0, 1) := by decide +kernel
theorem dX2_seatedUnlike_1 : decode cX2_seatedUnlike 1 = .ok (.istore_n 2, 1) := by decide +kernel
theorem dX2_seatedUnlike_2 : decode cX2_seatedUnlike 2 = .ok (.iconst 0, 1) := by decide +kernel
theorem dX2_seatedUnlike_3 : decode cX2_seatedUnlike 3 = .ok (.istore_n 3, 1) := by decide +kernel
theorem dX2_seatedUnlike_4 : decode cX2_seatedUnlike 4 = .ok (.iload_n 3, 1) := by decide +kernel
theorem dX2_seatedUnlike_5 : decode cX2_seatedUnlike 5 = .ok (.aload_n 0, 1) := by decide +kernel
theorem dX2_seatedUnlike_6 : decode cX2_seatedUnlike 6 = .ok (.getfield 42, 3) := by decide +kernel
theorem dX2_seatedUnlike_9 : decode cX2_seatedUnlike 9 = .ok (.if_icmp .ge 27, 3) := by decide +kernel
theorem dX2_seatedUnlike_12 : decode cX2_seatedUnlike 12 = .ok (.aload_n 0, 1) := by decide +kernel
theorem dX2_seatedUnlike_13 : decode cX2_seatedUnlike 13 = .ok (.getfield 30, 3) := by decide +kernel
theorem dX2_seatedUnlike_16 : decode cX2_seatedUnlike 16 = .ok (.iload_n 3, 1) := by decide +kernel
theorem dX2_seatedUnlike_17 : decode cX2_seatedUnlike 17 = .ok (.iaload, 1) := by decide +kernel
theorem dX2_seatedUnlike_18 : decode cX2_seatedUnlike 18 = .ok (.aload_n 1, 1) := by decide +kernel
theorem dX2_seatedUnlike_19 : decode cX2_seatedUnlike 19 = .ok (.getfield 30, 3) := by decide +kernel
theorem dX2_seatedUnlike_22 : decode cX2_seatedUnlike 22 = .ok (.iload_n 3, 1) := by decide +kernel
theorem dX2_seatedUnlike_23 : decode cX2_seatedUnlike 23 = .ok (.iaload, 1) := by decide +kernel
theorem dX2_seatedUnlike_24 : decode cX2_seatedUnlike 24 = .ok (.if_icmp .eq 6, 3) := by decide +kernel
theorem dX2_seatedUnlike_27 : decode cX2_seatedUnlike 27 = .ok (.iinc 2 1, 3) := by decide +kernel
theorem dX2_seatedUnlike_30 : decode cX2_seatedUnlike 30 = .ok (.iinc 3 1, 3) := by decide +kernel
theorem dX2_seatedUnlike_33 : decode cX2_seatedUnlike 33 = .ok (.goto (-29), 3) := by decide +kernel
theorem dX2_seatedUnlike_36 : decode cX2_seatedUnlike 36 = .ok (.iload_n 2, 1) := by decide +kernel
theorem dX2_seatedUnlike_37 : decode cX2_seatedUnlike 37 = .ok (.ireturn, 1) := by decide +kernel
theorem dX3_init_0 : decode cX3_init 0 = .ok (.aload_n 0, 1) := by decide +kernel
theorem dX3_init_1 : decode cX3_init 1 = .ok (.invokespecial 3, 3) := by decide +kernel
theorem dX3_init_4 : decode cX3_init 4 = .ok (.aload_n 0, 1) := by decide +kernel
theorem dX3_init_5 : decode cX3_init 5 = .ok (.new 9, 3) := by decide +kernel
theorem dX3_init_8 : decode cX3_init 8 = .ok (.dup, 1) := by decide +kernel
theorem dX3_init_9 : decode cX3_init 9 = .ok (.invokespecial 11, 3) := by decide +kernel
theorem dX3_init_12 : decode cX3_init 12 = .ok (.putfield 12, 3) := by decide +kernel
theorem dX3_init_15 : decode cX3_init 15 = .ok (.aload_n 0, 1) := by decide +kernel
theorem dX3_init_16 : decode cX3_init 16 = .ok (.new 9, 3) := by decide +kernel
theorem dX3_init_19 : decode cX3_init 19 = .ok (.dup, 1) := by decide +kernel
theorem dX3_init_20 : decode cX3_init 20 = .ok (.invokespecial 11, 3) := by decide +kernel
theorem dX3_init_23 : decode cX3_init 23 = .ok (.putfield 16, 3) := by decide +kernel
theorem dX3_init_26 : decode cX3_init 26 = .ok (.aload_n 0, 1) := by decide +kernel
theorem dX3_init_27 : decode cX3_init 27 = .ok (.new 19, 3) := by decide +kernel
theorem dX3_init_30 : decode cX3_init 30 = .ok (.dup, 1) := by decide +kernel
theorem dX3_init_31 : decode cX3_init 31 = .ok (.invokespecial 21, 3) := by decide +kernel
theorem dX3_init_34 : decode cX3_init 34 = .ok (.putfield 22, 3) := by decide +kernel
theorem dX3_init_37 : decode cX3_init 37 = .ok (.aload_n 0, 1) := by decide +kernel
theorem dX3_init_38 : decode cX3_init 38 = .ok (.iconst 5, 1) := by decide +kernel
theorem dX3_init_39 : decode cX3_init 39 = .ok (.anewarray 26, 3) := by decide +kernel
theorem dX3_init_42 : decode cX3_init 42 = .ok (.putfield 28, 3) := by decide +kernel
theorem dX3_init_45 : decode cX3_init 45 = .ok (.iconst 0, 1) := by decide +kernel
theorem dX3_init_46 : decode cX3_init 46 = .ok (.istore_n 1, 1) := by decide +kernel
theorem dX3_init_47 : decode cX3_init 47 = .ok (.iload_n 1, 1) := by decide +kernel
theorem dX3_init_48 : decode cX3_init 48 = .ok (.iconst 5, 1) := by decide +kernel
theorem dX3_init_49 : decode cX3_init 49 = .ok (.if_icmp .ge 22, 3) := by decide +kernel
theorem dX3_init_52 : decode cX3_init 52 = .ok (.aload_n 0, 1) := by decide +kernel
theorem dX3_init_53 : decode cX3_init 53 = .ok (.getfield 28, 3) := by decide +kernel
theorem dX3_init_56 : decode cX3_init 56 = .ok (.iload_n 1, 1) := by decide +kernel
theorem dX3_init_57 : decode cX3_init 57 = .ok (.new 26, 3) := by decide +kernel
theorem dX3_init_60 : decode cX3_init 60 = .ok (.dup, 1) := by decide +kernel
theorem dX3_init_61 : decode cX3_init 61 = .ok (.invokespecial 32, 3) := by decide +kernel
theorem dX3_init_64 : decode cX3_init 64 = .ok (.aastore, 1) := by decide +kernel
theorem dX3_init_65 : decode cX3_init 65 = .ok (.iinc 1 1, 3) := by decide +kernel
theorem dX3_init_68 : decode cX3_init 68 = .ok (.goto (-21), 3) := by decide +kernel
theorem dX3_init_71 : decode cX3_init 71 = .ok (.return_, 1) := by decide +kernel
theorem dX3_ringer_0 : decode cX3_ringer 0 = .ok (.iload_n 1, 1) := by decide +kernel
theorem dX3_ringer_1 : decode cX3_ringer 1 = .ok (.iconst 4, 1) := by decide +kernel
theorem dX3_ringer_2 : decode cX3_ringer 2 = .ok (.invokestatic 33, 3) := by decide +kernel
theorem dX3_ringer_5 : decode cX3_ringer 5 = .ok (.iload_n 2, 1) := by decide +kernel
theorem dX3_ringer_6 : decode cX3_ringer 6 = .ok (.iconst 0, 1) := by decide +kernel
theorem dX3_ringer_7 : decode cX3_ringer 7 = .ok (.bipush 9, 2) := by decide +kernel
theorem dX3_ringer_9 : decode cX3_ringer 9 = .ok (.invokestatic 37, 3) := by decide +kernel
theorem dX3_ringer_12 : decode cX3_ringer 12 = .ok (.iload_n 3, 1) := by decide +kernel
theorem dX3_ringer_13 : decode cX3_ringer 13 = .ok (.iconst 0, 1) := by decide +kernel
theorem dX3_ringer_14 : decode cX3_ringer 14 = .ok (.bipush 99, 2) := by decide +kernel
theorem dX3_ringer_16 : decode cX3_ringer 16 = .ok (.invokestatic 37, 3) := by decide +kernel
theorem dX3_ringer_19 : decode cX3_ringer 19 = .ok (.aload_n 0, 1) := by decide +kernel
theorem dX3_ringer_20 : decode cX3_ringer 20 = .ok (.getfield 12, 3) := by decide +kernel
theorem dX3_ringer_23 : decode cX3_ringer 23 = .ok (.getfield 41, 3) := by decide +kernel
theorem dX3_ringer_26 : decode cX3_ringer 26 = .ok (.bipush 20, 2) := by decide +kernel
theorem dX3_ringer_28 : decode cX3_ringer 28 = .ok (.if_icmp .lt 13, 3) := by decide +kernel
theorem dX3_ringer_31 : decode cX3_ringer 31 = .ok (.new 45, 3) := by decide +kernel
theorem dX3_ringer_34 : decode cX3_ringer 34 = .ok (.dup, 1) := by decide +kernel
theorem dX3_ringer_35 : decode cX3_ringer 35 = .ok (.ldc 47, 2) := by decide +kernel
theorem dX3_ringer_37 : decode cX3_ringer 37 = .ok (.invokespecial 49, 3) := by decide +kernel
theorem dX3_ringer_40 : decode cX3_ringer 40 = .ok (.athrow, 1) := by decide +kernel
theorem dX3_ringer_41 : decode cX3_ringer 41 = .ok (.aload_n 0, 1) := by decide +kernel
theorem dX3_ringer_42 : decode cX3_ringer 42 = .ok (.getfield 12, 3) := by decide +kernel
theorem dX3_ringer_45 : decode cX3_ringer 45 = .ok (.iload_n 1, 1) := by decide +kernel
theorem dX3_ringer_46 : decode cX3_ringer 46 = .ok (.iload_n 2, 1) := by decide +kernel
theorem dX3_ringer_47 : decode cX3_ringer 47 = .ok (.iload_n 3, 1) := by decide +kernel
theorem dX3_ringer_48 : decode cX3_ringer 48 = .ok (.invokevirtual 52, 3) := by decide +kernel
theorem dX3_ringer_51 : decode cX3_ringer 51 = .ok (.ireturn, 1) := by decide +kernel
theorem dX3_vote_0 : decode cX3_vote 0 = .ok (.iload_n 1, 1) := by decide +kernel
theorem dX3_vote_1 : decode cX3_vote 1 = .ok (.aload_n 0, 1) := by decide +kernel
theorem dX3_vote_2 : decode cX3_vote 2 = .ok (.getfield 12, 3) := by decide +kernel
theorem dX3_vote_5 : decode cX3_vote 5 = .ok (.getfield 41, 3) := by decide +kernel
theorem dX3_vote_8 : decode cX3_vote 8 = .ok (.invokestatic 33, 3) := by decide +kernel
theorem dX3_vote_11 : decode cX3_vote 11 = .ok (.iload_n 2, 1) := by decide +kernel
theorem dX3_vote_12 : decode cX3_vote 12 = .ok (.bipush (-99), 2) := by decide +kernel
theorem dX3_vote_14 : decode cX3_vote 14 = .ok (.bipush 99, 2) := by decide +kernel
theorem dX3_vote_16 : decode cX3_vote 16 = .ok (.invokestatic 37, 3) := by decide +kernel
theorem dX3_vote_19 : decode cX3_vote 19 = .ok (.aload_n 0, 1) := by decide +kernel
theorem dX3_vote_20 : decode cX3_vote 20 = .ok (.getfield 12, 3) := by decide +kernel
theorem dX3_vote_23 : decode cX3_vote 23 = .ok (.iload_n 1, 1) := by decide +kernel
theorem dX3_vote_24 : decode cX3_vote 24 = .ok (.iload_n 2, 1) := by decide +kernel
theorem dX3_vote_25 : decode cX3_vote 25 = .ok (.invokevirtual 56, 3) := by decide +kernel
theorem dX3_vote_28 : decode cX3_vote 28 = .ok (.aload_n 0, 1) := by decide +kernel
theorem dX3_vote_29 : decode cX3_vote 29 = .ok (.getfield 12, 3) := by decide +kernel
theorem dX3_vote_32 : decode cX3_vote 32 = .ok (.getfield 59, 3) := by decide +kernel
theorem dX3_vote_35 : decode cX3_vote 35 = .ok (.iload_n 1, 1) := by decide +kernel
theorem dX3_vote_36 : decode cX3_vote 36 = .ok (.iaload, 1) := by decide +kernel
theorem dX3_vote_37 : decode cX3_vote 37 = .ok (.ireturn, 1) := by decide +kernel
theorem dX3_seat_0 : decode cX3_seat 0 = .ok (.iload_n 1, 1) := by decide +kernel
theorem dX3_seat_1 : decode cX3_seat 1 = .ok (.iload_n 2, 1) := by decide +kernel
theorem dX3_seat_2 : decode cX3_seat 2 = .ok (.invokestatic 63, 3) := by decide +kernel
theorem dX3_seat_5 : decode cX3_seat 5 = .ok (.iload_n 3, 1) := by decide +kernel
theorem dX3_seat_6 : decode cX3_seat 6 = .ok (.iconst 4, 1) := by decide +kernel
theorem dX3_seat_7 : decode cX3_seat 7 = .ok (.invokestatic 33, 3) := by decide +kernel
theorem dX3_seat_10 : decode cX3_seat 10 = .ok (.iload_n 1, 1) := by decide +kernel
theorem dX3_seat_11 : decode cX3_seat 11 = .ok (.iload_n 2, 1) := by decide +kernel
theorem dX3_seat_12 : decode cX3_seat 12 = .ok (.invokestatic 66, 3) := by decide +kernel
theorem dX3_seat_15 : decode cX3_seat 15 = .ok (.istore 4, 2) := by decide +kernel
theorem dX3_seat_17 : decode cX3_seat 17 = .ok (.aload_n 0, 1) := by decide +kernel
theorem dX3_seat_18 : decode cX3_seat 18 = .ok (.getfield 12, 3) := by decide +kernel
theorem dX3_seat_21 : decode cX3_seat 21 = .ok (.getfield 70, 3) := by decide +kernel
theorem dX3_seat_24 : decode cX3_seat 24 = .ok (.iload 4, 2) := by decide +kernel
theorem dX3_seat_26 : decode cX3_seat 26 = .ok (.iaload, 1) := by decide +kernel
theorem dX3_seat_27 : decode cX3_seat 27 = .ok (.istore 5, 2) := by decide +kernel
theorem dX3_seat_29 : decode cX3_seat 29 = .ok (.aload_n 0, 1) := by decide +kernel
theorem dX3_seat_30 : decode cX3_seat 30 = .ok (.getfield 12, 3) := by decide +kernel
theorem dX3_seat_33 : decode cX3_seat 33 = .ok (.getfield 70, 3) := by decide +kernel
theorem dX3_seat_36 : decode cX3_seat 36 = .ok (.iload 4, 2) := by decide +kernel
theorem dX3_seat_38 : decode cX3_seat 38 = .ok (.iload_n 3, 1) := by decide +kernel
theorem dX3_seat_39 : decode cX3_seat 39 = .ok (.iastore, 1) := by decide +kernel
theorem dX3_seat_40 : decode cX3_seat 40 = .ok (.iload 5, 2) := by decide +kernel
theorem dX3_seat_42 : decode cX3_seat 42 = .ok (.ireturn, 1) := by decide +kernel
theorem dX3_elect_0 : decode cX3_elect 0 = .ok (.iload_n 1, 1) := by decide +kernel
theorem dX3_elect_1 : decode cX3_elect 1 = .ok (.iconst 3, 1) := by decide +kernel
theorem dX3_elect_2 : decode cX3_elect 2 = .ok (.invokestatic 33, 3) := by decide +kernel
theorem dX3_elect_5 : decode cX3_elect 5 = .ok (.aload_n 0, 1) := by decide +kernel
theorem dX3_elect_6 : decode cX3_elect 6 = .ok (.getfield 12, 3) := by decide +kernel
theorem dX3_elect_9 : decode cX3_elect 9 = .ok (.iload_n 1, 1) := by decide +kernel
theorem dX3_elect_10 : decode cX3_elect 10 = .ok (.invokevirtual 73, 3) := by decide +kernel
theorem dX3_elect_13 : decode cX3_elect 13 = .ok (.aload_n 0, 1) := by decide +kernel
theorem dX3_elect_14 : decode cX3_elect 14 = .ok (.getfield 12, 3) := by decide +kernel
theorem dX3_elect_17 : decode cX3_elect 17 = .ok (.iload_n 1, 1) := by decide +kernel
theorem dX3_elect_18 : decode cX3_elect 18 = .ok (.invokevirtual 77, 3) := by decide +kernel
theorem dX3_elect_21 : decode cX3_elect 21 = .ok (.ireturn, 1) := by decide +kernel
theorem dX3_put_0 : decode cX3_put 0 = .ok (.iload_n 1, 1) := by decide +kernel
theorem dX3_put_1 : decode cX3_put 1 = .ok (.iload_n 2, 1) := by decide +kernel
theorem dX3_put_2 : decode cX3_put 2 = .ok (.invokestatic 63, 3) := by decide +kernel
theorem dX3_put_5 : decode cX3_put 5 = .ok (.iload_n 3, 1) := by decide +kernel
theorem dX3_put_6 : decode cX3_put 6 = .ok (.aload_n 0, 1) := by decide +kernel
theorem dX3_put_7 : decode cX3_put 7 = .ok (.getfield 12, 3) := by decide +kernel
theorem dX3_put_10 : decode cX3_put 10 = .ok (.getfield 41, 3) := by decide +kernel
theorem dX3_put_13 : decode cX3_put 13 = .ok (.invokestatic 33, 3) := by decide +kernel
theorem dX3_put_16 : decode cX3_put 16 = .ok (.iload_n 1, 1) := by decide +kernel
theorem dX3_put_17 : decode cX3_put 17 = .ok (.iload_n 2, 1) := by decide +kernel
theorem dX3_put_18 : decode cX3_put 18 = .ok (.invokestatic 66, 3) := by decide +kernel
theorem dX3_put_21 : decode cX3_put 21 = .ok (.istore 4, 2) := by decide +kernel
theorem dX3_put_23 : decode cX3_put 23 = .ok (.aload_n 0, 1) := by decide +kernel
theorem dX3_put_24 : decode cX3_put 24 = .ok (.getfield 12, 3) := by decide +kernel
theorem dX3_put_27 : decode cX3_put 27 = .ok (.iload 4, 2) := by decide +kernel
theorem dX3_put_29 : decode cX3_put 29 = .ok (.invokevirtual 81, 3) := by decide +kernel
theorem dX3_put_32 : decode cX3_put 32 = .ok (.iconst (-1), 1) := by decide +kernel
theorem dX3_put_33 : decode cX3_put 33 = .ok (.if_icmp .eq 13, 3) := by decide +kernel
theorem dX3_put_36 : decode cX3_put 36 = .ok (.new 45, 3) := by decide +kernel
theorem dX3_put_39 : decode cX3_put 39 = .ok (.dup, 1) := by decide +kernel
theorem dX3_put_40 : decode cX3_put 40 = .ok (.ldc 84, 2) := by decide +kernel
theorem dX3_put_42 : decode cX3_put 42 = .ok (.invokespecial 49, 3) := by decide +kernel
theorem dX3_put_45 : decode cX3_put 45 = .ok (.athrow, 1) := by decide +kernel
theorem dX3_put_46 : decode cX3_put 46 = .ok (.aload_n 0, 1) := by decide +kernel
theorem dX3_put_47 : decode cX3_put 47 = .ok (.getfield 12, 3) := by decide +kernel
theorem dX3_put_50 : decode cX3_put 50 = .ok (.iload_n 3, 1) := by decide +kernel
theorem dX3_put_51 : decode cX3_put 51 = .ok (.invokevirtual 86, 3) := by decide +kernel
theorem dX3_put_54 : decode cX3_put 54 = .ok (.ifCond .eq 13, 3) := by decide +kernel
theorem dX3_put_57 : decode cX3_put 57 = .ok (.new 45, 3) := by decide +kernel
theorem dX3_put_60 : decode cX3_put 60 = .ok (.dup, 1) := by decide +kernel
theorem dX3_put_61 : decode cX3_put 61 = .ok (.ldc 90, 2) := by decide +kernel
theorem dX3_put_63 : decode cX3_put 63 = .ok (.invokespecial 49, 3) := by decide +kernel
theorem dX3_put_66 : decode cX3_put 66 = .ok (.athrow, 1) := by decide +kernel
theorem dX3_put_67 : decode cX3_put 67 = .ok (.aload_n 0, 1) := by decide +kernel
theorem dX3_put_68 : decode cX3_put 68 = .ok (.getfield 12, 3) := by decide +kernel
theorem dX3_put_71 : decode cX3_put 71 = .ok (.getfield 92, 3) := by decide +kernel
theorem dX3_put_74 : decode cX3_put 74 = .ok (.iload_n 3, 1) := by decide +kernel
theorem dX3_put_75 : decode cX3_put 75 = .ok (.iload 4, 2) := by decide +kernel
theorem dX3_put_77 : decode cX3_put 77 = .ok (.iastore, 1) := by decide +kernel
theorem dX3_put_78 : decode cX3_put 78 = .ok (.aload_n 0, 1) := by decide +kernel
theorem dX3_put_79 : decode cX3_put 79 = .ok (.getfield 12, 3) := by decide +kernel
theorem dX3_put_82 : decode cX3_put 82 = .ok (.getfield 70, 3) := by decide +kernel
theorem dX3_put_85 : decode cX3_put 85 = .ok (.iload 4, 2) := by decide +kernel
theorem dX3_put_87 : decode cX3_put 87 = .ok (.iaload, 1) := by decide +kernel
theorem dX3_put_88 : decode cX3_put 88 = .ok (.ireturn, 1) := by decide +kernel
theorem dX3_leave_0 : decode cX3_leave 0 = .ok (.iload_n 1, 1) := by decide +kernel
theorem dX3_leave_1 : decode cX3_leave 1 = .ok (.aload_n 0, 1) := by decide +kernel
theorem dX3_leave_2 : decode cX3_leave 2 = .ok (.getfield 12, 3) := by decide +kernel
theorem dX3_leave_5 : decode cX3_leave 5 = .ok (.getfield 41, 3) := by decide +kernel
theorem dX3_leave_8 : decode cX3_leave 8 = .ok (.invokestatic 33, 3) := by decide +kernel
theorem dX3_leave_11 : decode cX3_leave 11 = .ok (.aload_n 0, 1) := by decide +kernel
theorem dX3_leave_12 : decode cX3_leave 12 = .ok (.getfield 12, 3) := by decide +kernel
theorem dX3_leave_15 : decode cX3_leave 15 = .ok (.iload_n 1, 1) := by decide +kernel
theorem dX3_leave_16 : decode cX3_leave 16 = .ok (.invokevirtual 86, 3) := by decide +kernel
theorem dX3_leave_19 : decode cX3_leave 19 = .ok (.ifCond .ne 13, 3) := by decide +kernel
