theorem dX3_leave_22 : decode cX3_leave 22 = .ok (.new 45, 3) := by decide +kernel
theorem dX3_leave_25 : decode cX3_leave 25 = .ok (.dup, 1) := by decide +kernel
theorem dX3_leave_26 : decode cX3_leave 26 = .ok (.ldc 95, 2) := by decide +kernel
theorem dX3_leave_28 : decode cX3_leave 28 = .ok (.invokespecial 49, 3) := by decide +kernel
theorem dX3_leave_31 : decode cX3_leave 31 = .ok (.athrow, 1) := by decide +kernel
theorem dX3_leave_32 : decode cX3_leave 32 = .ok (.bipush 10, 2) := by decide +kernel
theorem dX3_leave_34 : decode cX3_leave 34 = .ok (.aload_n 0, 1) := by decide +kernel
theorem dX3_leave_35 : decode cX3_leave 35 = .ok (.getfield 12, 3) := by decide +kernel
theorem dX3_leave_38 : decode cX3_leave 38 = .ok (.iload_n 1, 1) := by decide +kernel
theorem dX3_leave_39 : decode cX3_leave 39 = .ok (.invokevirtual 97, 3) := by decide +kernel
theorem dX3_leave_42 : decode cX3_leave 42 = .ok (.imul, 1) := by decide +kernel
theorem dX3_leave_43 : decode cX3_leave 43 = .ok (.aload_n 0, 1) := by decide +kernel
theorem dX3_leave_44 : decode cX3_leave 44 = .ok (.getfield 12, 3) := by decide +kernel
theorem dX3_leave_47 : decode cX3_leave 47 = .ok (.iload_n 1, 1) := by decide +kernel
theorem dX3_leave_48 : decode cX3_leave 48 = .ok (.invokevirtual 100, 3) := by decide +kernel
theorem dX3_leave_51 : decode cX3_leave 51 = .ok (.iadd, 1) := by decide +kernel
theorem dX3_leave_52 : decode cX3_leave 52 = .ok (.istore_n 2, 1) := by decide +kernel
theorem dX3_leave_53 : decode cX3_leave 53 = .ok (.aload_n 0, 1) := by decide +kernel
theorem dX3_leave_54 : decode cX3_leave 54 = .ok (.getfield 12, 3) := by decide +kernel
theorem dX3_leave_57 : decode cX3_leave 57 = .ok (.getfield 92, 3) := by decide +kernel
theorem dX3_leave_60 : decode cX3_leave 60 = .ok (.iload_n 1, 1) := by decide +kernel
theorem dX3_leave_61 : decode cX3_leave 61 = .ok (.iconst (-1), 1) := by decide +kernel
theorem dX3_leave_62 : decode cX3_leave 62 = .ok (.iastore, 1) := by decide +kernel
theorem dX3_leave_63 : decode cX3_leave 63 = .ok (.iload_n 2, 1) := by decide +kernel
theorem dX3_leave_64 : decode cX3_leave 64 = .ok (.ireturn, 1) := by decide +kernel
theorem dX3_told_0 : decode cX3_told 0 = .ok (.iload_n 1, 1) := by decide +kernel
theorem dX3_told_1 : decode cX3_told 1 = .ok (.aload_n 0, 1) := by decide +kernel
theorem dX3_told_2 : decode cX3_told 2 = .ok (.getfield 12, 3) := by decide +kernel
theorem dX3_told_5 : decode cX3_told 5 = .ok (.getfield 41, 3) := by decide +kernel
theorem dX3_told_8 : decode cX3_told 8 = .ok (.invokestatic 33, 3) := by decide +kernel
theorem dX3_told_11 : decode cX3_told 11 = .ok (.iload_n 2, 1) := by decide +kernel
theorem dX3_told_12 : decode cX3_told 12 = .ok (.bipush 8, 2) := by decide +kernel
theorem dX3_told_14 : decode cX3_told 14 = .ok (.invokestatic 33, 3) := by decide +kernel
theorem dX3_told_17 : decode cX3_told 17 = .ok (.aload_n 0, 1) := by decide +kernel
theorem dX3_told_18 : decode cX3_told 18 = .ok (.getfield 12, 3) := by decide +kernel
theorem dX3_told_21 : decode cX3_told 21 = .ok (.iload_n 1, 1) := by decide +kernel
theorem dX3_told_22 : decode cX3_told 22 = .ok (.iload_n 2, 1) := by decide +kernel
theorem dX3_told_23 : decode cX3_told 23 = .ok (.invokevirtual 103, 3) := by decide +kernel
theorem dX3_told_26 : decode cX3_told 26 = .ok (.ireturn, 1) := by decide +kernel
theorem dX3_bell_0 : decode cX3_bell 0 = .ok (.iload_n 1, 1) := by decide +kernel
theorem dX3_bell_1 : decode cX3_bell 1 = .ok (.iload_n 2, 1) := by decide +kernel
theorem dX3_bell_2 : decode cX3_bell 2 = .ok (.invokestatic 63, 3) := by decide +kernel
theorem dX3_bell_5 : decode cX3_bell 5 = .ok (.iload_n 3, 1) := by decide +kernel
theorem dX3_bell_6 : decode cX3_bell 6 = .ok (.iconst 3, 1) := by decide +kernel
theorem dX3_bell_7 : decode cX3_bell 7 = .ok (.invokestatic 33, 3) := by decide +kernel
theorem dX3_bell_10 : decode cX3_bell 10 = .ok (.iload_n 1, 1) := by decide +kernel
theorem dX3_bell_11 : decode cX3_bell 11 = .ok (.iload_n 2, 1) := by decide +kernel
theorem dX3_bell_12 : decode cX3_bell 12 = .ok (.invokestatic 66, 3) := by decide +kernel
theorem dX3_bell_15 : decode cX3_bell 15 = .ok (.istore 4, 2) := by decide +kernel
theorem dX3_bell_17 : decode cX3_bell 17 = .ok (.iload_n 3, 1) := by decide +kernel
theorem dX3_bell_18 : decode cX3_bell 18 = .ok (.ifCond .ne 14, 3) := by decide +kernel
theorem dX3_bell_21 : decode cX3_bell 21 = .ok (.aload_n 0, 1) := by decide +kernel
theorem dX3_bell_22 : decode cX3_bell 22 = .ok (.getfield 12, 3) := by decide +kernel
theorem dX3_bell_25 : decode cX3_bell 25 = .ok (.getfield 70, 3) := by decide +kernel
theorem dX3_bell_28 : decode cX3_bell 28 = .ok (.iload 4, 2) := by decide +kernel
theorem dX3_bell_30 : decode cX3_bell 30 = .ok (.iaload, 1) := by decide +kernel
theorem dX3_bell_31 : decode cX3_bell 31 = .ok (.ireturn, 1) := by decide +kernel
theorem dX3_bell_32 : decode cX3_bell 32 = .ok (.iload_n 3, 1) := by decide +kernel
theorem dX3_bell_33 : decode cX3_bell 33 = .ok (.iconst 2, 1) := by decide +kernel
theorem dX3_bell_34 : decode cX3_bell 34 = .ok (.if_icmp .ge 13, 3) := by decide +kernel
theorem dX3_bell_37 : decode cX3_bell 37 = .ok (.aload_n 0, 1) := by decide +kernel
theorem dX3_bell_38 : decode cX3_bell 38 = .ok (.getfield 12, 3) := by decide +kernel
theorem dX3_bell_41 : decode cX3_bell 41 = .ok (.iload 4, 2) := by decide +kernel
theorem dX3_bell_43 : decode cX3_bell 43 = .ok (.invokevirtual 81, 3) := by decide +kernel
theorem dX3_bell_46 : decode cX3_bell 46 = .ok (.ireturn, 1) := by decide +kernel
theorem dX3_bell_47 : decode cX3_bell 47 = .ok (.aload_n 0, 1) := by decide +kernel
theorem dX3_bell_48 : decode cX3_bell 48 = .ok (.getfield 16, 3) := by decide +kernel
theorem dX3_bell_51 : decode cX3_bell 51 = .ok (.aload_n 0, 1) := by decide +kernel
theorem dX3_bell_52 : decode cX3_bell 52 = .ok (.getfield 12, 3) := by decide +kernel
theorem dX3_bell_55 : decode cX3_bell 55 = .ok (.invokevirtual 106, 3) := by decide +kernel
theorem dX3_bell_58 : decode cX3_bell 58 = .ok (.aload_n 0, 1) := by decide +kernel
theorem dX3_bell_59 : decode cX3_bell 59 = .ok (.getfield 16, 3) := by decide +kernel
theorem dX3_bell_62 : decode cX3_bell 62 = .ok (.iload_n 1, 1) := by decide +kernel
theorem dX3_bell_63 : decode cX3_bell 63 = .ok (.invokevirtual 73, 3) := by decide +kernel
theorem dX3_bell_66 : decode cX3_bell 66 = .ok (.aload_n 0, 1) := by decide +kernel
theorem dX3_bell_67 : decode cX3_bell 67 = .ok (.getfield 16, 3) := by decide +kernel
theorem dX3_bell_70 : decode cX3_bell 70 = .ok (.iload 4, 2) := by decide +kernel
theorem dX3_bell_72 : decode cX3_bell 72 = .ok (.invokevirtual 81, 3) := by decide +kernel
theorem dX3_bell_75 : decode cX3_bell 75 = .ok (.ireturn, 1) := by decide +kernel
theorem dX3_method_0 : decode cX3_method 0 = .ok (.aload_n 0, 1) := by decide +kernel
theorem dX3_method_1 : decode cX3_method 1 = .ok (.getfield 110, 3) := by decide +kernel
theorem dX3_method_4 : decode cX3_method 4 = .ok (.iconst 5, 1) := by decide +kernel
theorem dX3_method_5 : decode cX3_method 5 = .ok (.if_icmp .lt 13, 3) := by decide +kernel
theorem dX3_method_8 : decode cX3_method 8 = .ok (.new 45, 3) := by decide +kernel
theorem dX3_method_11 : decode cX3_method 11 = .ok (.dup, 1) := by decide +kernel
theorem dX3_method_12 : decode cX3_method 12 = .ok (.ldc 113, 2) := by decide +kernel
theorem dX3_method_14 : decode cX3_method 14 = .ok (.invokespecial 49, 3) := by decide +kernel
theorem dX3_method_17 : decode cX3_method 17 = .ok (.athrow, 1) := by decide +kernel
theorem dX3_method_18 : decode cX3_method 18 = .ok (.aload_n 0, 1) := by decide +kernel
theorem dX3_method_19 : decode cX3_method 19 = .ok (.dup, 1) := by decide +kernel
theorem dX3_method_20 : decode cX3_method 20 = .ok (.getfield 110, 3) := by decide +kernel
theorem dX3_method_23 : decode cX3_method 23 = .ok (.iconst 1, 1) := by decide +kernel
theorem dX3_method_24 : decode cX3_method 24 = .ok (.iadd, 1) := by decide +kernel
theorem dX3_method_25 : decode cX3_method 25 = .ok (.putfield 110, 3) := by decide +kernel
theorem dX3_method_28 : decode cX3_method 28 = .ok (.aload_n 0, 1) := by decide +kernel
theorem dX3_method_29 : decode cX3_method 29 = .ok (.getfield 110, 3) := by decide +kernel
theorem dX3_method_32 : decode cX3_method 32 = .ok (.iconst 1, 1) := by decide +kernel
theorem dX3_method_33 : decode cX3_method 33 = .ok (.isub, 1) := by decide +kernel
theorem dX3_method_34 : decode cX3_method 34 = .ok (.ireturn, 1) := by decide +kernel
theorem dX3_add_0 : decode cX3_add 0 = .ok (.aload_n 0, 1) := by decide +kernel
theorem dX3_add_1 : decode cX3_add 1 = .ok (.iload_n 1, 1) := by decide +kernel
theorem dX3_add_2 : decode cX3_add 2 = .ok (.invokevirtual 115, 3) := by decide +kernel
theorem dX3_add_5 : decode cX3_add 5 = .ok (.astore_n 3, 1) := by decide +kernel
theorem dX3_add_6 : decode cX3_add 6 = .ok (.iload_n 2, 1) := by decide +kernel
theorem dX3_add_7 : decode cX3_add 7 = .ok (.iconst 0, 1) := by decide +kernel
theorem dX3_add_8 : decode cX3_add 8 = .ok (.bipush 31, 2) := by decide +kernel
theorem dX3_add_10 : decode cX3_add 10 = .ok (.invokestatic 37, 3) := by decide +kernel
theorem dX3_add_13 : decode cX3_add 13 = .ok (.iload_n 2, 1) := by decide +kernel
theorem dX3_add_14 : decode cX3_add 14 = .ok (.iload_n 2, 1) := by decide +kernel
theorem dX3_add_15 : decode cX3_add 15 = .ok (.iconst 1, 1) := by decide +kernel
theorem dX3_add_16 : decode cX3_add 16 = .ok (.ishr, 1) := by decide +kernel
theorem dX3_add_17 : decode cX3_add 17 = .ok (.iand, 1) := by decide +kernel
theorem dX3_add_18 : decode cX3_add 18 = .ok (.ifCond .eq 13, 3) := by decide +kernel
theorem dX3_add_21 : decode cX3_add 21 = .ok (.new 119, 3) := by decide +kernel
theorem dX3_add_24 : decode cX3_add 24 = .ok (.dup, 1) := by decide +kernel
theorem dX3_add_25 : decode cX3_add 25 = .ok (.ldc 121, 2) := by decide +kernel
theorem dX3_add_27 : decode cX3_add 27 = .ok (.invokespecial 123, 3) := by decide +kernel
theorem dX3_add_30 : decode cX3_add 30 = .ok (.athrow, 1) := by decide +kernel
theorem dX3_add_31 : decode cX3_add 31 = .ok (.aload_n 3, 1) := by decide +kernel
theorem dX3_add_32 : decode cX3_add 32 = .ok (.getfield 124, 3) := by decide +kernel
theorem dX3_add_35 : decode cX3_add 35 = .ok (.bipush 12, 2) := by decide +kernel
theorem dX3_add_37 : decode cX3_add 37 = .ok (.if_icmp .lt 13, 3) := by decide +kernel
theorem dX3_add_40 : decode cX3_add 40 = .ok (.new 45, 3) := by decide +kernel
theorem dX3_add_43 : decode cX3_add 43 = .ok (.dup, 1) := by decide +kernel
theorem dX3_add_44 : decode cX3_add 44 = .ok (.ldc 127, 2) := by decide +kernel
theorem dX3_add_46 : decode cX3_add 46 = .ok (.invokespecial 49, 3) := by decide +kernel
theorem dX3_add_49 : decode cX3_add 49 = .ok (.athrow, 1) := by decide +kernel
theorem dX3_add_50 : decode cX3_add 50 = .ok (.aload_n 3, 1) := by decide +kernel
theorem dX3_add_51 : decode cX3_add 51 = .ok (.iload_n 2, 1) := by decide +kernel
theorem dX3_add_52 : decode cX3_add 52 = .ok (.invokevirtual 129, 3) := by decide +kernel
theorem dX3_add_55 : decode cX3_add 55 = .ok (.aload_n 3, 1) := by decide +kernel
theorem dX3_add_56 : decode cX3_add 56 = .ok (.aload_n 0, 1) := by decide +kernel
theorem dX3_add_57 : decode cX3_add 57 = .ok (.getfield 22, 3) := by decide +kernel
theorem dX3_add_60 : decode cX3_add 60 = .ok (.invokevirtual 132, 3) := by decide +kernel
theorem dX3_add_63 : decode cX3_add 63 = .ok (.aload_n 3, 1) := by decide +kernel
theorem dX3_add_64 : decode cX3_add 64 = .ok (.getfield 124, 3) := by decide +kernel
theorem dX3_add_67 : decode cX3_add 67 = .ok (.ireturn, 1) := by decide +kernel
theorem dX3_about_0 : decode cX3_about 0 = .ok (.aload_n 0, 1) := by decide +kernel
theorem dX3_about_1 : decode cX3_about 1 = .ok (.iload_n 1, 1) := by decide +kernel
theorem dX3_about_2 : decode cX3_about 2 = .ok (.invokevirtual 115, 3) := by decide +kernel
theorem dX3_about_5 : decode cX3_about 5 = .ok (.astore_n 3, 1) := by decide +kernel
theorem dX3_about_6 : decode cX3_about 6 = .ok (.iload_n 2, 1) := by decide +kernel
theorem dX3_about_7 : decode cX3_about 7 = .ok (.bipush 6, 2) := by decide +kernel
theorem dX3_about_9 : decode cX3_about 9 = .ok (.invokestatic 33, 3) := by decide +kernel
theorem dX3_about_12 : decode cX3_about 12 = .ok (.aload_n 3, 1) := by decide +kernel
theorem dX3_about_13 : decode cX3_about 13 = .ok (.iload_n 2, 1) := by decide +kernel
theorem dX3_about_14 : decode cX3_about 14 = .ok (.invokevirtual 136, 3) := by decide +kernel
theorem dX3_about_17 : decode cX3_about 17 = .ok (.ireturn, 1) := by decide +kernel
theorem dX3_row_0 : decode cX3_row 0 = .ok (.aload_n 0, 1) := by decide +kernel
theorem dX3_row_1 : decode cX3_row 1 = .ok (.iload_n 1, 1) := by decide +kernel
theorem dX3_row_2 : decode cX3_row 2 = .ok (.invokevirtual 115, 3) := by decide +kernel
theorem dX3_row_5 : decode cX3_row 5 = .ok (.astore_n 3, 1) := by decide +kernel
theorem dX3_row_6 : decode cX3_row 6 = .ok (.iload_n 2, 1) := by decide +kernel
theorem dX3_row_7 : decode cX3_row 7 = .ok (.iconst 0, 1) := by decide +kernel
theorem dX3_row_8 : decode cX3_row 8 = .ok (.sipush 200, 3) := by decide +kernel
theorem dX3_row_11 : decode cX3_row 11 = .ok (.invokestatic 37, 3) := by decide +kernel
theorem dX3_row_14 : decode cX3_row 14 = .ok (.aload_n 3, 1) := by decide +kernel
theorem dX3_row_15 : decode cX3_row 15 = .ok (.getfield 124, 3) := by decide +kernel
theorem dX3_row_18 : decode cX3_row 18 = .ok (.ifCond .ne 13, 3) := by decide +kernel
theorem dX3_row_21 : decode cX3_row 21 = .ok (.new 45, 3) := by decide +kernel
theorem dX3_row_24 : decode cX3_row 24 = .ok (.dup, 1) := by decide +kernel
theorem dX3_row_25 : decode cX3_row 25 = .ok (.ldc 139, 2) := by decide +kernel
theorem dX3_row_27 : decode cX3_row 27 = .ok (.invokespecial 49, 3) := by decide +kernel
theorem dX3_row_30 : decode cX3_row 30 = .ok (.athrow, 1) := by decide +kernel
theorem dX3_row_31 : decode cX3_row 31 = .ok (.aload_n 0, 1) := by decide +kernel
theorem dX3_row_32 : decode cX3_row 32 = .ok (.getfield 22, 3) := by decide +kernel
theorem dX3_row_35 : decode cX3_row 35 = .ok (.invokevirtual 141, 3) := by decide +kernel
theorem dX3_row_38 : decode cX3_row 38 = .ok (.iconst 0, 1) := by decide +kernel
theorem dX3_row_39 : decode cX3_row 39 = .ok (.istore 4, 2) := by decide +kernel
theorem dX3_row_41 : decode cX3_row 41 = .ok (.iconst 0, 1) := by decide +kernel
theorem dX3_row_42 : decode cX3_row 42 = .ok (.istore 5, 2) := by decide +kernel
theorem dX3_row_44 : decode cX3_row 44 = .ok (.iload 5, 2) := by decide +kernel
theorem dX3_row_46 : decode cX3_row 46 = .ok (.iload_n 2, 1) := by decide +kernel
theorem dX3_row_47 : decode cX3_row 47 = .ok (.if_icmp .ge 43, 3) := by decide +kernel
theorem dX3_row_50 : decode cX3_row 50 = .ok (.aload_n 0, 1) := by decide +kernel
theorem dX3_row_51 : decode cX3_row 51 = .ok (.getfield 22, 3) := by decide +kernel
theorem dX3_row_54 : decode cX3_row 54 = .ok (.aload_n 3, 1) := by decide +kernel
theorem dX3_row_55 : decode cX3_row 55 = .ok (.iload 4, 2) := by decide +kernel
theorem dX3_row_57 : decode cX3_row 57 = .ok (.invokevirtual 144, 3) := by decide +kernel
theorem dX3_row_60 : decode cX3_row 60 = .ok (.invokevirtual 147, 3) := by decide +kernel
theorem dX3_row_63 : decode cX3_row 63 = .ok (.iload 4, 2) := by decide +kernel
theorem dX3_row_65 : decode cX3_row 65 = .ok (.iconst 1, 1) := by decide +kernel
theorem dX3_row_66 : decode cX3_row 66 = .ok (.iadd, 1) := by decide +kernel
theorem dX3_row_67 : decode cX3_row 67 = .ok (.aload_n 3, 1) := by decide +kernel
theorem dX3_row_68 : decode cX3_row 68 = .ok (.getfield 124, 3) := by decide +kernel
theorem dX3_row_71 : decode cX3_row 71 = .ok (.if_icmp .ge 10, 3) := by decide +kernel
theorem dX3_row_74 : decode cX3_row 74 = .ok (.iload 4, 2) := by decide +kernel
theorem dX3_row_76 : decode cX3_row 76 = .ok (.iconst 1, 1) := by decide +kernel
theorem dX3_row_77 : decode cX3_row 77 = .ok (.iadd, 1) := by decide +kernel
theorem dX3_row_78 : decode cX3_row 78 = .ok (.goto 4, 3) := by decide +kernel
theorem dX3_row_81 : decode cX3_row 81 = .ok (.iconst 0, 1) := by decide +kernel
theorem dX3_row_82 : decode cX3_row 82 = .ok (.istore 4, 2) := by decide +kernel
theorem dX3_row_84 : decode cX3_row 84 = .ok (.iinc 5 1, 3) := by decide +kernel
theorem dX3_row_87 : decode cX3_row 87 = .ok (.goto (-43), 3) := by decide +kernel
theorem dX3_row_90 : decode cX3_row 90 = .ok (.aload_n 0, 1) := by decide +kernel
theorem dX3_row_91 : decode cX3_row 91 = .ok (.getfield 22, 3) := by decide +kernel
theorem dX3_row_94 : decode cX3_row 94 = .ok (.invokevirtual 150, 3) := by decide +kernel
theorem dX3_row_97 : decode cX3_row 97 = .ok (.ireturn, 1) := by decide +kernel
theorem dX3_dodges_0 : decode cX3_dodges 0 = .ok (.aload_n 0, 1) := by decide +kernel
theorem dX3_dodges_1 : decode cX3_dodges 1 = .ok (.iload_n 1, 1) := by decide +kernel
theorem dX3_dodges_2 : decode cX3_dodges 2 = .ok (.invokevirtual 115, 3) := by decide +kernel
theorem dX3_dodges_5 : decode cX3_dodges 5 = .ok (.astore_n 3, 1) := by decide +kernel
theorem dX3_dodges_6 : decode cX3_dodges 6 = .ok (.iload_n 2, 1) := by decide +kernel
theorem dX3_dodges_7 : decode cX3_dodges 7 = .ok (.bipush 6, 2) := by decide +kernel
theorem dX3_dodges_9 : decode cX3_dodges 9 = .ok (.invokestatic 33, 3) := by decide +kernel
theorem dX3_dodges_12 : decode cX3_dodges 12 = .ok (.aload_n 3, 1) := by decide +kernel
theorem dX3_dodges_13 : decode cX3_dodges 13 = .ok (.getfield 154, 3) := by decide +kernel
theorem dX3_dodges_16 : decode cX3_dodges 16 = .ok (.iload_n 2, 1) := by decide +kernel
theorem dX3_dodges_17 : decode cX3_dodges 17 = .ok (.iaload, 1) := by decide +kernel
theorem dX3_dodges_18 : decode cX3_dodges 18 = .ok (.ireturn, 1) := by decide +kernel
theorem dX3_ring_0 : decode cX3_ring 0 = .ok (.iload_n 1, 1) := by decide +kernel
theorem dX3_ring_1 : decode cX3_ring 1 = .ok (.iconst 3, 1) := by decide +kernel
theorem dX3_ring_2 : decode cX3_ring 2 = .ok (.invokestatic 33, 3) := by decide +kernel
theorem dX3_ring_5 : decode cX3_ring 5 = .ok (.aload_n 0, 1) := by decide +kernel
theorem dX3_ring_6 : decode cX3_ring 6 = .ok (.iload_n 2, 1) := by decide +kernel
theorem dX3_ring_7 : decode cX3_ring 7 = .ok (.invokevirtual 115, 3) := by decide +kernel
theorem dX3_ring_10 : decode cX3_ring 10 = .ok (.astore 4, 2) := by decide +kernel
theorem dX3_ring_12 : decode cX3_ring 12 = .ok (.iload_n 3, 1) := by decide +kernel
theorem dX3_ring_13 : decode cX3_ring 13 = .ok (.iconst 1, 1) := by decide +kernel
theorem dX3_ring_14 : decode cX3_ring 14 = .ok (.bipush 12, 2) := by decide +kernel
theorem dX3_ring_16 : decode cX3_ring 16 = .ok (.invokestatic 37, 3) := by decide +kernel
theorem dX3_ring_19 : decode cX3_ring 19 = .ok (.aload_n 0, 1) := by decide +kernel
theorem dX3_ring_20 : decode cX3_ring 20 = .ok (.aload 4, 2) := by decide +kernel
theorem dX3_ring_22 : decode cX3_ring 22 = .ok (.iload_n 1, 1) := by decide +kernel
theorem dX3_ring_23 : decode cX3_ring 23 = .ok (.invokevirtual 157, 3) := by decide +kernel
theorem dX3_ring_26 : decode cX3_ring 26 = .ok (.ifCond .ne 13, 3) := by decide +kernel
theorem dX3_ring_29 : decode cX3_ring 29 = .ok (.new 45, 3) := by decide +kernel
theorem dX3_ring_32 : decode cX3_ring 32 = .ok (.dup, 1) := by decide +kernel
theorem dX3_ring_33 : decode cX3_ring 33 = .ok (.ldc 161, 2) := by decide +kernel
theorem dX3_ring_35 : decode cX3_ring 35 = .ok (.invokespecial 49, 3) := by decide +kernel
theorem dX3_ring_38 : decode cX3_ring 38 = .ok (.athrow, 1) := by decide +kernel
theorem dX3_ring_39 : decode cX3_ring 39 = .ok (.aload_n 0, 1) := by decide +kernel
theorem dX3_ring_40 : decode cX3_ring 40 = .ok (.getfield 12, 3) := by decide +kernel
theorem dX3_ring_43 : decode cX3_ring 43 = .ok (.iload_n 1, 1) := by decide +kernel
theorem dX3_ring_44 : decode cX3_ring 44 = .ok (.aload 4, 2) := by decide +kernel
theorem dX3_ring_46 : decode cX3_ring 46 = .ok (.iload_n 3, 1) := by decide +kernel
theorem dX3_ring_47 : decode cX3_ring 47 = .ok (.aload_n 0, 1) := by decide +kernel
theorem dX3_ring_48 : decode cX3_ring 48 = .ok (.getfield 22, 3) := by decide +kernel
theorem dX3_ring_51 : decode cX3_ring 51 = .ok (.invokevirtual 163, 3) := by decide +kernel
theorem dX3_ring_54 : decode cX3_ring 54 = .ok (.istore 5, 2) := by decide +kernel
theorem dX3_ring_56 : decode cX3_ring 56 = .ok (.aload_n 0, 1) := by decide +kernel
theorem dX3_ring_57 : decode cX3_ring 57 = .ok (.dup, 1) := by decide +kernel
theorem dX3_ring_58 : decode cX3_ring 58 = .ok (.getfield 167, 3) := by decide +kernel
theorem dX3_ring_61 : decode cX3_ring 61 = .ok (.iconst 1, 1) := by decide +kernel
theorem dX3_ring_62 : decode cX3_ring 62 = .ok (.iadd, 1) := by decide +kernel
theorem dX3_ring_63 : decode cX3_ring 63 = .ok (.putfield 167, 3) := by decide +kernel
theorem dX3_ring_66 : decode cX3_ring 66 = .ok (.aload_n 0, 1) := by decide +kernel
theorem dX3_ring_67 : decode cX3_ring 67 = .ok (.dup, 1) := by decide +kernel
theorem dX3_ring_68 : decode cX3_ring 68 = .ok (.getfield 170, 3) := by decide +kernel
theorem dX3_ring_71 : decode cX3_ring 71 = .ok (.iload 5, 2) := by decide +kernel
theorem dX3_ring_73 : decode cX3_ring 73 = .ok (.iadd, 1) := by decide +kernel
theorem dX3_ring_74 : decode cX3_ring 74 = .ok (.putfield 170, 3) := by decide +kernel
theorem dX3_ring_77 : decode cX3_ring 77 = .ok (.iload 5, 2) := by decide +kernel
theorem dX3_ring_79 : decode cX3_ring 79 = .ok (.ireturn, 1) := by decide +kernel
theorem dX3_would_0 : decode cX3_would 0 = .ok (.iload_n 1, 1) := by decide +kernel
theorem dX3_would_1 : decode cX3_would 1 = .ok (.iconst 3, 1) := by decide +kernel
theorem dX3_would_2 : decode cX3_would 2 = .ok (.invokestatic 33, 3) := by decide +kernel
theorem dX3_would_5 : decode cX3_would 5 = .ok (.aload_n 0, 1) := by decide +kernel
theorem dX3_would_6 : decode cX3_would 6 = .ok (.iload_n 2, 1) := by decide +kernel
theorem dX3_would_7 : decode cX3_would 7 = .ok (.invokevirtual 115, 3) := by decide +kernel
theorem dX3_would_10 : decode cX3_would 10 = .ok (.astore 4, 2) := by decide +kernel
theorem dX3_would_12 : decode cX3_would 12 = .ok (.iload_n 3, 1) := by decide +kernel
theorem dX3_would_13 : decode cX3_would 13 = .ok (.iconst 1, 1) := by decide +kernel
theorem dX3_would_14 : decode cX3_would 14 = .ok (.bipush 12, 2) := by decide +kernel
theorem dX3_would_16 : decode cX3_would 16 = .ok (.invokestatic 37, 3) := by decide +kernel
theorem dX3_would_19 : decode cX3_would 19 = .ok (.aload_n 0, 1) := by decide +kernel
theorem dX3_would_20 : decode cX3_would 20 = .ok (.iload_n 1, 1) := by decide +kernel
theorem dX3_would_21 : decode cX3_would 21 = .ok (.aload 4, 2) := by decide +kernel
theorem dX3_would_23 : decode cX3_would 23 = .ok (.iload_n 3, 1) := by decide +kernel
theorem dX3_would_24 : decode cX3_would 24 = .ok (.invokevirtual 173, 3) := by decide +kernel
theorem dX3_would_27 : decode cX3_would 27 = .ok (.ireturn, 1) := by decide +kernel
theorem dX3_advise_0 : decode cX3_advise 0 = .ok (.iload_n 1, 1) := by decide +kernel
theorem dX3_advise_1 : decode cX3_advise 1 = .ok (.iconst 3, 1) := by decide +kernel
theorem dX3_advise_2 : decode cX3_advise 2 = .ok (.invokestatic 33, 3) := by decide +kernel
theorem dX3_advise_5 : decode cX3_advise 5 = .ok (.iconst (-1), 1) := by decide +kernel
theorem dX3_advise_6 : decode cX3_advise 6 = .ok (.istore_n 2, 1) := by decide +kernel
theorem dX3_advise_7 : decode cX3_advise 7 = .ok (.iconst 0, 1) := by decide +kernel
theorem dX3_advise_8 : decode cX3_advise 8 = .ok (.istore_n 3, 1) := by decide +kernel
theorem dX3_advise_9 : decode cX3_advise 9 = .ok (.iconst 0, 1) := by decide +kernel
theorem dX3_advise_10 : decode cX3_advise 10 = .ok (.istore 4, 2) := by decide +kernel
theorem dX3_advise_12 : decode cX3_advise 12 = .ok (.iload 4, 2) := by decide +kernel
theorem dX3_advise_14 : decode cX3_advise 14 = .ok (.aload_n 0, 1) := by decide +kernel
theorem dX3_advise_15 : decode cX3_advise 15 = .ok (.getfield 110, 3) := by decide +kernel
theorem dX3_advise_18 : decode cX3_advise 18 = .ok (.if_icmp .ge 43, 3) := by decide +kernel
theorem dX3_advise_21 : decode cX3_advise 21 = .ok (.aload_n 0, 1) := by decide +kernel
theorem dX3_advise_22 : decode cX3_advise 22 = .ok (.iload 4, 2) := by decide +kernel
theorem dX3_advise_24 : decode cX3_advise 24 = .ok (.invokevirtual 115, 3) := by decide +kernel
theorem dX3_advise_27 : decode cX3_advise 27 = .ok (.astore 5, 2) := by decide +kernel
theorem dX3_advise_29 : decode cX3_advise 29 = .ok (.aload_n 0, 1) := by decide +kernel
theorem dX3_advise_30 : decode cX3_advise 30 = .ok (.iload_n 1, 1) := by decide +kernel
theorem dX3_advise_31 : decode cX3_advise 31 = .ok (.aload 5, 2) := by decide +kernel
theorem dX3_advise_33 : decode cX3_advise 33 = .ok (.aload 5, 2) := by decide +kernel
theorem dX3_advise_35 : decode cX3_advise 35 = .ok (.getfield 177, 3) := by decide +kernel
theorem dX3_advise_38 : decode cX3_advise 38 = .ok (.invokevirtual 173, 3) := by decide +kernel
theorem dX3_advise_41 : decode cX3_advise 41 = .ok (.istore 6, 2) := by decide +kernel
theorem dX3_advise_43 : decode cX3_advise 43 = .ok (.iload 6, 2) := by decide +kernel
theorem dX3_advise_45 : decode cX3_advise 45 = .ok (.iload_n 3, 1) := by decide +kernel
theorem dX3_advise_46 : decode cX3_advise 46 = .ok (.if_icmp .le 9, 3) := by decide +kernel
theorem dX3_advise_49 : decode cX3_advise 49 = .ok (.iload 6, 2) := by decide +kernel
theorem dX3_advise_51 : decode cX3_advise 51 = .ok (.istore_n 3, 1) := by decide +kernel
theorem dX3_advise_52 : decode cX3_advise 52 = .ok (.iload 4, 2) := by decide +kernel
theorem dX3_advise_54 : decode cX3_advise 54 = .ok (.istore_n 2, 1) := by decide +kernel
theorem dX3_advise_55 : decode cX3_advise 55 = .ok (.iinc 4 1, 3) := by decide +kernel
theorem dX3_advise_58 : decode cX3_advise 58 = .ok (.goto (-46), 3) := by decide +kernel
theorem dX3_advise_61 : decode cX3_advise 61 = .ok (.iload_n 2, 1) := by decide +kernel
theorem dX3_advise_62 : decode cX3_advise 62 = .ok (.ireturn, 1) := by decide +kernel
theorem dX3_count_0 : decode cX3_count 0 = .ok (.iload_n 1, 1) := by decide +kernel
theorem dX3_count_1 : decode cX3_count 1 = .ok (.bipush 9, 2) := by decide +kernel
theorem dX3_count_3 : decode cX3_count 3 = .ok (.invokestatic 33, 3) := by decide +kernel
theorem dX3_count_6 : decode cX3_count 6 = .ok (.iload_n 1, 1) := by decide +kernel
theorem dX3_count_7 : decode cX3_count 7 = .ok (.tableswitch 100 0 7 #[45, 53, 61, 69, 74, 82, 87, 92], 45) := by decide +kernel
theorem dX3_count_52 : decode cX3_count 52 = .ok (.aload_n 0, 1) := by decide +kernel
theorem dX3_count_53 : decode cX3_count 53 = .ok (.getfield 12, 3) := by decide +kernel
theorem dX3_count_56 : decode cX3_count 56 = .ok (.getfield 180, 3) := by decide +kernel
theorem dX3_count_59 : decode cX3_count 59 = .ok (.ireturn, 1) := by decide +kernel
theorem dX3_count_60 : decode cX3_count 60 = .ok (.aload_n 0, 1) := by decide +kernel
theorem dX3_count_61 : decode cX3_count 61 = .ok (.getfield 12, 3) := by decide +kernel
theorem dX3_count_64 : decode cX3_count 64 = .ok (.getfield 41, 3) := by decide +kernel
theorem dX3_count_67 : decode cX3_count 67 = .ok (.ireturn, 1) := by decide +kernel
theorem dX3_count_68 : decode cX3_count 68 = .ok (.aload_n 0, 1) := by decide +kernel
theorem dX3_count_69 : decode cX3_count 69 = .ok (.getfield 12, 3) := by decide +kernel
theorem dX3_count_72 : decode cX3_count 72 = .ok (.invokevirtual 183, 3) := by decide +kernel
theorem dX3_count_75 : decode cX3_count 75 = .ok (.ireturn, 1) := by decide +kernel
theorem dX3_count_76 : decode cX3_count 76 = .ok (.aload_n 0, 1) := by decide +kernel
theorem dX3_count_77 : decode cX3_count 77 = .ok (.getfield 110, 3) := by decide +kernel
theorem dX3_count_80 : decode cX3_count 80 = .ok (.ireturn, 1) := by decide +kernel
theorem dX3_count_81 : decode cX3_count 81 = .ok (.aload_n 0, 1) := by decide +kernel
theorem dX3_count_82 : decode cX3_count 82 = .ok (.getfield 12, 3) := by decide +kernel
theorem dX3_count_85 : decode cX3_count 85 = .ok (.invokevirtual 186, 3) := by decide +kernel
theorem dX3_count_88 : decode cX3_count 88 = .ok (.ireturn, 1) := by decide +kernel
theorem dX3_count_89 : decode cX3_count 89 = .ok (.aload_n 0, 1) := by decide +kernel
theorem dX3_count_90 : decode cX3_count 90 = .ok (.getfield 167, 3) := by decide +kernel
theorem dX3_count_93 : decode cX3_count 93 = .ok (.ireturn, 1) := by decide +kernel
theorem dX3_count_94 : decode cX3_count 94 = .ok (.aload_n 0, 1) := by decide +kernel
theorem dX3_count_95 : decode cX3_count 95 = .ok (.getfield 170, 3) := by decide +kernel
theorem dX3_count_98 : decode cX3_count 98 = .ok (.ireturn, 1) := by decide +kernel
theorem dX3_count_99 : decode cX3_count 99 = .ok (.aload_n 0, 1) := by decide +kernel
theorem dX3_count_100 : decode cX3_count 100 = .ok (.getfield 12, 3) := by decide +kernel
theorem dX3_count_103 : decode cX3_count 103 = .ok (.invokevirtual 189, 3) := by decide +kernel
theorem dX3_count_106 : decode cX3_count 106 = .ok (.ireturn, 1) := by decide +kernel
theorem dX3_count_107 : decode cX3_count 107 = .ok (.aload_n 0, 1) := by decide +kernel
theorem dX3_count_108 : decode cX3_count 108 = .ok (.getfield 12, 3) := by decide +kernel
theorem dX3_count_111 : decode cX3_count 111 = .ok (.invokevirtual 192, 3) := by decide +kernel
theorem dX3_count_114 : decode cX3_count 114 = .ok (.ireturn, 1) := by decide +kernel
theorem dX3_pass_0 : decode cX3_pass 0 = .ok (.iload_n 1, 1) := by decide +kernel
theorem dX3_pass_1 : decode cX3_pass 1 = .ok (.iconst 1, 1) := by decide +kernel
theorem dX3_pass_2 : decode cX3_pass 2 = .ok (.bipush 60, 2) := by decide +kernel
theorem dX3_pass_4 : decode cX3_pass 4 = .ok (.invokestatic 37, 3) := by decide +kernel
theorem dX3_pass_7 : decode cX3_pass 7 = .ok (.aload_n 0, 1) := by decide +kernel
theorem dX3_pass_8 : decode cX3_pass 8 = .ok (.getfield 16, 3) := by decide +kernel
theorem dX3_pass_11 : decode cX3_pass 11 = .ok (.aload_n 0, 1) := by decide +kernel
theorem dX3_pass_12 : decode cX3_pass 12 = .ok (.getfield 12, 3) := by decide +kernel
theorem dX3_pass_15 : decode cX3_pass 15 = .ok (.invokevirtual 106, 3) := by decide +kernel
theorem dX3_pass_18 : decode cX3_pass 18 = .ok (.aload_n 0, 1) := by decide +kernel
theorem dX3_pass_19 : decode cX3_pass 19 = .ok (.getfield 12, 3) := by decide +kernel
theorem dX3_pass_22 : decode cX3_pass 22 = .ok (.iload_n 1, 1) := by decide +kernel
theorem dX3_pass_23 : decode cX3_pass 23 = .ok (.invokevirtual 195, 3) := by decide +kernel
theorem dX3_pass_26 : decode cX3_pass 26 = .ok (.aload_n 0, 1) := by decide +kernel
theorem dX3_pass_27 : decode cX3_pass 27 = .ok (.getfield 12, 3) := by decide +kernel
theorem dX3_pass_30 : decode cX3_pass 30 = .ok (.aload_n 0, 1) := by decide +kernel
theorem dX3_pass_31 : decode cX3_pass 31 = .ok (.getfield 16, 3) := by decide +kernel
theorem dX3_pass_34 : decode cX3_pass 34 = .ok (.invokevirtual 198, 3) := by decide +kernel
theorem dX3_pass_37 : decode cX3_pass 37 = .ok (.ireturn, 1) := by decide +kernel
theorem dX3_foresee_0 : decode cX3_foresee 0 = .ok (.iload_n 1, 1) := by decide +kernel
theorem dX3_foresee_1 : decode cX3_foresee 1 = .ok (.aload_n 0, 1) := by decide +kernel
theorem dX3_foresee_2 : decode cX3_foresee 2 = .ok (.getfield 12, 3) := by decide +kernel
theorem dX3_foresee_5 : decode cX3_foresee 5 = .ok (.getfield 41, 3) := by decide +kernel
theorem dX3_foresee_8 : decode cX3_foresee 8 = .ok (.invokestatic 33, 3) := by decide +kernel
theorem dX3_foresee_11 : decode cX3_foresee 11 = .ok (.iload_n 2, 1) := by decide +kernel
theorem dX3_foresee_12 : decode cX3_foresee 12 = .ok (.iconst 1, 1) := by decide +kernel
theorem dX3_foresee_13 : decode cX3_foresee 13 = .ok (.bipush 60, 2) := by decide +kernel
theorem dX3_foresee_15 : decode cX3_foresee 15 = .ok (.invokestatic 37, 3) := by decide +kernel
theorem dX3_foresee_18 : decode cX3_foresee 18 = .ok (.iload_n 3, 1) := by decide +kernel
theorem dX3_foresee_19 : decode cX3_foresee 19 = .ok (.iconst 3, 1) := by decide +kernel
theorem dX3_foresee_20 : decode cX3_foresee 20 = .ok (.iconst 5, 1) := by decide +kernel
theorem dX3_foresee_21 : decode cX3_foresee 21 = .ok (.invokestatic 37, 3) := by decide +kernel
theorem dX3_foresee_24 : decode cX3_foresee 24 = .ok (.aload_n 0, 1) := by decide +kernel
theorem dX3_foresee_25 : decode cX3_foresee 25 = .ok (.getfield 16, 3) := by decide +kernel
theorem dX3_foresee_28 : decode cX3_foresee 28 = .ok (.aload_n 0, 1) := by decide +kernel
theorem dX3_foresee_29 : decode cX3_foresee 29 = .ok (.getfield 12, 3) := by decide +kernel
theorem dX3_foresee_32 : decode cX3_foresee 32 = .ok (.invokevirtual 106, 3) := by decide +kernel
theorem dX3_foresee_35 : decode cX3_foresee 35 = .ok (.aload_n 0, 1) := by decide +kernel
theorem dX3_foresee_36 : decode cX3_foresee 36 = .ok (.getfield 16, 3) := by decide +kernel
theorem dX3_foresee_39 : decode cX3_foresee 39 = .ok (.iload_n 2, 1) := by decide +kernel
theorem dX3_foresee_40 : decode cX3_foresee 40 = .ok (.invokevirtual 195, 3) := by decide +kernel
theorem dX3_foresee_43 : decode cX3_foresee 43 = .ok (.aload_n 0, 1) := by decide +kernel
theorem dX3_foresee_44 : decode cX3_foresee 44 = .ok (.getfield 16, 3) := by decide +kernel
theorem dX3_foresee_47 : decode cX3_foresee 47 = .ok (.iload_n 1, 1) := by decide +kernel
theorem dX3_foresee_48 : decode cX3_foresee 48 = .ok (.iload_n 3, 1) := by decide +kernel
theorem dX3_foresee_49 : decode cX3_foresee 49 = .ok (.invokevirtual 103, 3) := by decide +kernel
theorem dX3_foresee_52 : decode cX3_foresee 52 = .ok (.ireturn, 1) := by decide +kernel
theorem dX3_mean_0 : decode cX3_mean 0 = .ok (.aload_n 0, 1) := by decide +kernel
theorem dX3_mean_1 : decode cX3_mean 1 = .ok (.getfield 12, 3) := by decide +kernel
theorem dX3_mean_4 : decode cX3_mean 4 = .ok (.invokevirtual 183, 3) := by decide +kernel
theorem dX3_mean_7 : decode cX3_mean 7 = .ok (.istore_n 1, 1) := by decide +kernel
theorem dX3_mean_8 : decode cX3_mean 8 = .ok (.iload_n 1, 1) := by decide +kernel
theorem dX3_mean_9 : decode cX3_mean 9 = .ok (.ifCond .ne 5, 3) := by decide +kernel
theorem dX3_mean_12 : decode cX3_mean 12 = .ok (.dconst 0, 1) := by decide +kernel
theorem dX3_mean_13 : decode cX3_mean 13 = .ok (.dreturn, 1) := by decide +kernel
theorem dX3_mean_14 : decode cX3_mean 14 = .ok (.aload_n 0, 1) := by decide +kernel
theorem dX3_mean_15 : decode cX3_mean 15 = .ok (.getfield 12, 3) := by decide +kernel
theorem dX3_mean_18 : decode cX3_mean 18 = .ok (.invokevirtual 202, 3) := by decide +kernel
theorem dX3_mean_21 : decode cX3_mean 21 = .ok (.i2d, 1) := by decide +kernel
theorem dX3_mean_22 : decode cX3_mean 22 = .ok (.iload_n 1, 1) := by decide +kernel
theorem dX3_mean_23 : decode cX3_mean 23 = .ok (.i2d, 1) := by decide +kernel
theorem dX3_mean_24 : decode cX3_mean 24 = .ok (.ddiv, 1) := by decide +kernel
theorem dX3_mean_25 : decode cX3_mean 25 = .ok (.dreturn, 1) := by decide +kernel
theorem dX3_digest_0 : decode cX3_digest 0 = .ok (.ldc2_w 205, 3) := by decide +kernel
theorem dX3_digest_3 : decode cX3_digest 3 = .ok (.lstore_n 1, 1) := by decide +kernel
theorem dX3_digest_4 : decode cX3_digest 4 = .ok (.iconst 0, 1) := by decide +kernel
theorem dX3_digest_5 : decode cX3_digest 5 = .ok (.istore_n 3, 1) := by decide +kernel
theorem dX3_digest_6 : decode cX3_digest 6 = .ok (.iload_n 3, 1) := by decide +kernel
theorem dX3_digest_7 : decode cX3_digest 7 = .ok (.bipush 9, 2) := by decide +kernel
theorem dX3_digest_9 : decode cX3_digest 9 = .ok (.if_icmp .ge 22, 3) := by decide +kernel
theorem dX3_digest_12 : decode cX3_digest 12 = .ok (.lload_n 1, 1) := by decide +kernel
theorem dX3_digest_13 : decode cX3_digest 13 = .ok (.ldc2_w 207, 3) := by decide +kernel
theorem dX3_digest_16 : decode cX3_digest 16 = .ok (.lmul, 1) := by decide +kernel
theorem dX3_digest_17 : decode cX3_digest 17 = .ok (.aload_n 0, 1) := by decide +kernel
theorem dX3_digest_18 : decode cX3_digest 18 = .ok (.iload_n 3, 1) := by decide +kernel
theorem dX3_digest_19 : decode cX3_digest 19 = .ok (.invokevirtual 209, 3) := by decide +kernel
theorem dX3_digest_22 : decode cX3_digest 22 = .ok (.i2l, 1) := by decide +kernel
theorem dX3_digest_23 : decode cX3_digest 23 = .ok (.ladd, 1) := by decide +kernel
theorem dX3_digest_24 : decode cX3_digest 24 = .ok (.lstore_n 1, 1) := by decide +kernel
theorem dX3_digest_25 : decode cX3_digest 25 = .ok (.iinc 3 1, 3) := by decide +kernel
theorem dX3_digest_28 : decode cX3_digest 28 = .ok (.goto (-22), 3) := by decide +kernel
theorem dX3_digest_31 : decode cX3_digest 31 = .ok (.aload_n 0, 1) := by decide +kernel
theorem dX3_digest_32 : decode cX3_digest 32 = .ok (.lload_n 1, 1) := by decide +kernel
theorem dX3_digest_33 : decode cX3_digest 33 = .ok (.invokevirtual 212, 3) := by decide +kernel
theorem dX3_digest_36 : decode cX3_digest 36 = .ok (.lstore_n 1, 1) := by decide +kernel
theorem dX3_digest_37 : decode cX3_digest 37 = .ok (.aload_n 0, 1) := by decide +kernel
theorem dX3_digest_38 : decode cX3_digest 38 = .ok (.lload_n 1, 1) := by decide +kernel
theorem dX3_digest_39 : decode cX3_digest 39 = .ok (.invokevirtual 216, 3) := by decide +kernel
theorem dX3_digest_42 : decode cX3_digest 42 = .ok (.lstore_n 1, 1) := by decide +kernel
theorem dX3_digest_43 : decode cX3_digest 43 = .ok (.aload_n 0, 1) := by decide +kernel
theorem dX3_digest_44 : decode cX3_digest 44 = .ok (.lload_n 1, 1) := by decide +kernel
theorem dX3_digest_45 : decode cX3_digest 45 = .ok (.invokevirtual 219, 3) := by decide +kernel
theorem dX3_digest_48 : decode cX3_digest 48 = .ok (.lreturn, 1) := by decide +kernel
theorem dX3_digestRingers_0 : decode cX3_digestRingers 0 = .ok (.lload_n 1, 1) := by decide +kernel
theorem dX3_digestRingers_1 : decode cX3_digestRingers 1 = .ok (.lstore_n 3, 1) := by decide +kernel
theorem dX3_digestRingers_2 : decode cX3_digestRingers 2 = .ok (.iconst 0, 1) := by decide +kernel
theorem dX3_digestRingers_3 : decode cX3_digestRingers 3 = .ok (.istore 5, 2) := by decide +kernel
theorem dX3_digestRingers_5 : decode cX3_digestRingers 5 = .ok (.iload 5, 2) := by decide +kernel
theorem dX3_digestRingers_7 : decode cX3_digestRingers 7 = .ok (.aload_n 0, 1) := by decide +kernel
theorem dX3_digestRingers_8 : decode cX3_digestRingers 8 = .ok (.getfield 12, 3) := by decide +kernel
theorem dX3_digestRingers_11 : decode cX3_digestRingers 11 = .ok (.getfield 41, 3) := by decide +kernel
theorem dX3_digestRingers_14 : decode cX3_digestRingers 14 = .ok (.if_icmp .ge 41, 3) := by decide +kernel
theorem dX3_digestRingers_17 : decode cX3_digestRingers 17 = .ok (.iconst 0, 1) := by decide +kernel
theorem dX3_digestRingers_18 : decode cX3_digestRingers 18 = .ok (.istore 6, 2) := by decide +kernel
theorem dX3_digestRingers_20 : decode cX3_digestRingers 20 = .ok (.iload 6, 2) := by decide +kernel
theorem dX3_digestRingers_22 : decode cX3_digestRingers 22 = .ok (.bipush 8, 2) := by decide +kernel
theorem dX3_digestRingers_24 : decode cX3_digestRingers 24 = .ok (.if_icmp .ge 25, 3) := by decide +kernel
theorem dX3_digestRingers_27 : decode cX3_digestRingers 27 = .ok (.lload_n 3, 1) := by decide +kernel
theorem dX3_digestRingers_28 : decode cX3_digestRingers 28 = .ok (.ldc2_w 207, 3) := by decide +kernel
theorem dX3_digestRingers_31 : decode cX3_digestRingers 31 = .ok (.lmul, 1) := by decide +kernel
theorem dX3_digestRingers_32 : decode cX3_digestRingers 32 = .ok (.aload_n 0, 1) := by decide +kernel
theorem dX3_digestRingers_33 : decode cX3_digestRingers 33 = .ok (.iload 5, 2) := by decide +kernel
theorem dX3_digestRingers_35 : decode cX3_digestRingers 35 = .ok (.iload 6, 2) := by decide +kernel
theorem dX3_digestRingers_37 : decode cX3_digestRingers 37 = .ok (.invokevirtual 222, 3) := by decide +kernel
theorem dX3_digestRingers_40 : decode cX3_digestRingers 40 = .ok (.i2l, 1) := by decide +kernel
theorem dX3_digestRingers_41 : decode cX3_digestRingers 41 = .ok (.ladd, 1) := by decide +kernel
theorem dX3_digestRingers_42 : decode cX3_digestRingers 42 = .ok (.lstore_n 3, 1) := by decide +kernel
theorem dX3_digestRingers_43 : decode cX3_digestRingers 43 = .ok (.iinc 6 1, 3) := by decide +kernel
theorem dX3_digestRingers_46 : decode cX3_digestRingers 46 = .ok (.goto (-26), 3) := by decide +kernel
theorem dX3_digestRingers_49 : decode cX3_digestRingers 49 = .ok (.iinc 5 1, 3) := by decide +kernel
theorem dX3_digestRingers_52 : decode cX3_digestRingers 52 = .ok (.goto (-47), 3) := by decide +kernel
theorem dX3_digestRingers_55 : decode cX3_digestRingers 55 = .ok (.lload_n 3, 1) := by decide +kernel
theorem dX3_digestRingers_56 : decode cX3_digestRingers 56 = .ok (.lreturn, 1) := by decide +kernel
theorem dX3_digestBands_0 : decode cX3_digestBands 0 = .ok (.lload_n 1, 1) := by decide +kernel
theorem dX3_digestBands_1 : decode cX3_digestBands 1 = .ok (.lstore_n 3, 1) := by decide +kernel
theorem dX3_digestBands_2 : decode cX3_digestBands 2 = .ok (.iconst 0, 1) := by decide +kernel
theorem dX3_digestBands_3 : decode cX3_digestBands 3 = .ok (.istore 5, 2) := by decide +kernel
theorem dX3_digestBands_5 : decode cX3_digestBands 5 = .ok (.iload 5, 2) := by decide +kernel
theorem dX3_digestBands_7 : decode cX3_digestBands 7 = .ok (.iconst 3, 1) := by decide +kernel
theorem dX3_digestBands_8 : decode cX3_digestBands 8 = .ok (.if_icmp .ge 58, 3) := by decide +kernel
theorem dX3_digestBands_11 : decode cX3_digestBands 11 = .ok (.iconst 0, 1) := by decide +kernel
theorem dX3_digestBands_12 : decode cX3_digestBands 12 = .ok (.istore 6, 2) := by decide +kernel
theorem dX3_digestBands_14 : decode cX3_digestBands 14 = .ok (.iload 6, 2) := by decide +kernel
theorem dX3_digestBands_16 : decode cX3_digestBands 16 = .ok (.bipush 6, 2) := by decide +kernel
theorem dX3_digestBands_18 : decode cX3_digestBands 18 = .ok (.if_icmp .ge 42, 3) := by decide +kernel
theorem dX3_digestBands_21 : decode cX3_digestBands 21 = .ok (.iconst 0, 1) := by decide +kernel
theorem dX3_digestBands_22 : decode cX3_digestBands 22 = .ok (.istore 7, 2) := by decide +kernel
theorem dX3_digestBands_24 : decode cX3_digestBands 24 = .ok (.iload 7, 2) := by decide +kernel
theorem dX3_digestBands_26 : decode cX3_digestBands 26 = .ok (.iconst 3, 1) := by decide +kernel
theorem dX3_digestBands_27 : decode cX3_digestBands 27 = .ok (.if_icmp .ge 27, 3) := by decide +kernel
theorem dX3_digestBands_30 : decode cX3_digestBands 30 = .ok (.lload_n 3, 1) := by decide +kernel
theorem dX3_digestBands_31 : decode cX3_digestBands 31 = .ok (.ldc2_w 207, 3) := by decide +kernel
theorem dX3_digestBands_34 : decode cX3_digestBands 34 = .ok (.lmul, 1) := by decide +kernel
theorem dX3_digestBands_35 : decode cX3_digestBands 35 = .ok (.aload_n 0, 1) := by decide +kernel
theorem dX3_digestBands_36 : decode cX3_digestBands 36 = .ok (.iload 5, 2) := by decide +kernel
theorem dX3_digestBands_38 : decode cX3_digestBands 38 = .ok (.iload 6, 2) := by decide +kernel
theorem dX3_digestBands_40 : decode cX3_digestBands 40 = .ok (.iload 7, 2) := by decide +kernel
theorem dX3_digestBands_42 : decode cX3_digestBands 42 = .ok (.invokevirtual 225, 3) := by decide +kernel
theorem dX3_digestBands_45 : decode cX3_digestBands 45 = .ok (.i2l, 1) := by decide +kernel
theorem dX3_digestBands_46 : decode cX3_digestBands 46 = .ok (.ladd, 1) := by decide +kernel
theorem dX3_digestBands_47 : decode cX3_digestBands 47 = .ok (.lstore_n 3, 1) := by decide +kernel
theorem dX3_digestBands_48 : decode cX3_digestBands 48 = .ok (.iinc 7 1, 3) := by decide +kernel
theorem dX3_digestBands_51 : decode cX3_digestBands 51 = .ok (.goto (-27), 3) := by decide +kernel
theorem dX3_digestBands_54 : decode cX3_digestBands 54 = .ok (.iinc 6 1, 3) := by decide +kernel
theorem dX3_digestBands_57 : decode cX3_digestBands 57 = .ok (.goto (-43), 3) := by decide +kernel
theorem dX3_digestBands_60 : decode cX3_digestBands 60 = .ok (.iinc 5 1, 3) := by decide +kernel
theorem dX3_digestBands_63 : decode cX3_digestBands 63 = .ok (.goto (-58), 3) := by decide +kernel
theorem dX3_digestBands_66 : decode cX3_digestBands 66 = .ok (.lload_n 3, 1) := by decide +kernel
theorem dX3_digestBands_67 : decode cX3_digestBands 67 = .ok (.lreturn, 1) := by decide +kernel
theorem dX3_digestMethods_0 : decode cX3_digestMethods 0 = .ok (.lload_n 1, 1) := by decide +kernel
theorem dX3_digestMethods_1 : decode cX3_digestMethods 1 = .ok (.lstore_n 3, 1) := by decide +kernel
theorem dX3_digestMethods_2 : decode cX3_digestMethods 2 = .ok (.iconst 0, 1) := by decide +kernel
theorem dX3_digestMethods_3 : decode cX3_digestMethods 3 = .ok (.istore 5, 2) := by decide +kernel
theorem dX3_digestMethods_5 : decode cX3_digestMethods 5 = .ok (.iload 5, 2) := by decide +kernel
theorem dX3_digestMethods_7 : decode cX3_digestMethods 7 = .ok (.aload_n 0, 1) := by decide +kernel
theorem dX3_digestMethods_8 : decode cX3_digestMethods 8 = .ok (.getfield 110, 3) := by decide +kernel
theorem dX3_digestMethods_11 : decode cX3_digestMethods 11 = .ok (.if_icmp .ge 115, 3) := by decide +kernel
theorem dX3_digestMethods_14 : decode cX3_digestMethods 14 = .ok (.iconst 0, 1) := by decide +kernel
theorem dX3_digestMethods_15 : decode cX3_digestMethods 15 = .ok (.istore 6, 2) := by decide +kernel
theorem dX3_digestMethods_17 : decode cX3_digestMethods 17 = .ok (.iload 6, 2) := by decide +kernel
theorem dX3_digestMethods_19 : decode cX3_digestMethods 19 = .ok (.bipush 6, 2) := by decide +kernel
theorem dX3_digestMethods_21 : decode cX3_digestMethods 21 = .ok (.if_icmp .ge 25, 3) := by decide +kernel
theorem dX3_digestMethods_24 : decode cX3_digestMethods 24 = .ok (.lload_n 3, 1) := by decide +kernel
theorem dX3_digestMethods_25 : decode cX3_digestMethods 25 = .ok (.ldc2_w 207, 3) := by decide +kernel
theorem dX3_digestMethods_28 : decode cX3_digestMethods 28 = .ok (.lmul, 1) := by decide +kernel
theorem dX3_digestMethods_29 : decode cX3_digestMethods 29 = .ok (.aload_n 0, 1) := by decide +kernel
theorem dX3_digestMethods_30 : decode cX3_digestMethods 30 = .ok (.iload 5, 2) := by decide +kernel
theorem dX3_digestMethods_32 : decode cX3_digestMethods 32 = .ok (.iload 6, 2) := by decide +kernel
theorem dX3_digestMethods_34 : decode cX3_digestMethods 34 = .ok (.invokevirtual 228, 3) := by decide +kernel
theorem dX3_digestMethods_37 : decode cX3_digestMethods 37 = .ok (.i2l, 1) := by decide +kernel
theorem dX3_digestMethods_38 : decode cX3_digestMethods 38 = .ok (.ladd, 1) := by decide +kernel
theorem dX3_digestMethods_39 : decode cX3_digestMethods 39 = .ok (.lstore_n 3, 1) := by decide +kernel
theorem dX3_digestMethods_40 : decode cX3_digestMethods 40 = .ok (.iinc 6 1, 3) := by decide +kernel
theorem dX3_digestMethods_43 : decode cX3_digestMethods 43 = .ok (.goto (-26), 3) := by decide +kernel
theorem dX3_digestMethods_46 : decode cX3_digestMethods 46 = .ok (.aload_n 0, 1) := by decide +kernel
theorem dX3_digestMethods_47 : decode cX3_digestMethods 47 = .ok (.iload 5, 2) := by decide +kernel
theorem dX3_digestMethods_49 : decode cX3_digestMethods 49 = .ok (.invokevirtual 115, 3) := by decide +kernel
theorem dX3_digestMethods_52 : decode cX3_digestMethods 52 = .ok (.astore 6, 2) := by decide +kernel
theorem dX3_digestMethods_54 : decode cX3_digestMethods 54 = .ok (.iconst 0, 1) := by decide +kernel
theorem dX3_digestMethods_55 : decode cX3_digestMethods 55 = .ok (.istore 7, 2) := by decide +kernel
theorem dX3_digestMethods_57 : decode cX3_digestMethods 57 = .ok (.iload 7, 2) := by decide +kernel
theorem dX3_digestMethods_59 : decode cX3_digestMethods 59 = .ok (.aload 6, 2) := by decide +kernel
theorem dX3_digestMethods_61 : decode cX3_digestMethods 61 = .ok (.getfield 124, 3) := by decide +kernel
theorem dX3_digestMethods_64 : decode cX3_digestMethods 64 = .ok (.if_icmp .ge 24, 3) := by decide +kernel
theorem dX3_digestMethods_67 : decode cX3_digestMethods 67 = .ok (.lload_n 3, 1) := by decide +kernel
theorem dX3_digestMethods_68 : decode cX3_digestMethods 68 = .ok (.ldc2_w 207, 3) := by decide +kernel
theorem dX3_digestMethods_71 : decode cX3_digestMethods 71 = .ok (.lmul, 1) := by decide +kernel
theorem dX3_digestMethods_72 : decode cX3_digestMethods 72 = .ok (.aload 6, 2) := by decide +kernel
theorem dX3_digestMethods_74 : decode cX3_digestMethods 74 = .ok (.iload 7, 2) := by decide +kernel
theorem dX3_digestMethods_76 : decode cX3_digestMethods 76 = .ok (.invokevirtual 144, 3) := by decide +kernel
theorem dX3_digestMethods_79 : decode cX3_digestMethods 79 = .ok (.i2l, 1) := by decide +kernel
theorem dX3_digestMethods_80 : decode cX3_digestMethods 80 = .ok (.ladd, 1) := by decide +kernel
theorem dX3_digestMethods_81 : decode cX3_digestMethods 81 = .ok (.lstore_n 3, 1) := by decide +kernel
theorem dX3_digestMethods_82 : decode cX3_digestMethods 82 = .ok (.iinc 7 1, 3) := by decide +kernel
theorem dX3_digestMethods_85 : decode cX3_digestMethods 85 = .ok (.goto (-28), 3) := by decide +kernel
theorem dX3_digestMethods_88 : decode cX3_digestMethods 88 = .ok (.iconst 0, 1) := by decide +kernel
theorem dX3_digestMethods_89 : decode cX3_digestMethods 89 = .ok (.istore 7, 2) := by decide +kernel
theorem dX3_digestMethods_91 : decode cX3_digestMethods 91 = .ok (.iload 7, 2) := by decide +kernel
theorem dX3_digestMethods_93 : decode cX3_digestMethods 93 = .ok (.bipush 6, 2) := by decide +kernel
theorem dX3_digestMethods_95 : decode cX3_digestMethods 95 = .ok (.if_icmp .ge 25, 3) := by decide +kernel
theorem dX3_digestMethods_98 : decode cX3_digestMethods 98 = .ok (.lload_n 3, 1) := by decide +kernel
theorem dX3_digestMethods_99 : decode cX3_digestMethods 99 = .ok (.ldc2_w 207, 3) := by decide +kernel
theorem dX3_digestMethods_102 : decode cX3_digestMethods 102 = .ok (.lmul, 1) := by decide +kernel
theorem dX3_digestMethods_103 : decode cX3_digestMethods 103 = .ok (.aload_n 0, 1) := by decide +kernel
theorem dX3_digestMethods_104 : decode cX3_digestMethods 104 = .ok (.iload 5, 2) := by decide +kernel
theorem dX3_digestMethods_106 : decode cX3_digestMethods 106 = .ok (.iload 7, 2) := by decide +kernel
theorem dX3_digestMethods_108 : decode cX3_digestMethods 108 = .ok (.invokevirtual 231, 3) := by decide +kernel
theorem dX3_digestMethods_111 : decode cX3_digestMethods 111 = .ok (.i2l, 1) := by decide +kernel
theorem dX3_digestMethods_112 : decode cX3_digestMethods 112 = .ok (.ladd, 1) := by decide +kernel
theorem dX3_digestMethods_113 : decode cX3_digestMethods 113 = .ok (.lstore_n 3, 1) := by decide +kernel
theorem dX3_digestMethods_114 : decode cX3_digestMethods 114 = .ok (.iinc 7 1, 3) := by decide +kernel
theorem dX3_digestMethods_117 : decode cX3_digestMethods 117 = .ok (.goto (-26), 3) := by decide +kernel
theorem dX3_digestMethods_120 : decode cX3_digestMethods 120 = .ok (.iinc 5 1, 3) := by decide +kernel
theorem dX3_digestMethods_123 : decode cX3_digestMethods 123 = .ok (.goto (-118), 3) := by decide +kernel
theorem dX3_digestMethods_126 : decode cX3_digestMethods 126 = .ok (.lload_n 3, 1) := by decide +kernel
theorem dX3_digestMethods_127 : decode cX3_digestMethods 127 = .ok (.lreturn, 1) := by decide +kernel
theorem dX3_canBeRung_0 : decode cX3_canBeRung 0 = .ok (.aload_n 1, 1) := by decide +kernel
theorem dX3_canBeRung_1 : decode cX3_canBeRung 1 = .ok (.getfield 124, 3) := by decide +kernel
theorem dX3_canBeRung_4 : decode cX3_canBeRung 4 = .ok (.ifCond .le 18, 3) := by decide +kernel
theorem dX3_canBeRung_7 : decode cX3_canBeRung 7 = .ok (.aload_n 0, 1) := by decide +kernel
theorem dX3_canBeRung_8 : decode cX3_canBeRung 8 = .ok (.getfield 12, 3) := by decide +kernel
theorem dX3_canBeRung_11 : decode cX3_canBeRung 11 = .ok (.iload_n 2, 1) := by decide +kernel
theorem dX3_canBeRung_12 : decode cX3_canBeRung 12 = .ok (.invokevirtual 234, 3) := by decide +kernel
theorem dX3_canBeRung_15 : decode cX3_canBeRung 15 = .ok (.ifCond .eq 7, 3) := by decide +kernel
theorem dX3_canBeRung_18 : decode cX3_canBeRung 18 = .ok (.iconst 1, 1) := by decide +kernel
theorem dX3_canBeRung_19 : decode cX3_canBeRung 19 = .ok (.goto 4, 3) := by decide +kernel
theorem dX3_canBeRung_22 : decode cX3_canBeRung 22 = .ok (.iconst 0, 1) := by decide +kernel
theorem dX3_canBeRung_23 : decode cX3_canBeRung 23 = .ok (.ireturn, 1) := by decide +kernel
theorem dX3_votesBrought_0 : decode cX3_votesBrought 0 = .ok (.aload_n 0, 1) := by decide +kernel
theorem dX3_votesBrought_1 : decode cX3_votesBrought 1 = .ok (.aload_n 2, 1) := by decide +kernel
theorem dX3_votesBrought_2 : decode cX3_votesBrought 2 = .ok (.iload_n 1, 1) := by decide +kernel
theorem dX3_votesBrought_3 : decode cX3_votesBrought 3 = .ok (.invokevirtual 157, 3) := by decide +kernel
theorem dX3_votesBrought_6 : decode cX3_votesBrought 6 = .ok (.ifCond .ne 7, 3) := by decide +kernel
theorem dX3_votesBrought_9 : decode cX3_votesBrought 9 = .ok (.sipush (-1000), 3) := by decide +kernel
theorem dX3_votesBrought_12 : decode cX3_votesBrought 12 = .ok (.ireturn, 1) := by decide +kernel
theorem dX3_votesBrought_13 : decode cX3_votesBrought 13 = .ok (.aload_n 0, 1) := by decide +kernel
theorem dX3_votesBrought_14 : decode cX3_votesBrought 14 = .ok (.getfield 16, 3) := by decide +kernel
theorem dX3_votesBrought_17 : decode cX3_votesBrought 17 = .ok (.aload_n 0, 1) := by decide +kernel
theorem dX3_votesBrought_18 : decode cX3_votesBrought 18 = .ok (.getfield 12, 3) := by decide +kernel
theorem dX3_votesBrought_21 : decode cX3_votesBrought 21 = .ok (.invokevirtual 106, 3) := by decide +kernel
theorem dX3_votesBrought_24 : decode cX3_votesBrought 24 = .ok (.aload_n 0, 1) := by decide +kernel
theorem dX3_votesBrought_25 : decode cX3_votesBrought 25 = .ok (.getfield 16, 3) := by decide +kernel
theorem dX3_votesBrought_28 : decode cX3_votesBrought 28 = .ok (.iload_n 1, 1) := by decide +kernel
theorem dX3_votesBrought_29 : decode cX3_votesBrought 29 = .ok (.aload_n 2, 1) := by decide +kernel
theorem dX3_votesBrought_30 : decode cX3_votesBrought 30 = .ok (.iload_n 3, 1) := by decide +kernel
theorem dX3_votesBrought_31 : decode cX3_votesBrought 31 = .ok (.aload_n 0, 1) := by decide +kernel
theorem dX3_votesBrought_32 : decode cX3_votesBrought 32 = .ok (.getfield 22, 3) := by decide +kernel
theorem dX3_votesBrought_35 : decode cX3_votesBrought 35 = .ok (.invokevirtual 163, 3) := by decide +kernel
theorem dX3_votesBrought_38 : decode cX3_votesBrought 38 = .ok (.pop, 1) := by decide +kernel
theorem dX3_votesBrought_39 : decode cX3_votesBrought 39 = .ok (.aload_n 0, 1) := by decide +kernel
theorem dX3_votesBrought_40 : decode cX3_votesBrought 40 = .ok (.getfield 16, 3) := by decide +kernel
theorem dX3_votesBrought_43 : decode cX3_votesBrought 43 = .ok (.invokevirtual 192, 3) := by decide +kernel
theorem dX3_votesBrought_46 : decode cX3_votesBrought 46 = .ok (.aload_n 0, 1) := by decide +kernel
theorem dX3_votesBrought_47 : decode cX3_votesBrought 47 = .ok (.getfield 12, 3) := by decide +kernel
theorem dX3_votesBrought_50 : decode cX3_votesBrought 50 = .ok (.invokevirtual 192, 3) := by decide +kernel
theorem dX3_votesBrought_53 : decode cX3_votesBrought 53 = .ok (.isub, 1) := by decide +kernel
theorem dX3_votesBrought_54 : decode cX3_votesBrought 54 = .ok (.ireturn, 1) := by decide +kernel
theorem dX3_listNumbered_0 : decode cX3_listNumbered 0 = .ok (.iload_n 1, 1) := by decide +kernel
theorem dX3_listNumbered_1 : decode cX3_listNumbered 1 = .ok (.aload_n 0, 1) := by decide +kernel
theorem dX3_listNumbered_2 : decode cX3_listNumbered 2 = .ok (.getfield 110, 3) := by decide +kernel
theorem dX3_listNumbered_5 : decode cX3_listNumbered 5 = .ok (.invokestatic 33, 3) := by decide +kernel
theorem dX3_listNumbered_8 : decode cX3_listNumbered 8 = .ok (.aload_n 0, 1) := by decide +kernel
theorem dX3_listNumbered_9 : decode cX3_listNumbered 9 = .ok (.getfield 28, 3) := by decide +kernel
theorem dX3_listNumbered_12 : decode cX3_listNumbered 12 = .ok (.iload_n 1, 1) := by decide +kernel
theorem dX3_listNumbered_13 : decode cX3_listNumbered 13 = .ok (.aaload, 1) := by decide +kernel
theorem dX3_listNumbered_14 : decode cX3_listNumbered 14 = .ok (.areturn, 1) := by decide +kernel
theorem dX3_seatNumber_0 : decode cX3_seatNumber 0 = .ok (.iload_n 0, 1) := by decide +kernel
theorem dX3_seatNumber_1 : decode cX3_seatNumber 1 = .ok (.bipush 6, 2) := by decide +kernel
theorem dX3_seatNumber_3 : decode cX3_seatNumber 3 = .ok (.imul, 1) := by decide +kernel
theorem dX3_seatNumber_4 : decode cX3_seatNumber 4 = .ok (.iload_n 1, 1) := by decide +kernel
theorem dX3_seatNumber_5 : decode cX3_seatNumber 5 = .ok (.iadd, 1) := by decide +kernel
theorem dX3_seatNumber_6 : decode cX3_seatNumber 6 = .ok (.ireturn, 1) := by decide +kernel
theorem dX3_requireSeat_0 : decode cX3_requireSeat 0 = .ok (.iload_n 0, 1) := by decide +kernel
theorem dX3_requireSeat_1 : decode cX3_requireSeat 1 = .ok (.iconst 3, 1) := by decide +kernel
theorem dX3_requireSeat_2 : decode cX3_requireSeat 2 = .ok (.invokestatic 33, 3) := by decide +kernel
theorem dX3_requireSeat_5 : decode cX3_requireSeat 5 = .ok (.iload_n 1, 1) := by decide +kernel
theorem dX3_requireSeat_6 : decode cX3_requireSeat 6 = .ok (.bipush 6, 2) := by decide +kernel
theorem dX3_requireSeat_8 : decode cX3_requireSeat 8 = .ok (.invokestatic 33, 3) := by decide +kernel
theorem dX3_requireSeat_11 : decode cX3_requireSeat 11 = .ok (.return_, 1) := by decide +kernel
theorem dX3_requireIndex_0 : decode cX3_requireIndex 0 = .ok (.iload_n 0, 1) := by decide +kernel
theorem dX3_requireIndex_1 : decode cX3_requireIndex 1 = .ok (.ifCond .lt 8, 3) := by decide +kernel
theorem dX3_requireIndex_4 : decode cX3_requireIndex 4 = .ok (.iload_n 0, 1) := by decide +kernel
theorem dX3_requireIndex_5 : decode cX3_requireIndex 5 = .ok (.iload_n 1, 1) := by decide +kernel
theorem dX3_requireIndex_6 : decode cX3_requireIndex 6 = .ok (.if_icmp .lt 13, 3) := by decide +kernel
theorem dX3_requireIndex_9 : decode cX3_requireIndex 9 = .ok (.new 237, 3) := by decide +kernel
theorem dX3_requireIndex_12 : decode cX3_requireIndex 12 = .ok (.dup, 1) := by decide +kernel
theorem dX3_requireIndex_13 : decode cX3_requireIndex 13 = .ok (.ldc 239, 2) := by decide +kernel
theorem dX3_requireIndex_15 : decode cX3_requireIndex 15 = .ok (.invokespecial 241, 3) := by decide +kernel
theorem dX3_requireIndex_18 : decode cX3_requireIndex 18 = .ok (.athrow, 1) := by decide +kernel
theorem dX3_requireIndex_19 : decode cX3_requireIndex 19 = .ok (.return_, 1) := by decide +kernel
theorem dX3_requireWithin_0 : decode cX3_requireWithin 0 = .ok (.iload_n 0, 1) := by decide +kernel
theorem dX3_requireWithin_1 : decode cX3_requireWithin 1 = .ok (.iload_n 1, 1) := by decide +kernel
theorem dX3_requireWithin_2 : decode cX3_requireWithin 2 = .ok (.if_icmp .lt 8, 3) := by decide +kernel
theorem dX3_requireWithin_5 : decode cX3_requireWithin 5 = .ok (.iload_n 0, 1) := by decide +kernel
theorem dX3_requireWithin_6 : decode cX3_requireWithin 6 = .ok (.iload_n 2, 1) := by decide +kernel
theorem dX3_requireWithin_7 : decode cX3_requireWithin 7 = .ok (.if_icmp .le 13, 3) := by decide +kernel
theorem dX3_requireWithin_10 : decode cX3_requireWithin 10 = .ok (.new 119, 3) := by decide +kernel
theorem dX3_requireWithin_13 : decode cX3_requireWithin 13 = .ok (.dup, 1) := by decide +kernel
theorem dX3_requireWithin_14 : decode cX3_requireWithin 14 = .ok (.ldc 242, 2) := by decide +kernel
theorem dX3_requireWithin_16 : decode cX3_requireWithin 16 = .ok (.invokespecial 123, 3) := by decide +kernel
theorem dX3_requireWithin_19 : decode cX3_requireWithin 19 = .ok (.athrow, 1) := by decide +kernel
theorem dX3_requireWithin_20 : decode cX3_requireWithin 20 = .ok (.return_, 1) := by decide +kernel
theorem dX4_init_0 : decode cX4_init 0 = .ok (.aload_n 0, 1) := by decide +kernel
theorem dX4_init_1 : decode cX4_init 1 = .ok (.aload_n 1, 1) := by decide +kernel
theorem dX4_init_2 : decode cX4_init 2 = .ok (.putfield 3, 3) := by decide +kernel
theorem dX4_init_5 : decode cX4_init 5 = .ok (.aload_n 0, 1) := by decide +kernel
theorem dX4_init_6 : decode cX4_init 6 = .ok (.invokespecial 9, 3) := by decide +kernel
theorem dX4_init_9 : decode cX4_init 9 = .ok (.aload_n 0, 1) := by decide +kernel
theorem dX4_init_10 : decode cX4_init 10 = .ok (.bipush 20, 2) := by decide +kernel
theorem dX4_init_12 : decode cX4_init 12 = .ok (.newarray .int, 2) := by decide +kernel
theorem dX4_init_14 : decode cX4_init 14 = .ok (.putfield 15, 3) := by decide +kernel
theorem dX4_init_17 : decode cX4_init 17 = .ok (.aload_n 0, 1) := by decide +kernel
theorem dX4_init_18 : decode cX4_init 18 = .ok (.bipush 20, 2) := by decide +kernel
theorem dX4_init_20 : decode cX4_init 20 = .ok (.newarray .int, 2) := by decide +kernel
theorem dX4_init_22 : decode cX4_init 22 = .ok (.putfield 19, 3) := by decide +kernel
theorem dX4_init_25 : decode cX4_init 25 = .ok (.aload_n 0, 1) := by decide +kernel
theorem dX4_init_26 : decode cX4_init 26 = .ok (.bipush 20, 2) := by decide +kernel
theorem dX4_init_28 : decode cX4_init 28 = .ok (.newarray .int, 2) := by decide +kernel
theorem dX4_init_30 : decode cX4_init 30 = .ok (.putfield 22, 3) := by decide +kernel
theorem dX4_init_33 : decode cX4_init 33 = .ok (.aload_n 0, 1) := by decide +kernel
theorem dX4_init_34 : decode cX4_init 34 = .ok (.bipush 20, 2) := by decide +kernel
theorem dX4_init_36 : decode cX4_init 36 = .ok (.newarray .int, 2) := by decide +kernel
theorem dX4_init_38 : decode cX4_init 38 = .ok (.putfield 25, 3) := by decide +kernel
theorem dX4_init_41 : decode cX4_init 41 = .ok (.return_, 1) := by decide +kernel
theorem dX4_copy_0 : decode cX4_copy 0 = .ok (.aload_n 1, 1) := by decide +kernel
theorem dX4_copy_1 : decode cX4_copy 1 = .ok (.iconst 0, 1) := by decide +kernel
theorem dX4_copy_2 : decode cX4_copy 2 = .ok (.aload_n 2, 1) := by decide +kernel
theorem dX4_copy_3 : decode cX4_copy 3 = .ok (.iconst 0, 1) := by decide +kernel
theorem dX4_copy_4 : decode cX4_copy 4 = .ok (.aload_n 1, 1) := by decide +kernel
theorem dX4_copy_5 : decode cX4_copy 5 = .ok (.arraylength, 1) := by decide +kernel
theorem dX4_copy_6 : decode cX4_copy 6 = .ok (.invokestatic 28, 3) := by decide +kernel
theorem dX4_copy_9 : decode cX4_copy 9 = .ok (.return_, 1) := by decide +kernel
theorem dX4_become_0 : decode cX4_become 0 = .ok (.aload_n 0, 1) := by decide +kernel
theorem dX4_become_1 : decode cX4_become 1 = .ok (.aload_n 1, 1) := by decide +kernel
theorem dX4_become_2 : decode cX4_become 2 = .ok (.getfield 34, 3) := by decide +kernel
theorem dX4_become_5 : decode cX4_become 5 = .ok (.putfield 34, 3) := by decide +kernel
theorem dX4_become_8 : decode cX4_become 8 = .ok (.aload_n 0, 1) := by decide +kernel
theorem dX4_become_9 : decode cX4_become 9 = .ok (.aload_n 1, 1) := by decide +kernel
theorem dX4_become_10 : decode cX4_become 10 = .ok (.getfield 15, 3) := by decide +kernel
theorem dX4_become_13 : decode cX4_become 13 = .ok (.aload_n 0, 1) := by decide +kernel
theorem dX4_become_14 : decode cX4_become 14 = .ok (.getfield 15, 3) := by decide +kernel
theorem dX4_become_17 : decode cX4_become 17 = .ok (.invokevirtual 38, 3) := by decide +kernel
theorem dX4_become_20 : decode cX4_become 20 = .ok (.aload_n 0, 1) := by decide +kernel
theorem dX4_become_21 : decode cX4_become 21 = .ok (.aload_n 1, 1) := by decide +kernel
theorem dX4_become_22 : decode cX4_become 22 = .ok (.getfield 19, 3) := by decide +kernel
theorem dX4_become_25 : decode cX4_become 25 = .ok (.aload_n 0, 1) := by decide +kernel
theorem dX4_become_26 : decode cX4_become 26 = .ok (.getfield 19, 3) := by decide +kernel
theorem dX4_become_29 : decode cX4_become 29 = .ok (.invokevirtual 38, 3) := by decide +kernel
theorem dX4_become_32 : decode cX4_become 32 = .ok (.aload_n 0, 1) := by decide +kernel
theorem dX4_become_33 : decode cX4_become 33 = .ok (.aload_n 1, 1) := by decide +kernel
theorem dX4_become_34 : decode cX4_become 34 = .ok (.getfield 22, 3) := by decide +kernel
theorem dX4_become_37 : decode cX4_become 37 = .ok (.aload_n 0, 1) := by decide +kernel
theorem dX4_become_38 : decode cX4_become 38 = .ok (.getfield 22, 3) := by decide +kernel
theorem dX4_become_41 : decode cX4_become 41 = .ok (.invokevirtual 38, 3) := by decide +kernel
theorem dX4_become_44 : decode cX4_become 44 = .ok (.aload_n 0, 1) := by decide +kernel
theorem dX4_become_45 : decode cX4_become 45 = .ok (.aload_n 1, 1) := by decide +kernel
theorem dX4_become_46 : decode cX4_become 46 = .ok (.getfield 25, 3) := by decide +kernel
theorem dX4_become_49 : decode cX4_become 49 = .ok (.aload_n 0, 1) := by decide +kernel
theorem dX4_become_50 : decode cX4_become 50 = .ok (.getfield 25, 3) := by decide +kernel
theorem dX4_become_53 : decode cX4_become 53 = .ok (.invokevirtual 38, 3) := by decide +kernel
theorem dX4_become_56 : decode cX4_become 56 = .ok (.aload_n 0, 1) := by decide +kernel
theorem dX4_become_57 : decode cX4_become 57 = .ok (.areturn, 1) := by decide +kernel
theorem dX4_ringerOf_0 : decode cX4_ringerOf 0 = .ok (.iconst 0, 1) := by decide +kernel
theorem dX4_ringerOf_1 : decode cX4_ringerOf 1 = .ok (.istore_n 2, 1) := by decide +kernel
theorem dX4_ringerOf_2 : decode cX4_ringerOf 2 = .ok (.iload_n 2, 1) := by decide +kernel
theorem dX4_ringerOf_3 : decode cX4_ringerOf 3 = .ok (.aload_n 0, 1) := by decide +kernel
theorem dX4_ringerOf_4 : decode cX4_ringerOf 4 = .ok (.getfield 3, 3) := by decide +kernel
theorem dX4_ringerOf_7 : decode cX4_ringerOf 7 = .ok (.getfield 42, 3) := by decide +kernel
theorem dX4_ringerOf_10 : decode cX4_ringerOf 10 = .ok (.if_icmp .ge 21, 3) := by decide +kernel
theorem dX4_ringerOf_13 : decode cX4_ringerOf 13 = .ok (.aload_n 0, 1) := by decide +kernel
theorem dX4_ringerOf_14 : decode cX4_ringerOf 14 = .ok (.getfield 25, 3) := by decide +kernel
theorem dX4_ringerOf_17 : decode cX4_ringerOf 17 = .ok (.iload_n 2, 1) := by decide +kernel
theorem dX4_ringerOf_18 : decode cX4_ringerOf 18 = .ok (.iaload, 1) := by decide +kernel
theorem dX4_ringerOf_19 : decode cX4_ringerOf 19 = .ok (.iload_n 1, 1) := by decide +kernel
theorem dX4_ringerOf_20 : decode cX4_ringerOf 20 = .ok (.if_icmp .ne 5, 3) := by decide +kernel
theorem dX4_ringerOf_23 : decode cX4_ringerOf 23 = .ok (.iload_n 2, 1) := by decide +kernel
theorem dX4_ringerOf_24 : decode cX4_ringerOf 24 = .ok (.ireturn, 1) := by decide +kernel
theorem dX4_ringerOf_25 : decode cX4_ringerOf 25 = .ok (.iinc 2 1, 3) := by decide +kernel
theorem dX4_ringerOf_28 : decode cX4_ringerOf 28 = .ok (.goto (-26), 3) := by decide +kernel
theorem dX4_ringerOf_31 : decode cX4_ringerOf 31 = .ok (.iconst (-1), 1) := by decide +kernel
theorem dX4_ringerOf_32 : decode cX4_ringerOf 32 = .ok (.ireturn, 1) := by decide +kernel
theorem dX4_elect_0 : decode cX4_elect 0 = .ok (.iconst 0, 1) := by decide +kernel
theorem dX4_elect_1 : decode cX4_elect 1 = .ok (.istore_n 2, 1) := by decide +kernel
theorem dX4_elect_2 : decode cX4_elect 2 = .ok (.iload_n 2, 1) := by decide +kernel
theorem dX4_elect_3 : decode cX4_elect 3 = .ok (.aload_n 0, 1) := by decide +kernel
theorem dX4_elect_4 : decode cX4_elect 4 = .ok (.getfield 3, 3) := by decide +kernel
theorem dX4_elect_7 : decode cX4_elect 7 = .ok (.getfield 42, 3) := by decide +kernel
theorem dX4_elect_10 : decode cX4_elect 10 = .ok (.if_icmp .ge 38, 3) := by decide +kernel
theorem dX4_elect_13 : decode cX4_elect 13 = .ok (.aload_n 0, 1) := by decide +kernel
theorem dX4_elect_14 : decode cX4_elect 14 = .ok (.getfield 25, 3) := by decide +kernel
theorem dX4_elect_17 : decode cX4_elect 17 = .ok (.iload_n 2, 1) := by decide +kernel
theorem dX4_elect_18 : decode cX4_elect 18 = .ok (.iaload, 1) := by decide +kernel
theorem dX4_elect_19 : decode cX4_elect 19 = .ok (.ifCond .lt 23, 3) := by decide +kernel
theorem dX4_elect_22 : decode cX4_elect 22 = .ok (.aload_n 0, 1) := by decide +kernel
theorem dX4_elect_23 : decode cX4_elect 23 = .ok (.getfield 25, 3) := by decide +kernel
theorem dX4_elect_26 : decode cX4_elect 26 = .ok (.iload_n 2, 1) := by decide +kernel
theorem dX4_elect_27 : decode cX4_elect 27 = .ok (.iaload, 1) := by decide +kernel
theorem dX4_elect_28 : decode cX4_elect 28 = .ok (.bipush 6, 2) := by decide +kernel
theorem dX4_elect_30 : decode cX4_elect 30 = .ok (.idiv, 1) := by decide +kernel
theorem dX4_elect_31 : decode cX4_elect 31 = .ok (.iload_n 1, 1) := by decide +kernel
theorem dX4_elect_32 : decode cX4_elect 32 = .ok (.if_icmp .ne 10, 3) := by decide +kernel
theorem dX4_elect_35 : decode cX4_elect 35 = .ok (.aload_n 0, 1) := by decide +kernel
theorem dX4_elect_36 : decode cX4_elect 36 = .ok (.getfield 25, 3) := by decide +kernel
theorem dX4_elect_39 : decode cX4_elect 39 = .ok (.iload_n 2, 1) := by decide +kernel
theorem dX4_elect_40 : decode cX4_elect 40 = .ok (.iconst (-1), 1) := by decide +kernel
theorem dX4_elect_41 : decode cX4_elect 41 = .ok (.iastore, 1) := by decide +kernel
theorem dX4_elect_42 : decode cX4_elect 42 = .ok (.iinc 2 1, 3) := by decide +kernel
theorem dX4_elect_45 : decode cX4_elect 45 = .ok (.goto (-43), 3) := by decide +kernel
theorem dX4_elect_48 : decode cX4_elect 48 = .ok (.bipush 6, 2) := by decide +kernel
theorem dX4_elect_50 : decode cX4_elect 50 = .ok (.iload_n 1, 1) := by decide +kernel
theorem dX4_elect_51 : decode cX4_elect 51 = .ok (.imul, 1) := by decide +kernel
theorem dX4_elect_52 : decode cX4_elect 52 = .ok (.istore_n 2, 1) := by decide +kernel
theorem dX4_elect_53 : decode cX4_elect 53 = .ok (.iload_n 2, 1) := by decide +kernel
theorem dX4_elect_54 : decode cX4_elect 54 = .ok (.bipush 6, 2) := by decide +kernel
theorem dX4_elect_56 : decode cX4_elect 56 = .ok (.iload_n 1, 1) := by decide +kernel
theorem dX4_elect_57 : decode cX4_elect 57 = .ok (.imul, 1) := by decide +kernel
theorem dX4_elect_58 : decode cX4_elect 58 = .ok (.bipush 6, 2) := by decide +kernel
theorem dX4_elect_60 : decode cX4_elect 60 = .ok (.iadd, 1) := by decide +kernel
theorem dX4_elect_61 : decode cX4_elect 61 = .ok (.if_icmp .ge 101, 3) := by decide +kernel
theorem dX4_elect_64 : decode cX4_elect 64 = .ok (.iconst (-1), 1) := by decide +kernel
theorem dX4_elect_65 : decode cX4_elect 65 = .ok (.istore_n 3, 1) := by decide +kernel
theorem dX4_elect_66 : decode cX4_elect 66 = .ok (.iconst 0, 1) := by decide +kernel
theorem dX4_elect_67 : decode cX4_elect 67 = .ok (.istore 4, 2) := by decide +kernel
theorem dX4_elect_69 : decode cX4_elect 69 = .ok (.iload 4, 2) := by decide +kernel
theorem dX4_elect_71 : decode cX4_elect 71 = .ok (.aload_n 0, 1) := by decide +kernel
theorem dX4_elect_72 : decode cX4_elect 72 = .ok (.getfield 3, 3) := by decide +kernel
theorem dX4_elect_75 : decode cX4_elect 75 = .ok (.getfield 42, 3) := by decide +kernel
theorem dX4_elect_78 : decode cX4_elect 78 = .ok (.if_icmp .ge 66, 3) := by decide +kernel
theorem dX4_elect_81 : decode cX4_elect 81 = .ok (.aload_n 0, 1) := by decide +kernel
theorem dX4_elect_82 : decode cX4_elect 82 = .ok (.getfield 3, 3) := by decide +kernel
theorem dX4_elect_85 : decode cX4_elect 85 = .ok (.getfield 45, 3) := by decide +kernel
theorem dX4_elect_88 : decode cX4_elect 88 = .ok (.iload 4, 2) := by decide +kernel
theorem dX4_elect_90 : decode cX4_elect 90 = .ok (.iaload, 1) := by decide +kernel
theorem dX4_elect_91 : decode cX4_elect 91 = .ok (.aload_n 0, 1) := by decide +kernel
theorem dX4_elect_92 : decode cX4_elect 92 = .ok (.getfield 3, 3) := by decide +kernel
theorem dX4_elect_95 : decode cX4_elect 95 = .ok (.getfield 48, 3) := by decide +kernel
theorem dX4_elect_98 : decode cX4_elect 98 = .ok (.iload_n 2, 1) := by decide +kernel
theorem dX4_elect_99 : decode cX4_elect 99 = .ok (.iaload, 1) := by decide +kernel
theorem dX4_elect_100 : decode cX4_elect 100 = .ok (.if_icmp .ne 38, 3) := by decide +kernel
theorem dX4_elect_103 : decode cX4_elect 103 = .ok (.aload_n 0, 1) := by decide +kernel
theorem dX4_elect_104 : decode cX4_elect 104 = .ok (.getfield 25, 3) := by decide +kernel
theorem dX4_elect_107 : decode cX4_elect 107 = .ok (.iload 4, 2) := by decide +kernel
theorem dX4_elect_109 : decode cX4_elect 109 = .ok (.iaload, 1) := by decide +kernel
theorem dX4_elect_110 : decode cX4_elect 110 = .ok (.iconst (-1), 1) := by decide +kernel
theorem dX4_elect_111 : decode cX4_elect 111 = .ok (.if_icmp .ne 27, 3) := by decide +kernel
theorem dX4_elect_114 : decode cX4_elect 114 = .ok (.iload_n 3, 1) := by decide +kernel
theorem dX4_elect_115 : decode cX4_elect 115 = .ok (.iconst (-1), 1) := by decide +kernel
theorem dX4_elect_116 : decode cX4_elect 116 = .ok (.if_icmp .eq 19, 3) := by decide +kernel
theorem dX4_elect_119 : decode cX4_elect 119 = .ok (.aload_n 0, 1) := by decide +kernel
theorem dX4_elect_120 : decode cX4_elect 120 = .ok (.getfield 15, 3) := by decide +kernel
theorem dX4_elect_123 : decode cX4_elect 123 = .ok (.iload 4, 2) := by decide +kernel
theorem dX4_elect_125 : decode cX4_elect 125 = .ok (.iaload, 1) := by decide +kernel
theorem dX4_elect_126 : decode cX4_elect 126 = .ok (.aload_n 0, 1) := by decide +kernel
theorem dX4_elect_127 : decode cX4_elect 127 = .ok (.getfield 15, 3) := by decide +kernel
theorem dX4_elect_130 : decode cX4_elect 130 = .ok (.iload_n 3, 1) := by decide +kernel
theorem dX4_elect_131 : decode cX4_elect 131 = .ok (.iaload, 1) := by decide +kernel
theorem dX4_elect_132 : decode cX4_elect 132 = .ok (.if_icmp .le 6, 3) := by decide +kernel
theorem dX4_elect_135 : decode cX4_elect 135 = .ok (.iload 4, 2) := by decide +kernel
theorem dX4_elect_137 : decode cX4_elect 137 = .ok (.istore_n 3, 1) := by decide +kernel
theorem dX4_elect_138 : decode cX4_elect 138 = .ok (.iinc 4 1, 3) := by decide +kernel
theorem dX4_elect_141 : decode cX4_elect 141 = .ok (.goto (-72), 3) := by decide +kernel
theorem dX4_elect_144 : decode cX4_elect 144 = .ok (.iload_n 3, 1) := by decide +kernel
theorem dX4_elect_145 : decode cX4_elect 145 = .ok (.iconst (-1), 1) := by decide +kernel
theorem dX4_elect_146 : decode cX4_elect 146 = .ok (.if_icmp .eq 10, 3) := by decide +kernel
theorem dX4_elect_149 : decode cX4_elect 149 = .ok (.aload_n 0, 1) := by decide +kernel
theorem dX4_elect_150 : decode cX4_elect 150 = .ok (.getfield 25, 3) := by decide +kernel
theorem dX4_elect_153 : decode cX4_elect 153 = .ok (.iload_n 3, 1) := by decide +kernel
theorem dX4_elect_154 : decode cX4_elect 154 = .ok (.iload_n 2, 1) := by decide +kernel
theorem dX4_elect_155 : decode cX4_elect 155 = .ok (.iastore, 1) := by decide +kernel
theorem dX4_elect_156 : decode cX4_elect 156 = .ok (.iinc 2 1, 3) := by decide +kernel
theorem dX4_elect_159 : decode cX4_elect 159 = .ok (.goto (-106), 3) := by decide +kernel
theorem dX4_elect_162 : decode cX4_elect 162 = .ok (.aload_n 0, 1) := by decide +kernel
theorem dX4_elect_163 : decode cX4_elect 163 = .ok (.areturn, 1) := by decide +kernel
theorem dX4_manned_0 : decode cX4_manned 0 = .ok (.iconst 0, 1) := by decide +kernel
theorem dX4_manned_1 : decode cX4_manned 1 = .ok (.istore_n 2, 1) := by decide +kernel
theorem dX4_manned_2 : decode cX4_manned 2 = .ok (.iconst 0, 1) := by decide +kernel
theorem dX4_manned_3 : decode cX4_manned 3 = .ok (.istore_n 3, 1) := by decide +kernel
theorem dX4_manned_4 : decode cX4_manned 4 = .ok (.iload_n 3, 1) := by decide +kernel
theorem dX4_manned_5 : decode cX4_manned 5 = .ok (.aload_n 0, 1) := by decide +kernel
theorem dX4_manned_6 : decode cX4_manned 6 = .ok (.getfield 3, 3) := by decide +kernel
theorem dX4_manned_9 : decode cX4_manned 9 = .ok (.getfield 42, 3) := by decide +kernel
theorem dX4_manned_12 : decode cX4_manned 12 = .ok (.if_icmp .ge 39, 3) := by decide +kernel
theorem dX4_manned_15 : decode cX4_manned 15 = .ok (.iload_n 2, 1) := by decide +kernel
theorem dX4_manned_16 : decode cX4_manned 16 = .ok (.aload_n 0, 1) := by decide +kernel
theorem dX4_manned_17 : decode cX4_manned 17 = .ok (.getfield 25, 3) := by decide +kernel
theorem dX4_manned_20 : decode cX4_manned 20 = .ok (.iload_n 3, 1) := by decide +kernel
theorem dX4_manned_21 : decode cX4_manned 21 = .ok (.iaload, 1) := by decide +kernel
theorem dX4_manned_22 : decode cX4_manned 22 = .ok (.ifCond .lt 20, 3) := by decide +kernel
theorem dX4_manned_25 : decode cX4_manned 25 = .ok (.aload_n 0, 1) := by decide +kernel
theorem dX4_manned_26 : decode cX4_manned 26 = .ok (.getfield 25, 3) := by decide +kernel
theorem dX4_manned_29 : decode cX4_manned 29 = .ok (.iload_n 3, 1) := by decide +kernel
theorem dX4_manned_30 : decode cX4_manned 30 = .ok (.iaload, 1) := by decide +kernel
theorem dX4_manned_31 : decode cX4_manned 31 = .ok (.bipush 6, 2) := by decide +kernel
theorem dX4_manned_33 : decode cX4_manned 33 = .ok (.idiv, 1) := by decide +kernel
theorem dX4_manned_34 : decode cX4_manned 34 = .ok (.iload_n 1, 1) := by decide +kernel
theorem dX4_manned_35 : decode cX4_manned 35 = .ok (.if_icmp .ne 7, 3) := by decide +kernel
theorem dX4_manned_38 : decode cX4_manned 38 = .ok (.iconst 1, 1) := by decide +kernel
theorem dX4_manned_39 : decode cX4_manned 39 = .ok (.goto 4, 3) := by decide +kernel
theorem dX4_manned_42 : decode cX4_manned 42 = .ok (.iconst 0, 1) := by decide +kernel
theorem dX4_manned_43 : decode cX4_manned 43 = .ok (.iadd, 1) := by decide +kernel
theorem dX4_manned_44 : decode cX4_manned 44 = .ok (.istore_n 2, 1) := by decide +kernel
theorem dX4_manned_45 : decode cX4_manned 45 = .ok (.iinc 3 1, 3) := by decide +kernel
theorem dX4_manned_48 : decode cX4_manned 48 = .ok (.goto (-44), 3) := by decide +kernel
theorem dX4_manned_51 : decode cX4_manned 51 = .ok (.iload_n 2, 1) := by decide +kernel
theorem dX4_manned_52 : decode cX4_manned 52 = .ok (.ireturn, 1) := by decide +kernel
theorem dX4_canRing_0 : decode cX4_canRing 0 = .ok (.iconst 0, 1) := by decide +kernel
theorem dX4_canRing_1 : decode cX4_canRing 1 = .ok (.istore_n 3, 1) := by decide +kernel
theorem dX4_canRing_2 : decode cX4_canRing 2 = .ok (.iload_n 3, 1) := by decide +kernel
theorem dX4_canRing_3 : decode cX4_canRing 3 = .ok (.aload_n 0, 1) := by decide +kernel
theorem dX4_canRing_4 : decode cX4_canRing 4 = .ok (.getfield 3, 3) := by decide +kernel
theorem dX4_canRing_7 : decode cX4_canRing 7 = .ok (.getfield 42, 3) := by decide +kernel
theorem dX4_canRing_10 : decode cX4_canRing 10 = .ok (.if_icmp .ge 44, 3) := by decide +kernel
theorem dX4_canRing_13 : decode cX4_canRing 13 = .ok (.aload_n 0, 1) := by decide +kernel
theorem dX4_canRing_14 : decode cX4_canRing 14 = .ok (.getfield 25, 3) := by decide +kernel
theorem dX4_canRing_17 : decode cX4_canRing 17 = .ok (.iload_n 3, 1) := by decide +kernel
theorem dX4_canRing_18 : decode cX4_canRing 18 = .ok (.iaload, 1) := by decide +kernel
theorem dX4_canRing_19 : decode cX4_canRing 19 = .ok (.ifCond .lt 29, 3) := by decide +kernel
theorem dX4_canRing_22 : decode cX4_canRing 22 = .ok (.aload_n 0, 1) := by decide +kernel
theorem dX4_canRing_23 : decode cX4_canRing 23 = .ok (.getfield 25, 3) := by decide +kernel
theorem dX4_canRing_26 : decode cX4_canRing 26 = .ok (.iload_n 3, 1) := by decide +kernel
theorem dX4_canRing_27 : decode cX4_canRing 27 = .ok (.iaload, 1) := by decide +kernel
theorem dX4_canRing_28 : decode cX4_canRing 28 = .ok (.bipush 6, 2) := by decide +kernel
theorem dX4_canRing_30 : decode cX4_canRing 30 = .ok (.idiv, 1) := by decide +kernel
theorem dX4_canRing_31 : decode cX4_canRing 31 = .ok (.iload_n 1, 1) := by decide +kernel
theorem dX4_canRing_32 : decode cX4_canRing 32 = .ok (.if_icmp .ne 16, 3) := by decide +kernel
theorem dX4_canRing_35 : decode cX4_canRing 35 = .ok (.aload_n 0, 1) := by decide +kernel
theorem dX4_canRing_36 : decode cX4_canRing 36 = .ok (.getfield 19, 3) := by decide +kernel
theorem dX4_canRing_39 : decode cX4_canRing 39 = .ok (.iload_n 3, 1) := by decide +kernel
theorem dX4_canRing_40 : decode cX4_canRing 40 = .ok (.iaload, 1) := by decide +kernel
theorem dX4_canRing_41 : decode cX4_canRing 41 = .ok (.bipush 15, 2) := by decide +kernel
theorem dX4_canRing_43 : decode cX4_canRing 43 = .ok (.if_icmp .lt 5, 3) := by decide +kernel
theorem dX4_canRing_46 : decode cX4_canRing 46 = .ok (.iconst 0, 1) := by decide +kernel
theorem dX4_canRing_47 : decode cX4_canRing 47 = .ok (.ireturn, 1) := by decide +kernel
theorem dX4_canRing_48 : decode cX4_canRing 48 = .ok (.iinc 3 1, 3) := by decide +kernel
theorem dX4_canRing_51 : decode cX4_canRing 51 = .ok (.goto (-49), 3) := by decide +kernel
theorem dX4_canRing_54 : decode cX4_canRing 54 = .ok (.aload_n 0, 1) := by decide +kernel
theorem dX4_canRing_55 : decode cX4_canRing 55 = .ok (.getfield 3, 3) := by decide +kernel
theorem dX4_canRing_58 : decode cX4_canRing 58 = .ok (.getfield 51, 3) := by decide +kernel
theorem dX4_canRing_61 : decode cX4_canRing 61 = .ok (.iload_n 2, 1) := by decide +kernel
theorem dX4_canRing_62 : decode cX4_canRing 62 = .ok (.iaload, 1) := by decide +kernel
theorem dX4_canRing_63 : decode cX4_canRing 63 = .ok (.ifCond .le 17, 3) := by decide +kernel
theorem dX4_canRing_66 : decode cX4_canRing 66 = .ok (.aload_n 0, 1) := by decide +kernel
theorem dX4_canRing_67 : decode cX4_canRing 67 = .ok (.iload_n 1, 1) := by decide +kernel
theorem dX4_canRing_68 : decode cX4_canRing 68 = .ok (.invokevirtual 54, 3) := by decide +kernel
theorem dX4_canRing_71 : decode cX4_canRing 71 = .ok (.bipush 6, 2) := by decide +kernel
theorem dX4_canRing_73 : decode cX4_canRing 73 = .ok (.if_icmp .ne 7, 3) := by decide +kernel
theorem dX4_canRing_76 : decode cX4_canRing 76 = .ok (.iconst 1, 1) := by decide +kernel
theorem dX4_canRing_77 : decode cX4_canRing 77 = .ok (.goto 4, 3) := by decide +kernel
theorem dX4_canRing_80 : decode cX4_canRing 80 = .ok (.iconst 0, 1) := by decide +kernel
theorem dX4_canRing_81 : decode cX4_canRing 81 = .ok (.ireturn, 1) := by decide +kernel
theorem dX4_ring_0 : decode cX4_ring 0 = .ok (.aload_n 0, 1) := by decide +kernel
theorem dX4_ring_1 : decode cX4_ring 1 = .ok (.getfield 3, 3) := by decide +kernel
theorem dX4_ring_4 : decode cX4_ring 4 = .ok (.iload_n 2, 1) := by decide +kernel
theorem dX4_ring_5 : decode cX4_ring 5 = .ok (.iload_n 3, 1) := by decide +kernel
theorem dX4_ring_6 : decode cX4_ring 6 = .ok (.invokevirtual 58, 3) := by decide +kernel
theorem dX4_ring_9 : decode cX4_ring 9 = .ok (.aload_n 0, 1) := by decide +kernel
theorem dX4_ring_10 : decode cX4_ring 10 = .ok (.getfield 3, 3) := by decide +kernel
theorem dX4_ring_13 : decode cX4_ring 13 = .ok (.invokevirtual 62, 3) := by decide +kernel
theorem dX4_ring_16 : decode cX4_ring 16 = .ok (.istore 4, 2) := by decide +kernel
theorem dX4_ring_18 : decode cX4_ring 18 = .ok (.iload 4, 2) := by decide +kernel
theorem dX4_ring_20 : decode cX4_ring 20 = .ok (.ifCond .ne 28, 3) := by decide +kernel
theorem dX4_ring_23 : decode cX4_ring 23 = .ok (.aload_n 0, 1) := by decide +kernel
theorem dX4_ring_24 : decode cX4_ring 24 = .ok (.getfield 3, 3) := by decide +kernel
theorem dX4_ring_27 : decode cX4_ring 27 = .ok (.getfield 66, 3) := by decide +kernel
theorem dX4_ring_30 : decode cX4_ring 30 = .ok (.aload_n 0, 1) := by decide +kernel
theorem dX4_ring_31 : decode cX4_ring 31 = .ok (.getfield 3, 3) := by decide +kernel
theorem dX4_ring_34 : decode cX4_ring 34 = .ok (.getfield 69, 3) := by decide +kernel
theorem dX4_ring_37 : decode cX4_ring 37 = .ok (.iaload, 1) := by decide +kernel
theorem dX4_ring_38 : decode cX4_ring 38 = .ok (.sipush 1865, 3) := by decide +kernel
theorem dX4_ring_41 : decode cX4_ring 41 = .ok (.if_icmp .ne 7, 3) := by decide +kernel
theorem dX4_ring_44 : decode cX4_ring 44 = .ok (.iload_n 3, 1) := by decide +kernel
theorem dX4_ring_45 : decode cX4_ring 45 = .ok (.goto 6, 3) := by decide +kernel
theorem dX4_ring_48 : decode cX4_ring 48 = .ok (.iload 4, 2) := by decide +kernel
theorem dX4_ring_50 : decode cX4_ring 50 = .ok (.ineg, 1) := by decide +kernel
theorem dX4_ring_51 : decode cX4_ring 51 = .ok (.istore 5, 2) := by decide +kernel
theorem dX4_ring_53 : decode cX4_ring 53 = .ok (.iconst 0, 1) := by decide +kernel
theorem dX4_ring_54 : decode cX4_ring 54 = .ok (.istore 6, 2) := by decide +kernel
theorem dX4_ring_56 : decode cX4_ring 56 = .ok (.iload 6, 2) := by decide +kernel
theorem dX4_ring_58 : decode cX4_ring 58 = .ok (.aload_n 0, 1) := by decide +kernel
theorem dX4_ring_59 : decode cX4_ring 59 = .ok (.getfield 3, 3) := by decide +kernel
theorem dX4_ring_62 : decode cX4_ring 62 = .ok (.getfield 42, 3) := by decide +kernel
theorem dX4_ring_65 : decode cX4_ring 65 = .ok (.if_icmp .ge 183, 3) := by decide +kernel
theorem dX4_ring_68 : decode cX4_ring 68 = .ok (.aload_n 0, 1) := by decide +kernel
theorem dX4_ring_69 : decode cX4_ring 69 = .ok (.getfield 25, 3) := by decide +kernel
theorem dX4_ring_72 : decode cX4_ring 72 = .ok (.iload 6, 2) := by decide +kernel
theorem dX4_ring_74 : decode cX4_ring 74 = .ok (.iaload, 1) := by decide +kernel
theorem dX4_ring_75 : decode cX4_ring 75 = .ok (.ifCond .lt 167, 3) := by decide +kernel
theorem dX4_ring_78 : decode cX4_ring 78 = .ok (.aload_n 0, 1) := by decide +kernel
theorem dX4_ring_79 : decode cX4_ring 79 = .ok (.getfield 25, 3) := by decide +kernel
theorem dX4_ring_82 : decode cX4_ring 82 = .ok (.iload 6, 2) := by decide +kernel
theorem dX4_ring_84 : decode cX4_ring 84 = .ok (.iaload, 1) := by decide +kernel
theorem dX4_ring_85 : decode cX4_ring 85 = .ok (.bipush 6, 2) := by decide +kernel
theorem dX4_ring_87 : decode cX4_ring 87 = .ok (.idiv, 1) := by decide +kernel
theorem dX4_ring_88 : decode cX4_ring 88 = .ok (.iload_n 1, 1) := by decide +kernel
theorem dX4_ring_89 : decode cX4_ring 89 = .ok (.if_icmp .eq 6, 3) := by decide +kernel
theorem dX4_ring_92 : decode cX4_ring 92 = .ok (.goto 150, 3) := by decide +kernel
theorem dX4_ring_95 : decode cX4_ring 95 = .ok (.iconst 0, 1) := by decide +kernel
theorem dX4_ring_96 : decode cX4_ring 96 = .ok (.istore 7, 2) := by decide +kernel
theorem dX4_ring_98 : decode cX4_ring 98 = .ok (.iconst 1, 1) := by decide +kernel
theorem dX4_ring_99 : decode cX4_ring 99 = .ok (.istore 8, 2) := by decide +kernel
theorem dX4_ring_101 : decode cX4_ring 101 = .ok (.iload 8, 2) := by decide +kernel
theorem dX4_ring_103 : decode cX4_ring 103 = .ok (.aload_n 0, 1) := by decide +kernel
theorem dX4_ring_104 : decode cX4_ring 104 = .ok (.getfield 3, 3) := by decide +kernel
theorem dX4_ring_107 : decode cX4_ring 107 = .ok (.getfield 69, 3) := by decide +kernel
theorem dX4_ring_110 : decode cX4_ring 110 = .ok (.if_icmp .gt 91, 3) := by decide +kernel
theorem dX4_ring_113 : decode cX4_ring 113 = .ok (.aload_n 0, 1) := by decide +kernel
theorem dX4_ring_114 : decode cX4_ring 114 = .ok (.getfield 3, 3) := by decide +kernel
theorem dX4_ring_117 : decode cX4_ring 117 = .ok (.getfield 72, 3) := by decide +kernel
theorem dX4_ring_120 : decode cX4_ring 120 = .ok (.iload 8, 2) := by decide +kernel
theorem dX4_ring_122 : decode cX4_ring 122 = .ok (.iaload, 1) := by decide +kernel
theorem dX4_ring_123 : decode cX4_ring 123 = .ok (.aload_n 0, 1) := by decide +kernel
theorem dX4_ring_124 : decode cX4_ring 124 = .ok (.getfield 25, 3) := by decide +kernel
theorem dX4_ring_127 : decode cX4_ring 127 = .ok (.iload 6, 2) := by decide +kernel
theorem dX4_ring_129 : decode cX4_ring 129 = .ok (.iaload, 1) := by decide +kernel
theorem dX4_ring_130 : decode cX4_ring 130 = .ok (.bipush 6, 2) := by decide +kernel
theorem dX4_ring_132 : decode cX4_ring 132 = .ok (.irem, 1) := by decide +kernel
theorem dX4_ring_133 : decode cX4_ring 133 = .ok (.ishr, 1) := by decide +kernel
theorem dX4_ring_134 : decode cX4_ring 134 = .ok (.iconst 1, 1) := by decide +kernel
theorem dX4_ring_135 : decode cX4_ring 135 = .ok (.iand, 1) := by decide +kernel
theorem dX4_ring_136 : decode cX4_ring 136 = .ok (.ifCond .ne 6, 3) := by decide +kernel
theorem dX4_ring_139 : decode cX4_ring 139 = .ok (.goto 56, 3) := by decide +kernel
theorem dX4_ring_142 : decode cX4_ring 142 = .ok (.aload_n 0, 1) := by decide +kernel
theorem dX4_ring_143 : decode cX4_ring 143 = .ok (.getfield 19, 3) := by decide +kernel
theorem dX4_ring_146 : decode cX4_ring 146 = .ok (.iload 6, 2) := by decide +kernel
theorem dX4_ring_148 : decode cX4_ring 148 = .ok (.bipush 20, 2) := by decide +kernel
theorem dX4_ring_150 : decode cX4_ring 150 = .ok (.aload_n 0, 1) := by decide +kernel
theorem dX4_ring_151 : decode cX4_ring 151 = .ok (.getfield 19, 3) := by decide +kernel
theorem dX4_ring_154 : decode cX4_ring 154 = .ok (.iload 6, 2) := by decide +kernel
theorem dX4_ring_156 : decode cX4_ring 156 = .ok (.iaload, 1) := by decide +kernel
theorem dX4_ring_157 : decode cX4_ring 157 = .ok (.iconst 1, 1) := by decide +kernel
theorem dX4_ring_158 : decode cX4_ring 158 = .ok (.iadd, 1) := by decide +kernel
theorem dX4_ring_159 : decode cX4_ring 159 = .ok (.invokestatic 75, 3) := by decide +kernel
theorem dX4_ring_162 : decode cX4_ring 162 = .ok (.iastore, 1) := by decide +kernel
theorem dX4_ring_163 : decode cX4_ring 163 = .ok (.iload 7, 2) := by decide +kernel
theorem dX4_ring_165 : decode cX4_ring 165 = .ok (.aload_n 0, 1) := by decide +kernel
theorem dX4_ring_166 : decode cX4_ring 166 = .ok (.getfield 19, 3) := by decide +kernel
theorem dX4_ring_169 : decode cX4_ring 169 = .ok (.iload 6, 2) := by decide +kernel
theorem dX4_ring_171 : decode cX4_ring 171 = .ok (.iaload, 1) := by decide +kernel
theorem dX4_ring_172 : decode cX4_ring 172 = .ok (.iconst 2, 1) := by decide +kernel
theorem dX4_ring_173 : decode cX4_ring 173 = .ok (.aload_n 0, 1) := by decide +kernel
theorem dX4_ring_174 : decode cX4_ring 174 = .ok (.getfield 3, 3) := by decide +kernel
theorem dX4_ring_177 : decode cX4_ring 177 = .ok (.getfield 81, 3) := by decide +kernel
theorem dX4_ring_180 : decode cX4_ring 180 = .ok (.iload 6, 2) := by decide +kernel
theorem dX4_ring_182 : decode cX4_ring 182 = .ok (.iaload, 1) := by decide +kernel
theorem dX4_ring_183 : decode cX4_ring 183 = .ok (.imul, 1) := by decide +kernel
theorem dX4_ring_184 : decode cX4_ring 184 = .ok (.if_icmp .le 7, 3) := by decide +kernel
theorem dX4_ring_187 : decode cX4_ring 187 = .ok (.iconst 1, 1) := by decide +kernel
theorem dX4_ring_188 : decode cX4_ring 188 = .ok (.goto 4, 3) := by decide +kernel
theorem dX4_ring_191 : decode cX4_ring 191 = .ok (.iconst 0, 1) := by decide +kernel
theorem dX4_ring_192 : decode cX4_ring 192 = .ok (.iadd, 1) := by decide +kernel
theorem dX4_ring_193 : decode cX4_ring 193 = .ok (.istore 7, 2) := by decide +kernel
theorem dX4_ring_195 : decode cX4_ring 195 = .ok (.iinc 8 1, 3) := by decide +kernel
theorem dX4_ring_198 : decode cX4_ring 198 = .ok (.goto (-97), 3) := by decide +kernel
theorem dX4_ring_201 : decode cX4_ring 201 = .ok (.aload_n 0, 1) := by decide +kernel
theorem dX4_ring_202 : decode cX4_ring 202 = .ok (.getfield 22, 3) := by decide +kernel
theorem dX4_ring_205 : decode cX4_ring 205 = .ok (.iload 6, 2) := by decide +kernel
theorem dX4_ring_207 : decode cX4_ring 207 = .ok (.dup2, 1) := by decide +kernel
theorem dX4_ring_208 : decode cX4_ring 208 = .ok (.iaload, 1) := by decide +kernel
theorem dX4_ring_209 : decode cX4_ring 209 = .ok (.iload 7, 2) := by decide +kernel
theorem dX4_ring_211 : decode cX4_ring 211 = .ok (.iadd, 1) := by decide +kernel
theorem dX4_ring_212 : decode cX4_ring 212 = .ok (.iastore, 1) := by decide +kernel
theorem dX4_ring_213 : decode cX4_ring 213 = .ok (.aload_n 0, 1) := by decide +kernel
theorem dX4_ring_214 : decode cX4_ring 214 = .ok (.getfield 15, 3) := by decide +kernel
theorem dX4_ring_217 : decode cX4_ring 217 = .ok (.iload 6, 2) := by decide +kernel
theorem dX4_ring_219 : decode cX4_ring 219 = .ok (.iconst 0, 1) := by decide +kernel
theorem dX4_ring_220 : decode cX4_ring 220 = .ok (.bipush 99, 2) := by decide +kernel
theorem dX4_ring_222 : decode cX4_ring 222 = .ok (.aload_n 0, 1) := by decide +kernel
theorem dX4_ring_223 : decode cX4_ring 223 = .ok (.getfield 15, 3) := by decide +kernel
theorem dX4_ring_226 : decode cX4_ring 226 = .ok (.iload 6, 2) := by decide +kernel
theorem dX4_ring_228 : decode cX4_ring 228 = .ok (.iaload, 1) := by decide +kernel
theorem dX4_ring_229 : decode cX4_ring 229 = .ok (.iload 5, 2) := by decide +kernel
theorem dX4_ring_231 : decode cX4_ring 231 = .ok (.iadd, 1) := by decide +kernel
theorem dX4_ring_232 : decode cX4_ring 232 = .ok (.iload 7, 2) := by decide +kernel
theorem dX4_ring_234 : decode cX4_ring 234 = .ok (.isub, 1) := by decide +kernel
theorem dX4_ring_235 : decode cX4_ring 235 = .ok (.invokestatic 75, 3) := by decide +kernel
theorem dX4_ring_238 : decode cX4_ring 238 = .ok (.invokestatic 84, 3) := by decide +kernel
theorem dX4_ring_241 : decode cX4_ring 241 = .ok (.iastore, 1) := by decide +kernel
theorem dX4_ring_242 : decode cX4_ring 242 = .ok (.iinc 6 1, 3) := by decide +kernel
theorem dX4_ring_245 : decode cX4_ring 245 = .ok (.goto (-189), 3) := by decide +kernel
theorem dX4_ring_248 : decode cX4_ring 248 = .ok (.iload 4, 2) := by decide +kernel
theorem dX4_ring_250 : decode cX4_ring 250 = .ok (.ireturn, 1) := by decide +kernel
theorem dX4_pass_0 : decode cX4_pass 0 = .ok (.iconst 0, 1) := by decide +kernel
theorem dX4_pass_1 : decode cX4_pass 1 = .ok (.istore_n 1, 1) := by decide +kernel
theorem dX4_pass_2 : decode cX4_pass 2 = .ok (.iload_n 1, 1) := by decide +kernel
theorem dX4_pass_3 : decode cX4_pass 3 = .ok (.aload_n 0, 1) := by decide +kernel
theorem dX4_pass_4 : decode cX4_pass 4 = .ok (.getfield 3, 3) := by decide +kernel
theorem dX4_pass_7 : decode cX4_pass 7 = .ok (.getfield 42, 3) := by decide +kernel
theorem dX4_pass_10 : decode cX4_pass 10 = .ok (.if_icmp .ge 40, 3) := by decide +kernel
theorem dX4_pass_13 : decode cX4_pass 13 = .ok (.aload_n 0, 1) := by decide +kernel
theorem dX4_pass_14 : decode cX4_pass 14 = .ok (.getfield 19, 3) := by decide +kernel
theorem dX4_pass_17 : decode cX4_pass 17 = .ok (.iload_n 1, 1) := by decide +kernel
theorem dX4_pass_18 : decode cX4_pass 18 = .ok (.iconst 0, 1) := by decide +kernel
theorem dX4_pass_19 : decode cX4_pass 19 = .ok (.aload_n 0, 1) := by decide +kernel
theorem dX4_pass_20 : decode cX4_pass 20 = .ok (.getfield 19, 3) := by decide +kernel
theorem dX4_pass_23 : decode cX4_pass 23 = .ok (.iload_n 1, 1) := by decide +kernel
theorem dX4_pass_24 : decode cX4_pass 24 = .ok (.iaload, 1) := by decide +kernel
theorem dX4_pass_25 : decode cX4_pass 25 = .ok (.aload_n 0, 1) := by decide +kernel
theorem dX4_pass_26 : decode cX4_pass 26 = .ok (.getfield 25, 3) := by decide +kernel
theorem dX4_pass_29 : decode cX4_pass 29 = .ok (.iload_n 1, 1) := by decide +kernel
theorem dX4_pass_30 : decode cX4_pass 30 = .ok (.iaload, 1) := by decide +kernel
theorem dX4_pass_31 : decode cX4_pass 31 = .ok (.ifCond .lt 7, 3) := by decide +kernel
theorem dX4_pass_34 : decode cX4_pass 34 = .ok (.iconst 3, 1) := by decide +kernel
theorem dX4_pass_35 : decode cX4_pass 35 = .ok (.goto 4, 3) := by decide +kernel
theorem dX4_pass_38 : decode cX4_pass 38 = .ok (.iconst 5, 1) := by decide +kernel
theorem dX4_pass_39 : decode cX4_pass 39 = .ok (.isub, 1) := by decide +kernel
theorem dX4_pass_40 : decode cX4_pass 40 = .ok (.invokestatic 84, 3) := by decide +kernel
theorem dX4_pass_43 : decode cX4_pass 43 = .ok (.iastore, 1) := by decide +kernel
theorem dX4_pass_44 : decode cX4_pass 44 = .ok (.iinc 1 1, 3) := by decide +kernel
theorem dX4_pass_47 : decode cX4_pass 47 = .ok (.goto (-45), 3) := by decide +kernel
theorem dX4_pass_50 : decode cX4_pass 50 = .ok (.iconst 0, 1) := by decide +kernel
theorem dX4_pass_51 : decode cX4_pass 51 = .ok (.istore_n 1, 1) := by decide +kernel
theorem dX4_pass_52 : decode cX4_pass 52 = .ok (.iload_n 1, 1) := by decide +kernel
theorem dX4_pass_53 : decode cX4_pass 53 = .ok (.iconst 3, 1) := by decide +kernel
theorem dX4_pass_54 : decode cX4_pass 54 = .ok (.if_icmp .ge 27, 3) := by decide +kernel
theorem dX4_pass_57 : decode cX4_pass 57 = .ok (.aload_n 0, 1) := by decide +kernel
theorem dX4_pass_58 : decode cX4_pass 58 = .ok (.getfield 34, 3) := by decide +kernel
theorem dX4_pass_61 : decode cX4_pass 61 = .ok (.bipush 7, 2) := by decide +kernel
theorem dX4_pass_63 : decode cX4_pass 63 = .ok (.irem, 1) := by decide +kernel
theorem dX4_pass_64 : decode cX4_pass 64 = .ok (.bipush 6, 2) := by decide +kernel
theorem dX4_pass_66 : decode cX4_pass 66 = .ok (.if_icmp .ne 15, 3) := by decide +kernel
theorem dX4_pass_69 : decode cX4_pass 69 = .ok (.aload_n 0, 1) := by decide +kernel
theorem dX4_pass_70 : decode cX4_pass 70 = .ok (.iload_n 1, 1) := by decide +kernel
theorem dX4_pass_71 : decode cX4_pass 71 = .ok (.invokevirtual 87, 3) := by decide +kernel
theorem dX4_pass_74 : decode cX4_pass 74 = .ok (.pop, 1) := by decide +kernel
theorem dX4_pass_75 : decode cX4_pass 75 = .ok (.iinc 1 1, 3) := by decide +kernel
theorem dX4_pass_78 : decode cX4_pass 78 = .ok (.goto (-26), 3) := by decide +kernel
theorem dX4_pass_81 : decode cX4_pass 81 = .ok (.aload_n 0, 1) := by decide +kernel
theorem dX4_pass_82 : decode cX4_pass 82 = .ok (.dup, 1) := by decide +kernel
theorem dX4_pass_83 : decode cX4_pass 83 = .ok (.getfield 34, 3) := by decide +kernel
theorem dX4_pass_86 : decode cX4_pass 86 = .ok (.iconst 1, 1) := by decide +kernel
theorem dX4_pass_87 : decode cX4_pass 87 = .ok (.iadd, 1) := by decide +kernel
theorem dX4_pass_88 : decode cX4_pass 88 = .ok (.putfield 34, 3) := by decide +kernel
theorem dX4_pass_91 : decode cX4_pass 91 = .ok (.return_, 1) := by decide +kernel
theorem dX4_pass__0 : decode cX4_pass_ 0 = .ok (.iconst 0, 1) := by decide +kernel
theorem dX4_pass__1 : decode cX4_pass_ 1 = .ok (.istore_n 2, 1) := by decide +kernel
theorem dX4_pass__2 : decode cX4_pass_ 2 = .ok (.iload_n 2, 1) := by decide +kernel
theorem dX4_pass__3 : decode cX4_pass_ 3 = .ok (.iload_n 1, 1) := by decide +kernel
theorem dX4_pass__4 : decode cX4_pass_ 4 = .ok (.if_icmp .ge 13, 3) := by decide +kernel
theorem dX4_pass__7 : decode cX4_pass_ 7 = .ok (.aload_n 0, 1) := by decide +kernel
theorem dX4_pass__8 : decode cX4_pass_ 8 = .ok (.invokevirtual 91, 3) := by decide +kernel
theorem dX4_pass__11 : decode cX4_pass_ 11 = .ok (.iinc 2 1, 3) := by decide +kernel
theorem dX4_pass__14 : decode cX4_pass_ 14 = .ok (.goto (-12), 3) := by decide +kernel
theorem dX4_pass__17 : decode cX4_pass_ 17 = .ok (.return_, 1) := by decide +kernel
theorem dX4_allVotes_0 : decode cX4_allVotes 0 = .ok (.iconst 0, 1) := by decide +kernel
theorem dX4_allVotes_1 : decode cX4_allVotes 1 = .ok (.istore_n 1, 1) := by decide +kernel
theorem dX4_allVotes_2 : decode cX4_allVotes 2 = .ok (.iconst 0, 1) := by decide +kernel
theorem dX4_allVotes_3 : decode cX4_allVotes 3 = .ok (.istore_n 2, 1) := by decide +kernel
theorem dX4_allVotes_4 : decode cX4_allVotes 4 = .ok (.iload_n 2, 1) := by decide +kernel
theorem dX4_allVotes_5 : decode cX4_allVotes 5 = .ok (.aload_n 0, 1) := by decide +kernel
theorem dX4_allVotes_6 : decode cX4_allVotes 6 = .ok (.getfield 3, 3) := by decide +kernel
theorem dX4_allVotes_9 : decode cX4_allVotes 9 = .ok (.getfield 42, 3) := by decide +kernel
theorem dX4_allVotes_12 : decode cX4_allVotes 12 = .ok (.if_icmp .ge 18, 3) := by decide +kernel
theorem dX4_allVotes_15 : decode cX4_allVotes 15 = .ok (.iload_n 1, 1) := by decide +kernel
theorem dX4_allVotes_16 : decode cX4_allVotes 16 = .ok (.aload_n 0, 1) := by decide +kernel
theorem dX4_allVotes_17 : decode cX4_allVotes 17 = .ok (.getfield 15, 3) := by decide +kernel
theorem dX4_allVotes_20 : decode cX4_allVotes 20 = .ok (.iload_n 2, 1) := by decide +kernel
theorem dX4_allVotes_21 : decode cX4_allVotes 21 = .ok (.iaload, 1) := by decide +kernel
theorem dX4_allVotes_22 : decode cX4_allVotes 22 = .ok (.iadd, 1) := by decide +kernel
theorem dX4_allVotes_23 : decode cX4_allVotes 23 = .ok (.istore_n 1, 1) := by decide +kernel
theorem dX4_allVotes_24 : decode cX4_allVotes 24 = .ok (.iinc 2 1, 3) := by decide +kernel
theorem dX4_allVotes_27 : decode cX4_allVotes 27 = .ok (.goto (-23), 3) := by decide +kernel
theorem dX4_allVotes_30 : decode cX4_allVotes 30 = .ok (.iload_n 1, 1) := by decide +kernel
theorem dX4_allVotes_31 : decode cX4_allVotes 31 = .ok (.ireturn, 1) := by decide +kernel
theorem dX5_init_0 : decode cX5_init 0 = .ok (.aload_n 0, 1) := by decide +kernel
theorem dX5_init_1 : decode cX5_init 1 = .ok (.invokespecial 1, 3) := by decide +kernel
theorem dX5_init_4 : decode cX5_init 4 = .ok (.aload_n 0, 1) := by decide +kernel
theorem dX5_init_5 : decode cX5_init 5 = .ok (.bipush 20, 2) := by decide +kernel
theorem dX5_init_7 : decode cX5_init 7 = .ok (.newarray .int, 2) := by decide +kernel
theorem dX5_init_9 : decode cX5_init 9 = .ok (.putfield 9, 3) := by decide +kernel
theorem dX5_init_12 : decode cX5_init 12 = .ok (.aload_n 0, 1) := by decide +kernel
theorem dX5_init_13 : decode cX5_init 13 = .ok (.bipush 20, 2) := by decide +kernel
theorem dX5_init_15 : decode cX5_init 15 = .ok (.newarray .int, 2) := by decide +kernel
theorem dX5_init_17 : decode cX5_init 17 = .ok (.putfield 13, 3) := by decide +kernel
theorem dX5_init_20 : decode cX5_init 20 = .ok (.aload_n 0, 1) := by decide +kernel
theorem dX5_init_21 : decode cX5_init 21 = .ok (.bipush 18, 2) := by decide +kernel
theorem dX5_init_23 : decode cX5_init 23 = .ok (.newarray .int, 2) := by decide +kernel
theorem dX5_init_25 : decode cX5_init 25 = .ok (.putfield 16, 3) := by decide +kernel
theorem dX5_init_28 : decode cX5_init 28 = .ok (.aload_n 0, 1) := by decide +kernel
theorem dX5_init_29 : decode cX5_init 29 = .ok (.iconst 5, 1) := by decide +kernel
theorem dX5_init_30 : decode cX5_init 30 = .ok (.newarray .int, 2) := by decide +kernel
theorem dX5_init_32 : decode cX5_init 32 = .ok (.putfield 19, 3) := by decide +kernel
theorem dX5_init_35 : decode cX5_init 35 = .ok (.aload_n 0, 1) := by decide +kernel
theorem dX5_init_36 : decode cX5_init 36 = .ok (.bipush 60, 2) := by decide +kernel
theorem dX5_init_38 : decode cX5_init 38 = .ok (.newarray .int, 2) := by decide +kernel
theorem dX5_init_40 : decode cX5_init 40 = .ok (.putfield 22, 3) := by decide +kernel
theorem dX5_init_43 : decode cX5_init 43 = .ok (.aload_n 0, 1) := by decide +kernel
theorem dX5_init_44 : decode cX5_init 44 = .ok (.sipush 201, 3) := by decide +kernel
theorem dX5_init_47 : decode cX5_init 47 = .ok (.newarray .int, 2) := by decide +kernel
theorem dX5_init_49 : decode cX5_init 49 = .ok (.putfield 25, 3) := by decide +kernel
theorem dX5_init_52 : decode cX5_init 52 = .ok (.aload_n 0, 1) := by decide +kernel
theorem dX5_init_53 : decode cX5_init 53 = .ok (.sipush 201, 3) := by decide +kernel
theorem dX5_init_56 : decode cX5_init 56 = .ok (.newarray .int, 2) := by decide +kernel
theorem dX5_init_58 : decode cX5_init 58 = .ok (.putfield 28, 3) := by decide +kernel
theorem dX5_init_61 : decode cX5_init 61 = .ok (.aload_n 0, 1) := by decide +kernel
theorem dX5_init_62 : decode cX5_init 62 = .ok (.bipush 6, 2) := by decide +kernel
theorem dX5_init_64 : decode cX5_init 64 = .ok (.newarray .int, 2) := by decide +kernel
theorem dX5_init_66 : decode cX5_init 66 = .ok (.putfield 31, 3) := by decide +kernel
theorem dX5_init_69 : decode cX5_init 69 = .ok (.aload_n 0, 1) := by decide +kernel
theorem dX5_init_70 : decode cX5_init 70 = .ok (.bipush 6, 2) := by decide +kernel
theorem dX5_init_72 : decode cX5_init 72 = .ok (.newarray .int, 2) := by decide +kernel
theorem dX5_init_74 : decode cX5_init 74 = .ok (.putfield 34, 3) := by decide +kernel
theorem dX5_init_77 : decode cX5_init 77 = .ok (.aload_n 0, 1) := by decide +kernel
theorem dX5_init_78 : decode cX5_init 78 = .ok (.bipush 6, 2) := by decide +kernel
theorem dX5_init_80 : decode cX5_init 80 = .ok (.newarray .int, 2) := by decide +kernel
theorem dX5_init_82 : decode cX5_init 82 = .ok (.putfield 37, 3) := by decide +kernel
theorem dX5_init_85 : decode cX5_init 85 = .ok (.aload_n 0, 1) := by decide +kernel
theorem dX5_init_86 : decode cX5_init 86 = .ok (.new 40, 3) := by decide +kernel
theorem dX5_init_89 : decode cX5_init 89 = .ok (.dup, 1) := by decide +kernel
theorem dX5_init_90 : decode cX5_init 90 = .ok (.aload_n 0, 1) := by decide +kernel
theorem dX5_init_91 : decode cX5_init 91 = .ok (.invokespecial 42, 3) := by decide +kernel
theorem dX5_init_94 : decode cX5_init 94 = .ok (.putfield 45, 3) := by decide +kernel
theorem dX5_init_97 : decode cX5_init 97 = .ok (.aload_n 0, 1) := by decide +kernel
theorem dX5_init_98 : decode cX5_init 98 = .ok (.new 40, 3) := by decide +kernel
theorem dX5_init_101 : decode cX5_init 101 = .ok (.dup, 1) := by decide +kernel
theorem dX5_init_102 : decode cX5_init 102 = .ok (.aload_n 0, 1) := by decide +kernel
theorem dX5_init_103 : decode cX5_init 103 = .ok (.invokespecial 42, 3) := by decide +kernel
theorem dX5_init_106 : decode cX5_init 106 = .ok (.putfield 49, 3) := by decide +kernel
theorem dX5_init_109 : decode cX5_init 109 = .ok (.iconst 0, 1) := by decide +kernel
theorem dX5_init_110 : decode cX5_init 110 = .ok (.istore_n 1, 1) := by decide +kernel
theorem dX5_init_111 : decode cX5_init 111 = .ok (.iload_n 1, 1) := by decide +kernel
theorem dX5_init_112 : decode cX5_init 112 = .ok (.aload_n 0, 1) := by decide +kernel
theorem dX5_init_113 : decode cX5_init 113 = .ok (.getfield 16, 3) := by decide +kernel
theorem dX5_init_116 : decode cX5_init 116 = .ok (.arraylength, 1) := by decide +kernel
theorem dX5_init_117 : decode cX5_init 117 = .ok (.if_icmp .ge 21, 3) := by decide +kernel
theorem dX5_init_120 : decode cX5_init 120 = .ok (.aload_n 0, 1) := by decide +kernel
theorem dX5_init_121 : decode cX5_init 121 = .ok (.getfield 16, 3) := by decide +kernel
theorem dX5_init_124 : decode cX5_init 124 = .ok (.iload_n 1, 1) := by decide +kernel
theorem dX5_init_125 : decode cX5_init 125 = .ok (.iload_n 1, 1) := by decide +kernel
theorem dX5_init_126 : decode cX5_init 126 = .ok (.bipush 6, 2) := by decide +kernel
theorem dX5_init_128 : decode cX5_init 128 = .ok (.irem, 1) := by decide +kernel
theorem dX5_init_129 : decode cX5_init 129 = .ok (.iconst 4, 1) := by decide +kernel
theorem dX5_init_130 : decode cX5_init 130 = .ok (.irem, 1) := by decide +kernel
theorem dX5_init_131 : decode cX5_init 131 = .ok (.iastore, 1) := by decide +kernel
theorem dX5_init_132 : decode cX5_init 132 = .ok (.iinc 1 1, 3) := by decide +kernel
theorem dX5_init_135 : decode cX5_init 135 = .ok (.goto (-24), 3) := by decide +kernel
theorem dX5_init_138 : decode cX5_init 138 = .ok (.return_, 1) := by decide +kernel
theorem dX5_thrown_0 : decode cX5_thrown 0 = .ok (.aload_n 0, 1) := by decide +kernel
theorem dX5_thrown_1 : decode cX5_thrown 1 = .ok (.getfield 52, 3) := by decide +kernel
theorem dX5_thrown_4 : decode cX5_thrown 4 = .ok (.ireturn, 1) := by decide +kernel
theorem dX5_no_0 : decode cX5_no 0 = .ok (.aload_n 0, 1) := by decide +kernel
theorem dX5_no_1 : decode cX5_no 1 = .ok (.iload_n 1, 1) := by decide +kernel
theorem dX5_no_2 : decode cX5_no 2 = .ok (.putfield 52, 3) := by decide +kernel
theorem dX5_no_5 : decode cX5_no 5 = .ok (.iconst 0, 1) := by decide +kernel
theorem dX5_no_6 : decode cX5_no 6 = .ok (.ireturn, 1) := by decide +kernel
theorem dX5_isIn_0 : decode cX5_isIn 0 = .ok (.iload_n 0, 1) := by decide +kernel
theorem dX5_isIn_1 : decode cX5_isIn 1 = .ok (.iload_n 1, 1) := by decide +kernel
theorem dX5_isIn_2 : decode cX5_isIn 2 = .ok (.if_icmp .lt 12, 3) := by decide +kernel
theorem dX5_isIn_5 : decode cX5_isIn 5 = .ok (.iload_n 0, 1) := by decide +kernel
theorem dX5_isIn_6 : decode cX5_isIn 6 = .ok (.iload_n 2, 1) := by decide +kernel
theorem dX5_isIn_7 : decode cX5_isIn 7 = .ok (.if_icmp .gt 7, 3) := by decide +kernel
theorem dX5_isIn_10 : decode cX5_isIn 10 = .ok (.iconst 1, 1) := by decide +kernel
theorem dX5_isIn_11 : decode cX5_isIn 11 = .ok (.goto 4, 3) := by decide +kernel
theorem dX5_isIn_14 : decode cX5_isIn 14 = .ok (.iconst 0, 1) := by decide +kernel
theorem dX5_isIn_15 : decode cX5_isIn 15 = .ok (.ireturn, 1) := by decide +kernel
theorem dX5_isRinger_0 : decode cX5_isRinger 0 = .ok (.iload_n 1, 1) := by decide +kernel
theorem dX5_isRinger_1 : decode cX5_isRinger 1 = .ok (.iconst 0, 1) := by decide +kernel
theorem dX5_isRinger_2 : decode cX5_isRinger 2 = .ok (.aload_n 0, 1) := by decide +kernel
theorem dX5_isRinger_3 : decode cX5_isRinger 3 = .ok (.getfield 56, 3) := by decide +kernel
theorem dX5_isRinger_6 : decode cX5_isRinger 6 = .ok (.iconst 1, 1) := by decide +kernel
theorem dX5_isRinger_7 : decode cX5_isRinger 7 = .ok (.isub, 1) := by decide +kernel
theorem dX5_isRinger_8 : decode cX5_isRinger 8 = .ok (.invokestatic 59, 3) := by decide +kernel
theorem dX5_isRinger_11 : decode cX5_isRinger 11 = .ok (.ireturn, 1) := by decide +kernel
theorem dX5_isSeat_0 : decode cX5_isSeat 0 = .ok (.iload_n 0, 1) := by decide +kernel
theorem dX5_isSeat_1 : decode cX5_isSeat 1 = .ok (.iconst 0, 1) := by decide +kernel
theorem dX5_isSeat_2 : decode cX5_isSeat 2 = .ok (.iconst 2, 1) := by decide +kernel
theorem dX5_isSeat_3 : decode cX5_isSeat 3 = .ok (.invokestatic 59, 3) := by decide +kernel
theorem dX5_isSeat_6 : decode cX5_isSeat 6 = .ok (.ifCond .eq 16, 3) := by decide +kernel
theorem dX5_isSeat_9 : decode cX5_isSeat 9 = .ok (.iload_n 1, 1) := by decide +kernel
theorem dX5_isSeat_10 : decode cX5_isSeat 10 = .ok (.iconst 0, 1) := by decide +kernel
theorem dX5_isSeat_11 : decode cX5_isSeat 11 = .ok (.iconst 5, 1) := by decide +kernel
theorem dX5_isSeat_12 : decode cX5_isSeat 12 = .ok (.invokestatic 59, 3) := by decide +kernel
theorem dX5_isSeat_15 : decode cX5_isSeat 15 = .ok (.ifCond .eq 7, 3) := by decide +kernel
theorem dX5_isSeat_18 : decode cX5_isSeat 18 = .ok (.iconst 1, 1) := by decide +kernel
theorem dX5_isSeat_19 : decode cX5_isSeat 19 = .ok (.goto 4, 3) := by decide +kernel
theorem dX5_isSeat_22 : decode cX5_isSeat 22 = .ok (.iconst 0, 1) := by decide +kernel
theorem dX5_isSeat_23 : decode cX5_isSeat 23 = .ok (.ireturn, 1) := by decide +kernel
theorem dX5_isMethod_0 : decode cX5_isMethod 0 = .ok (.iload_n 1, 1) := by decide +kernel
theorem dX5_isMethod_1 : decode cX5_isMethod 1 = .ok (.iconst 0, 1) := by decide +kernel
theorem dX5_isMethod_2 : decode cX5_isMethod 2 = .ok (.aload_n 0, 1) := by decide +kernel
theorem dX5_isMethod_3 : decode cX5_isMethod 3 = .ok (.getfield 63, 3) := by decide +kernel
theorem dX5_isMethod_6 : decode cX5_isMethod 6 = .ok (.iconst 1, 1) := by decide +kernel
theorem dX5_isMethod_7 : decode cX5_isMethod 7 = .ok (.isub, 1) := by decide +kernel
theorem dX5_isMethod_8 : decode cX5_isMethod 8 = .ok (.invokestatic 59, 3) := by decide +kernel
theorem dX5_isMethod_11 : decode cX5_isMethod 11 = .ok (.ireturn, 1) := by decide +kernel
theorem dX5_code_0 : decode cX5_code 0 = .ok (.iconst 0, 1) := by decide +kernel
theorem dX5_code_1 : decode cX5_code 1 = .ok (.istore_n 1, 1) := by decide +kernel
theorem dX5_code_2 : decode cX5_code 2 = .ok (.aload_n 0, 1) := by decide +kernel
theorem dX5_code_3 : decode cX5_code 3 = .ok (.getfield 31, 3) := by decide +kernel
theorem dX5_code_6 : decode cX5_code 6 = .ok (.astore_n 2, 1) := by decide +kernel
theorem dX5_code_7 : decode cX5_code 7 = .ok (.aload_n 2, 1) := by decide +kernel
theorem dX5_code_8 : decode cX5_code 8 = .ok (.arraylength, 1) := by decide +kernel
theorem dX5_code_9 : decode cX5_code 9 = .ok (.istore_n 3, 1) := by decide +kernel
theorem dX5_code_10 : decode cX5_code 10 = .ok (.iconst 0, 1) := by decide +kernel
theorem dX5_code_11 : decode cX5_code 11 = .ok (.istore 4, 2) := by decide +kernel
theorem dX5_code_13 : decode cX5_code 13 = .ok (.iload 4, 2) := by decide +kernel
theorem dX5_code_15 : decode cX5_code 15 = .ok (.iload_n 3, 1) := by decide +kernel
theorem dX5_code_16 : decode cX5_code 16 = .ok (.if_icmp .ge 23, 3) := by decide +kernel
theorem dX5_code_19 : decode cX5_code 19 = .ok (.aload_n 2, 1) := by decide +kernel
theorem dX5_code_20 : decode cX5_code 20 = .ok (.iload 4, 2) := by decide +kernel
theorem dX5_code_22 : decode cX5_code 22 = .ok (.iaload, 1) := by decide +kernel
theorem dX5_code_23 : decode cX5_code 23 = .ok (.istore 5, 2) := by decide +kernel
theorem dX5_code_25 : decode cX5_code 25 = .ok (.bipush 6, 2) := by decide +kernel
theorem dX5_code_27 : decode cX5_code 27 = .ok (.iload_n 1, 1) := by decide +kernel
theorem dX5_code_28 : decode cX5_code 28 = .ok (.imul, 1) := by decide +kernel
theorem dX5_code_29 : decode cX5_code 29 = .ok (.iload 5, 2) := by decide +kernel
theorem dX5_code_31 : decode cX5_code 31 = .ok (.iadd, 1) := by decide +kernel
theorem dX5_code_32 : decode cX5_code 32 = .ok (.istore_n 1, 1) := by decide +kernel
theorem dX5_code_33 : decode cX5_code 33 = .ok (.iinc 4 1, 3) := by decide +kernel
theorem dX5_code_36 : decode cX5_code 36 = .ok (.goto (-23), 3) := by decide +kernel
theorem dX5_code_39 : decode cX5_code 39 = .ok (.iload_n 1, 1) := by decide +kernel
theorem dX5_code_40 : decode cX5_code 40 = .ok (.ireturn, 1) := by decide +kernel
theorem dX5_walkChanges_0 : decode cX5_walkChanges 0 = .ok (.iconst 0, 1) := by decide +kernel
theorem dX5_walkChanges_1 : decode cX5_walkChanges 1 = .ok (.istore_n 3, 1) := by decide +kernel
theorem dX5_walkChanges_2 : decode cX5_walkChanges 2 = .ok (.iload_n 3, 1) := by decide +kernel
theorem dX5_walkChanges_3 : decode cX5_walkChanges 3 = .ok (.bipush 6, 2) := by decide +kernel
theorem dX5_walkChanges_5 : decode cX5_walkChanges 5 = .ok (.if_icmp .ge 23, 3) := by decide +kernel
theorem dX5_walkChanges_8 : decode cX5_walkChanges 8 = .ok (.aload_n 0, 1) := by decide +kernel
theorem dX5_walkChanges_9 : decode cX5_walkChanges 9 = .ok (.getfield 31, 3) := by decide +kernel
theorem dX5_walkChanges_12 : decode cX5_walkChanges 12 = .ok (.iload_n 3, 1) := by decide +kernel
theorem dX5_walkChanges_13 : decode cX5_walkChanges 13 = .ok (.iload_n 3, 1) := by decide +kernel
theorem dX5_walkChanges_14 : decode cX5_walkChanges 14 = .ok (.iastore, 1) := by decide +kernel
theorem dX5_walkChanges_15 : decode cX5_walkChanges 15 = .ok (.aload_n 0, 1) := by decide +kernel
theorem dX5_walkChanges_16 : decode cX5_walkChanges 16 = .ok (.getfield 37, 3) := by decide +kernel
theorem dX5_walkChanges_19 : decode cX5_walkChanges 19 = .ok (.iload_n 3, 1) := by decide +kernel
theorem dX5_walkChanges_20 : decode cX5_walkChanges 20 = .ok (.iconst 0, 1) := by decide +kernel
theorem dX5_walkChanges_21 : decode cX5_walkChanges 21 = .ok (.iastore, 1) := by decide +kernel
theorem dX5_walkChanges_22 : decode cX5_walkChanges 22 = .ok (.iinc 3 1, 3) := by decide +kernel
theorem dX5_walkChanges_25 : decode cX5_walkChanges 25 = .ok (.goto (-23), 3) := by decide +kernel
theorem dX5_walkChanges_28 : decode cX5_walkChanges 28 = .ok (.aload_n 0, 1) := by decide +kernel
theorem dX5_walkChanges_29 : decode cX5_walkChanges 29 = .ok (.iload_n 2, 1) := by decide +kernel
theorem dX5_walkChanges_30 : decode cX5_walkChanges 30 = .ok (.putfield 66, 3) := by decide +kernel
theorem dX5_walkChanges_33 : decode cX5_walkChanges 33 = .ok (.aload_n 0, 1) := by decide +kernel
theorem dX5_walkChanges_34 : decode cX5_walkChanges 34 = .ok (.getfield 25, 3) := by decide +kernel
theorem dX5_walkChanges_37 : decode cX5_walkChanges 37 = .ok (.iconst 0, 1) := by decide +kernel
theorem dX5_walkChanges_38 : decode cX5_walkChanges 38 = .ok (.sipush 1865, 3) := by decide +kernel
theorem dX5_walkChanges_41 : decode cX5_walkChanges 41 = .ok (.iastore, 1) := by decide +kernel
theorem dX5_walkChanges_42 : decode cX5_walkChanges 42 = .ok (.iconst 1, 1) := by decide +kernel
theorem dX5_walkChanges_43 : decode cX5_walkChanges 43 = .ok (.istore_n 3, 1) := by decide +kernel
theorem dX5_walkChanges_44 : decode cX5_walkChanges 44 = .ok (.iload_n 3, 1) := by decide +kernel
theorem dX5_walkChanges_45 : decode cX5_walkChanges 45 = .ok (.iload_n 2, 1) := by decide +kernel
theorem dX5_walkChanges_46 : decode cX5_walkChanges 46 = .ok (.if_icmp .gt 217, 3) := by decide +kernel
theorem dX5_walkChanges_49 : decode cX5_walkChanges 49 = .ok (.aload_n 0, 1) := by decide +kernel
theorem dX5_walkChanges_50 : decode cX5_walkChanges 50 = .ok (.getfield 22, 3) := by decide +kernel
theorem dX5_walkChanges_53 : decode cX5_walkChanges 53 = .ok (.bipush 12, 2) := by decide +kernel
theorem dX5_walkChanges_55 : decode cX5_walkChanges 55 = .ok (.iload_n 1, 1) := by decide +kernel
theorem dX5_walkChanges_56 : decode cX5_walkChanges 56 = .ok (.imul, 1) := by decide +kernel
theorem dX5_walkChanges_57 : decode cX5_walkChanges 57 = .ok (.iload_n 3, 1) := by decide +kernel
theorem dX5_walkChanges_58 : decode cX5_walkChanges 58 = .ok (.iconst 1, 1) := by decide +kernel
theorem dX5_walkChanges_59 : decode cX5_walkChanges 59 = .ok (.isub, 1) := by decide +kernel
theorem dX5_walkChanges_60 : decode cX5_walkChanges 60 = .ok (.aload_n 0, 1) := by decide +kernel
theorem dX5_walkChanges_61 : decode cX5_walkChanges 61 = .ok (.getfield 19, 3) := by decide +kernel
theorem dX5_walkChanges_64 : decode cX5_walkChanges 64 = .ok (.iload_n 1, 1) := by decide +kernel
theorem dX5_walkChanges_65 : decode cX5_walkChanges 65 = .ok (.iaload, 1) := by decide +kernel
theorem dX5_walkChanges_66 : decode cX5_walkChanges 66 = .ok (.irem, 1) := by decide +kernel
theorem dX5_walkChanges_67 : decode cX5_walkChanges 67 = .ok (.iadd, 1) := by decide +kernel
theorem dX5_walkChanges_68 : decode cX5_walkChanges 68 = .ok (.iaload, 1) := by decide +kernel
theorem dX5_walkChanges_69 : decode cX5_walkChanges 69 = .ok (.istore 4, 2) := by decide +kernel
theorem dX5_walkChanges_71 : decode cX5_walkChanges 71 = .ok (.iconst 0, 1) := by decide +kernel
theorem dX5_walkChanges_72 : decode cX5_walkChanges 72 = .ok (.istore 5, 2) := by decide +kernel
theorem dX5_walkChanges_74 : decode cX5_walkChanges 74 = .ok (.iload 5, 2) := by decide +kernel
theorem dX5_walkChanges_76 : decode cX5_walkChanges 76 = .ok (.bipush 6, 2) := by decide +kernel
theorem dX5_walkChanges_78 : decode cX5_walkChanges 78 = .ok (.if_icmp .ge 17, 3) := by decide +kernel
theorem dX5_walkChanges_81 : decode cX5_walkChanges 81 = .ok (.aload_n 0, 1) := by decide +kernel
theorem dX5_walkChanges_82 : decode cX5_walkChanges 82 = .ok (.getfield 34, 3) := by decide +kernel
theorem dX5_walkChanges_85 : decode cX5_walkChanges 85 = .ok (.iload 5, 2) := by decide +kernel
theorem dX5_walkChanges_87 : decode cX5_walkChanges 87 = .ok (.iconst 0, 1) := by decide +kernel
theorem dX5_walkChanges_88 : decode cX5_walkChanges 88 = .ok (.iastore, 1) := by decide +kernel
theorem dX5_walkChanges_89 : decode cX5_walkChanges 89 = .ok (.iinc 5 1, 3) := by decide +kernel
theorem dX5_walkChanges_92 : decode cX5_walkChanges 92 = .ok (.goto (-18), 3) := by decide +kernel
theorem dX5_walkChanges_95 : decode cX5_walkChanges 95 = .ok (.aload_n 0, 1) := by decide +kernel
theorem dX5_walkChanges_96 : decode cX5_walkChanges 96 = .ok (.getfield 28, 3) := by decide +kernel
theorem dX5_walkChanges_99 : decode cX5_walkChanges 99 = .ok (.iload_n 3, 1) := by decide +kernel
theorem dX5_walkChanges_100 : decode cX5_walkChanges 100 = .ok (.iconst 0, 1) := by decide +kernel
theorem dX5_walkChanges_101 : decode cX5_walkChanges 101 = .ok (.iastore, 1) := by decide +kernel
theorem dX5_walkChanges_102 : decode cX5_walkChanges 102 = .ok (.iconst 0, 1) := by decide +kernel
theorem dX5_walkChanges_103 : decode cX5_walkChanges 103 = .ok (.istore 5, 2) := by decide +kernel
theorem dX5_walkChanges_105 : decode cX5_walkChanges 105 = .ok (.iload 5, 2) := by decide +kernel
theorem dX5_walkChanges_107 : decode cX5_walkChanges 107 = .ok (.iconst 5, 1) := by decide +kernel
theorem dX5_walkChanges_108 : decode cX5_walkChanges 108 = .ok (.if_icmp .ge 78, 3) := by decide +kernel
theorem dX5_walkChanges_111 : decode cX5_walkChanges 111 = .ok (.iload 4, 2) := by decide +kernel
theorem dX5_walkChanges_113 : decode cX5_walkChanges 113 = .ok (.iload 5, 2) := by decide +kernel
theorem dX5_walkChanges_115 : decode cX5_walkChanges 115 = .ok (.ishr, 1) := by decide +kernel
theorem dX5_walkChanges_116 : decode cX5_walkChanges 116 = .ok (.iconst 1, 1) := by decide +kernel
theorem dX5_walkChanges_117 : decode cX5_walkChanges 117 = .ok (.iand, 1) := by decide +kernel
theorem dX5_walkChanges_118 : decode cX5_walkChanges 118 = .ok (.ifCond .ne 6, 3) := by decide +kernel
theorem dX5_walkChanges_121 : decode cX5_walkChanges 121 = .ok (.goto 59, 3) := by decide +kernel
theorem dX5_walkChanges_124 : decode cX5_walkChanges 124 = .ok (.aload_n 0, 1) := by decide +kernel
theorem dX5_walkChanges_125 : decode cX5_walkChanges 125 = .ok (.getfield 31, 3) := by decide +kernel
theorem dX5_walkChanges_128 : decode cX5_walkChanges 128 = .ok (.iload 5, 2) := by decide +kernel
theorem dX5_walkChanges_130 : decode cX5_walkChanges 130 = .ok (.iaload, 1) := by decide +kernel
theorem dX5_walkChanges_131 : decode cX5_walkChanges 131 = .ok (.istore 6, 2) := by decide +kernel
theorem dX5_walkChanges_133 : decode cX5_walkChanges 133 = .ok (.aload_n 0, 1) := by decide +kernel
theorem dX5_walkChanges_134 : decode cX5_walkChanges 134 = .ok (.getfield 31, 3) := by decide +kernel
theorem dX5_walkChanges_137 : decode cX5_walkChanges 137 = .ok (.iload 5, 2) := by decide +kernel
theorem dX5_walkChanges_139 : decode cX5_walkChanges 139 = .ok (.iconst 1, 1) := by decide +kernel
theorem dX5_walkChanges_140 : decode cX5_walkChanges 140 = .ok (.iadd, 1) := by decide +kernel
theorem dX5_walkChanges_141 : decode cX5_walkChanges 141 = .ok (.iaload, 1) := by decide +kernel
theorem dX5_walkChanges_142 : decode cX5_walkChanges 142 = .ok (.istore 7, 2) := by decide +kernel
theorem dX5_walkChanges_144 : decode cX5_walkChanges 144 = .ok (.aload_n 0, 1) := by decide +kernel
