theorem dX0_append_0 : decode cX0_append 0 = .ok (.aload_n 0, 1) := by decide +kernel
theorem dX0_append_1 : decode cX0_append 1 = .ok (.getfield 9, 3) := by decide +kernel
theorem dX0_append_4 : decode cX0_append 4 = .ok (.aload_n 0, 1) := by decide +kernel
theorem dX0_append_5 : decode cX0_append 5 = .ok (.getfield 31, 3) := by decide +kernel
theorem dX0_append_8 : decode cX0_append 8 = .ok (.iload_n 1, 1) := by decide +kernel
theorem dX0_append_9 : decode cX0_append 9 = .ok (.iastore, 1) := by decide +kernel
theorem dX0_append_10 : decode cX0_append 10 = .ok (.aload_n 0, 1) := by decide +kernel
theorem dX0_append_11 : decode cX0_append 11 = .ok (.getfield 15, 3) := by decide +kernel
theorem dX0_append_14 : decode cX0_append 14 = .ok (.aload_n 0, 1) := by decide +kernel
theorem dX0_append_15 : decode cX0_append 15 = .ok (.getfield 31, 3) := by decide +kernel
theorem dX0_append_18 : decode cX0_append 18 = .ok (.iload_n 2, 1) := by decide +kernel
theorem dX0_append_19 : decode cX0_append 19 = .ok (.iastore, 1) := by decide +kernel
theorem dX0_append_20 : decode cX0_append 20 = .ok (.aload_n 0, 1) := by decide +kernel
theorem dX0_append_21 : decode cX0_append 21 = .ok (.getfield 18, 3) := by decide +kernel
theorem dX0_append_24 : decode cX0_append 24 = .ok (.aload_n 0, 1) := by decide +kernel
theorem dX0_append_25 : decode cX0_append 25 = .ok (.getfield 31, 3) := by decide +kernel
theorem dX0_append_28 : decode cX0_append 28 = .ok (.iload_n 3, 1) := by decide +kernel
theorem dX0_append_29 : decode cX0_append 29 = .ok (.iastore, 1) := by decide +kernel
theorem dX0_append_30 : decode cX0_append 30 = .ok (.aload_n 0, 1) := by decide +kernel
theorem dX0_append_31 : decode cX0_append 31 = .ok (.getfield 21, 3) := by decide +kernel
theorem dX0_append_34 : decode cX0_append 34 = .ok (.aload_n 0, 1) := by decide +kernel
theorem dX0_append_35 : decode cX0_append 35 = .ok (.getfield 31, 3) := by decide +kernel
theorem dX0_append_38 : decode cX0_append 38 = .ok (.iload 4, 2) := by decide +kernel
theorem dX0_append_40 : decode cX0_append 40 = .ok (.iastore, 1) := by decide +kernel
theorem dX0_append_41 : decode cX0_append 41 = .ok (.aload_n 0, 1) := by decide +kernel
theorem dX0_append_42 : decode cX0_append 42 = .ok (.dup, 1) := by decide +kernel
theorem dX0_append_43 : decode cX0_append 43 = .ok (.getfield 31, 3) := by decide +kernel
theorem dX0_append_46 : decode cX0_append 46 = .ok (.iconst 1, 1) := by decide +kernel
theorem dX0_append_47 : decode cX0_append 47 = .ok (.iadd, 1) := by decide +kernel
theorem dX0_append_48 : decode cX0_append 48 = .ok (.putfield 31, 3) := by decide +kernel
theorem dX0_append_51 : decode cX0_append 51 = .ok (.aload_n 0, 1) := by decide +kernel
theorem dX0_append_52 : decode cX0_append 52 = .ok (.getfield 31, 3) := by decide +kernel
theorem dX0_append_55 : decode cX0_append 55 = .ok (.ireturn, 1) := by decide +kernel
theorem dX0_lastSet_0 : decode cX0_lastSet 0 = .ok (.aload_n 0, 1) := by decide +kernel
theorem dX0_lastSet_1 : decode cX0_lastSet 1 = .ok (.getfield 31, 3) := by decide +kernel
theorem dX0_lastSet_4 : decode cX0_lastSet 4 = .ok (.iconst 1, 1) := by decide +kernel
theorem dX0_lastSet_5 : decode cX0_lastSet 5 = .ok (.isub, 1) := by decide +kernel
theorem dX0_lastSet_6 : decode cX0_lastSet 6 = .ok (.istore_n 2, 1) := by decide +kernel
theorem dX0_lastSet_7 : decode cX0_lastSet 7 = .ok (.iload_n 2, 1) := by decide +kernel
theorem dX0_lastSet_8 : decode cX0_lastSet 8 = .ok (.ifCond .lt 35, 3) := by decide +kernel
theorem dX0_lastSet_11 : decode cX0_lastSet 11 = .ok (.aload_n 0, 1) := by decide +kernel
theorem dX0_lastSet_12 : decode cX0_lastSet 12 = .ok (.getfield 9, 3) := by decide +kernel
theorem dX0_lastSet_15 : decode cX0_lastSet 15 = .ok (.iload_n 2, 1) := by decide +kernel
theorem dX0_lastSet_16 : decode cX0_lastSet 16 = .ok (.iaload, 1) := by decide +kernel
theorem dX0_lastSet_17 : decode cX0_lastSet 17 = .ok (.ifCond .ne 20, 3) := by decide +kernel
theorem dX0_lastSet_20 : decode cX0_lastSet 20 = .ok (.aload_n 0, 1) := by decide +kernel
theorem dX0_lastSet_21 : decode cX0_lastSet 21 = .ok (.getfield 15, 3) := by decide +kernel
theorem dX0_lastSet_24 : decode cX0_lastSet 24 = .ok (.iload_n 2, 1) := by decide +kernel
theorem dX0_lastSet_25 : decode cX0_lastSet 25 = .ok (.iaload, 1) := by decide +kernel
theorem dX0_lastSet_26 : decode cX0_lastSet 26 = .ok (.iload_n 1, 1) := by decide +kernel
theorem dX0_lastSet_27 : decode cX0_lastSet 27 = .ok (.if_icmp .ne 10, 3) := by decide +kernel
theorem dX0_lastSet_30 : decode cX0_lastSet 30 = .ok (.aload_n 0, 1) := by decide +kernel
theorem dX0_lastSet_31 : decode cX0_lastSet 31 = .ok (.getfield 18, 3) := by decide +kernel
theorem dX0_lastSet_34 : decode cX0_lastSet 34 = .ok (.iload_n 2, 1) := by decide +kernel
theorem dX0_lastSet_35 : decode cX0_lastSet 35 = .ok (.iaload, 1) := by decide +kernel
theorem dX0_lastSet_36 : decode cX0_lastSet 36 = .ok (.ireturn, 1) := by decide +kernel
theorem dX0_lastSet_37 : decode cX0_lastSet 37 = .ok (.iinc 2 (-1), 3) := by decide +kernel
theorem dX0_lastSet_40 : decode cX0_lastSet 40 = .ok (.goto (-33), 3) := by decide +kernel
theorem dX0_lastSet_43 : decode cX0_lastSet 43 = .ok (.iconst (-1), 1) := by decide +kernel
theorem dX0_lastSet_44 : decode cX0_lastSet 44 = .ok (.ireturn, 1) := by decide +kernel
theorem dX1_startAnew_0 : decode cX1_startAnew 0 = .ok (.aload_n 0, 1) := by decide +kernel
theorem dX1_startAnew_1 : decode cX1_startAnew 1 = .ok (.iload_n 1, 1) := by decide +kernel
theorem dX1_startAnew_2 : decode cX1_startAnew 2 = .ok (.putfield 29, 3) := by decide +kernel
theorem dX1_startAnew_5 : decode cX1_startAnew 5 = .ok (.aload_n 0, 1) := by decide +kernel
theorem dX1_startAnew_6 : decode cX1_startAnew 6 = .ok (.iconst 0, 1) := by decide +kernel
theorem dX1_startAnew_7 : decode cX1_startAnew 7 = .ok (.putfield 33, 3) := by decide +kernel
theorem dX1_startAnew_10 : decode cX1_startAnew 10 = .ok (.aload_n 0, 1) := by decide +kernel
theorem dX1_startAnew_11 : decode cX1_startAnew 11 = .ok (.iconst 0, 1) := by decide +kernel
theorem dX1_startAnew_12 : decode cX1_startAnew 12 = .ok (.putfield 36, 3) := by decide +kernel
theorem dX1_startAnew_15 : decode cX1_startAnew 15 = .ok (.aload_n 0, 1) := by decide +kernel
theorem dX1_startAnew_16 : decode cX1_startAnew 16 = .ok (.iconst 0, 1) := by decide +kernel
theorem dX1_startAnew_17 : decode cX1_startAnew 17 = .ok (.putfield 39, 3) := by decide +kernel
theorem dX1_startAnew_20 : decode cX1_startAnew 20 = .ok (.aload_n 0, 1) := by decide +kernel
theorem dX1_startAnew_21 : decode cX1_startAnew 21 = .ok (.iconst 1, 1) := by decide +kernel
theorem dX1_startAnew_22 : decode cX1_startAnew 22 = .ok (.putfield 42, 3) := by decide +kernel
theorem dX1_startAnew_25 : decode cX1_startAnew 25 = .ok (.aload_n 0, 1) := by decide +kernel
theorem dX1_startAnew_26 : decode cX1_startAnew 26 = .ok (.dup, 1) := by decide +kernel
theorem dX1_startAnew_27 : decode cX1_startAnew 27 = .ok (.getfield 45, 3) := by decide +kernel
theorem dX1_startAnew_30 : decode cX1_startAnew 30 = .ok (.iconst 1, 1) := by decide +kernel
theorem dX1_startAnew_31 : decode cX1_startAnew 31 = .ok (.iadd, 1) := by decide +kernel
theorem dX1_startAnew_32 : decode cX1_startAnew 32 = .ok (.putfield 45, 3) := by decide +kernel
theorem dX1_startAnew_35 : decode cX1_startAnew 35 = .ok (.aload_n 0, 1) := by decide +kernel
theorem dX1_startAnew_36 : decode cX1_startAnew 36 = .ok (.iconst 0, 1) := by decide +kernel
theorem dX1_startAnew_37 : decode cX1_startAnew 37 = .ok (.putfield 48, 3) := by decide +kernel
theorem dX1_startAnew_40 : decode cX1_startAnew 40 = .ok (.return_, 1) := by decide +kernel
theorem dX1_hasRegister_0 : decode cX1_hasRegister 0 = .ok (.iload_n 1, 1) := by decide +kernel
theorem dX1_hasRegister_1 : decode cX1_hasRegister 1 = .ok (.ifCond .lt 15, 3) := by decide +kernel
theorem dX1_hasRegister_4 : decode cX1_hasRegister 4 = .ok (.iload_n 1, 1) := by decide +kernel
theorem dX1_hasRegister_5 : decode cX1_hasRegister 5 = .ok (.aload_n 0, 1) := by decide +kernel
theorem dX1_hasRegister_6 : decode cX1_hasRegister 6 = .ok (.getfield 29, 3) := by decide +kernel
theorem dX1_hasRegister_9 : decode cX1_hasRegister 9 = .ok (.if_icmp .ge 7, 3) := by decide +kernel
theorem dX1_hasRegister_12 : decode cX1_hasRegister 12 = .ok (.iconst 1, 1) := by decide +kernel
theorem dX1_hasRegister_13 : decode cX1_hasRegister 13 = .ok (.goto 4, 3) := by decide +kernel
theorem dX1_hasRegister_16 : decode cX1_hasRegister 16 = .ok (.iconst 0, 1) := by decide +kernel
theorem dX1_hasRegister_17 : decode cX1_hasRegister 17 = .ok (.ireturn, 1) := by decide +kernel
theorem dX1_hasField_0 : decode cX1_hasField 0 = .ok (.iload_n 1, 1) := by decide +kernel
theorem dX1_hasField_1 : decode cX1_hasField 1 = .ok (.ifCond .lt 15, 3) := by decide +kernel
theorem dX1_hasField_4 : decode cX1_hasField 4 = .ok (.iload_n 1, 1) := by decide +kernel
theorem dX1_hasField_5 : decode cX1_hasField 5 = .ok (.aload_n 0, 1) := by decide +kernel
theorem dX1_hasField_6 : decode cX1_hasField 6 = .ok (.getfield 33, 3) := by decide +kernel
theorem dX1_hasField_9 : decode cX1_hasField 9 = .ok (.if_icmp .ge 7, 3) := by decide +kernel
theorem dX1_hasField_12 : decode cX1_hasField 12 = .ok (.iconst 1, 1) := by decide +kernel
theorem dX1_hasField_13 : decode cX1_hasField 13 = .ok (.goto 4, 3) := by decide +kernel
theorem dX1_hasField_16 : decode cX1_hasField 16 = .ok (.iconst 0, 1) := by decide +kernel
theorem dX1_hasField_17 : decode cX1_hasField 17 = .ok (.ireturn, 1) := by decide +kernel
theorem dX1_hasAct_0 : decode cX1_hasAct 0 = .ok (.iload_n 1, 1) := by decide +kernel
theorem dX1_hasAct_1 : decode cX1_hasAct 1 = .ok (.ifCond .lt 15, 3) := by decide +kernel
theorem dX1_hasAct_4 : decode cX1_hasAct 4 = .ok (.iload_n 1, 1) := by decide +kernel
theorem dX1_hasAct_5 : decode cX1_hasAct 5 = .ok (.aload_n 0, 1) := by decide +kernel
theorem dX1_hasAct_6 : decode cX1_hasAct 6 = .ok (.getfield 39, 3) := by decide +kernel
theorem dX1_hasAct_9 : decode cX1_hasAct 9 = .ok (.if_icmp .ge 7, 3) := by decide +kernel
theorem dX1_hasAct_12 : decode cX1_hasAct 12 = .ok (.iconst 1, 1) := by decide +kernel
theorem dX1_hasAct_13 : decode cX1_hasAct 13 = .ok (.goto 4, 3) := by decide +kernel
theorem dX1_hasAct_16 : decode cX1_hasAct 16 = .ok (.iconst 0, 1) := by decide +kernel
theorem dX1_hasAct_17 : decode cX1_hasAct 17 = .ok (.ireturn, 1) := by decide +kernel
theorem dX1_hasHandlers_0 : decode cX1_hasHandlers 0 = .ok (.iconst 0, 1) := by decide +kernel
theorem dX1_hasHandlers_1 : decode cX1_hasHandlers 1 = .ok (.istore_n 1, 1) := by decide +kernel
theorem dX1_hasHandlers_2 : decode cX1_hasHandlers 2 = .ok (.iload_n 1, 1) := by decide +kernel
theorem dX1_hasHandlers_3 : decode cX1_hasHandlers 3 = .ok (.aload_n 0, 1) := by decide +kernel
theorem dX1_hasHandlers_4 : decode cX1_hasHandlers 4 = .ok (.getfield 33, 3) := by decide +kernel
theorem dX1_hasHandlers_7 : decode cX1_hasHandlers 7 = .ok (.if_icmp .ge 23, 3) := by decide +kernel
theorem dX1_hasHandlers_10 : decode cX1_hasHandlers 10 = .ok (.aload_n 0, 1) := by decide +kernel
theorem dX1_hasHandlers_11 : decode cX1_hasHandlers 11 = .ok (.getfield 11, 3) := by decide +kernel
theorem dX1_hasHandlers_14 : decode cX1_hasHandlers 14 = .ok (.iload_n 1, 1) := by decide +kernel
theorem dX1_hasHandlers_15 : decode cX1_hasHandlers 15 = .ok (.aaload, 1) := by decide +kernel
theorem dX1_hasHandlers_16 : decode cX1_hasHandlers 16 = .ok (.getfield 55, 3) := by decide +kernel
theorem dX1_hasHandlers_19 : decode cX1_hasHandlers 19 = .ok (.ifCond .lt 5, 3) := by decide +kernel
theorem dX1_hasHandlers_22 : decode cX1_hasHandlers 22 = .ok (.iconst 1, 1) := by decide +kernel
theorem dX1_hasHandlers_23 : decode cX1_hasHandlers 23 = .ok (.ireturn, 1) := by decide +kernel
theorem dX1_hasHandlers_24 : decode cX1_hasHandlers 24 = .ok (.iinc 1 1, 3) := by decide +kernel
theorem dX1_hasHandlers_27 : decode cX1_hasHandlers 27 = .ok (.goto (-25), 3) := by decide +kernel
theorem dX1_hasHandlers_30 : decode cX1_hasHandlers 30 = .ok (.iconst 0, 1) := by decide +kernel
theorem dX1_hasHandlers_31 : decode cX1_hasHandlers 31 = .ok (.ireturn, 1) := by decide +kernel
theorem dX1_tellField_0 : decode cX1_tellField 0 = .ok (.aload_n 0, 1) := by decide +kernel
theorem dX1_tellField_1 : decode cX1_tellField 1 = .ok (.getfield 11, 3) := by decide +kernel
theorem dX1_tellField_4 : decode cX1_tellField 4 = .ok (.aload_n 0, 1) := by decide +kernel
theorem dX1_tellField_5 : decode cX1_tellField 5 = .ok (.getfield 33, 3) := by decide +kernel
theorem dX1_tellField_8 : decode cX1_tellField 8 = .ok (.aaload, 1) := by decide +kernel
theorem dX1_tellField_9 : decode cX1_tellField 9 = .ok (.astore 6, 2) := by decide +kernel
theorem dX1_tellField_11 : decode cX1_tellField 11 = .ok (.aload 6, 2) := by decide +kernel
theorem dX1_tellField_13 : decode cX1_tellField 13 = .ok (.iload_n 1, 1) := by decide +kernel
theorem dX1_tellField_14 : decode cX1_tellField 14 = .ok (.putfield 58, 3) := by decide +kernel
theorem dX1_tellField_17 : decode cX1_tellField 17 = .ok (.aload 6, 2) := by decide +kernel
theorem dX1_tellField_19 : decode cX1_tellField 19 = .ok (.iload_n 2, 1) := by decide +kernel
theorem dX1_tellField_20 : decode cX1_tellField 20 = .ok (.putfield 61, 3) := by decide +kernel
theorem dX1_tellField_23 : decode cX1_tellField 23 = .ok (.aload 6, 2) := by decide +kernel
theorem dX1_tellField_25 : decode cX1_tellField 25 = .ok (.iload_n 3, 1) := by decide +kernel
theorem dX1_tellField_26 : decode cX1_tellField 26 = .ok (.putfield 64, 3) := by decide +kernel
theorem dX1_tellField_29 : decode cX1_tellField 29 = .ok (.aload 6, 2) := by decide +kernel
theorem dX1_tellField_31 : decode cX1_tellField 31 = .ok (.iload 4, 2) := by decide +kernel
theorem dX1_tellField_33 : decode cX1_tellField 33 = .ok (.putfield 67, 3) := by decide +kernel
theorem dX1_tellField_36 : decode cX1_tellField 36 = .ok (.aload 6, 2) := by decide +kernel
theorem dX1_tellField_38 : decode cX1_tellField 38 = .ok (.iload 5, 2) := by decide +kernel
theorem dX1_tellField_40 : decode cX1_tellField 40 = .ok (.putfield 70, 3) := by decide +kernel
theorem dX1_tellField_43 : decode cX1_tellField 43 = .ok (.aload 6, 2) := by decide +kernel
theorem dX1_tellField_45 : decode cX1_tellField 45 = .ok (.iconst 1, 1) := by decide +kernel
theorem dX1_tellField_46 : decode cX1_tellField 46 = .ok (.iload_n 3, 1) := by decide +kernel
theorem dX1_tellField_47 : decode cX1_tellField 47 = .ok (.ishl, 1) := by decide +kernel
theorem dX1_tellField_48 : decode cX1_tellField 48 = .ok (.iconst 1, 1) := by decide +kernel
theorem dX1_tellField_49 : decode cX1_tellField 49 = .ok (.isub, 1) := by decide +kernel
theorem dX1_tellField_50 : decode cX1_tellField 50 = .ok (.putfield 73, 3) := by decide +kernel
theorem dX1_tellField_53 : decode cX1_tellField 53 = .ok (.aload 6, 2) := by decide +kernel
theorem dX1_tellField_55 : decode cX1_tellField 55 = .ok (.aload 6, 2) := by decide +kernel
theorem dX1_tellField_57 : decode cX1_tellField 57 = .ok (.getfield 73, 3) := by decide +kernel
theorem dX1_tellField_60 : decode cX1_tellField 60 = .ok (.iload_n 2, 1) := by decide +kernel
theorem dX1_tellField_61 : decode cX1_tellField 61 = .ok (.ishl, 1) := by decide +kernel
theorem dX1_tellField_62 : decode cX1_tellField 62 = .ok (.putfield 76, 3) := by decide +kernel
theorem dX1_tellField_65 : decode cX1_tellField 65 = .ok (.aload 6, 2) := by decide +kernel
theorem dX1_tellField_67 : decode cX1_tellField 67 = .ok (.iconst 3, 1) := by decide +kernel
theorem dX1_tellField_68 : decode cX1_tellField 68 = .ok (.putfield 79, 3) := by decide +kernel
theorem dX1_tellField_71 : decode cX1_tellField 71 = .ok (.aload 6, 2) := by decide +kernel
theorem dX1_tellField_73 : decode cX1_tellField 73 = .ok (.iconst (-1), 1) := by decide +kernel
theorem dX1_tellField_74 : decode cX1_tellField 74 = .ok (.putfield 82, 3) := by decide +kernel
theorem dX1_tellField_77 : decode cX1_tellField 77 = .ok (.aload 6, 2) := by decide +kernel
theorem dX1_tellField_79 : decode cX1_tellField 79 = .ok (.iconst (-1), 1) := by decide +kernel
theorem dX1_tellField_80 : decode cX1_tellField 80 = .ok (.putfield 55, 3) := by decide +kernel
theorem dX1_tellField_83 : decode cX1_tellField 83 = .ok (.aload_n 0, 1) := by decide +kernel
theorem dX1_tellField_84 : decode cX1_tellField 84 = .ok (.dup, 1) := by decide +kernel
theorem dX1_tellField_85 : decode cX1_tellField 85 = .ok (.getfield 45, 3) := by decide +kernel
theorem dX1_tellField_88 : decode cX1_tellField 88 = .ok (.iconst 1, 1) := by decide +kernel
theorem dX1_tellField_89 : decode cX1_tellField 89 = .ok (.iadd, 1) := by decide +kernel
theorem dX1_tellField_90 : decode cX1_tellField 90 = .ok (.putfield 45, 3) := by decide +kernel
theorem dX1_tellField_93 : decode cX1_tellField 93 = .ok (.aload_n 0, 1) := by decide +kernel
theorem dX1_tellField_94 : decode cX1_tellField 94 = .ok (.iconst 0, 1) := by decide +kernel
theorem dX1_tellField_95 : decode cX1_tellField 95 = .ok (.putfield 48, 3) := by decide +kernel
theorem dX1_tellField_98 : decode cX1_tellField 98 = .ok (.aload_n 0, 1) := by decide +kernel
theorem dX1_tellField_99 : decode cX1_tellField 99 = .ok (.dup, 1) := by decide +kernel
theorem dX1_tellField_100 : decode cX1_tellField 100 = .ok (.getfield 33, 3) := by decide +kernel
theorem dX1_tellField_103 : decode cX1_tellField 103 = .ok (.iconst 1, 1) := by decide +kernel
theorem dX1_tellField_104 : decode cX1_tellField 104 = .ok (.iadd, 1) := by decide +kernel
theorem dX1_tellField_105 : decode cX1_tellField 105 = .ok (.putfield 33, 3) := by decide +kernel
theorem dX1_tellField_108 : decode cX1_tellField 108 = .ok (.aload_n 0, 1) := by decide +kernel
theorem dX1_tellField_109 : decode cX1_tellField 109 = .ok (.getfield 33, 3) := by decide +kernel
theorem dX1_tellField_112 : decode cX1_tellField 112 = .ok (.iconst 1, 1) := by decide +kernel
theorem dX1_tellField_113 : decode cX1_tellField 113 = .ok (.isub, 1) := by decide +kernel
theorem dX1_tellField_114 : decode cX1_tellField 114 = .ok (.ireturn, 1) := by decide +kernel
theorem dX1_tellLaw_0 : decode cX1_tellLaw 0 = .ok (.aload_n 0, 1) := by decide +kernel
theorem dX1_tellLaw_1 : decode cX1_tellLaw 1 = .ok (.getfield 19, 3) := by decide +kernel
theorem dX1_tellLaw_4 : decode cX1_tellLaw 4 = .ok (.aload_n 0, 1) := by decide +kernel
theorem dX1_tellLaw_5 : decode cX1_tellLaw 5 = .ok (.getfield 36, 3) := by decide +kernel
theorem dX1_tellLaw_8 : decode cX1_tellLaw 8 = .ok (.aaload, 1) := by decide +kernel
theorem dX1_tellLaw_9 : decode cX1_tellLaw 9 = .ok (.astore 5, 2) := by decide +kernel
theorem dX1_tellLaw_11 : decode cX1_tellLaw 11 = .ok (.aload 5, 2) := by decide +kernel
theorem dX1_tellLaw_13 : decode cX1_tellLaw 13 = .ok (.iload_n 1, 1) := by decide +kernel
theorem dX1_tellLaw_14 : decode cX1_tellLaw 14 = .ok (.putfield 85, 3) := by decide +kernel
theorem dX1_tellLaw_17 : decode cX1_tellLaw 17 = .ok (.aload 5, 2) := by decide +kernel
theorem dX1_tellLaw_19 : decode cX1_tellLaw 19 = .ok (.iload_n 2, 1) := by decide +kernel
theorem dX1_tellLaw_20 : decode cX1_tellLaw 20 = .ok (.putfield 86, 3) := by decide +kernel
theorem dX1_tellLaw_23 : decode cX1_tellLaw 23 = .ok (.aload 5, 2) := by decide +kernel
theorem dX1_tellLaw_25 : decode cX1_tellLaw 25 = .ok (.iload_n 3, 1) := by decide +kernel
theorem dX1_tellLaw_26 : decode cX1_tellLaw 26 = .ok (.putfield 89, 3) := by decide +kernel
theorem dX1_tellLaw_29 : decode cX1_tellLaw 29 = .ok (.aload 5, 2) := by decide +kernel
theorem dX1_tellLaw_31 : decode cX1_tellLaw 31 = .ok (.iload 4, 2) := by decide +kernel
theorem dX1_tellLaw_33 : decode cX1_tellLaw 33 = .ok (.putfield 92, 3) := by decide +kernel
theorem dX1_tellLaw_36 : decode cX1_tellLaw 36 = .ok (.aload_n 0, 1) := by decide +kernel
theorem dX1_tellLaw_37 : decode cX1_tellLaw 37 = .ok (.iconst 0, 1) := by decide +kernel
theorem dX1_tellLaw_38 : decode cX1_tellLaw 38 = .ok (.putfield 48, 3) := by decide +kernel
theorem dX1_tellLaw_41 : decode cX1_tellLaw 41 = .ok (.aload_n 0, 1) := by decide +kernel
theorem dX1_tellLaw_42 : decode cX1_tellLaw 42 = .ok (.dup, 1) := by decide +kernel
theorem dX1_tellLaw_43 : decode cX1_tellLaw 43 = .ok (.getfield 36, 3) := by decide +kernel
theorem dX1_tellLaw_46 : decode cX1_tellLaw 46 = .ok (.iconst 1, 1) := by decide +kernel
theorem dX1_tellLaw_47 : decode cX1_tellLaw 47 = .ok (.iadd, 1) := by decide +kernel
theorem dX1_tellLaw_48 : decode cX1_tellLaw 48 = .ok (.putfield 36, 3) := by decide +kernel
theorem dX1_tellLaw_51 : decode cX1_tellLaw 51 = .ok (.aload_n 0, 1) := by decide +kernel
theorem dX1_tellLaw_52 : decode cX1_tellLaw 52 = .ok (.getfield 36, 3) := by decide +kernel
theorem dX1_tellLaw_55 : decode cX1_tellLaw 55 = .ok (.iconst 1, 1) := by decide +kernel
theorem dX1_tellLaw_56 : decode cX1_tellLaw 56 = .ok (.isub, 1) := by decide +kernel
theorem dX1_tellLaw_57 : decode cX1_tellLaw 57 = .ok (.ireturn, 1) := by decide +kernel
theorem dX1_changePeriod_0 : decode cX1_changePeriod 0 = .ok (.aload_n 0, 1) := by decide +kernel
theorem dX1_changePeriod_1 : decode cX1_changePeriod 1 = .ok (.getfield 11, 3) := by decide +kernel
theorem dX1_changePeriod_4 : decode cX1_changePeriod 4 = .ok (.iload_n 1, 1) := by decide +kernel
theorem dX1_changePeriod_5 : decode cX1_changePeriod 5 = .ok (.aaload, 1) := by decide +kernel
theorem dX1_changePeriod_6 : decode cX1_changePeriod 6 = .ok (.getfield 79, 3) := by decide +kernel
theorem dX1_changePeriod_9 : decode cX1_changePeriod 9 = .ok (.istore_n 3, 1) := by decide +kernel
theorem dX1_changePeriod_10 : decode cX1_changePeriod 10 = .ok (.aload_n 0, 1) := by decide +kernel
theorem dX1_changePeriod_11 : decode cX1_changePeriod 11 = .ok (.getfield 11, 3) := by decide +kernel
theorem dX1_changePeriod_14 : decode cX1_changePeriod 14 = .ok (.iload_n 1, 1) := by decide +kernel
theorem dX1_changePeriod_15 : decode cX1_changePeriod 15 = .ok (.aaload, 1) := by decide +kernel
theorem dX1_changePeriod_16 : decode cX1_changePeriod 16 = .ok (.iload_n 2, 1) := by decide +kernel
theorem dX1_changePeriod_17 : decode cX1_changePeriod 17 = .ok (.putfield 79, 3) := by decide +kernel
theorem dX1_changePeriod_20 : decode cX1_changePeriod 20 = .ok (.aload_n 0, 1) := by decide +kernel
theorem dX1_changePeriod_21 : decode cX1_changePeriod 21 = .ok (.dup, 1) := by decide +kernel
theorem dX1_changePeriod_22 : decode cX1_changePeriod 22 = .ok (.getfield 45, 3) := by decide +kernel
theorem dX1_changePeriod_25 : decode cX1_changePeriod 25 = .ok (.iconst 1, 1) := by decide +kernel
theorem dX1_changePeriod_26 : decode cX1_changePeriod 26 = .ok (.iadd, 1) := by decide +kernel
theorem dX1_changePeriod_27 : decode cX1_changePeriod 27 = .ok (.putfield 45, 3) := by decide +kernel
theorem dX1_changePeriod_30 : decode cX1_changePeriod 30 = .ok (.iload_n 3, 1) := by decide +kernel
theorem dX1_changePeriod_31 : decode cX1_changePeriod 31 = .ok (.ireturn, 1) := by decide +kernel
theorem dX1_changeDone_0 : decode cX1_changeDone 0 = .ok (.aload_n 0, 1) := by decide +kernel
theorem dX1_changeDone_1 : decode cX1_changeDone 1 = .ok (.getfield 11, 3) := by decide +kernel
theorem dX1_changeDone_4 : decode cX1_changeDone 4 = .ok (.iload_n 1, 1) := by decide +kernel
theorem dX1_changeDone_5 : decode cX1_changeDone 5 = .ok (.aaload, 1) := by decide +kernel
theorem dX1_changeDone_6 : decode cX1_changeDone 6 = .ok (.getfield 82, 3) := by decide +kernel
theorem dX1_changeDone_9 : decode cX1_changeDone 9 = .ok (.istore_n 3, 1) := by decide +kernel
theorem dX1_changeDone_10 : decode cX1_changeDone 10 = .ok (.aload_n 0, 1) := by decide +kernel
theorem dX1_changeDone_11 : decode cX1_changeDone 11 = .ok (.getfield 11, 3) := by decide +kernel
theorem dX1_changeDone_14 : decode cX1_changeDone 14 = .ok (.iload_n 1, 1) := by decide +kernel
theorem dX1_changeDone_15 : decode cX1_changeDone 15 = .ok (.aaload, 1) := by decide +kernel
theorem dX1_changeDone_16 : decode cX1_changeDone 16 = .ok (.iload_n 2, 1) := by decide +kernel
theorem dX1_changeDone_17 : decode cX1_changeDone 17 = .ok (.putfield 82, 3) := by decide +kernel
theorem dX1_changeDone_20 : decode cX1_changeDone 20 = .ok (.aload_n 0, 1) := by decide +kernel
theorem dX1_changeDone_21 : decode cX1_changeDone 21 = .ok (.dup, 1) := by decide +kernel
theorem dX1_changeDone_22 : decode cX1_changeDone 22 = .ok (.getfield 45, 3) := by decide +kernel
theorem dX1_changeDone_25 : decode cX1_changeDone 25 = .ok (.iconst 1, 1) := by decide +kernel
theorem dX1_changeDone_26 : decode cX1_changeDone 26 = .ok (.iadd, 1) := by decide +kernel
theorem dX1_changeDone_27 : decode cX1_changeDone 27 = .ok (.putfield 45, 3) := by decide +kernel
theorem dX1_changeDone_30 : decode cX1_changeDone 30 = .ok (.iload_n 3, 1) := by decide +kernel
theorem dX1_changeDone_31 : decode cX1_changeDone 31 = .ok (.ireturn, 1) := by decide +kernel
theorem dX1_changeHandler_0 : decode cX1_changeHandler 0 = .ok (.aload_n 0, 1) := by decide +kernel
theorem dX1_changeHandler_1 : decode cX1_changeHandler 1 = .ok (.getfield 11, 3) := by decide +kernel
theorem dX1_changeHandler_4 : decode cX1_changeHandler 4 = .ok (.iload_n 1, 1) := by decide +kernel
theorem dX1_changeHandler_5 : decode cX1_changeHandler 5 = .ok (.aaload, 1) := by decide +kernel
theorem dX1_changeHandler_6 : decode cX1_changeHandler 6 = .ok (.getfield 55, 3) := by decide +kernel
theorem dX1_changeHandler_9 : decode cX1_changeHandler 9 = .ok (.istore_n 3, 1) := by decide +kernel
theorem dX1_changeHandler_10 : decode cX1_changeHandler 10 = .ok (.aload_n 0, 1) := by decide +kernel
theorem dX1_changeHandler_11 : decode cX1_changeHandler 11 = .ok (.getfield 11, 3) := by decide +kernel
theorem dX1_changeHandler_14 : decode cX1_changeHandler 14 = .ok (.iload_n 1, 1) := by decide +kernel
theorem dX1_changeHandler_15 : decode cX1_changeHandler 15 = .ok (.aaload, 1) := by decide +kernel
theorem dX1_changeHandler_16 : decode cX1_changeHandler 16 = .ok (.iload_n 2, 1) := by decide +kernel
theorem dX1_changeHandler_17 : decode cX1_changeHandler 17 = .ok (.putfield 55, 3) := by decide +kernel
theorem dX1_changeHandler_20 : decode cX1_changeHandler 20 = .ok (.aload_n 0, 1) := by decide +kernel
theorem dX1_changeHandler_21 : decode cX1_changeHandler 21 = .ok (.iconst 0, 1) := by decide +kernel
theorem dX1_changeHandler_22 : decode cX1_changeHandler 22 = .ok (.putfield 48, 3) := by decide +kernel
theorem dX1_changeHandler_25 : decode cX1_changeHandler 25 = .ok (.iload_n 3, 1) := by decide +kernel
theorem dX1_changeHandler_26 : decode cX1_changeHandler 26 = .ok (.ireturn, 1) := by decide +kernel
theorem dX1_changeLocks_0 : decode cX1_changeLocks 0 = .ok (.aload_n 0, 1) := by decide +kernel
theorem dX1_changeLocks_1 : decode cX1_changeLocks 1 = .ok (.getfield 42, 3) := by decide +kernel
theorem dX1_changeLocks_4 : decode cX1_changeLocks 4 = .ok (.istore_n 2, 1) := by decide +kernel
theorem dX1_changeLocks_5 : decode cX1_changeLocks 5 = .ok (.aload_n 0, 1) := by decide +kernel
theorem dX1_changeLocks_6 : decode cX1_changeLocks 6 = .ok (.iload_n 1, 1) := by decide +kernel
theorem dX1_changeLocks_7 : decode cX1_changeLocks 7 = .ok (.putfield 42, 3) := by decide +kernel
theorem dX1_changeLocks_10 : decode cX1_changeLocks 10 = .ok (.aload_n 0, 1) := by decide +kernel
theorem dX1_changeLocks_11 : decode cX1_changeLocks 11 = .ok (.iconst 0, 1) := by decide +kernel
theorem dX1_changeLocks_12 : decode cX1_changeLocks 12 = .ok (.putfield 48, 3) := by decide +kernel
theorem dX1_changeLocks_15 : decode cX1_changeLocks 15 = .ok (.iload_n 2, 1) := by decide +kernel
theorem dX1_changeLocks_16 : decode cX1_changeLocks 16 = .ok (.ireturn, 1) := by decide +kernel
theorem dX1_tellAct_0 : decode cX1_tellAct 0 = .ok (.aload_n 0, 1) := by decide +kernel
theorem dX1_tellAct_1 : decode cX1_tellAct 1 = .ok (.getfield 25, 3) := by decide +kernel
theorem dX1_tellAct_4 : decode cX1_tellAct 4 = .ok (.aload_n 0, 1) := by decide +kernel
theorem dX1_tellAct_5 : decode cX1_tellAct 5 = .ok (.getfield 39, 3) := by decide +kernel
theorem dX1_tellAct_8 : decode cX1_tellAct 8 = .ok (.aaload, 1) := by decide +kernel
theorem dX1_tellAct_9 : decode cX1_tellAct 9 = .ok (.iconst 0, 1) := by decide +kernel
theorem dX1_tellAct_10 : decode cX1_tellAct 10 = .ok (.putfield 95, 3) := by decide +kernel
theorem dX1_tellAct_13 : decode cX1_tellAct 13 = .ok (.aload_n 0, 1) := by decide +kernel
theorem dX1_tellAct_14 : decode cX1_tellAct 14 = .ok (.iconst 0, 1) := by decide +kernel
theorem dX1_tellAct_15 : decode cX1_tellAct 15 = .ok (.putfield 48, 3) := by decide +kernel
theorem dX1_tellAct_18 : decode cX1_tellAct 18 = .ok (.aload_n 0, 1) := by decide +kernel
theorem dX1_tellAct_19 : decode cX1_tellAct 19 = .ok (.dup, 1) := by decide +kernel
theorem dX1_tellAct_20 : decode cX1_tellAct 20 = .ok (.getfield 39, 3) := by decide +kernel
theorem dX1_tellAct_23 : decode cX1_tellAct 23 = .ok (.iconst 1, 1) := by decide +kernel
theorem dX1_tellAct_24 : decode cX1_tellAct 24 = .ok (.iadd, 1) := by decide +kernel
theorem dX1_tellAct_25 : decode cX1_tellAct 25 = .ok (.putfield 39, 3) := by decide +kernel
theorem dX1_tellAct_28 : decode cX1_tellAct 28 = .ok (.aload_n 0, 1) := by decide +kernel
theorem dX1_tellAct_29 : decode cX1_tellAct 29 = .ok (.getfield 39, 3) := by decide +kernel
theorem dX1_tellAct_32 : decode cX1_tellAct 32 = .ok (.iconst 1, 1) := by decide +kernel
theorem dX1_tellAct_33 : decode cX1_tellAct 33 = .ok (.isub, 1) := by decide +kernel
theorem dX1_tellAct_34 : decode cX1_tellAct 34 = .ok (.ireturn, 1) := by decide +kernel
theorem dX1_tellStep_0 : decode cX1_tellStep 0 = .ok (.aload_n 0, 1) := by decide +kernel
theorem dX1_tellStep_1 : decode cX1_tellStep 1 = .ok (.iconst 0, 1) := by decide +kernel
theorem dX1_tellStep_2 : decode cX1_tellStep 2 = .ok (.putfield 48, 3) := by decide +kernel
theorem dX1_tellStep_5 : decode cX1_tellStep 5 = .ok (.aload_n 0, 1) := by decide +kernel
theorem dX1_tellStep_6 : decode cX1_tellStep 6 = .ok (.getfield 25, 3) := by decide +kernel
theorem dX1_tellStep_9 : decode cX1_tellStep 9 = .ok (.iload_n 1, 1) := by decide +kernel
theorem dX1_tellStep_10 : decode cX1_tellStep 10 = .ok (.aaload, 1) := by decide +kernel
theorem dX1_tellStep_11 : decode cX1_tellStep 11 = .ok (.iload_n 2, 1) := by decide +kernel
theorem dX1_tellStep_12 : decode cX1_tellStep 12 = .ok (.iload_n 3, 1) := by decide +kernel
theorem dX1_tellStep_13 : decode cX1_tellStep 13 = .ok (.iload 4, 2) := by decide +kernel
theorem dX1_tellStep_15 : decode cX1_tellStep 15 = .ok (.iload 5, 2) := by decide +kernel
theorem dX1_tellStep_17 : decode cX1_tellStep 17 = .ok (.invokevirtual 98, 3) := by decide +kernel
theorem dX1_tellStep_20 : decode cX1_tellStep 20 = .ok (.ireturn, 1) := by decide +kernel
theorem dX1_dropSteps_0 : decode cX1_dropSteps 0 = .ok (.aload_n 0, 1) := by decide +kernel
theorem dX1_dropSteps_1 : decode cX1_dropSteps 1 = .ok (.getfield 25, 3) := by decide +kernel
theorem dX1_dropSteps_4 : decode cX1_dropSteps 4 = .ok (.iload_n 1, 1) := by decide +kernel
theorem dX1_dropSteps_5 : decode cX1_dropSteps 5 = .ok (.aaload, 1) := by decide +kernel
theorem dX1_dropSteps_6 : decode cX1_dropSteps 6 = .ok (.getfield 95, 3) := by decide +kernel
theorem dX1_dropSteps_9 : decode cX1_dropSteps 9 = .ok (.istore_n 2, 1) := by decide +kernel
theorem dX1_dropSteps_10 : decode cX1_dropSteps 10 = .ok (.aload_n 0, 1) := by decide +kernel
theorem dX1_dropSteps_11 : decode cX1_dropSteps 11 = .ok (.getfield 25, 3) := by decide +kernel
theorem dX1_dropSteps_14 : decode cX1_dropSteps 14 = .ok (.iload_n 1, 1) := by decide +kernel
theorem dX1_dropSteps_15 : decode cX1_dropSteps 15 = .ok (.aaload, 1) := by decide +kernel
theorem dX1_dropSteps_16 : decode cX1_dropSteps 16 = .ok (.iconst 0, 1) := by decide +kernel
theorem dX1_dropSteps_17 : decode cX1_dropSteps 17 = .ok (.putfield 95, 3) := by decide +kernel
theorem dX1_dropSteps_20 : decode cX1_dropSteps 20 = .ok (.aload_n 0, 1) := by decide +kernel
theorem dX1_dropSteps_21 : decode cX1_dropSteps 21 = .ok (.iconst 0, 1) := by decide +kernel
theorem dX1_dropSteps_22 : decode cX1_dropSteps 22 = .ok (.putfield 48, 3) := by decide +kernel
theorem dX1_dropSteps_25 : decode cX1_dropSteps 25 = .ok (.iload_n 2, 1) := by decide +kernel
theorem dX1_dropSteps_26 : decode cX1_dropSteps 26 = .ok (.ireturn, 1) := by decide +kernel
theorem dX1_bitsOfAll_0 : decode cX1_bitsOfAll 0 = .ok (.iconst 0, 1) := by decide +kernel
theorem dX1_bitsOfAll_1 : decode cX1_bitsOfAll 1 = .ok (.istore_n 2, 1) := by decide +kernel
theorem dX1_bitsOfAll_2 : decode cX1_bitsOfAll 2 = .ok (.iconst 0, 1) := by decide +kernel
theorem dX1_bitsOfAll_3 : decode cX1_bitsOfAll 3 = .ok (.istore_n 3, 1) := by decide +kernel
theorem dX1_bitsOfAll_4 : decode cX1_bitsOfAll 4 = .ok (.iload_n 3, 1) := by decide +kernel
theorem dX1_bitsOfAll_5 : decode cX1_bitsOfAll 5 = .ok (.aload_n 0, 1) := by decide +kernel
theorem dX1_bitsOfAll_6 : decode cX1_bitsOfAll 6 = .ok (.getfield 33, 3) := by decide +kernel
theorem dX1_bitsOfAll_9 : decode cX1_bitsOfAll 9 = .ok (.if_icmp .ge 34, 3) := by decide +kernel
theorem dX1_bitsOfAll_12 : decode cX1_bitsOfAll 12 = .ok (.aload_n 0, 1) := by decide +kernel
theorem dX1_bitsOfAll_13 : decode cX1_bitsOfAll 13 = .ok (.getfield 11, 3) := by decide +kernel
theorem dX1_bitsOfAll_16 : decode cX1_bitsOfAll 16 = .ok (.iload_n 3, 1) := by decide +kernel
theorem dX1_bitsOfAll_17 : decode cX1_bitsOfAll 17 = .ok (.aaload, 1) := by decide +kernel
theorem dX1_bitsOfAll_18 : decode cX1_bitsOfAll 18 = .ok (.getfield 58, 3) := by decide +kernel
theorem dX1_bitsOfAll_21 : decode cX1_bitsOfAll 21 = .ok (.iload_n 1, 1) := by decide +kernel
theorem dX1_bitsOfAll_22 : decode cX1_bitsOfAll 22 = .ok (.if_icmp .ne 15, 3) := by decide +kernel
theorem dX1_bitsOfAll_25 : decode cX1_bitsOfAll 25 = .ok (.iload_n 2, 1) := by decide +kernel
theorem dX1_bitsOfAll_26 : decode cX1_bitsOfAll 26 = .ok (.aload_n 0, 1) := by decide +kernel
theorem dX1_bitsOfAll_27 : decode cX1_bitsOfAll 27 = .ok (.getfield 11, 3) := by decide +kernel
theorem dX1_bitsOfAll_30 : decode cX1_bitsOfAll 30 = .ok (.iload_n 3, 1) := by decide +kernel
theorem dX1_bitsOfAll_31 : decode cX1_bitsOfAll 31 = .ok (.aaload, 1) := by decide +kernel
theorem dX1_bitsOfAll_32 : decode cX1_bitsOfAll 32 = .ok (.getfield 76, 3) := by decide +kernel
theorem dX1_bitsOfAll_35 : decode cX1_bitsOfAll 35 = .ok (.ior, 1) := by decide +kernel
theorem dX1_bitsOfAll_36 : decode cX1_bitsOfAll 36 = .ok (.istore_n 2, 1) := by decide +kernel
theorem dX1_bitsOfAll_37 : decode cX1_bitsOfAll 37 = .ok (.iinc 3 1, 3) := by decide +kernel
theorem dX1_bitsOfAll_40 : decode cX1_bitsOfAll 40 = .ok (.goto (-36), 3) := by decide +kernel
theorem dX1_bitsOfAll_43 : decode cX1_bitsOfAll 43 = .ok (.iload_n 2, 1) := by decide +kernel
theorem dX1_bitsOfAll_44 : decode cX1_bitsOfAll 44 = .ok (.ireturn, 1) := by decide +kernel
theorem dX6_isKept_0 : decode cX6_isKept 0 = .ok (.aload_n 0, 1) := by decide +kernel
theorem dX6_isKept_1 : decode cX6_isKept 1 = .ok (.getfield 16, 3) := by decide +kernel
theorem dX6_isKept_4 : decode cX6_isKept 4 = .ok (.ifCond .eq 11, 3) := by decide +kernel
theorem dX6_isKept_7 : decode cX6_isKept 7 = .ok (.aload_n 0, 1) := by decide +kernel
theorem dX6_isKept_8 : decode cX6_isKept 8 = .ok (.getfield 16, 3) := by decide +kernel
theorem dX6_isKept_11 : decode cX6_isKept 11 = .ok (.iconst 5, 1) := by decide +kernel
theorem dX6_isKept_12 : decode cX6_isKept 12 = .ok (.if_icmp .ne 7, 3) := by decide +kernel
theorem dX6_isKept_15 : decode cX6_isKept 15 = .ok (.iconst 1, 1) := by decide +kernel
theorem dX6_isKept_16 : decode cX6_isKept 16 = .ok (.goto 4, 3) := by decide +kernel
theorem dX6_isKept_19 : decode cX6_isKept 19 = .ok (.iconst 0, 1) := by decide +kernel
theorem dX6_isKept_20 : decode cX6_isKept 20 = .ok (.ireturn, 1) := by decide +kernel
theorem dX1_bitsOfKept_0 : decode cX1_bitsOfKept 0 = .ok (.iconst 0, 1) := by decide +kernel
theorem dX1_bitsOfKept_1 : decode cX1_bitsOfKept 1 = .ok (.istore_n 2, 1) := by decide +kernel
theorem dX1_bitsOfKept_2 : decode cX1_bitsOfKept 2 = .ok (.iconst 0, 1) := by decide +kernel
theorem dX1_bitsOfKept_3 : decode cX1_bitsOfKept 3 = .ok (.istore_n 3, 1) := by decide +kernel
theorem dX1_bitsOfKept_4 : decode cX1_bitsOfKept 4 = .ok (.iload_n 3, 1) := by decide +kernel
theorem dX1_bitsOfKept_5 : decode cX1_bitsOfKept 5 = .ok (.aload_n 0, 1) := by decide +kernel
theorem dX1_bitsOfKept_6 : decode cX1_bitsOfKept 6 = .ok (.getfield 33, 3) := by decide +kernel
theorem dX1_bitsOfKept_9 : decode cX1_bitsOfKept 9 = .ok (.if_icmp .ge 46, 3) := by decide +kernel
theorem dX1_bitsOfKept_12 : decode cX1_bitsOfKept 12 = .ok (.aload_n 0, 1) := by decide +kernel
theorem dX1_bitsOfKept_13 : decode cX1_bitsOfKept 13 = .ok (.getfield 11, 3) := by decide +kernel
theorem dX1_bitsOfKept_16 : decode cX1_bitsOfKept 16 = .ok (.iload_n 3, 1) := by decide +kernel
theorem dX1_bitsOfKept_17 : decode cX1_bitsOfKept 17 = .ok (.aaload, 1) := by decide +kernel
theorem dX1_bitsOfKept_18 : decode cX1_bitsOfKept 18 = .ok (.getfield 58, 3) := by decide +kernel
theorem dX1_bitsOfKept_21 : decode cX1_bitsOfKept 21 = .ok (.iload_n 1, 1) := by decide +kernel
theorem dX1_bitsOfKept_22 : decode cX1_bitsOfKept 22 = .ok (.if_icmp .ne 27, 3) := by decide +kernel
theorem dX1_bitsOfKept_25 : decode cX1_bitsOfKept 25 = .ok (.aload_n 0, 1) := by decide +kernel
theorem dX1_bitsOfKept_26 : decode cX1_bitsOfKept 26 = .ok (.getfield 11, 3) := by decide +kernel
theorem dX1_bitsOfKept_29 : decode cX1_bitsOfKept 29 = .ok (.iload_n 3, 1) := by decide +kernel
theorem dX1_bitsOfKept_30 : decode cX1_bitsOfKept 30 = .ok (.aaload, 1) := by decide +kernel
theorem dX1_bitsOfKept_31 : decode cX1_bitsOfKept 31 = .ok (.invokevirtual 102, 3) := by decide +kernel
theorem dX1_bitsOfKept_34 : decode cX1_bitsOfKept 34 = .ok (.ifCond .eq 15, 3) := by decide +kernel
theorem dX1_bitsOfKept_37 : decode cX1_bitsOfKept 37 = .ok (.iload_n 2, 1) := by decide +kernel
theorem dX1_bitsOfKept_38 : decode cX1_bitsOfKept 38 = .ok (.aload_n 0, 1) := by decide +kernel
theorem dX1_bitsOfKept_39 : decode cX1_bitsOfKept 39 = .ok (.getfield 11, 3) := by decide +kernel
theorem dX1_bitsOfKept_42 : decode cX1_bitsOfKept 42 = .ok (.iload_n 3, 1) := by decide +kernel
theorem dX1_bitsOfKept_43 : decode cX1_bitsOfKept 43 = .ok (.aaload, 1) := by decide +kernel
theorem dX1_bitsOfKept_44 : decode cX1_bitsOfKept 44 = .ok (.getfield 76, 3) := by decide +kernel
theorem dX1_bitsOfKept_47 : decode cX1_bitsOfKept 47 = .ok (.ior, 1) := by decide +kernel
theorem dX1_bitsOfKept_48 : decode cX1_bitsOfKept 48 = .ok (.istore_n 2, 1) := by decide +kernel
theorem dX1_bitsOfKept_49 : decode cX1_bitsOfKept 49 = .ok (.iinc 3 1, 3) := by decide +kernel
theorem dX1_bitsOfKept_52 : decode cX1_bitsOfKept 52 = .ok (.goto (-48), 3) := by decide +kernel
theorem dX1_bitsOfKept_55 : decode cX1_bitsOfKept 55 = .ok (.iload_n 2, 1) := by decide +kernel
theorem dX1_bitsOfKept_56 : decode cX1_bitsOfKept 56 = .ok (.ireturn, 1) := by decide +kernel
theorem dX1_isShadowed_0 : decode cX1_isShadowed 0 = .ok (.iconst 0, 1) := by decide +kernel
theorem dX1_isShadowed_1 : decode cX1_isShadowed 1 = .ok (.istore_n 2, 1) := by decide +kernel
theorem dX1_isShadowed_2 : decode cX1_isShadowed 2 = .ok (.iload_n 2, 1) := by decide +kernel
theorem dX1_isShadowed_3 : decode cX1_isShadowed 3 = .ok (.aload_n 0, 1) := by decide +kernel
theorem dX1_isShadowed_4 : decode cX1_isShadowed 4 = .ok (.getfield 33, 3) := by decide +kernel
theorem dX1_isShadowed_7 : decode cX1_isShadowed 7 = .ok (.if_icmp .ge 42, 3) := by decide +kernel
theorem dX1_isShadowed_10 : decode cX1_isShadowed 10 = .ok (.aload_n 0, 1) := by decide +kernel
theorem dX1_isShadowed_11 : decode cX1_isShadowed 11 = .ok (.getfield 11, 3) := by decide +kernel
theorem dX1_isShadowed_14 : decode cX1_isShadowed 14 = .ok (.iload_n 2, 1) := by decide +kernel
theorem dX1_isShadowed_15 : decode cX1_isShadowed 15 = .ok (.aaload, 1) := by decide +kernel
theorem dX1_isShadowed_16 : decode cX1_isShadowed 16 = .ok (.astore_n 3, 1) := by decide +kernel
theorem dX1_isShadowed_17 : decode cX1_isShadowed 17 = .ok (.aload_n 3, 1) := by decide +kernel
theorem dX1_isShadowed_18 : decode cX1_isShadowed 18 = .ok (.getfield 58, 3) := by decide +kernel
theorem dX1_isShadowed_21 : decode cX1_isShadowed 21 = .ok (.iload_n 1, 1) := by decide +kernel
theorem dX1_isShadowed_22 : decode cX1_isShadowed 22 = .ok (.if_icmp .ne 21, 3) := by decide +kernel
theorem dX1_isShadowed_25 : decode cX1_isShadowed 25 = .ok (.aload_n 3, 1) := by decide +kernel
theorem dX1_isShadowed_26 : decode cX1_isShadowed 26 = .ok (.getfield 67, 3) := by decide +kernel
theorem dX1_isShadowed_29 : decode cX1_isShadowed 29 = .ok (.iconst 3, 1) := by decide +kernel
theorem dX1_isShadowed_30 : decode cX1_isShadowed 30 = .ok (.if_icmp .eq 11, 3) := by decide +kernel
theorem dX1_isShadowed_33 : decode cX1_isShadowed 33 = .ok (.aload_n 3, 1) := by decide +kernel
theorem dX1_isShadowed_34 : decode cX1_isShadowed 34 = .ok (.getfield 67, 3) := by decide +kernel
theorem dX1_isShadowed_37 : decode cX1_isShadowed 37 = .ok (.iconst 5, 1) := by decide +kernel
theorem dX1_isShadowed_38 : decode cX1_isShadowed 38 = .ok (.if_icmp .ne 5, 3) := by decide +kernel
theorem dX1_isShadowed_41 : decode cX1_isShadowed 41 = .ok (.iconst 1, 1) := by decide +kernel
theorem dX1_isShadowed_42 : decode cX1_isShadowed 42 = .ok (.ireturn, 1) := by decide +kernel
theorem dX1_isShadowed_43 : decode cX1_isShadowed 43 = .ok (.iinc 2 1, 3) := by decide +kernel
theorem dX1_isShadowed_46 : decode cX1_isShadowed 46 = .ok (.goto (-44), 3) := by decide +kernel
theorem dX1_isShadowed_49 : decode cX1_isShadowed 49 = .ok (.iconst 0, 1) := by decide +kernel
theorem dX1_isShadowed_50 : decode cX1_isShadowed 50 = .ok (.ireturn, 1) := by decide +kernel
theorem dX11_isIn_0 : decode cX11_isIn 0 = .ok (.iload_n 0, 1) := by decide +kernel
theorem dX11_isIn_1 : decode cX11_isIn 1 = .ok (.iload_n 1, 1) := by decide +kernel
theorem dX11_isIn_2 : decode cX11_isIn 2 = .ok (.ishr, 1) := by decide +kernel
theorem dX11_isIn_3 : decode cX11_isIn 3 = .ok (.iconst 1, 1) := by decide +kernel
theorem dX11_isIn_4 : decode cX11_isIn 4 = .ok (.iand, 1) := by decide +kernel
theorem dX11_isIn_5 : decode cX11_isIn 5 = .ok (.ifCond .eq 7, 3) := by decide +kernel
theorem dX11_isIn_8 : decode cX11_isIn 8 = .ok (.iconst 1, 1) := by decide +kernel
theorem dX11_isIn_9 : decode cX11_isIn 9 = .ok (.goto 4, 3) := by decide +kernel
theorem dX11_isIn_12 : decode cX11_isIn 12 = .ok (.iconst 0, 1) := by decide +kernel
theorem dX11_isIn_13 : decode cX11_isIn 13 = .ok (.ireturn, 1) := by decide +kernel
theorem dX7_binds_0 : decode cX7_binds 0 = .ok (.aload_n 0, 1) := by decide +kernel
theorem dX7_binds_1 : decode cX7_binds 1 = .ok (.getfield 7, 3) := by decide +kernel
theorem dX7_binds_4 : decode cX7_binds 4 = .ok (.iload_n 1, 1) := by decide +kernel
theorem dX7_binds_5 : decode cX7_binds 5 = .ok (.if_icmp .ne 14, 3) := by decide +kernel
theorem dX7_binds_8 : decode cX7_binds 8 = .ok (.iload_n 2, 1) := by decide +kernel
theorem dX7_binds_9 : decode cX7_binds 9 = .ok (.aload_n 0, 1) := by decide +kernel
theorem dX7_binds_10 : decode cX7_binds 10 = .ok (.getfield 13, 3) := by decide +kernel
theorem dX7_binds_13 : decode cX7_binds 13 = .ok (.invokestatic 16, 3) := by decide +kernel
theorem dX7_binds_16 : decode cX7_binds 16 = .ok (.ifCond .ne 22, 3) := by decide +kernel
theorem dX7_binds_19 : decode cX7_binds 19 = .ok (.aload_n 0, 1) := by decide +kernel
theorem dX7_binds_20 : decode cX7_binds 20 = .ok (.getfield 13, 3) := by decide +kernel
theorem dX7_binds_23 : decode cX7_binds 23 = .ok (.iload_n 1, 1) := by decide +kernel
theorem dX7_binds_24 : decode cX7_binds 24 = .ok (.if_icmp .ne 18, 3) := by decide +kernel
theorem dX7_binds_27 : decode cX7_binds 27 = .ok (.iload_n 2, 1) := by decide +kernel
theorem dX7_binds_28 : decode cX7_binds 28 = .ok (.aload_n 0, 1) := by decide +kernel
theorem dX7_binds_29 : decode cX7_binds 29 = .ok (.getfield 7, 3) := by decide +kernel
theorem dX7_binds_32 : decode cX7_binds 32 = .ok (.invokestatic 16, 3) := by decide +kernel
theorem dX7_binds_35 : decode cX7_binds 35 = .ok (.ifCond .eq 7, 3) := by decide +kernel
theorem dX7_binds_38 : decode cX7_binds 38 = .ok (.iconst 1, 1) := by decide +kernel
theorem dX7_binds_39 : decode cX7_binds 39 = .ok (.goto 4, 3) := by decide +kernel
theorem dX7_binds_42 : decode cX7_binds 42 = .ok (.iconst 0, 1) := by decide +kernel
theorem dX7_binds_43 : decode cX7_binds 43 = .ok (.ireturn, 1) := by decide +kernel
theorem dX1_isBound_0 : decode cX1_isBound 0 = .ok (.iconst 0, 1) := by decide +kernel
theorem dX1_isBound_1 : decode cX1_isBound 1 = .ok (.istore_n 3, 1) := by decide +kernel
theorem dX1_isBound_2 : decode cX1_isBound 2 = .ok (.iload_n 3, 1) := by decide +kernel
theorem dX1_isBound_3 : decode cX1_isBound 3 = .ok (.aload_n 0, 1) := by decide +kernel
theorem dX1_isBound_4 : decode cX1_isBound 4 = .ok (.getfield 36, 3) := by decide +kernel
theorem dX1_isBound_7 : decode cX1_isBound 7 = .ok (.if_icmp .ge 25, 3) := by decide +kernel
theorem dX1_isBound_10 : decode cX1_isBound 10 = .ok (.aload_n 0, 1) := by decide +kernel
theorem dX1_isBound_11 : decode cX1_isBound 11 = .ok (.getfield 19, 3) := by decide +kernel
theorem dX1_isBound_14 : decode cX1_isBound 14 = .ok (.iload_n 3, 1) := by decide +kernel
theorem dX1_isBound_15 : decode cX1_isBound 15 = .ok (.aaload, 1) := by decide +kernel
theorem dX1_isBound_16 : decode cX1_isBound 16 = .ok (.iload_n 1, 1) := by decide +kernel
theorem dX1_isBound_17 : decode cX1_isBound 17 = .ok (.iload_n 2, 1) := by decide +kernel
theorem dX1_isBound_18 : decode cX1_isBound 18 = .ok (.invokevirtual 106, 3) := by decide +kernel
theorem dX1_isBound_21 : decode cX1_isBound 21 = .ok (.ifCond .eq 5, 3) := by decide +kernel
theorem dX1_isBound_24 : decode cX1_isBound 24 = .ok (.iconst 1, 1) := by decide +kernel
theorem dX1_isBound_25 : decode cX1_isBound 25 = .ok (.ireturn, 1) := by decide +kernel
theorem dX1_isBound_26 : decode cX1_isBound 26 = .ok (.iinc 3 1, 3) := by decide +kernel
theorem dX1_isBound_29 : decode cX1_isBound 29 = .ok (.goto (-27), 3) := by decide +kernel
theorem dX1_isBound_32 : decode cX1_isBound 32 = .ok (.iconst 0, 1) := by decide +kernel
theorem dX1_isBound_33 : decode cX1_isBound 33 = .ok (.ireturn, 1) := by decide +kernel
theorem dX3_joinsGroup_0 : decode cX3_joinsGroup 0 = .ok (.aload_n 0, 1) := by decide +kernel
theorem dX3_joinsGroup_1 : decode cX3_joinsGroup 1 = .ok (.getfield 19, 3) := by decide +kernel
theorem dX3_joinsGroup_4 : decode cX3_joinsGroup 4 = .ok (.ifCond .eq 46, 3) := by decide +kernel
theorem dX3_joinsGroup_7 : decode cX3_joinsGroup 7 = .ok (.aload_n 2, 1) := by decide +kernel
theorem dX3_joinsGroup_8 : decode cX3_joinsGroup 8 = .ok (.getfield 61, 3) := by decide +kernel
theorem dX3_joinsGroup_11 : decode cX3_joinsGroup 11 = .ok (.iload_n 1, 1) := by decide +kernel
theorem dX3_joinsGroup_12 : decode cX3_joinsGroup 12 = .ok (.aaload, 1) := by decide +kernel
theorem dX3_joinsGroup_13 : decode cX3_joinsGroup 13 = .ok (.getfield 67, 3) := by decide +kernel
theorem dX3_joinsGroup_16 : decode cX3_joinsGroup 16 = .ok (.aload_n 0, 1) := by decide +kernel
theorem dX3_joinsGroup_17 : decode cX3_joinsGroup 17 = .ok (.getfield 22, 3) := by decide +kernel
theorem dX3_joinsGroup_20 : decode cX3_joinsGroup 20 = .ok (.if_icmp .ne 30, 3) := by decide +kernel
theorem dX3_joinsGroup_23 : decode cX3_joinsGroup 23 = .ok (.aload_n 0, 1) := by decide +kernel
theorem dX3_joinsGroup_24 : decode cX3_joinsGroup 24 = .ok (.getfield 19, 3) := by decide +kernel
theorem dX3_joinsGroup_27 : decode cX3_joinsGroup 27 = .ok (.iload_n 1, 1) := by decide +kernel
theorem dX3_joinsGroup_28 : decode cX3_joinsGroup 28 = .ok (.invokestatic 72, 3) := by decide +kernel
theorem dX3_joinsGroup_31 : decode cX3_joinsGroup 31 = .ok (.ifCond .ne 19, 3) := by decide +kernel
theorem dX3_joinsGroup_34 : decode cX3_joinsGroup 34 = .ok (.aload_n 2, 1) := by decide +kernel
theorem dX3_joinsGroup_35 : decode cX3_joinsGroup 35 = .ok (.iload_n 1, 1) := by decide +kernel
theorem dX3_joinsGroup_36 : decode cX3_joinsGroup 36 = .ok (.aload_n 0, 1) := by decide +kernel
theorem dX3_joinsGroup_37 : decode cX3_joinsGroup 37 = .ok (.getfield 19, 3) := by decide +kernel
theorem dX3_joinsGroup_40 : decode cX3_joinsGroup 40 = .ok (.invokevirtual 76, 3) := by decide +kernel
theorem dX3_joinsGroup_43 : decode cX3_joinsGroup 43 = .ok (.ifCond .ne 7, 3) := by decide +kernel
theorem dX3_joinsGroup_46 : decode cX3_joinsGroup 46 = .ok (.iconst 1, 1) := by decide +kernel
theorem dX3_joinsGroup_47 : decode cX3_joinsGroup 47 = .ok (.goto 4, 3) := by decide +kernel
theorem dX3_joinsGroup_50 : decode cX3_joinsGroup 50 = .ok (.iconst 0, 1) := by decide +kernel
theorem dX3_joinsGroup_51 : decode cX3_joinsGroup 51 = .ok (.ireturn, 1) := by decide +kernel
theorem dX3_add_0 : decode cX3_add 0 = .ok (.aload_n 0, 1) := by decide +kernel
theorem dX3_add_1 : decode cX3_add 1 = .ok (.getfield 15, 3) := by decide +kernel
theorem dX3_add_4 : decode cX3_add 4 = .ok (.bipush 48, 2) := by decide +kernel
theorem dX3_add_6 : decode cX3_add 6 = .ok (.if_icmp .lt 4, 3) := by decide +kernel
theorem dX3_add_9 : decode cX3_add 9 = .ok (.return_, 1) := by decide +kernel
theorem dX3_add_10 : decode cX3_add 10 = .ok (.aload_n 0, 1) := by decide +kernel
theorem dX3_add_11 : decode cX3_add 11 = .ok (.getfield 15, 3) := by decide +kernel
theorem dX3_add_14 : decode cX3_add 14 = .ok (.bipush 6, 2) := by decide +kernel
theorem dX3_add_16 : decode cX3_add 16 = .ok (.imul, 1) := by decide +kernel
theorem dX3_add_17 : decode cX3_add 17 = .ok (.istore 7, 2) := by decide +kernel
theorem dX3_add_19 : decode cX3_add 19 = .ok (.aload_n 0, 1) := by decide +kernel
theorem dX3_add_20 : decode cX3_add 20 = .ok (.getfield 11, 3) := by decide +kernel
theorem dX3_add_23 : decode cX3_add 23 = .ok (.iload 7, 2) := by decide +kernel
theorem dX3_add_25 : decode cX3_add 25 = .ok (.iconst 0, 1) := by decide +kernel
theorem dX3_add_26 : decode cX3_add 26 = .ok (.iadd, 1) := by decide +kernel
theorem dX3_add_27 : decode cX3_add 27 = .ok (.iload_n 1, 1) := by decide +kernel
theorem dX3_add_28 : decode cX3_add 28 = .ok (.iastore, 1) := by decide +kernel
theorem dX3_add_29 : decode cX3_add 29 = .ok (.aload_n 0, 1) := by decide +kernel
theorem dX3_add_30 : decode cX3_add 30 = .ok (.getfield 11, 3) := by decide +kernel
theorem dX3_add_33 : decode cX3_add 33 = .ok (.iload 7, 2) := by decide +kernel
theorem dX3_add_35 : decode cX3_add 35 = .ok (.iconst 1, 1) := by decide +kernel
theorem dX3_add_36 : decode cX3_add 36 = .ok (.iadd, 1) := by decide +kernel
theorem dX3_add_37 : decode cX3_add 37 = .ok (.iload_n 2, 1) := by decide +kernel
theorem dX3_add_38 : decode cX3_add 38 = .ok (.iastore, 1) := by decide +kernel
theorem dX3_add_39 : decode cX3_add 39 = .ok (.aload_n 0, 1) := by decide +kernel
theorem dX3_add_40 : decode cX3_add 40 = .ok (.getfield 11, 3) := by decide +kernel
theorem dX3_add_43 : decode cX3_add 43 = .ok (.iload 7, 2) := by decide +kernel
theorem dX3_add_45 : decode cX3_add 45 = .ok (.iconst 2, 1) := by decide +kernel
theorem dX3_add_46 : decode cX3_add 46 = .ok (.iadd, 1) := by decide +kernel
theorem dX3_add_47 : decode cX3_add 47 = .ok (.iload_n 3, 1) := by decide +kernel
theorem dX3_add_48 : decode cX3_add 48 = .ok (.iastore, 1) := by decide +kernel
theorem dX3_add_49 : decode cX3_add 49 = .ok (.aload_n 0, 1) := by decide +kernel
theorem dX3_add_50 : decode cX3_add 50 = .ok (.getfield 11, 3) := by decide +kernel
theorem dX3_add_53 : decode cX3_add 53 = .ok (.iload 7, 2) := by decide +kernel
theorem dX3_add_55 : decode cX3_add 55 = .ok (.iconst 3, 1) := by decide +kernel
theorem dX3_add_56 : decode cX3_add 56 = .ok (.iadd, 1) := by decide +kernel
theorem dX3_add_57 : decode cX3_add 57 = .ok (.iload 4, 2) := by decide +kernel
theorem dX3_add_59 : decode cX3_add 59 = .ok (.iastore, 1) := by decide +kernel
theorem dX3_add_60 : decode cX3_add 60 = .ok (.aload_n 0, 1) := by decide +kernel
theorem dX3_add_61 : decode cX3_add 61 = .ok (.getfield 11, 3) := by decide +kernel
theorem dX3_add_64 : decode cX3_add 64 = .ok (.iload 7, 2) := by decide +kernel
theorem dX3_add_66 : decode cX3_add 66 = .ok (.iconst 4, 1) := by decide +kernel
theorem dX3_add_67 : decode cX3_add 67 = .ok (.iadd, 1) := by decide +kernel
theorem dX3_add_68 : decode cX3_add 68 = .ok (.iload 5, 2) := by decide +kernel
theorem dX3_add_70 : decode cX3_add 70 = .ok (.iastore, 1) := by decide +kernel
theorem dX3_add_71 : decode cX3_add 71 = .ok (.aload_n 0, 1) := by decide +kernel
theorem dX3_add_72 : decode cX3_add 72 = .ok (.getfield 11, 3) := by decide +kernel
theorem dX3_add_75 : decode cX3_add 75 = .ok (.iload 7, 2) := by decide +kernel
theorem dX3_add_77 : decode cX3_add 77 = .ok (.iconst 5, 1) := by decide +kernel
theorem dX3_add_78 : decode cX3_add 78 = .ok (.iadd, 1) := by decide +kernel
theorem dX3_add_79 : decode cX3_add 79 = .ok (.iload 6, 2) := by decide +kernel
theorem dX3_add_81 : decode cX3_add 81 = .ok (.iastore, 1) := by decide +kernel
theorem dX3_add_82 : decode cX3_add 82 = .ok (.aload_n 0, 1) := by decide +kernel
theorem dX3_add_83 : decode cX3_add 83 = .ok (.dup, 1) := by decide +kernel
theorem dX3_add_84 : decode cX3_add 84 = .ok (.getfield 15, 3) := by decide +kernel
theorem dX3_add_87 : decode cX3_add 87 = .ok (.iconst 1, 1) := by decide +kernel
theorem dX3_add_88 : decode cX3_add 88 = .ok (.iadd, 1) := by decide +kernel
theorem dX3_add_89 : decode cX3_add 89 = .ok (.putfield 15, 3) := by decide +kernel
theorem dX3_add_92 : decode cX3_add 92 = .ok (.return_, 1) := by decide +kernel
theorem dX3_addReadAndWrite_0 : decode cX3_addReadAndWrite 0 = .ok (.iload_n 3, 1) := by decide +kernel
theorem dX3_addReadAndWrite_1 : decode cX3_addReadAndWrite 1 = .ok (.ifCond .eq 18, 3) := by decide +kernel
theorem dX3_addReadAndWrite_4 : decode cX3_addReadAndWrite 4 = .ok (.aload_n 0, 1) := by decide +kernel
theorem dX3_addReadAndWrite_5 : decode cX3_addReadAndWrite 5 = .ok (.iconst 5, 1) := by decide +kernel
theorem dX3_addReadAndWrite_6 : decode cX3_addReadAndWrite 6 = .ok (.bipush (-2), 2) := by decide +kernel
theorem dX3_addReadAndWrite_8 : decode cX3_addReadAndWrite 8 = .ok (.bipush (-2), 2) := by decide +kernel
theorem dX3_addReadAndWrite_10 : decode cX3_addReadAndWrite 10 = .ok (.bipush (-2), 2) := by decide +kernel
theorem dX3_addReadAndWrite_12 : decode cX3_addReadAndWrite 12 = .ok (.bipush (-2), 2) := by decide +kernel
theorem dX3_addReadAndWrite_14 : decode cX3_addReadAndWrite 14 = .ok (.bipush (-2), 2) := by decide +kernel
theorem dX3_addReadAndWrite_16 : decode cX3_addReadAndWrite 16 = .ok (.invokevirtual 89, 3) := by decide +kernel
theorem dX3_addReadAndWrite_19 : decode cX3_addReadAndWrite 19 = .ok (.aload_n 0, 1) := by decide +kernel
theorem dX3_addReadAndWrite_20 : decode cX3_addReadAndWrite 20 = .ok (.iconst 0, 1) := by decide +kernel
theorem dX3_addReadAndWrite_21 : decode cX3_addReadAndWrite 21 = .ok (.iload_n 1, 1) := by decide +kernel
theorem dX3_addReadAndWrite_22 : decode cX3_addReadAndWrite 22 = .ok (.bipush (-2), 2) := by decide +kernel
theorem dX3_addReadAndWrite_24 : decode cX3_addReadAndWrite 24 = .ok (.bipush (-2), 2) := by decide +kernel
theorem dX3_addReadAndWrite_26 : decode cX3_addReadAndWrite 26 = .ok (.bipush (-2), 2) := by decide +kernel
theorem dX3_addReadAndWrite_28 : decode cX3_addReadAndWrite 28 = .ok (.bipush (-2), 2) := by decide +kernel
theorem dX3_addReadAndWrite_30 : decode cX3_addReadAndWrite 30 = .ok (.invokevirtual 89, 3) := by decide +kernel
theorem dX3_addReadAndWrite_33 : decode cX3_addReadAndWrite 33 = .ok (.aload_n 0, 1) := by decide +kernel
theorem dX3_addReadAndWrite_34 : decode cX3_addReadAndWrite 34 = .ok (.iconst 1, 1) := by decide +kernel
theorem dX3_addReadAndWrite_35 : decode cX3_addReadAndWrite 35 = .ok (.iload_n 1, 1) := by decide +kernel
theorem dX3_addReadAndWrite_36 : decode cX3_addReadAndWrite 36 = .ok (.iconst 1, 1) := by decide +kernel
theorem dX3_addReadAndWrite_37 : decode cX3_addReadAndWrite 37 = .ok (.iload_n 2, 1) := by decide +kernel
theorem dX3_addReadAndWrite_38 : decode cX3_addReadAndWrite 38 = .ok (.aload_n 0, 1) := by decide +kernel
theorem dX3_addReadAndWrite_39 : decode cX3_addReadAndWrite 39 = .ok (.getfield 28, 3) := by decide +kernel
theorem dX3_addReadAndWrite_42 : decode cX3_addReadAndWrite 42 = .ok (.bipush (-2), 2) := by decide +kernel
theorem dX3_addReadAndWrite_44 : decode cX3_addReadAndWrite 44 = .ok (.invokevirtual 89, 3) := by decide +kernel
theorem dX3_addReadAndWrite_47 : decode cX3_addReadAndWrite 47 = .ok (.iload_n 3, 1) := by decide +kernel
theorem dX3_addReadAndWrite_48 : decode cX3_addReadAndWrite 48 = .ok (.ifCond .eq 19, 3) := by decide +kernel
theorem dX3_addReadAndWrite_51 : decode cX3_addReadAndWrite 51 = .ok (.aload_n 0, 1) := by decide +kernel
theorem dX3_addReadAndWrite_52 : decode cX3_addReadAndWrite 52 = .ok (.bipush 6, 2) := by decide +kernel
theorem dX3_addReadAndWrite_54 : decode cX3_addReadAndWrite 54 = .ok (.bipush (-2), 2) := by decide +kernel
theorem dX3_addReadAndWrite_56 : decode cX3_addReadAndWrite 56 = .ok (.bipush (-2), 2) := by decide +kernel
theorem dX3_addReadAndWrite_58 : decode cX3_addReadAndWrite 58 = .ok (.bipush (-2), 2) := by decide +kernel
theorem dX3_addReadAndWrite_60 : decode cX3_addReadAndWrite 60 = .ok (.bipush (-2), 2) := by decide +kernel
theorem dX3_addReadAndWrite_62 : decode cX3_addReadAndWrite 62 = .ok (.bipush (-2), 2) := by decide +kernel
theorem dX3_addReadAndWrite_64 : decode cX3_addReadAndWrite 64 = .ok (.invokevirtual 89, 3) := by decide +kernel
theorem dX3_addReadAndWrite_67 : decode cX3_addReadAndWrite 67 = .ok (.return_, 1) := by decide +kernel
theorem dX3_endGroup_0 : decode cX3_endGroup 0 = .ok (.aload_n 0, 1) := by decide +kernel
theorem dX3_endGroup_1 : decode cX3_endGroup 1 = .ok (.getfield 19, 3) := by decide +kernel
theorem dX3_endGroup_4 : decode cX3_endGroup 4 = .ok (.ifCond .ne 4, 3) := by decide +kernel
theorem dX3_endGroup_7 : decode cX3_endGroup 7 = .ok (.return_, 1) := by decide +kernel
theorem dX3_endGroup_8 : decode cX3_endGroup 8 = .ok (.aload_n 0, 1) := by decide +kernel
theorem dX3_endGroup_9 : decode cX3_endGroup 9 = .ok (.iconst 0, 1) := by decide +kernel
theorem dX3_endGroup_10 : decode cX3_endGroup 10 = .ok (.putfield 19, 3) := by decide +kernel
theorem dX3_endGroup_13 : decode cX3_endGroup 13 = .ok (.aload_n 0, 1) := by decide +kernel
theorem dX3_endGroup_14 : decode cX3_endGroup 14 = .ok (.getfield 22, 3) := by decide +kernel
theorem dX3_endGroup_17 : decode cX3_endGroup 17 = .ok (.istore_n 2, 1) := by decide +kernel
theorem dX3_endGroup_18 : decode cX3_endGroup 18 = .ok (.aload_n 1, 1) := by decide +kernel
theorem dX3_endGroup_19 : decode cX3_endGroup 19 = .ok (.iload_n 2, 1) := by decide +kernel
theorem dX3_endGroup_20 : decode cX3_endGroup 20 = .ok (.invokevirtual 85, 3) := by decide +kernel
theorem dX3_endGroup_23 : decode cX3_endGroup 23 = .ok (.aload_n 0, 1) := by decide +kernel
theorem dX3_endGroup_24 : decode cX3_endGroup 24 = .ok (.getfield 25, 3) := by decide +kernel
theorem dX3_endGroup_27 : decode cX3_endGroup 27 = .ok (.iconst (-1), 1) := by decide +kernel
theorem dX3_endGroup_28 : decode cX3_endGroup 28 = .ok (.ixor, 1) := by decide +kernel
theorem dX3_endGroup_29 : decode cX3_endGroup 29 = .ok (.iand, 1) := by decide +kernel
theorem dX3_endGroup_30 : decode cX3_endGroup 30 = .ok (.istore_n 3, 1) := by decide +kernel
theorem dX3_endGroup_31 : decode cX3_endGroup 31 = .ok (.iload_n 3, 1) := by decide +kernel
theorem dX3_endGroup_32 : decode cX3_endGroup 32 = .ok (.ifCond .ne 20, 3) := by decide +kernel
theorem dX3_endGroup_35 : decode cX3_endGroup 35 = .ok (.aload_n 0, 1) := by decide +kernel
theorem dX3_endGroup_36 : decode cX3_endGroup 36 = .ok (.iconst 1, 1) := by decide +kernel
theorem dX3_endGroup_37 : decode cX3_endGroup 37 = .ok (.iload_n 2, 1) := by decide +kernel
theorem dX3_endGroup_38 : decode cX3_endGroup 38 = .ok (.iconst 0, 1) := by decide +kernel
theorem dX3_endGroup_39 : decode cX3_endGroup 39 = .ok (.iconst 0, 1) := by decide +kernel
theorem dX3_endGroup_40 : decode cX3_endGroup 40 = .ok (.aload_n 0, 1) := by decide +kernel
theorem dX3_endGroup_41 : decode cX3_endGroup 41 = .ok (.getfield 28, 3) := by decide +kernel
theorem dX3_endGroup_44 : decode cX3_endGroup 44 = .ok (.bipush (-2), 2) := by decide +kernel
theorem dX3_endGroup_46 : decode cX3_endGroup 46 = .ok (.invokevirtual 89, 3) := by decide +kernel
theorem dX3_endGroup_49 : decode cX3_endGroup 49 = .ok (.goto 54, 3) := by decide +kernel
theorem dX3_endGroup_52 : decode cX3_endGroup 52 = .ok (.aload_n 1, 1) := by decide +kernel
theorem dX3_endGroup_53 : decode cX3_endGroup 53 = .ok (.iload_n 2, 1) := by decide +kernel
theorem dX3_endGroup_54 : decode cX3_endGroup 54 = .ok (.invokevirtual 93, 3) := by decide +kernel
theorem dX3_endGroup_57 : decode cX3_endGroup 57 = .ok (.ifCond .eq 20, 3) := by decide +kernel
theorem dX3_endGroup_60 : decode cX3_endGroup 60 = .ok (.aload_n 0, 1) := by decide +kernel
theorem dX3_endGroup_61 : decode cX3_endGroup 61 = .ok (.iconst 1, 1) := by decide +kernel
theorem dX3_endGroup_62 : decode cX3_endGroup 62 = .ok (.iload_n 2, 1) := by decide +kernel
theorem dX3_endGroup_63 : decode cX3_endGroup 63 = .ok (.iconst 2, 1) := by decide +kernel
theorem dX3_endGroup_64 : decode cX3_endGroup 64 = .ok (.iload_n 3, 1) := by decide +kernel
theorem dX3_endGroup_65 : decode cX3_endGroup 65 = .ok (.aload_n 0, 1) := by decide +kernel
theorem dX3_endGroup_66 : decode cX3_endGroup 66 = .ok (.getfield 28, 3) := by decide +kernel
theorem dX3_endGroup_69 : decode cX3_endGroup 69 = .ok (.bipush (-2), 2) := by decide +kernel
theorem dX3_endGroup_71 : decode cX3_endGroup 71 = .ok (.invokevirtual 89, 3) := by decide +kernel
theorem dX3_endGroup_74 : decode cX3_endGroup 74 = .ok (.goto 29, 3) := by decide +kernel
theorem dX3_endGroup_77 : decode cX3_endGroup 77 = .ok (.aload_n 0, 1) := by decide +kernel
theorem dX3_endGroup_78 : decode cX3_endGroup 78 = .ok (.iload_n 2, 1) := by decide +kernel
theorem dX3_endGroup_79 : decode cX3_endGroup 79 = .ok (.iload_n 3, 1) := by decide +kernel
theorem dX3_endGroup_80 : decode cX3_endGroup 80 = .ok (.aload_n 1, 1) := by decide +kernel
theorem dX3_endGroup_81 : decode cX3_endGroup 81 = .ok (.getfield 97, 3) := by decide +kernel
theorem dX3_endGroup_84 : decode cX3_endGroup 84 = .ok (.iconst 1, 1) := by decide +kernel
theorem dX3_endGroup_85 : decode cX3_endGroup 85 = .ok (.if_icmp .ne 14, 3) := by decide +kernel
theorem dX3_endGroup_88 : decode cX3_endGroup 88 = .ok (.aload_n 1, 1) := by decide +kernel
theorem dX3_endGroup_89 : decode cX3_endGroup 89 = .ok (.invokevirtual 100, 3) := by decide +kernel
theorem dX3_endGroup_92 : decode cX3_endGroup 92 = .ok (.ifCond .eq 7, 3) := by decide +kernel
theorem dX3_endGroup_95 : decode cX3_endGroup 95 = .ok (.iconst 1, 1) := by decide +kernel
theorem dX3_endGroup_96 : decode cX3_endGroup 96 = .ok (.goto 4, 3) := by decide +kernel
theorem dX3_endGroup_99 : decode cX3_endGroup 99 = .ok (.iconst 0, 1) := by decide +kernel
theorem dX3_endGroup_100 : decode cX3_endGroup 100 = .ok (.invokevirtual 104, 3) := by decide +kernel
theorem dX3_endGroup_103 : decode cX3_endGroup 103 = .ok (.return_, 1) := by decide +kernel
theorem dX3_join_0 : decode cX3_join 0 = .ok (.aload_n 3, 1) := by decide +kernel
theorem dX3_join_1 : decode cX3_join 1 = .ok (.getfield 61, 3) := by decide +kernel
theorem dX3_join_4 : decode cX3_join 4 = .ok (.iload_n 1, 1) := by decide +kernel
theorem dX3_join_5 : decode cX3_join 5 = .ok (.aaload, 1) := by decide +kernel
theorem dX3_join_6 : decode cX3_join 6 = .ok (.astore 4, 2) := by decide +kernel
theorem dX3_join_8 : decode cX3_join 8 = .ok (.aload_n 0, 1) := by decide +kernel
theorem dX3_join_9 : decode cX3_join 9 = .ok (.getfield 19, 3) := by decide +kernel
theorem dX3_join_12 : decode cX3_join 12 = .ok (.ifCond .ne 22, 3) := by decide +kernel
theorem dX3_join_15 : decode cX3_join 15 = .ok (.aload_n 0, 1) := by decide +kernel
theorem dX3_join_16 : decode cX3_join 16 = .ok (.aload 4, 2) := by decide +kernel
theorem dX3_join_18 : decode cX3_join 18 = .ok (.getfield 67, 3) := by decide +kernel
theorem dX3_join_21 : decode cX3_join 21 = .ok (.putfield 22, 3) := by decide +kernel
theorem dX3_join_24 : decode cX3_join 24 = .ok (.aload_n 0, 1) := by decide +kernel
theorem dX3_join_25 : decode cX3_join 25 = .ok (.iconst 0, 1) := by decide +kernel
theorem dX3_join_26 : decode cX3_join 26 = .ok (.putfield 25, 3) := by decide +kernel
theorem dX3_join_29 : decode cX3_join 29 = .ok (.aload_n 0, 1) := by decide +kernel
theorem dX3_join_30 : decode cX3_join 30 = .ok (.iconst 0, 1) := by decide +kernel
theorem dX3_join_31 : decode cX3_join 31 = .ok (.putfield 28, 3) := by decide +kernel
theorem dX3_join_34 : decode cX3_join 34 = .ok (.aload_n 0, 1) := by decide +kernel
theorem dX3_join_35 : decode cX3_join 35 = .ok (.dup, 1) := by decide +kernel
theorem dX3_join_36 : decode cX3_join 36 = .ok (.getfield 19, 3) := by decide +kernel
theorem dX3_join_39 : decode cX3_join 39 = .ok (.iconst 1, 1) := by decide +kernel
theorem dX3_join_40 : decode cX3_join 40 = .ok (.iload_n 1, 1) := by decide +kernel
theorem dX3_join_41 : decode cX3_join 41 = .ok (.ishl, 1) := by decide +kernel
theorem dX3_join_42 : decode cX3_join 42 = .ok (.ior, 1) := by decide +kernel
theorem dX3_join_43 : decode cX3_join 43 = .ok (.putfield 19, 3) := by decide +kernel
theorem dX3_join_46 : decode cX3_join 46 = .ok (.aload_n 0, 1) := by decide +kernel
theorem dX3_join_47 : decode cX3_join 47 = .ok (.dup, 1) := by decide +kernel
theorem dX3_join_48 : decode cX3_join 48 = .ok (.getfield 25, 3) := by decide +kernel
theorem dX3_join_51 : decode cX3_join 51 = .ok (.aload 4, 2) := by decide +kernel
theorem dX3_join_53 : decode cX3_join 53 = .ok (.getfield 79, 3) := by decide +kernel
theorem dX3_join_56 : decode cX3_join 56 = .ok (.ior, 1) := by decide +kernel
theorem dX3_join_57 : decode cX3_join 57 = .ok (.putfield 25, 3) := by decide +kernel
theorem dX3_join_60 : decode cX3_join 60 = .ok (.aload_n 0, 1) := by decide +kernel
theorem dX3_join_61 : decode cX3_join 61 = .ok (.dup, 1) := by decide +kernel
theorem dX3_join_62 : decode cX3_join 62 = .ok (.getfield 28, 3) := by decide +kernel
theorem dX3_join_65 : decode cX3_join 65 = .ok (.iload_n 2, 1) := by decide +kernel
theorem dX3_join_66 : decode cX3_join 66 = .ok (.aload 4, 2) := by decide +kernel
theorem dX3_join_68 : decode cX3_join 68 = .ok (.getfield 82, 3) := by decide +kernel
theorem dX3_join_71 : decode cX3_join 71 = .ok (.ishl, 1) := by decide +kernel
theorem dX3_join_72 : decode cX3_join 72 = .ok (.ior, 1) := by decide +kernel
theorem dX3_join_73 : decode cX3_join 73 = .ok (.putfield 28, 3) := by decide +kernel
theorem dX3_join_76 : decode cX3_join 76 = .ok (.return_, 1) := by decide +kernel
theorem dX3_addStep_0 : decode cX3_addStep 0 = .ok (.aload_n 1, 1) := by decide +kernel
theorem dX3_addStep_1 : decode cX3_addStep 1 = .ok (.getfield 50, 3) := by decide +kernel
theorem dX3_addStep_4 : decode cX3_addStep 4 = .ok (.iload_n 2, 1) := by decide +kernel
theorem dX3_addStep_5 : decode cX3_addStep 5 = .ok (.iaload, 1) := by decide +kernel
theorem dX3_addStep_6 : decode cX3_addStep 6 = .ok (.istore 4, 2) := by decide +kernel
theorem dX3_addStep_8 : decode cX3_addStep 8 = .ok (.aload_n 1, 1) := by decide +kernel
theorem dX3_addStep_9 : decode cX3_addStep 9 = .ok (.getfield 39, 3) := by decide +kernel
theorem dX3_addStep_12 : decode cX3_addStep 12 = .ok (.iload_n 2, 1) := by decide +kernel
theorem dX3_addStep_13 : decode cX3_addStep 13 = .ok (.iaload, 1) := by decide +kernel
theorem dX3_addStep_14 : decode cX3_addStep 14 = .ok (.istore 5, 2) := by decide +kernel
theorem dX3_addStep_16 : decode cX3_addStep 16 = .ok (.aload_n 1, 1) := by decide +kernel
theorem dX3_addStep_17 : decode cX3_addStep 17 = .ok (.getfield 36, 3) := by decide +kernel
theorem dX3_addStep_20 : decode cX3_addStep 20 = .ok (.iload_n 2, 1) := by decide +kernel
theorem dX3_addStep_21 : decode cX3_addStep 21 = .ok (.iaload, 1) := by decide +kernel
theorem dX3_addStep_22 : decode cX3_addStep 22 = .ok (.iconst 3, 1) := by decide +kernel
theorem dX3_addStep_23 : decode cX3_addStep 23 = .ok (.if_icmp .eq 12, 3) := by decide +kernel
theorem dX3_addStep_26 : decode cX3_addStep 26 = .ok (.aload_n 3, 1) := by decide +kernel
theorem dX3_addStep_27 : decode cX3_addStep 27 = .ok (.iload 5, 2) := by decide +kernel
theorem dX3_addStep_29 : decode cX3_addStep 29 = .ok (.invokevirtual 108, 3) := by decide +kernel
theorem dX3_addStep_32 : decode cX3_addStep 32 = .ok (.ifCond .ne 19, 3) := by decide +kernel
theorem dX3_addStep_35 : decode cX3_addStep 35 = .ok (.aload_n 0, 1) := by decide +kernel
theorem dX3_addStep_36 : decode cX3_addStep 36 = .ok (.iconst 3, 1) := by decide +kernel
theorem dX3_addStep_37 : decode cX3_addStep 37 = .ok (.iload 4, 2) := by decide +kernel
theorem dX3_addStep_39 : decode cX3_addStep 39 = .ok (.bipush (-2), 2) := by decide +kernel
theorem dX3_addStep_41 : decode cX3_addStep 41 = .ok (.bipush (-2), 2) := by decide +kernel
theorem dX3_addStep_43 : decode cX3_addStep 43 = .ok (.bipush (-2), 2) := by decide +kernel
theorem dX3_addStep_45 : decode cX3_addStep 45 = .ok (.bipush (-2), 2) := by decide +kernel
theorem dX3_addStep_47 : decode cX3_addStep 47 = .ok (.invokevirtual 89, 3) := by decide +kernel
theorem dX3_addStep_50 : decode cX3_addStep 50 = .ok (.return_, 1) := by decide +kernel
theorem dX3_addStep_51 : decode cX3_addStep 51 = .ok (.aload_n 3, 1) := by decide +kernel
theorem dX3_addStep_52 : decode cX3_addStep 52 = .ok (.getfield 61, 3) := by decide +kernel
theorem dX3_addStep_55 : decode cX3_addStep 55 = .ok (.iload 5, 2) := by decide +kernel
theorem dX3_addStep_57 : decode cX3_addStep 57 = .ok (.aaload, 1) := by decide +kernel
theorem dX3_addStep_58 : decode cX3_addStep 58 = .ok (.astore 6, 2) := by decide +kernel
theorem dX3_addStep_60 : decode cX3_addStep 60 = .ok (.aload_n 1, 1) := by decide +kernel
theorem dX3_addStep_61 : decode cX3_addStep 61 = .ok (.getfield 36, 3) := by decide +kernel
theorem dX3_addStep_64 : decode cX3_addStep 64 = .ok (.iload_n 2, 1) := by decide +kernel
theorem dX3_addStep_65 : decode cX3_addStep 65 = .ok (.iaload, 1) := by decide +kernel
theorem dX3_addStep_66 : decode cX3_addStep 66 = .ok (.iconst 1, 1) := by decide +kernel
theorem dX3_addStep_67 : decode cX3_addStep 67 = .ok (.if_icmp .ne 37, 3) := by decide +kernel
theorem dX3_addStep_70 : decode cX3_addStep 70 = .ok (.aload_n 0, 1) := by decide +kernel
theorem dX3_addStep_71 : decode cX3_addStep 71 = .ok (.iconst 2, 1) := by decide +kernel
theorem dX3_addStep_72 : decode cX3_addStep 72 = .ok (.aload 6, 2) := by decide +kernel
theorem dX3_addStep_74 : decode cX3_addStep 74 = .ok (.getfield 67, 3) := by decide +kernel
theorem dX3_addStep_77 : decode cX3_addStep 77 = .ok (.bipush (-2), 2) := by decide +kernel
theorem dX3_addStep_79 : decode cX3_addStep 79 = .ok (.aload 6, 2) := by decide +kernel
theorem dX3_addStep_81 : decode cX3_addStep 81 = .ok (.getfield 79, 3) := by decide +kernel
theorem dX3_addStep_84 : decode cX3_addStep 84 = .ok (.iload 4, 2) := by decide +kernel
theorem dX3_addStep_86 : decode cX3_addStep 86 = .ok (.aload 6, 2) := by decide +kernel
theorem dX3_addStep_88 : decode cX3_addStep 88 = .ok (.getfield 82, 3) := by decide +kernel
theorem dX3_addStep_91 : decode cX3_addStep 91 = .ok (.ishl, 1) := by decide +kernel
theorem dX3_addStep_92 : decode cX3_addStep 92 = .ok (.aload_n 1, 1) := by decide +kernel
theorem dX3_addStep_93 : decode cX3_addStep 93 = .ok (.getfield 111, 3) := by decide +kernel
theorem dX3_addStep_96 : decode cX3_addStep 96 = .ok (.iload_n 2, 1) := by decide +kernel
theorem dX3_addStep_97 : decode cX3_addStep 97 = .ok (.iaload, 1) := by decide +kernel
theorem dX3_addStep_98 : decode cX3_addStep 98 = .ok (.invokevirtual 89, 3) := by decide +kernel
theorem dX3_addStep_101 : decode cX3_addStep 101 = .ok (.goto 36, 3) := by decide +kernel
theorem dX3_addStep_104 : decode cX3_addStep 104 = .ok (.aload_n 0, 1) := by decide +kernel
theorem dX3_addStep_105 : decode cX3_addStep 105 = .ok (.iconst 0, 1) := by decide +kernel
theorem dX3_addStep_106 : decode cX3_addStep 106 = .ok (.aload 6, 2) := by decide +kernel
theorem dX3_addStep_108 : decode cX3_addStep 108 = .ok (.getfield 67, 3) := by decide +kernel
theorem dX3_addStep_111 : decode cX3_addStep 111 = .ok (.bipush (-2), 2) := by decide +kernel
theorem dX3_addStep_113 : decode cX3_addStep 113 = .ok (.bipush (-2), 2) := by decide +kernel
theorem dX3_addStep_115 : decode cX3_addStep 115 = .ok (.bipush (-2), 2) := by decide +kernel
theorem dX3_addStep_117 : decode cX3_addStep 117 = .ok (.bipush (-2), 2) := by decide +kernel
theorem dX3_addStep_119 : decode cX3_addStep 119 = .ok (.invokevirtual 89, 3) := by decide +kernel
theorem dX3_addStep_122 : decode cX3_addStep 122 = .ok (.aload_n 0, 1) := by decide +kernel
theorem dX3_addStep_123 : decode cX3_addStep 123 = .ok (.iconst 4, 1) := by decide +kernel
theorem dX3_addStep_124 : decode cX3_addStep 124 = .ok (.iload 5, 2) := by decide +kernel
theorem dX3_addStep_126 : decode cX3_addStep 126 = .ok (.bipush (-2), 2) := by decide +kernel
theorem dX3_addStep_128 : decode cX3_addStep 128 = .ok (.bipush (-2), 2) := by decide +kernel
theorem dX3_addStep_130 : decode cX3_addStep 130 = .ok (.bipush (-2), 2) := by decide +kernel
theorem dX3_addStep_132 : decode cX3_addStep 132 = .ok (.bipush (-2), 2) := by decide +kernel
theorem dX3_addStep_134 : decode cX3_addStep 134 = .ok (.invokevirtual 89, 3) := by decide +kernel
theorem dX3_addStep_137 : decode cX3_addStep 137 = .ok (.return_, 1) := by decide +kernel
theorem dX3_makeFrom_0 : decode cX3_makeFrom 0 = .ok (.aload_n 0, 1) := by decide +kernel
theorem dX3_makeFrom_1 : decode cX3_makeFrom 1 = .ok (.iconst 0, 1) := by decide +kernel
theorem dX3_makeFrom_2 : decode cX3_makeFrom 2 = .ok (.putfield 15, 3) := by decide +kernel
theorem dX3_makeFrom_5 : decode cX3_makeFrom 5 = .ok (.aload_n 0, 1) := by decide +kernel
theorem dX3_makeFrom_6 : decode cX3_makeFrom 6 = .ok (.iconst 0, 1) := by decide +kernel
theorem dX3_makeFrom_7 : decode cX3_makeFrom 7 = .ok (.putfield 19, 3) := by decide +kernel
theorem dX3_makeFrom_10 : decode cX3_makeFrom 10 = .ok (.iconst 0, 1) := by decide +kernel
theorem dX3_makeFrom_11 : decode cX3_makeFrom 11 = .ok (.istore_n 3, 1) := by decide +kernel
theorem dX3_makeFrom_12 : decode cX3_makeFrom 12 = .ok (.iload_n 3, 1) := by decide +kernel
theorem dX3_makeFrom_13 : decode cX3_makeFrom 13 = .ok (.aload_n 1, 1) := by decide +kernel
theorem dX3_makeFrom_14 : decode cX3_makeFrom 14 = .ok (.getfield 31, 3) := by decide +kernel
theorem dX3_makeFrom_17 : decode cX3_makeFrom 17 = .ok (.if_icmp .ge 69, 3) := by decide +kernel
theorem dX3_makeFrom_20 : decode cX3_makeFrom 20 = .ok (.aload_n 1, 1) := by decide +kernel
theorem dX3_makeFrom_21 : decode cX3_makeFrom 21 = .ok (.getfield 36, 3) := by decide +kernel
theorem dX3_makeFrom_24 : decode cX3_makeFrom 24 = .ok (.iload_n 3, 1) := by decide +kernel
theorem dX3_makeFrom_25 : decode cX3_makeFrom 25 = .ok (.iaload, 1) := by decide +kernel
theorem dX3_makeFrom_26 : decode cX3_makeFrom 26 = .ok (.ifCond .ne 42, 3) := by decide +kernel
theorem dX3_makeFrom_29 : decode cX3_makeFrom 29 = .ok (.aload_n 0, 1) := by decide +kernel
theorem dX3_makeFrom_30 : decode cX3_makeFrom 30 = .ok (.aload_n 1, 1) := by decide +kernel
theorem dX3_makeFrom_31 : decode cX3_makeFrom 31 = .ok (.getfield 39, 3) := by decide +kernel
theorem dX3_makeFrom_34 : decode cX3_makeFrom 34 = .ok (.iload_n 3, 1) := by decide +kernel
theorem dX3_makeFrom_35 : decode cX3_makeFrom 35 = .ok (.iaload, 1) := by decide +kernel
theorem dX3_makeFrom_36 : decode cX3_makeFrom 36 = .ok (.aload_n 2, 1) := by decide +kernel
theorem dX3_makeFrom_37 : decode cX3_makeFrom 37 = .ok (.invokevirtual 42, 3) := by decide +kernel
theorem dX3_makeFrom_40 : decode cX3_makeFrom 40 = .ok (.ifCond .ne 8, 3) := by decide +kernel
theorem dX3_makeFrom_43 : decode cX3_makeFrom 43 = .ok (.aload_n 0, 1) := by decide +kernel
theorem dX3_makeFrom_44 : decode cX3_makeFrom 44 = .ok (.aload_n 2, 1) := by decide +kernel
theorem dX3_makeFrom_45 : decode cX3_makeFrom 45 = .ok (.invokevirtual 46, 3) := by decide +kernel
theorem dX3_makeFrom_48 : decode cX3_makeFrom 48 = .ok (.aload_n 0, 1) := by decide +kernel
theorem dX3_makeFrom_49 : decode cX3_makeFrom 49 = .ok (.aload_n 1, 1) := by decide +kernel
theorem dX3_makeFrom_50 : decode cX3_makeFrom 50 = .ok (.getfield 39, 3) := by decide +kernel
theorem dX3_makeFrom_53 : decode cX3_makeFrom 53 = .ok (.iload_n 3, 1) := by decide +kernel
theorem dX3_makeFrom_54 : decode cX3_makeFrom 54 = .ok (.iaload, 1) := by decide +kernel
theorem dX3_makeFrom_55 : decode cX3_makeFrom 55 = .ok (.aload_n 1, 1) := by decide +kernel
theorem dX3_makeFrom_56 : decode cX3_makeFrom 56 = .ok (.getfield 50, 3) := by decide +kernel
theorem dX3_makeFrom_59 : decode cX3_makeFrom 59 = .ok (.iload_n 3, 1) := by decide +kernel
theorem dX3_makeFrom_60 : decode cX3_makeFrom 60 = .ok (.iaload, 1) := by decide +kernel
theorem dX3_makeFrom_61 : decode cX3_makeFrom 61 = .ok (.aload_n 2, 1) := by decide +kernel
theorem dX3_makeFrom_62 : decode cX3_makeFrom 62 = .ok (.invokevirtual 53, 3) := by decide +kernel
theorem dX3_makeFrom_65 : decode cX3_makeFrom 65 = .ok (.goto 15, 3) := by decide +kernel
theorem dX3_makeFrom_68 : decode cX3_makeFrom 68 = .ok (.aload_n 0, 1) := by decide +kernel
theorem dX3_makeFrom_69 : decode cX3_makeFrom 69 = .ok (.aload_n 2, 1) := by decide +kernel
theorem dX3_makeFrom_70 : decode cX3_makeFrom 70 = .ok (.invokevirtual 46, 3) := by decide +kernel
theorem dX3_makeFrom_73 : decode cX3_makeFrom 73 = .ok (.aload_n 0, 1) := by decide +kernel
theorem dX3_makeFrom_74 : decode cX3_makeFrom 74 = .ok (.aload_n 1, 1) := by decide +kernel
theorem dX3_makeFrom_75 : decode cX3_makeFrom 75 = .ok (.iload_n 3, 1) := by decide +kernel
theorem dX3_makeFrom_76 : decode cX3_makeFrom 76 = .ok (.aload_n 2, 1) := by decide +kernel
theorem dX3_makeFrom_77 : decode cX3_makeFrom 77 = .ok (.invokevirtual 57, 3) := by decide +kernel
theorem dX3_makeFrom_80 : decode cX3_makeFrom 80 = .ok (.iinc 3 1, 3) := by decide +kernel
theorem dX3_makeFrom_83 : decode cX3_makeFrom 83 = .ok (.goto (-71), 3) := by decide +kernel
theorem dX3_makeFrom_86 : decode cX3_makeFrom 86 = .ok (.aload_n 0, 1) := by decide +kernel
theorem dX3_makeFrom_87 : decode cX3_makeFrom 87 = .ok (.aload_n 2, 1) := by decide +kernel
theorem dX3_makeFrom_88 : decode cX3_makeFrom 88 = .ok (.invokevirtual 46, 3) := by decide +kernel
theorem dX3_makeFrom_91 : decode cX3_makeFrom 91 = .ok (.return_, 1) := by decide +kernel
theorem dX1_makeCode_0 : decode cX1_makeCode 0 = .ok (.aload_n 0, 1) := by decide +kernel
theorem dX1_makeCode_1 : decode cX1_makeCode 1 = .ok (.getfield 48, 3) := by decide +kernel
theorem dX1_makeCode_4 : decode cX1_makeCode 4 = .ok (.ifCond .eq 4, 3) := by decide +kernel
theorem dX1_makeCode_7 : decode cX1_makeCode 7 = .ok (.return_, 1) := by decide +kernel
theorem dX1_makeCode_8 : decode cX1_makeCode 8 = .ok (.iconst 0, 1) := by decide +kernel
theorem dX1_makeCode_9 : decode cX1_makeCode 9 = .ok (.istore_n 1, 1) := by decide +kernel
theorem dX1_makeCode_10 : decode cX1_makeCode 10 = .ok (.iload_n 1, 1) := by decide +kernel
theorem dX1_makeCode_11 : decode cX1_makeCode 11 = .ok (.aload_n 0, 1) := by decide +kernel
theorem dX1_makeCode_12 : decode cX1_makeCode 12 = .ok (.getfield 39, 3) := by decide +kernel
theorem dX1_makeCode_15 : decode cX1_makeCode 15 = .ok (.if_icmp .ge 28, 3) := by decide +kernel
theorem dX1_makeCode_18 : decode cX1_makeCode 18 = .ok (.aload_n 0, 1) := by decide +kernel
theorem dX1_makeCode_19 : decode cX1_makeCode 19 = .ok (.getfield 25, 3) := by decide +kernel
theorem dX1_makeCode_22 : decode cX1_makeCode 22 = .ok (.iload_n 1, 1) := by decide +kernel
theorem dX1_makeCode_23 : decode cX1_makeCode 23 = .ok (.aaload, 1) := by decide +kernel
theorem dX1_makeCode_24 : decode cX1_makeCode 24 = .ok (.getfield 110, 3) := by decide +kernel
theorem dX1_makeCode_27 : decode cX1_makeCode 27 = .ok (.aload_n 0, 1) := by decide +kernel
theorem dX1_makeCode_28 : decode cX1_makeCode 28 = .ok (.getfield 25, 3) := by decide +kernel
theorem dX1_makeCode_31 : decode cX1_makeCode 31 = .ok (.iload_n 1, 1) := by decide +kernel
theorem dX1_makeCode_32 : decode cX1_makeCode 32 = .ok (.aaload, 1) := by decide +kernel
theorem dX1_makeCode_33 : decode cX1_makeCode 33 = .ok (.aload_n 0, 1) := by decide +kernel
theorem dX1_makeCode_34 : decode cX1_makeCode 34 = .ok (.invokevirtual 114, 3) := by decide +kernel
theorem dX1_makeCode_37 : decode cX1_makeCode 37 = .ok (.iinc 1 1, 3) := by decide +kernel
theorem dX1_makeCode_40 : decode cX1_makeCode 40 = .ok (.goto (-30), 3) := by decide +kernel
theorem dX1_makeCode_43 : decode cX1_makeCode 43 = .ok (.aload_n 0, 1) := by decide +kernel
theorem dX1_makeCode_44 : decode cX1_makeCode 44 = .ok (.iconst 1, 1) := by decide +kernel
theorem dX1_makeCode_45 : decode cX1_makeCode 45 = .ok (.putfield 48, 3) := by decide +kernel
theorem dX1_makeCode_48 : decode cX1_makeCode 48 = .ok (.return_, 1) := by decide +kernel
theorem dJ7_fill_53178_0 : decode cJ7_fill_53178 0 = .ok (.iconst 0, 1) := by decide +kernel
theorem dJ7_fill_53178_1 : decode cJ7_fill_53178 1 = .ok (.istore_n 2, 1) := by decide +kernel
theorem dJ7_fill_53178_2 : decode cJ7_fill_53178 2 = .ok (.aload_n 0, 1) := by decide +kernel
theorem dJ7_fill_53178_3 : decode cJ7_fill_53178 3 = .ok (.arraylength, 1) := by decide +kernel
theorem dJ7_fill_53178_4 : decode cJ7_fill_53178 4 = .ok (.istore_n 3, 1) := by decide +kernel
theorem dJ7_fill_53178_5 : decode cJ7_fill_53178 5 = .ok (.iload_n 2, 1) := by decide +kernel
theorem dJ7_fill_53178_6 : decode cJ7_fill_53178 6 = .ok (.iload_n 3, 1) := by decide +kernel
theorem dJ7_fill_53178_7 : decode cJ7_fill_53178 7 = .ok (.if_icmp .ge 13, 3) := by decide +kernel
theorem dJ7_fill_53178_10 : decode cJ7_fill_53178 10 = .ok (.aload_n 0, 1) := by decide +kernel
theorem dJ7_fill_53178_11 : decode cJ7_fill_53178 11 = .ok (.iload_n 2, 1) := by decide +kernel
theorem dJ7_fill_53178_12 : decode cJ7_fill_53178 12 = .ok (.iload_n 1, 1) := by decide +kernel
theorem dJ7_fill_53178_13 : decode cJ7_fill_53178 13 = .ok (.iastore, 1) := by decide +kernel
theorem dJ7_fill_53178_14 : decode cJ7_fill_53178 14 = .ok (.iinc 2 1, 3) := by decide +kernel
theorem dJ7_fill_53178_17 : decode cJ7_fill_53178 17 = .ok (.goto (-12), 3) := by decide +kernel
theorem dJ7_fill_53178_20 : decode cJ7_fill_53178 20 = .ok (.return_, 1) := by decide +kernel
theorem dJ7_fill_d0a16_0 : decode cJ7_fill_d0a16 0 = .ok (.iconst 0, 1) := by decide +kernel
theorem dJ7_fill_d0a16_1 : decode cJ7_fill_d0a16 1 = .ok (.istore_n 3, 1) := by decide +kernel
theorem dJ7_fill_d0a16_2 : decode cJ7_fill_d0a16 2 = .ok (.aload_n 0, 1) := by decide +kernel
theorem dJ7_fill_d0a16_3 : decode cJ7_fill_d0a16 3 = .ok (.arraylength, 1) := by decide +kernel
theorem dJ7_fill_d0a16_4 : decode cJ7_fill_d0a16 4 = .ok (.istore 4, 2) := by decide +kernel
theorem dJ7_fill_d0a16_6 : decode cJ7_fill_d0a16 6 = .ok (.iload_n 3, 1) := by decide +kernel
theorem dJ7_fill_d0a16_7 : decode cJ7_fill_d0a16 7 = .ok (.iload 4, 2) := by decide +kernel
theorem dJ7_fill_d0a16_9 : decode cJ7_fill_d0a16 9 = .ok (.if_icmp .ge 13, 3) := by decide +kernel
theorem dJ7_fill_d0a16_12 : decode cJ7_fill_d0a16 12 = .ok (.aload_n 0, 1) := by decide +kernel
theorem dJ7_fill_d0a16_13 : decode cJ7_fill_d0a16 13 = .ok (.iload_n 3, 1) := by decide +kernel
theorem dJ7_fill_d0a16_14 : decode cJ7_fill_d0a16 14 = .ok (.lload_n 1, 1) := by decide +kernel
theorem dJ7_fill_d0a16_15 : decode cJ7_fill_d0a16 15 = .ok (.lastore, 1) := by decide +kernel
theorem dJ7_fill_d0a16_16 : decode cJ7_fill_d0a16 16 = .ok (.iinc 3 1, 3) := by decide +kernel
theorem dJ7_fill_d0a16_19 : decode cJ7_fill_d0a16 19 = .ok (.goto (-13), 3) := by decide +kernel
theorem dJ7_fill_d0a16_22 : decode cJ7_fill_d0a16 22 = .ok (.return_, 1) := by decide +kernel
theorem dX8_blank_0 : decode cX8_blank 0 = .ok (.aload_n 0, 1) := by decide +kernel
theorem dX8_blank_1 : decode cX8_blank 1 = .ok (.getfield 9, 3) := by decide +kernel
theorem dX8_blank_4 : decode cX8_blank 4 = .ok (.iconst 0, 1) := by decide +kernel
theorem dX8_blank_5 : decode cX8_blank 5 = .ok (.invokestatic 71, 3) := by decide +kernel
theorem dX8_blank_8 : decode cX8_blank 8 = .ok (.aload_n 0, 1) := by decide +kernel
theorem dX8_blank_9 : decode cX8_blank 9 = .ok (.getfield 15, 3) := by decide +kernel
theorem dX8_blank_12 : decode cX8_blank 12 = .ok (.iconst 0, 1) := by decide +kernel
theorem dX8_blank_13 : decode cX8_blank 13 = .ok (.invokestatic 71, 3) := by decide +kernel
theorem dX8_blank_16 : decode cX8_blank 16 = .ok (.aload_n 0, 1) := by decide +kernel
theorem dX8_blank_17 : decode cX8_blank 17 = .ok (.getfield 18, 3) := by decide +kernel
theorem dX8_blank_20 : decode cX8_blank 20 = .ok (.iconst 0, 1) := by decide +kernel
theorem dX8_blank_21 : decode cX8_blank 21 = .ok (.invokestatic 71, 3) := by decide +kernel
theorem dX8_blank_24 : decode cX8_blank 24 = .ok (.aload_n 0, 1) := by decide +kernel
theorem dX8_blank_25 : decode cX8_blank 25 = .ok (.getfield 21, 3) := by decide +kernel
theorem dX8_blank_28 : decode cX8_blank 28 = .ok (.iconst 0, 1) := by decide +kernel
theorem dX8_blank_29 : decode cX8_blank 29 = .ok (.invokestatic 71, 3) := by decide +kernel
theorem dX8_blank_32 : decode cX8_blank 32 = .ok (.aload_n 0, 1) := by decide +kernel
theorem dX8_blank_33 : decode cX8_blank 33 = .ok (.getfield 24, 3) := by decide +kernel
theorem dX8_blank_36 : decode cX8_blank 36 = .ok (.ldc2_w 60, 3) := by decide +kernel
theorem dX8_blank_39 : decode cX8_blank 39 = .ok (.invokestatic 65, 3) := by decide +kernel
theorem dX8_blank_42 : decode cX8_blank 42 = .ok (.aload_n 0, 1) := by decide +kernel
theorem dX8_blank_43 : decode cX8_blank 43 = .ok (.getfield 28, 3) := by decide +kernel
theorem dX8_blank_46 : decode cX8_blank 46 = .ok (.iconst 0, 1) := by decide +kernel
theorem dX8_blank_47 : decode cX8_blank 47 = .ok (.invokestatic 71, 3) := by decide +kernel
theorem dX8_blank_50 : decode cX8_blank 50 = .ok (.aload_n 0, 1) := by decide +kernel
theorem dX8_blank_51 : decode cX8_blank 51 = .ok (.iconst 0, 1) := by decide +kernel
theorem dX8_blank_52 : decode cX8_blank 52 = .ok (.putfield 40, 3) := by decide +kernel
theorem dX8_blank_55 : decode cX8_blank 55 = .ok (.aload_n 0, 1) := by decide +kernel
theorem dX8_blank_56 : decode cX8_blank 56 = .ok (.lconst 0, 1) := by decide +kernel
theorem dX8_blank_57 : decode cX8_blank 57 = .ok (.putfield 44, 3) := by decide +kernel
theorem dX8_blank_60 : decode cX8_blank 60 = .ok (.aload_n 0, 1) := by decide +kernel
theorem dX8_blank_61 : decode cX8_blank 61 = .ok (.iconst 0, 1) := by decide +kernel
theorem dX8_blank_62 : decode cX8_blank 62 = .ok (.putfield 48, 3) := by decide +kernel
theorem dX8_blank_65 : decode cX8_blank 65 = .ok (.aload_n 0, 1) := by decide +kernel
theorem dX8_blank_66 : decode cX8_blank 66 = .ok (.iconst 0, 1) := by decide +kernel
theorem dX8_blank_67 : decode cX8_blank 67 = .ok (.putfield 51, 3) := by decide +kernel
theorem dX8_blank_70 : decode cX8_blank 70 = .ok (.aload_n 0, 1) := by decide +kernel
theorem dX8_blank_71 : decode cX8_blank 71 = .ok (.lconst 0, 1) := by decide +kernel
theorem dX8_blank_72 : decode cX8_blank 72 = .ok (.putfield 54, 3) := by decide +kernel
theorem dX8_blank_75 : decode cX8_blank 75 = .ok (.aload_n 0, 1) := by decide +kernel
theorem dX8_blank_76 : decode cX8_blank 76 = .ok (.iconst (-1), 1) := by decide +kernel
theorem dX8_blank_77 : decode cX8_blank 77 = .ok (.putfield 57, 3) := by decide +kernel
theorem dX8_blank_80 : decode cX8_blank 80 = .ok (.aload_n 0, 1) := by decide +kernel
theorem dX8_blank_81 : decode cX8_blank 81 = .ok (.ldc2_w 60, 3) := by decide +kernel
theorem dX8_blank_84 : decode cX8_blank 84 = .ok (.putfield 62, 3) := by decide +kernel
theorem dX8_blank_87 : decode cX8_blank 87 = .ok (.return_, 1) := by decide +kernel
theorem dX2_sortIn_0 : decode cX2_sortIn 0 = .ok (.aload_n 2, 1) := by decide +kernel
theorem dX2_sortIn_1 : decode cX2_sortIn 1 = .ok (.getfield 80, 3) := by decide +kernel
theorem dX2_sortIn_4 : decode cX2_sortIn 4 = .ok (.istore_n 3, 1) := by decide +kernel
theorem dX2_sortIn_5 : decode cX2_sortIn 5 = .ok (.aload_n 0, 1) := by decide +kernel
theorem dX2_sortIn_6 : decode cX2_sortIn 6 = .ok (.getfield 16, 3) := by decide +kernel
theorem dX2_sortIn_9 : decode cX2_sortIn 9 = .ok (.iload_n 3, 1) := by decide +kernel
theorem dX2_sortIn_10 : decode cX2_sortIn 10 = .ok (.iaload, 1) := by decide +kernel
theorem dX2_sortIn_11 : decode cX2_sortIn 11 = .ok (.bipush 16, 2) := by decide +kernel
theorem dX2_sortIn_13 : decode cX2_sortIn 13 = .ok (.if_icmp .ge 27, 3) := by decide +kernel
theorem dX2_sortIn_16 : decode cX2_sortIn 16 = .ok (.aload_n 0, 1) := by decide +kernel
theorem dX2_sortIn_17 : decode cX2_sortIn 17 = .ok (.getfield 11, 3) := by decide +kernel
theorem dX2_sortIn_20 : decode cX2_sortIn 20 = .ok (.iload_n 3, 1) := by decide +kernel
theorem dX2_sortIn_21 : decode cX2_sortIn 21 = .ok (.aaload, 1) := by decide +kernel
theorem dX2_sortIn_22 : decode cX2_sortIn 22 = .ok (.aload_n 0, 1) := by decide +kernel
theorem dX2_sortIn_23 : decode cX2_sortIn 23 = .ok (.getfield 16, 3) := by decide +kernel
theorem dX2_sortIn_26 : decode cX2_sortIn 26 = .ok (.iload_n 3, 1) := by decide +kernel
theorem dX2_sortIn_27 : decode cX2_sortIn 27 = .ok (.iaload, 1) := by decide +kernel
theorem dX2_sortIn_28 : decode cX2_sortIn 28 = .ok (.iload_n 1, 1) := by decide +kernel
theorem dX2_sortIn_29 : decode cX2_sortIn 29 = .ok (.iastore, 1) := by decide +kernel
theorem dX2_sortIn_30 : decode cX2_sortIn 30 = .ok (.aload_n 0, 1) := by decide +kernel
theorem dX2_sortIn_31 : decode cX2_sortIn 31 = .ok (.getfield 16, 3) := by decide +kernel
theorem dX2_sortIn_34 : decode cX2_sortIn 34 = .ok (.iload_n 3, 1) := by decide +kernel
theorem dX2_sortIn_35 : decode cX2_sortIn 35 = .ok (.dup2, 1) := by decide +kernel
theorem dX2_sortIn_36 : decode cX2_sortIn 36 = .ok (.iaload, 1) := by decide +kernel
theorem dX2_sortIn_37 : decode cX2_sortIn 37 = .ok (.iconst 1, 1) := by decide +kernel
theorem dX2_sortIn_38 : decode cX2_sortIn 38 = .ok (.iadd, 1) := by decide +kernel
theorem dX2_sortIn_39 : decode cX2_sortIn 39 = .ok (.iastore, 1) := by decide +kernel
theorem dX2_sortIn_40 : decode cX2_sortIn 40 = .ok (.aload_n 2, 1) := by decide +kernel
theorem dX2_sortIn_41 : decode cX2_sortIn 41 = .ok (.invokevirtual 73, 3) := by decide +kernel
theorem dX2_sortIn_44 : decode cX2_sortIn 44 = .ok (.ifCond .eq 16, 3) := by decide +kernel
theorem dX2_sortIn_47 : decode cX2_sortIn 47 = .ok (.aload_n 0, 1) := by decide +kernel
theorem dX2_sortIn_48 : decode cX2_sortIn 48 = .ok (.getfield 20, 3) := by decide +kernel
theorem dX2_sortIn_51 : decode cX2_sortIn 51 = .ok (.iload_n 3, 1) := by decide +kernel
theorem dX2_sortIn_52 : decode cX2_sortIn 52 = .ok (.dup2, 1) := by decide +kernel
theorem dX2_sortIn_53 : decode cX2_sortIn 53 = .ok (.iaload, 1) := by decide +kernel
theorem dX2_sortIn_54 : decode cX2_sortIn 54 = .ok (.aload_n 2, 1) := by decide +kernel
theorem dX2_sortIn_55 : decode cX2_sortIn 55 = .ok (.getfield 86, 3) := by decide +kernel
theorem dX2_sortIn_58 : decode cX2_sortIn 58 = .ok (.ior, 1) := by decide +kernel
theorem dX2_sortIn_59 : decode cX2_sortIn 59 = .ok (.iastore, 1) := by decide +kernel
theorem dX2_sortIn_60 : decode cX2_sortIn 60 = .ok (.aload_n 2, 1) := by decide +kernel
theorem dX2_sortIn_61 : decode cX2_sortIn 61 = .ok (.getfield 89, 3) := by decide +kernel
theorem dX2_sortIn_64 : decode cX2_sortIn 64 = .ok (.iconst 4, 1) := by decide +kernel
theorem dX2_sortIn_65 : decode cX2_sortIn 65 = .ok (.if_icmp .ne 23, 3) := by decide +kernel
theorem dX2_sortIn_68 : decode cX2_sortIn 68 = .ok (.aload_n 0, 1) := by decide +kernel
theorem dX2_sortIn_69 : decode cX2_sortIn 69 = .ok (.getfield 23, 3) := by decide +kernel
theorem dX2_sortIn_72 : decode cX2_sortIn 72 = .ok (.aload_n 0, 1) := by decide +kernel
theorem dX2_sortIn_73 : decode cX2_sortIn 73 = .ok (.getfield 26, 3) := by decide +kernel
theorem dX2_sortIn_76 : decode cX2_sortIn 76 = .ok (.iload_n 1, 1) := by decide +kernel
theorem dX2_sortIn_77 : decode cX2_sortIn 77 = .ok (.iastore, 1) := by decide +kernel
theorem dX2_sortIn_78 : decode cX2_sortIn 78 = .ok (.aload_n 0, 1) := by decide +kernel
theorem dX2_sortIn_79 : decode cX2_sortIn 79 = .ok (.dup, 1) := by decide +kernel
theorem dX2_sortIn_80 : decode cX2_sortIn 80 = .ok (.getfield 26, 3) := by decide +kernel
theorem dX2_sortIn_83 : decode cX2_sortIn 83 = .ok (.iconst 1, 1) := by decide +kernel
theorem dX2_sortIn_84 : decode cX2_sortIn 84 = .ok (.iadd, 1) := by decide +kernel
theorem dX2_sortIn_85 : decode cX2_sortIn 85 = .ok (.putfield 26, 3) := by decide +kernel
theorem dX2_sortIn_88 : decode cX2_sortIn 88 = .ok (.return_, 1) := by decide +kernel
theorem dX2_powerUp_0 : decode cX2_powerUp 0 = .ok (.aload_n 0, 1) := by decide +kernel
theorem dX2_powerUp_1 : decode cX2_powerUp 1 = .ok (.getfield 34, 3) := by decide +kernel
theorem dX2_powerUp_4 : decode cX2_powerUp 4 = .ok (.invokevirtual 38, 3) := by decide +kernel
theorem dX2_powerUp_7 : decode cX2_powerUp 7 = .ok (.aload_n 0, 1) := by decide +kernel
theorem dX2_powerUp_8 : decode cX2_powerUp 8 = .ok (.getfield 16, 3) := by decide +kernel
theorem dX2_powerUp_11 : decode cX2_powerUp 11 = .ok (.iconst 0, 1) := by decide +kernel
theorem dX2_powerUp_12 : decode cX2_powerUp 12 = .ok (.invokestatic 43, 3) := by decide +kernel
theorem dX2_powerUp_15 : decode cX2_powerUp 15 = .ok (.aload_n 0, 1) := by decide +kernel
theorem dX2_powerUp_16 : decode cX2_powerUp 16 = .ok (.getfield 20, 3) := by decide +kernel
theorem dX2_powerUp_19 : decode cX2_powerUp 19 = .ok (.iconst 0, 1) := by decide +kernel
theorem dX2_powerUp_20 : decode cX2_powerUp 20 = .ok (.invokestatic 43, 3) := by decide +kernel
theorem dX2_powerUp_23 : decode cX2_powerUp 23 = .ok (.aload_n 0, 1) := by decide +kernel
theorem dX2_powerUp_24 : decode cX2_powerUp 24 = .ok (.iconst 0, 1) := by decide +kernel
theorem dX2_powerUp_25 : decode cX2_powerUp 25 = .ok (.putfield 26, 3) := by decide +kernel
theorem dX2_powerUp_28 : decode cX2_powerUp 28 = .ok (.iconst 0, 1) := by decide +kernel
theorem dX2_powerUp_29 : decode cX2_powerUp 29 = .ok (.istore_n 1, 1) := by decide +kernel
theorem dX2_powerUp_30 : decode cX2_powerUp 30 = .ok (.iload_n 1, 1) := by decide +kernel
theorem dX2_powerUp_31 : decode cX2_powerUp 31 = .ok (.aload_n 0, 1) := by decide +kernel
theorem dX2_powerUp_32 : decode cX2_powerUp 32 = .ok (.getfield 30, 3) := by decide +kernel
theorem dX2_powerUp_35 : decode cX2_powerUp 35 = .ok (.getfield 49, 3) := by decide +kernel
theorem dX2_powerUp_38 : decode cX2_powerUp 38 = .ok (.if_icmp .ge 82, 3) := by decide +kernel
theorem dX2_powerUp_41 : decode cX2_powerUp 41 = .ok (.aload_n 0, 1) := by decide +kernel
theorem dX2_powerUp_42 : decode cX2_powerUp 42 = .ok (.getfield 30, 3) := by decide +kernel
theorem dX2_powerUp_45 : decode cX2_powerUp 45 = .ok (.getfield 54, 3) := by decide +kernel
theorem dX2_powerUp_48 : decode cX2_powerUp 48 = .ok (.iload_n 1, 1) := by decide +kernel
theorem dX2_powerUp_49 : decode cX2_powerUp 49 = .ok (.aaload, 1) := by decide +kernel
theorem dX2_powerUp_50 : decode cX2_powerUp 50 = .ok (.astore_n 2, 1) := by decide +kernel
theorem dX2_powerUp_51 : decode cX2_powerUp 51 = .ok (.aload_n 0, 1) := by decide +kernel
theorem dX2_powerUp_52 : decode cX2_powerUp 52 = .ok (.iload_n 1, 1) := by decide +kernel
theorem dX2_powerUp_53 : decode cX2_powerUp 53 = .ok (.aload_n 2, 1) := by decide +kernel
theorem dX2_powerUp_54 : decode cX2_powerUp 54 = .ok (.invokevirtual 58, 3) := by decide +kernel
theorem dX2_powerUp_57 : decode cX2_powerUp 57 = .ok (.aload_n 0, 1) := by decide +kernel
theorem dX2_powerUp_58 : decode cX2_powerUp 58 = .ok (.getfield 34, 3) := by decide +kernel
theorem dX2_powerUp_61 : decode cX2_powerUp 61 = .ok (.getfield 62, 3) := by decide +kernel
theorem dX2_powerUp_64 : decode cX2_powerUp 64 = .ok (.iload_n 1, 1) := by decide +kernel
theorem dX2_powerUp_65 : decode cX2_powerUp 65 = .ok (.aload_n 2, 1) := by decide +kernel
theorem dX2_powerUp_66 : decode cX2_powerUp 66 = .ok (.getfield 65, 3) := by decide +kernel
theorem dX2_powerUp_69 : decode cX2_powerUp 69 = .ok (.iastore, 1) := by decide +kernel
theorem dX2_powerUp_70 : decode cX2_powerUp 70 = .ok (.aload_n 0, 1) := by decide +kernel
theorem dX2_powerUp_71 : decode cX2_powerUp 71 = .ok (.getfield 34, 3) := by decide +kernel
theorem dX2_powerUp_74 : decode cX2_powerUp 74 = .ok (.getfield 70, 3) := by decide +kernel
theorem dX2_powerUp_77 : decode cX2_powerUp 77 = .ok (.iload_n 1, 1) := by decide +kernel
theorem dX2_powerUp_78 : decode cX2_powerUp 78 = .ok (.aload_n 2, 1) := by decide +kernel
theorem dX2_powerUp_79 : decode cX2_powerUp 79 = .ok (.getfield 65, 3) := by decide +kernel
theorem dX2_powerUp_82 : decode cX2_powerUp 82 = .ok (.iastore, 1) := by decide +kernel
theorem dX2_powerUp_83 : decode cX2_powerUp 83 = .ok (.aload_n 2, 1) := by decide +kernel
theorem dX2_powerUp_84 : decode cX2_powerUp 84 = .ok (.invokevirtual 73, 3) := by decide +kernel
theorem dX2_powerUp_87 : decode cX2_powerUp 87 = .ok (.ifCond .eq 27, 3) := by decide +kernel
theorem dX2_powerUp_90 : decode cX2_powerUp 90 = .ok (.aload_n 0, 1) := by decide +kernel
theorem dX2_powerUp_91 : decode cX2_powerUp 91 = .ok (.getfield 34, 3) := by decide +kernel
theorem dX2_powerUp_94 : decode cX2_powerUp 94 = .ok (.getfield 77, 3) := by decide +kernel
theorem dX2_powerUp_97 : decode cX2_powerUp 97 = .ok (.aload_n 2, 1) := by decide +kernel
theorem dX2_powerUp_98 : decode cX2_powerUp 98 = .ok (.getfield 80, 3) := by decide +kernel
theorem dX2_powerUp_101 : decode cX2_powerUp 101 = .ok (.dup2, 1) := by decide +kernel
theorem dX2_powerUp_102 : decode cX2_powerUp 102 = .ok (.iaload, 1) := by decide +kernel
theorem dX2_powerUp_103 : decode cX2_powerUp 103 = .ok (.aload_n 2, 1) := by decide +kernel
theorem dX2_powerUp_104 : decode cX2_powerUp 104 = .ok (.getfield 65, 3) := by decide +kernel
theorem dX2_powerUp_107 : decode cX2_powerUp 107 = .ok (.aload_n 2, 1) := by decide +kernel
theorem dX2_powerUp_108 : decode cX2_powerUp 108 = .ok (.getfield 83, 3) := by decide +kernel
theorem dX2_powerUp_111 : decode cX2_powerUp 111 = .ok (.ishl, 1) := by decide +kernel
theorem dX2_powerUp_112 : decode cX2_powerUp 112 = .ok (.ior, 1) := by decide +kernel
theorem dX2_powerUp_113 : decode cX2_powerUp 113 = .ok (.iastore, 1) := by decide +kernel
theorem dX2_powerUp_114 : decode cX2_powerUp 114 = .ok (.iinc 1 1, 3) := by decide +kernel
theorem dX2_powerUp_117 : decode cX2_powerUp 117 = .ok (.goto (-87), 3) := by decide +kernel
theorem dX2_powerUp_120 : decode cX2_powerUp 120 = .ok (.return_, 1) := by decide +kernel
theorem dX2_endPulse_0 : decode cX2_endPulse 0 = .ok (.aload_n 0, 1) := by decide +kernel
theorem dX2_endPulse_1 : decode cX2_endPulse 1 = .ok (.getfield 34, 3) := by decide +kernel
theorem dX2_endPulse_4 : decode cX2_endPulse 4 = .ok (.getfield 62, 3) := by decide +kernel
theorem dX2_endPulse_7 : decode cX2_endPulse 7 = .ok (.iload_n 1, 1) := by decide +kernel
theorem dX2_endPulse_8 : decode cX2_endPulse 8 = .ok (.iconst 0, 1) := by decide +kernel
theorem dX2_endPulse_9 : decode cX2_endPulse 9 = .ok (.iastore, 1) := by decide +kernel
theorem dX2_endPulse_10 : decode cX2_endPulse 10 = .ok (.aload_n 0, 1) := by decide +kernel
theorem dX2_endPulse_11 : decode cX2_endPulse 11 = .ok (.getfield 30, 3) := by decide +kernel
theorem dX2_endPulse_14 : decode cX2_endPulse 14 = .ok (.getfield 54, 3) := by decide +kernel
theorem dX2_endPulse_17 : decode cX2_endPulse 17 = .ok (.iload_n 1, 1) := by decide +kernel
theorem dX2_endPulse_18 : decode cX2_endPulse 18 = .ok (.aaload, 1) := by decide +kernel
theorem dX2_endPulse_19 : decode cX2_endPulse 19 = .ok (.getfield 109, 3) := by decide +kernel
theorem dX2_endPulse_22 : decode cX2_endPulse 22 = .ok (.istore_n 2, 1) := by decide +kernel
theorem dX2_endPulse_23 : decode cX2_endPulse 23 = .ok (.iload_n 2, 1) := by decide +kernel
theorem dX2_endPulse_24 : decode cX2_endPulse 24 = .ok (.ifCond .lt 24, 3) := by decide +kernel
theorem dX2_endPulse_27 : decode cX2_endPulse 27 = .ok (.aload_n 0, 1) := by decide +kernel
theorem dX2_endPulse_28 : decode cX2_endPulse 28 = .ok (.getfield 34, 3) := by decide +kernel
theorem dX2_endPulse_31 : decode cX2_endPulse 31 = .ok (.getfield 62, 3) := by decide +kernel
theorem dX2_endPulse_34 : decode cX2_endPulse 34 = .ok (.iload_n 2, 1) := by decide +kernel
theorem dX2_endPulse_35 : decode cX2_endPulse 35 = .ok (.aload_n 0, 1) := by decide +kernel
theorem dX2_endPulse_36 : decode cX2_endPulse 36 = .ok (.getfield 30, 3) := by decide +kernel
theorem dX2_endPulse_39 : decode cX2_endPulse 39 = .ok (.getfield 54, 3) := by decide +kernel
theorem dX2_endPulse_42 : decode cX2_endPulse 42 = .ok (.iload_n 2, 1) := by decide +kernel
theorem dX2_endPulse_43 : decode cX2_endPulse 43 = .ok (.aaload, 1) := by decide +kernel
theorem dX2_endPulse_44 : decode cX2_endPulse 44 = .ok (.getfield 112, 3) := by decide +kernel
theorem dX2_endPulse_47 : decode cX2_endPulse 47 = .ok (.iastore, 1) := by decide +kernel
theorem dX2_endPulse_48 : decode cX2_endPulse 48 = .ok (.return_, 1) := by decide +kernel
theorem dX2_fireEvents_0 : decode cX2_fireEvents 0 = .ok (.iconst 0, 1) := by decide +kernel
theorem dX2_fireEvents_1 : decode cX2_fireEvents 1 = .ok (.istore_n 1, 1) := by decide +kernel
theorem dX2_fireEvents_2 : decode cX2_fireEvents 2 = .ok (.iconst 0, 1) := by decide +kernel
theorem dX2_fireEvents_3 : decode cX2_fireEvents 3 = .ok (.istore_n 2, 1) := by decide +kernel
theorem dX2_fireEvents_4 : decode cX2_fireEvents 4 = .ok (.iload_n 2, 1) := by decide +kernel
theorem dX2_fireEvents_5 : decode cX2_fireEvents 5 = .ok (.aload_n 0, 1) := by decide +kernel
theorem dX2_fireEvents_6 : decode cX2_fireEvents 6 = .ok (.getfield 34, 3) := by decide +kernel
theorem dX2_fireEvents_9 : decode cX2_fireEvents 9 = .ok (.getfield 103, 3) := by decide +kernel
theorem dX2_fireEvents_12 : decode cX2_fireEvents 12 = .ok (.if_icmp .ge 149, 3) := by decide +kernel
theorem dX2_fireEvents_15 : decode cX2_fireEvents 15 = .ok (.aload_n 0, 1) := by decide +kernel
theorem dX2_fireEvents_16 : decode cX2_fireEvents 16 = .ok (.getfield 34, 3) := by decide +kernel
theorem dX2_fireEvents_19 : decode cX2_fireEvents 19 = .ok (.getfield 115, 3) := by decide +kernel
theorem dX2_fireEvents_22 : decode cX2_fireEvents 22 = .ok (.iload_n 2, 1) := by decide +kernel
theorem dX2_fireEvents_23 : decode cX2_fireEvents 23 = .ok (.iaload, 1) := by decide +kernel
theorem dX2_fireEvents_24 : decode cX2_fireEvents 24 = .ok (.istore_n 3, 1) := by decide +kernel
theorem dX2_fireEvents_25 : decode cX2_fireEvents 25 = .ok (.aload_n 0, 1) := by decide +kernel
theorem dX2_fireEvents_26 : decode cX2_fireEvents 26 = .ok (.getfield 34, 3) := by decide +kernel
theorem dX2_fireEvents_29 : decode cX2_fireEvents 29 = .ok (.getfield 118, 3) := by decide +kernel
theorem dX2_fireEvents_32 : decode cX2_fireEvents 32 = .ok (.iload_n 2, 1) := by decide +kernel
theorem dX2_fireEvents_33 : decode cX2_fireEvents 33 = .ok (.laload, 1) := by decide +kernel
theorem dX2_fireEvents_34 : decode cX2_fireEvents 34 = .ok (.aload_n 0, 1) := by decide +kernel
theorem dX2_fireEvents_35 : decode cX2_fireEvents 35 = .ok (.getfield 34, 3) := by decide +kernel
theorem dX2_fireEvents_38 : decode cX2_fireEvents 38 = .ok (.getfield 92, 3) := by decide +kernel
theorem dX2_fireEvents_41 : decode cX2_fireEvents 41 = .ok (.lcmp, 1) := by decide +kernel
theorem dX2_fireEvents_42 : decode cX2_fireEvents 42 = .ok (.ifCond .eq 55, 3) := by decide +kernel
theorem dX2_fireEvents_45 : decode cX2_fireEvents 45 = .ok (.aload_n 0, 1) := by decide +kernel
theorem dX2_fireEvents_46 : decode cX2_fireEvents 46 = .ok (.getfield 34, 3) := by decide +kernel
theorem dX2_fireEvents_49 : decode cX2_fireEvents 49 = .ok (.getfield 115, 3) := by decide +kernel
theorem dX2_fireEvents_52 : decode cX2_fireEvents 52 = .ok (.iload_n 1, 1) := by decide +kernel
theorem dX2_fireEvents_53 : decode cX2_fireEvents 53 = .ok (.iload_n 3, 1) := by decide +kernel
theorem dX2_fireEvents_54 : decode cX2_fireEvents 54 = .ok (.iastore, 1) := by decide +kernel
theorem dX2_fireEvents_55 : decode cX2_fireEvents 55 = .ok (.aload_n 0, 1) := by decide +kernel
theorem dX2_fireEvents_56 : decode cX2_fireEvents 56 = .ok (.getfield 34, 3) := by decide +kernel
theorem dX2_fireEvents_59 : decode cX2_fireEvents 59 = .ok (.getfield 122, 3) := by decide +kernel
theorem dX2_fireEvents_62 : decode cX2_fireEvents 62 = .ok (.iload_n 1, 1) := by decide +kernel
theorem dX2_fireEvents_63 : decode cX2_fireEvents 63 = .ok (.aload_n 0, 1) := by decide +kernel
theorem dX2_fireEvents_64 : decode cX2_fireEvents 64 = .ok (.getfield 34, 3) := by decide +kernel
theorem dX2_fireEvents_67 : decode cX2_fireEvents 67 = .ok (.getfield 122, 3) := by decide +kernel
theorem dX2_fireEvents_70 : decode cX2_fireEvents 70 = .ok (.iload_n 2, 1) := by decide +kernel
theorem dX2_fireEvents_71 : decode cX2_fireEvents 71 = .ok (.iaload, 1) := by decide +kernel
theorem dX2_fireEvents_72 : decode cX2_fireEvents 72 = .ok (.iastore, 1) := by decide +kernel
theorem dX2_fireEvents_73 : decode cX2_fireEvents 73 = .ok (.aload_n 0, 1) := by decide +kernel
theorem dX2_fireEvents_74 : decode cX2_fireEvents 74 = .ok (.getfield 34, 3) := by decide +kernel
theorem dX2_fireEvents_77 : decode cX2_fireEvents 77 = .ok (.getfield 118, 3) := by decide +kernel
theorem dX2_fireEvents_80 : decode cX2_fireEvents 80 = .ok (.iload_n 1, 1) := by decide +kernel
theorem dX2_fireEvents_81 : decode cX2_fireEvents 81 = .ok (.aload_n 0, 1) := by decide +kernel
theorem dX2_fireEvents_82 : decode cX2_fireEvents 82 = .ok (.getfield 34, 3) := by decide +kernel
theorem dX2_fireEvents_85 : decode cX2_fireEvents 85 = .ok (.getfield 118, 3) := by decide +kernel
theorem dX2_fireEvents_88 : decode cX2_fireEvents 88 = .ok (.iload_n 2, 1) := by decide +kernel
theorem dX2_fireEvents_89 : decode cX2_fireEvents 89 = .ok (.laload, 1) := by decide +kernel
theorem dX2_fireEvents_90 : decode cX2_fireEvents 90 = .ok (.lastore, 1) := by decide +kernel
theorem dX2_fireEvents_91 : decode cX2_fireEvents 91 = .ok (.iinc 1 1, 3) := by decide +kernel
theorem dX2_fireEvents_94 : decode cX2_fireEvents 94 = .ok (.goto 61, 3) := by decide +kernel
theorem dX2_fireEvents_97 : decode cX2_fireEvents 97 = .ok (.aload_n 0, 1) := by decide +kernel
theorem dX2_fireEvents_98 : decode cX2_fireEvents 98 = .ok (.getfield 30, 3) := by decide +kernel
theorem dX2_fireEvents_101 : decode cX2_fireEvents 101 = .ok (.getfield 54, 3) := by decide +kernel
theorem dX2_fireEvents_104 : decode cX2_fireEvents 104 = .ok (.iload_n 3, 1) := by decide +kernel
theorem dX2_fireEvents_105 : decode cX2_fireEvents 105 = .ok (.aaload, 1) := by decide +kernel
theorem dX2_fireEvents_106 : decode cX2_fireEvents 106 = .ok (.getfield 89, 3) := by decide +kernel
theorem dX2_fireEvents_109 : decode cX2_fireEvents 109 = .ok (.iconst 1, 1) := by decide +kernel
theorem dX2_fireEvents_110 : decode cX2_fireEvents 110 = .ok (.if_icmp .ne 24, 3) := by decide +kernel
theorem dX2_fireEvents_113 : decode cX2_fireEvents 113 = .ok (.aload_n 0, 1) := by decide +kernel
theorem dX2_fireEvents_114 : decode cX2_fireEvents 114 = .ok (.getfield 34, 3) := by decide +kernel
theorem dX2_fireEvents_117 : decode cX2_fireEvents 117 = .ok (.getfield 62, 3) := by decide +kernel
theorem dX2_fireEvents_120 : decode cX2_fireEvents 120 = .ok (.iload_n 3, 1) := by decide +kernel
theorem dX2_fireEvents_121 : decode cX2_fireEvents 121 = .ok (.aload_n 0, 1) := by decide +kernel
theorem dX2_fireEvents_122 : decode cX2_fireEvents 122 = .ok (.getfield 34, 3) := by decide +kernel
theorem dX2_fireEvents_125 : decode cX2_fireEvents 125 = .ok (.getfield 122, 3) := by decide +kernel
theorem dX2_fireEvents_128 : decode cX2_fireEvents 128 = .ok (.iload_n 2, 1) := by decide +kernel
theorem dX2_fireEvents_129 : decode cX2_fireEvents 129 = .ok (.iaload, 1) := by decide +kernel
theorem dX2_fireEvents_130 : decode cX2_fireEvents 130 = .ok (.iastore, 1) := by decide +kernel
theorem dX2_fireEvents_131 : decode cX2_fireEvents 131 = .ok (.goto 24, 3) := by decide +kernel
theorem dX2_fireEvents_134 : decode cX2_fireEvents 134 = .ok (.aload_n 0, 1) := by decide +kernel
theorem dX2_fireEvents_135 : decode cX2_fireEvents 135 = .ok (.getfield 34, 3) := by decide +kernel
theorem dX2_fireEvents_138 : decode cX2_fireEvents 138 = .ok (.getfield 62, 3) := by decide +kernel
theorem dX2_fireEvents_141 : decode cX2_fireEvents 141 = .ok (.iload_n 3, 1) := by decide +kernel
theorem dX2_fireEvents_142 : decode cX2_fireEvents 142 = .ok (.dup2, 1) := by decide +kernel
theorem dX2_fireEvents_143 : decode cX2_fireEvents 143 = .ok (.iaload, 1) := by decide +kernel
theorem dX2_fireEvents_144 : decode cX2_fireEvents 144 = .ok (.aload_n 0, 1) := by decide +kernel
theorem dX2_fireEvents_145 : decode cX2_fireEvents 145 = .ok (.getfield 34, 3) := by decide +kernel
theorem dX2_fireEvents_148 : decode cX2_fireEvents 148 = .ok (.getfield 122, 3) := by decide +kernel
theorem dX2_fireEvents_151 : decode cX2_fireEvents 151 = .ok (.iload_n 2, 1) := by decide +kernel
theorem dX2_fireEvents_152 : decode cX2_fireEvents 152 = .ok (.iaload, 1) := by decide +kernel
theorem dX2_fireEvents_153 : decode cX2_fireEvents 153 = .ok (.ior, 1) := by decide +kernel
theorem dX2_fireEvents_154 : decode cX2_fireEvents 154 = .ok (.iastore, 1) := by decide +kernel
theorem dX2_fireEvents_155 : decode cX2_fireEvents 155 = .ok (.iinc 2 1, 3) := by decide +kernel
theorem dX2_fireEvents_158 : decode cX2_fireEvents 158 = .ok (.goto (-154), 3) := by decide +kernel
theorem dX2_fireEvents_161 : decode cX2_fireEvents 161 = .ok (.aload_n 0, 1) := by decide +kernel
theorem dX2_fireEvents_162 : decode cX2_fireEvents 162 = .ok (.getfield 34, 3) := by decide +kernel
theorem dX2_fireEvents_165 : decode cX2_fireEvents 165 = .ok (.iload_n 1, 1) := by decide +kernel
theorem dX2_fireEvents_166 : decode cX2_fireEvents 166 = .ok (.putfield 103, 3) := by decide +kernel
theorem dX2_fireEvents_169 : decode cX2_fireEvents 169 = .ok (.return_, 1) := by decide +kernel
theorem dX2_tick_0 : decode cX2_tick 0 = .ok (.aload_n 0, 1) := by decide +kernel
theorem dX2_tick_1 : decode cX2_tick 1 = .ok (.getfield 34, 3) := by decide +kernel
theorem dX2_tick_4 : decode cX2_tick 4 = .ok (.dup, 1) := by decide +kernel
theorem dX2_tick_5 : decode cX2_tick 5 = .ok (.getfield 92, 3) := by decide +kernel
theorem dX2_tick_8 : decode cX2_tick 8 = .ok (.lconst 1, 1) := by decide +kernel
theorem dX2_tick_9 : decode cX2_tick 9 = .ok (.ladd, 1) := by decide +kernel
theorem dX2_tick_10 : decode cX2_tick 10 = .ok (.putfield 92, 3) := by decide +kernel
theorem dX2_tick_13 : decode cX2_tick 13 = .ok (.iconst 0, 1) := by decide +kernel
theorem dX2_tick_14 : decode cX2_tick 14 = .ok (.istore_n 1, 1) := by decide +kernel
theorem dX2_tick_15 : decode cX2_tick 15 = .ok (.iload_n 1, 1) := by decide +kernel
theorem dX2_tick_16 : decode cX2_tick 16 = .ok (.aload_n 0, 1) := by decide +kernel
theorem dX2_tick_17 : decode cX2_tick 17 = .ok (.getfield 26, 3) := by decide +kernel
theorem dX2_tick_20 : decode cX2_tick 20 = .ok (.if_icmp .ge 58, 3) := by decide +kernel
theorem dX2_tick_23 : decode cX2_tick 23 = .ok (.aload_n 0, 1) := by decide +kernel
theorem dX2_tick_24 : decode cX2_tick 24 = .ok (.getfield 23, 3) := by decide +kernel
theorem dX2_tick_27 : decode cX2_tick 27 = .ok (.iload_n 1, 1) := by decide +kernel
theorem dX2_tick_28 : decode cX2_tick 28 = .ok (.iaload, 1) := by decide +kernel
theorem dX2_tick_29 : decode cX2_tick 29 = .ok (.istore_n 2, 1) := by decide +kernel
theorem dX2_tick_30 : decode cX2_tick 30 = .ok (.aload_n 0, 1) := by decide +kernel
theorem dX2_tick_31 : decode cX2_tick 31 = .ok (.getfield 34, 3) := by decide +kernel
theorem dX2_tick_34 : decode cX2_tick 34 = .ok (.getfield 96, 3) := by decide +kernel
theorem dX2_tick_37 : decode cX2_tick 37 = .ok (.iload_n 2, 1) := by decide +kernel
theorem dX2_tick_38 : decode cX2_tick 38 = .ok (.iaload, 1) := by decide +kernel
theorem dX2_tick_39 : decode cX2_tick 39 = .ok (.ifCond .le 33, 3) := by decide +kernel
theorem dX2_tick_42 : decode cX2_tick 42 = .ok (.aload_n 0, 1) := by decide +kernel
theorem dX2_tick_43 : decode cX2_tick 43 = .ok (.getfield 34, 3) := by decide +kernel
theorem dX2_tick_46 : decode cX2_tick 46 = .ok (.getfield 96, 3) := by decide +kernel
theorem dX2_tick_49 : decode cX2_tick 49 = .ok (.iload_n 2, 1) := by decide +kernel
theorem dX2_tick_50 : decode cX2_tick 50 = .ok (.dup2, 1) := by decide +kernel
theorem dX2_tick_51 : decode cX2_tick 51 = .ok (.iaload, 1) := by decide +kernel
theorem dX2_tick_52 : decode cX2_tick 52 = .ok (.iconst 1, 1) := by decide +kernel
theorem dX2_tick_53 : decode cX2_tick 53 = .ok (.isub, 1) := by decide +kernel
theorem dX2_tick_54 : decode cX2_tick 54 = .ok (.iastore, 1) := by decide +kernel
theorem dX2_tick_55 : decode cX2_tick 55 = .ok (.aload_n 0, 1) := by decide +kernel
theorem dX2_tick_56 : decode cX2_tick 56 = .ok (.getfield 34, 3) := by decide +kernel
theorem dX2_tick_59 : decode cX2_tick 59 = .ok (.getfield 96, 3) := by decide +kernel
theorem dX2_tick_62 : decode cX2_tick 62 = .ok (.iload_n 2, 1) := by decide +kernel
theorem dX2_tick_63 : decode cX2_tick 63 = .ok (.iaload, 1) := by decide +kernel
theorem dX2_tick_64 : decode cX2_tick 64 = .ok (.ifCond .ne 8, 3) := by decide +kernel
theorem dX2_tick_67 : decode cX2_tick 67 = .ok (.aload_n 0, 1) := by decide +kernel
theorem dX2_tick_68 : decode cX2_tick 68 = .ok (.iload_n 2, 1) := by decide +kernel
theorem dX2_tick_69 : decode cX2_tick 69 = .ok (.invokevirtual 99, 3) := by decide +kernel
theorem dX2_tick_72 : decode cX2_tick 72 = .ok (.iinc 1 1, 3) := by decide +kernel
theorem dX2_tick_75 : decode cX2_tick 75 = .ok (.goto (-60), 3) := by decide +kernel
theorem dX2_tick_78 : decode cX2_tick 78 = .ok (.aload_n 0, 1) := by decide +kernel
theorem dX2_tick_79 : decode cX2_tick 79 = .ok (.getfield 34, 3) := by decide +kernel
theorem dX2_tick_82 : decode cX2_tick 82 = .ok (.getfield 103, 3) := by decide +kernel
theorem dX2_tick_85 : decode cX2_tick 85 = .ok (.ifCond .le 7, 3) := by decide +kernel
theorem dX2_tick_88 : decode cX2_tick 88 = .ok (.aload_n 0, 1) := by decide +kernel
theorem dX2_tick_89 : decode cX2_tick 89 = .ok (.invokevirtual 106, 3) := by decide +kernel
theorem dX2_tick_92 : decode cX2_tick 92 = .ok (.return_, 1) := by decide +kernel
theorem dX2_readRegister_0 : decode cX2_readRegister 0 = .ok (.iconst 0, 1) := by decide +kernel
theorem dX2_readRegister_1 : decode cX2_readRegister 1 = .ok (.istore_n 3, 1) := by decide +kernel
theorem dX2_readRegister_2 : decode cX2_readRegister 2 = .ok (.iconst 0, 1) := by decide +kernel
theorem dX2_readRegister_3 : decode cX2_readRegister 3 = .ok (.istore 4, 2) := by decide +kernel
theorem dX2_readRegister_5 : decode cX2_readRegister 5 = .ok (.iload 4, 2) := by decide +kernel
theorem dX2_readRegister_7 : decode cX2_readRegister 7 = .ok (.aload_n 0, 1) := by decide +kernel
theorem dX2_readRegister_8 : decode cX2_readRegister 8 = .ok (.getfield 16, 3) := by decide +kernel
theorem dX2_readRegister_11 : decode cX2_readRegister 11 = .ok (.iload_n 1, 1) := by decide +kernel
theorem dX2_readRegister_12 : decode cX2_readRegister 12 = .ok (.iaload, 1) := by decide +kernel
theorem dX2_readRegister_13 : decode cX2_readRegister 13 = .ok (.if_icmp .ge 98, 3) := by decide +kernel
theorem dX2_readRegister_16 : decode cX2_readRegister 16 = .ok (.aload_n 0, 1) := by decide +kernel
theorem dX2_readRegister_17 : decode cX2_readRegister 17 = .ok (.getfield 11, 3) := by decide +kernel
theorem dX2_readRegister_20 : decode cX2_readRegister 20 = .ok (.iload_n 1, 1) := by decide +kernel
theorem dX2_readRegister_21 : decode cX2_readRegister 21 = .ok (.aaload, 1) := by decide +kernel
theorem dX2_readRegister_22 : decode cX2_readRegister 22 = .ok (.iload 4, 2) := by decide +kernel
theorem dX2_readRegister_24 : decode cX2_readRegister 24 = .ok (.iaload, 1) := by decide +kernel
theorem dX2_readRegister_25 : decode cX2_readRegister 25 = .ok (.istore 5, 2) := by decide +kernel
theorem dX2_readRegister_27 : decode cX2_readRegister 27 = .ok (.aload_n 0, 1) := by decide +kernel
theorem dX2_readRegister_28 : decode cX2_readRegister 28 = .ok (.getfield 30, 3) := by decide +kernel
theorem dX2_readRegister_31 : decode cX2_readRegister 31 = .ok (.getfield 54, 3) := by decide +kernel
theorem dX2_readRegister_34 : decode cX2_readRegister 34 = .ok (.iload 5, 2) := by decide +kernel
theorem dX2_readRegister_36 : decode cX2_readRegister 36 = .ok (.aaload, 1) := by decide +kernel
theorem dX2_readRegister_37 : decode cX2_readRegister 37 = .ok (.astore 6, 2) := by decide +kernel
theorem dX2_readRegister_39 : decode cX2_readRegister 39 = .ok (.iload_n 3, 1) := by decide +kernel
theorem dX2_readRegister_40 : decode cX2_readRegister 40 = .ok (.aload_n 0, 1) := by decide +kernel
theorem dX2_readRegister_41 : decode cX2_readRegister 41 = .ok (.getfield 34, 3) := by decide +kernel
theorem dX2_readRegister_44 : decode cX2_readRegister 44 = .ok (.getfield 62, 3) := by decide +kernel
theorem dX2_readRegister_47 : decode cX2_readRegister 47 = .ok (.iload 5, 2) := by decide +kernel
theorem dX2_readRegister_49 : decode cX2_readRegister 49 = .ok (.iaload, 1) := by decide +kernel
theorem dX2_readRegister_50 : decode cX2_readRegister 50 = .ok (.aload 6, 2) := by decide +kernel
theorem dX2_readRegister_52 : decode cX2_readRegister 52 = .ok (.getfield 83, 3) := by decide +kernel
theorem dX2_readRegister_55 : decode cX2_readRegister 55 = .ok (.ishl, 1) := by decide +kernel
theorem dX2_readRegister_56 : decode cX2_readRegister 56 = .ok (.ior, 1) := by decide +kernel
theorem dX2_readRegister_57 : decode cX2_readRegister 57 = .ok (.istore_n 3, 1) := by decide +kernel
theorem dX2_readRegister_58 : decode cX2_readRegister 58 = .ok (.aload 6, 2) := by decide +kernel
theorem dX2_readRegister_60 : decode cX2_readRegister 60 = .ok (.getfield 89, 3) := by decide +kernel
theorem dX2_readRegister_63 : decode cX2_readRegister 63 = .ok (.iconst 3, 1) := by decide +kernel
theorem dX2_readRegister_64 : decode cX2_readRegister 64 = .ok (.if_icmp .ne 41, 3) := by decide +kernel
theorem dX2_readRegister_67 : decode cX2_readRegister 67 = .ok (.iload_n 2, 1) := by decide +kernel
theorem dX2_readRegister_68 : decode cX2_readRegister 68 = .ok (.ifCond .eq 26, 3) := by decide +kernel
theorem dX2_readRegister_71 : decode cX2_readRegister 71 = .ok (.aload_n 0, 1) := by decide +kernel
theorem dX2_readRegister_72 : decode cX2_readRegister 72 = .ok (.getfield 34, 3) := by decide +kernel
theorem dX2_readRegister_75 : decode cX2_readRegister 75 = .ok (.getfield 125, 3) := by decide +kernel
theorem dX2_readRegister_78 : decode cX2_readRegister 78 = .ok (.iload 5, 2) := by decide +kernel
theorem dX2_readRegister_80 : decode cX2_readRegister 80 = .ok (.dup2, 1) := by decide +kernel
theorem dX2_readRegister_81 : decode cX2_readRegister 81 = .ok (.iaload, 1) := by decide +kernel
theorem dX2_readRegister_82 : decode cX2_readRegister 82 = .ok (.aload_n 0, 1) := by decide +kernel
theorem dX2_readRegister_83 : decode cX2_readRegister 83 = .ok (.getfield 34, 3) := by decide +kernel
theorem dX2_readRegister_86 : decode cX2_readRegister 86 = .ok (.getfield 62, 3) := by decide +kernel
theorem dX2_readRegister_89 : decode cX2_readRegister 89 = .ok (.iload 5, 2) := by decide +kernel
theorem dX2_readRegister_91 : decode cX2_readRegister 91 = .ok (.iaload, 1) := by decide +kernel
theorem dX2_readRegister_92 : decode cX2_readRegister 92 = .ok (.ior, 1) := by decide +kernel
theorem dX2_readRegister_93 : decode cX2_readRegister 93 = .ok (.iastore, 1) := by decide +kernel
theorem dX2_readRegister_94 : decode cX2_readRegister 94 = .ok (.aload_n 0, 1) := by decide +kernel
theorem dX2_readRegister_95 : decode cX2_readRegister 95 = .ok (.getfield 34, 3) := by decide +kernel
theorem dX2_readRegister_98 : decode cX2_readRegister 98 = .ok (.getfield 62, 3) := by decide +kernel
theorem dX2_readRegister_101 : decode cX2_readRegister 101 = .ok (.iload 5, 2) := by decide +kernel
theorem dX2_readRegister_103 : decode cX2_readRegister 103 = .ok (.iconst 0, 1) := by decide +kernel
theorem dX2_readRegister_104 : decode cX2_readRegister 104 = .ok (.iastore, 1) := by decide +kernel
theorem dX2_readRegister_105 : decode cX2_readRegister 105 = .ok (.iinc 4 1, 3) := by decide +kernel
theorem dX2_readRegister_108 : decode cX2_readRegister 108 = .ok (.goto (-103), 3) := by decide +kernel
theorem dX2_readRegister_111 : decode cX2_readRegister 111 = .ok (.aload_n 0, 1) := by decide +kernel
theorem dX2_readRegister_112 : decode cX2_readRegister 112 = .ok (.invokevirtual 128, 3) := by decide +kernel
theorem dX2_readRegister_115 : decode cX2_readRegister 115 = .ok (.iload_n 3, 1) := by decide +kernel
theorem dX2_readRegister_116 : decode cX2_readRegister 116 = .ok (.ireturn, 1) := by decide +kernel
theorem dX6_bitsIn_0 : decode cX6_bitsIn 0 = .ok (.iload_n 1, 1) := by decide +kernel
theorem dX6_bitsIn_1 : decode cX6_bitsIn 1 = .ok (.aload_n 0, 1) := by decide +kernel
theorem dX6_bitsIn_2 : decode cX6_bitsIn 2 = .ok (.getfield 7, 3) := by decide +kernel
theorem dX6_bitsIn_5 : decode cX6_bitsIn 5 = .ok (.ishr, 1) := by decide +kernel
theorem dX6_bitsIn_6 : decode cX6_bitsIn 6 = .ok (.aload_n 0, 1) := by decide +kernel
theorem dX6_bitsIn_7 : decode cX6_bitsIn 7 = .ok (.getfield 13, 3) := by decide +kernel
theorem dX6_bitsIn_10 : decode cX6_bitsIn 10 = .ok (.iand, 1) := by decide +kernel
theorem dX6_bitsIn_11 : decode cX6_bitsIn 11 = .ok (.ireturn, 1) := by decide +kernel
theorem dX2_isHit_0 : decode cX2_isHit 0 = .ok (.aload_n 0, 1) := by decide +kernel
theorem dX2_isHit_1 : decode cX2_isHit 1 = .ok (.getfield 30, 3) := by decide +kernel
theorem dX2_isHit_4 : decode cX2_isHit 4 = .ok (.getfield 54, 3) := by decide +kernel
theorem dX2_isHit_7 : decode cX2_isHit 7 = .ok (.iload_n 1, 1) := by decide +kernel
theorem dX2_isHit_8 : decode cX2_isHit 8 = .ok (.aaload, 1) := by decide +kernel
theorem dX2_isHit_9 : decode cX2_isHit 9 = .ok (.getfield 89, 3) := by decide +kernel
theorem dX2_isHit_12 : decode cX2_isHit 12 = .ok (.tableswitch 92 0 6 #[44, 92, 82, 92, 82, 63, 82], 44) := by decide +kernel
theorem dX2_isHit_56 : decode cX2_isHit 56 = .ok (.iload_n 2, 1) := by decide +kernel
theorem dX2_isHit_57 : decode cX2_isHit 57 = .ok (.aload_n 0, 1) := by decide +kernel
theorem dX2_isHit_58 : decode cX2_isHit 58 = .ok (.getfield 34, 3) := by decide +kernel
theorem dX2_isHit_61 : decode cX2_isHit 61 = .ok (.getfield 62, 3) := by decide +kernel
theorem dX2_isHit_64 : decode cX2_isHit 64 = .ok (.iload_n 1, 1) := by decide +kernel
theorem dX2_isHit_65 : decode cX2_isHit 65 = .ok (.iaload, 1) := by decide +kernel
theorem dX2_isHit_66 : decode cX2_isHit 66 = .ok (.if_icmp .eq 7, 3) := by decide +kernel
theorem dX2_isHit_69 : decode cX2_isHit 69 = .ok (.iconst 1, 1) := by decide +kernel
theorem dX2_isHit_70 : decode cX2_isHit 70 = .ok (.goto 4, 3) := by decide +kernel
theorem dX2_isHit_73 : decode cX2_isHit 73 = .ok (.iconst 0, 1) := by decide +kernel
theorem dX2_isHit_74 : decode cX2_isHit 74 = .ok (.ireturn, 1) := by decide +kernel
theorem dX2_isHit_75 : decode cX2_isHit 75 = .ok (.iload_n 2, 1) := by decide +kernel
theorem dX2_isHit_76 : decode cX2_isHit 76 = .ok (.aload_n 0, 1) := by decide +kernel
theorem dX2_isHit_77 : decode cX2_isHit 77 = .ok (.getfield 34, 3) := by decide +kernel
theorem dX2_isHit_80 : decode cX2_isHit 80 = .ok (.getfield 70, 3) := by decide +kernel
theorem dX2_isHit_83 : decode cX2_isHit 83 = .ok (.iload_n 1, 1) := by decide +kernel
theorem dX2_isHit_84 : decode cX2_isHit 84 = .ok (.iaload, 1) := by decide +kernel
theorem dX2_isHit_85 : decode cX2_isHit 85 = .ok (.if_icmp .eq 7, 3) := by decide +kernel
theorem dX2_isHit_88 : decode cX2_isHit 88 = .ok (.iconst 1, 1) := by decide +kernel
theorem dX2_isHit_89 : decode cX2_isHit 89 = .ok (.goto 4, 3) := by decide +kernel
theorem dX2_isHit_92 : decode cX2_isHit 92 = .ok (.iconst 0, 1) := by decide +kernel
theorem dX2_isHit_93 : decode cX2_isHit 93 = .ok (.ireturn, 1) := by decide +kernel
theorem dX2_isHit_94 : decode cX2_isHit 94 = .ok (.iload_n 2, 1) := by decide +kernel
theorem dX2_isHit_95 : decode cX2_isHit 95 = .ok (.ifCond .eq 7, 3) := by decide +kernel
theorem dX2_isHit_98 : decode cX2_isHit 98 = .ok (.iconst 1, 1) := by decide +kernel
theorem dX2_isHit_99 : decode cX2_isHit 99 = .ok (.goto 4, 3) := by decide +kernel
theorem dX2_isHit_102 : decode cX2_isHit 102 = .ok (.iconst 0, 1) := by decide +kernel
theorem dX2_isHit_103 : decode cX2_isHit 103 = .ok (.ireturn, 1) := by decide +kernel
theorem dX2_isHit_104 : decode cX2_isHit 104 = .ok (.iconst 0, 1) := by decide +kernel
theorem dX2_isHit_105 : decode cX2_isHit 105 = .ok (.ireturn, 1) := by decide +kernel
theorem dX2_hitsOf_0 : decode cX2_hitsOf 0 = .ok (.iconst 0, 1) := by decide +kernel
theorem dX2_hitsOf_1 : decode cX2_hitsOf 1 = .ok (.istore_n 3, 1) := by decide +kernel
theorem dX2_hitsOf_2 : decode cX2_hitsOf 2 = .ok (.iconst 0, 1) := by decide +kernel
theorem dX2_hitsOf_3 : decode cX2_hitsOf 3 = .ok (.istore 4, 2) := by decide +kernel
theorem dX2_hitsOf_5 : decode cX2_hitsOf 5 = .ok (.iload 4, 2) := by decide +kernel
theorem dX2_hitsOf_7 : decode cX2_hitsOf 7 = .ok (.aload_n 0, 1) := by decide +kernel
theorem dX2_hitsOf_8 : decode cX2_hitsOf 8 = .ok (.getfield 16, 3) := by decide +kernel
theorem dX2_hitsOf_11 : decode cX2_hitsOf 11 = .ok (.iload_n 1, 1) := by decide +kernel
theorem dX2_hitsOf_12 : decode cX2_hitsOf 12 = .ok (.iaload, 1) := by decide +kernel
theorem dX2_hitsOf_13 : decode cX2_hitsOf 13 = .ok (.if_icmp .ge 50, 3) := by decide +kernel
theorem dX2_hitsOf_16 : decode cX2_hitsOf 16 = .ok (.aload_n 0, 1) := by decide +kernel
theorem dX2_hitsOf_17 : decode cX2_hitsOf 17 = .ok (.getfield 11, 3) := by decide +kernel
theorem dX2_hitsOf_20 : decode cX2_hitsOf 20 = .ok (.iload_n 1, 1) := by decide +kernel
theorem dX2_hitsOf_21 : decode cX2_hitsOf 21 = .ok (.aaload, 1) := by decide +kernel
theorem dX2_hitsOf_22 : decode cX2_hitsOf 22 = .ok (.iload 4, 2) := by decide +kernel
theorem dX2_hitsOf_24 : decode cX2_hitsOf 24 = .ok (.iaload, 1) := by decide +kernel
theorem dX2_hitsOf_25 : decode cX2_hitsOf 25 = .ok (.istore 5, 2) := by decide +kernel
theorem dX2_hitsOf_27 : decode cX2_hitsOf 27 = .ok (.aload_n 0, 1) := by decide +kernel
theorem dX2_hitsOf_28 : decode cX2_hitsOf 28 = .ok (.iload 5, 2) := by decide +kernel
theorem dX2_hitsOf_30 : decode cX2_hitsOf 30 = .ok (.aload_n 0, 1) := by decide +kernel
theorem dX2_hitsOf_31 : decode cX2_hitsOf 31 = .ok (.getfield 30, 3) := by decide +kernel
theorem dX2_hitsOf_34 : decode cX2_hitsOf 34 = .ok (.getfield 54, 3) := by decide +kernel
theorem dX2_hitsOf_37 : decode cX2_hitsOf 37 = .ok (.iload 5, 2) := by decide +kernel
theorem dX2_hitsOf_39 : decode cX2_hitsOf 39 = .ok (.aaload, 1) := by decide +kernel
theorem dX2_hitsOf_40 : decode cX2_hitsOf 40 = .ok (.iload_n 2, 1) := by decide +kernel
theorem dX2_hitsOf_41 : decode cX2_hitsOf 41 = .ok (.invokevirtual 145, 3) := by decide +kernel
theorem dX2_hitsOf_44 : decode cX2_hitsOf 44 = .ok (.invokevirtual 153, 3) := by decide +kernel
theorem dX2_hitsOf_47 : decode cX2_hitsOf 47 = .ok (.ifCond .eq 10, 3) := by decide +kernel
theorem dX2_hitsOf_50 : decode cX2_hitsOf 50 = .ok (.iload_n 3, 1) := by decide +kernel
theorem dX2_hitsOf_51 : decode cX2_hitsOf 51 = .ok (.iconst 1, 1) := by decide +kernel
theorem dX2_hitsOf_52 : decode cX2_hitsOf 52 = .ok (.iload 5, 2) := by decide +kernel
theorem dX2_hitsOf_54 : decode cX2_hitsOf 54 = .ok (.ishl, 1) := by decide +kernel
theorem dX2_hitsOf_55 : decode cX2_hitsOf 55 = .ok (.ior, 1) := by decide +kernel
theorem dX2_hitsOf_56 : decode cX2_hitsOf 56 = .ok (.istore_n 3, 1) := by decide +kernel
theorem dX2_hitsOf_57 : decode cX2_hitsOf 57 = .ok (.iinc 4 1, 3) := by decide +kernel
theorem dX2_hitsOf_60 : decode cX2_hitsOf 60 = .ok (.goto (-55), 3) := by decide +kernel
theorem dX2_hitsOf_63 : decode cX2_hitsOf 63 = .ok (.iload_n 3, 1) := by decide +kernel
theorem dX2_hitsOf_64 : decode cX2_hitsOf 64 = .ok (.ireturn, 1) := by decide +kernel
theorem dX2_isBroken_0 : decode cX2_isBroken 0 = .ok (.aload_n 1, 1) := by decide +kernel
theorem dX2_isBroken_1 : decode cX2_isBroken 1 = .ok (.getfield 175, 3) := by decide +kernel
theorem dX2_isBroken_4 : decode cX2_isBroken 4 = .ok (.lookupswitch 78 #[(0, 28), (1, 53)], 28) := by decide +kernel
theorem dX2_isBroken_32 : decode cX2_isBroken 32 = .ok (.aload_n 0, 1) := by decide +kernel
theorem dX2_isBroken_33 : decode cX2_isBroken 33 = .ok (.getfield 34, 3) := by decide +kernel
theorem dX2_isBroken_36 : decode cX2_isBroken 36 = .ok (.getfield 62, 3) := by decide +kernel
theorem dX2_isBroken_39 : decode cX2_isBroken 39 = .ok (.aload_n 1, 1) := by decide +kernel
theorem dX2_isBroken_40 : decode cX2_isBroken 40 = .ok (.getfield 176, 3) := by decide +kernel
theorem dX2_isBroken_43 : decode cX2_isBroken 43 = .ok (.iaload, 1) := by decide +kernel
theorem dX2_isBroken_44 : decode cX2_isBroken 44 = .ok (.aload_n 1, 1) := by decide +kernel
theorem dX2_isBroken_45 : decode cX2_isBroken 45 = .ok (.getfield 179, 3) := by decide +kernel
theorem dX2_isBroken_48 : decode cX2_isBroken 48 = .ok (.if_icmp .ne 7, 3) := by decide +kernel
theorem dX2_isBroken_51 : decode cX2_isBroken 51 = .ok (.iconst 1, 1) := by decide +kernel
theorem dX2_isBroken_52 : decode cX2_isBroken 52 = .ok (.goto 4, 3) := by decide +kernel
theorem dX2_isBroken_55 : decode cX2_isBroken 55 = .ok (.iconst 0, 1) := by decide +kernel
theorem dX2_isBroken_56 : decode cX2_isBroken 56 = .ok (.ireturn, 1) := by decide +kernel
theorem dX2_isBroken_57 : decode cX2_isBroken 57 = .ok (.aload_n 0, 1) := by decide +kernel
theorem dX2_isBroken_58 : decode cX2_isBroken 58 = .ok (.getfield 34, 3) := by decide +kernel
theorem dX2_isBroken_61 : decode cX2_isBroken 61 = .ok (.getfield 62, 3) := by decide +kernel
theorem dX2_isBroken_64 : decode cX2_isBroken 64 = .ok (.aload_n 1, 1) := by decide +kernel
theorem dX2_isBroken_65 : decode cX2_isBroken 65 = .ok (.getfield 176, 3) := by decide +kernel
theorem dX2_isBroken_68 : decode cX2_isBroken 68 = .ok (.iaload, 1) := by decide +kernel
theorem dX2_isBroken_69 : decode cX2_isBroken 69 = .ok (.aload_n 1, 1) := by decide +kernel
theorem dX2_isBroken_70 : decode cX2_isBroken 70 = .ok (.getfield 179, 3) := by decide +kernel
theorem dX2_isBroken_73 : decode cX2_isBroken 73 = .ok (.if_icmp .eq 7, 3) := by decide +kernel
theorem dX2_isBroken_76 : decode cX2_isBroken 76 = .ok (.iconst 1, 1) := by decide +kernel
theorem dX2_isBroken_77 : decode cX2_isBroken 77 = .ok (.goto 4, 3) := by decide +kernel
theorem dX2_isBroken_80 : decode cX2_isBroken 80 = .ok (.iconst 0, 1) := by decide +kernel
theorem dX2_isBroken_81 : decode cX2_isBroken 81 = .ok (.ireturn, 1) := by decide +kernel
theorem dX2_isBroken_82 : decode cX2_isBroken 82 = .ok (.aload_n 0, 1) := by decide +kernel
theorem dX2_isBroken_83 : decode cX2_isBroken 83 = .ok (.getfield 34, 3) := by decide +kernel
theorem dX2_isBroken_86 : decode cX2_isBroken 86 = .ok (.getfield 142, 3) := by decide +kernel
theorem dX2_isBroken_89 : decode cX2_isBroken 89 = .ok (.aload_n 1, 1) := by decide +kernel
theorem dX2_isBroken_90 : decode cX2_isBroken 90 = .ok (.getfield 176, 3) := by decide +kernel
theorem dX2_isBroken_93 : decode cX2_isBroken 93 = .ok (.laload, 1) := by decide +kernel
theorem dX2_isBroken_94 : decode cX2_isBroken 94 = .ok (.ldc2_w 182, 3) := by decide +kernel
theorem dX2_isBroken_97 : decode cX2_isBroken 97 = .ok (.lcmp, 1) := by decide +kernel
theorem dX2_isBroken_98 : decode cX2_isBroken 98 = .ok (.ifCond .eq 36, 3) := by decide +kernel
theorem dX2_isBroken_101 : decode cX2_isBroken 101 = .ok (.aload_n 0, 1) := by decide +kernel
theorem dX2_isBroken_102 : decode cX2_isBroken 102 = .ok (.getfield 34, 3) := by decide +kernel
theorem dX2_isBroken_105 : decode cX2_isBroken 105 = .ok (.getfield 92, 3) := by decide +kernel
theorem dX2_isBroken_108 : decode cX2_isBroken 108 = .ok (.aload_n 0, 1) := by decide +kernel
theorem dX2_isBroken_109 : decode cX2_isBroken 109 = .ok (.getfield 34, 3) := by decide +kernel
theorem dX2_isBroken_112 : decode cX2_isBroken 112 = .ok (.getfield 142, 3) := by decide +kernel
theorem dX2_isBroken_115 : decode cX2_isBroken 115 = .ok (.aload_n 1, 1) := by decide +kernel
theorem dX2_isBroken_116 : decode cX2_isBroken 116 = .ok (.getfield 176, 3) := by decide +kernel
theorem dX2_isBroken_119 : decode cX2_isBroken 119 = .ok (.laload, 1) := by decide +kernel
theorem dX2_isBroken_120 : decode cX2_isBroken 120 = .ok (.lsub, 1) := by decide +kernel
theorem dX2_isBroken_121 : decode cX2_isBroken 121 = .ok (.aload_n 1, 1) := by decide +kernel
theorem dX2_isBroken_122 : decode cX2_isBroken 122 = .ok (.getfield 179, 3) := by decide +kernel
theorem dX2_isBroken_125 : decode cX2_isBroken 125 = .ok (.i2l, 1) := by decide +kernel
theorem dX2_isBroken_126 : decode cX2_isBroken 126 = .ok (.lcmp, 1) := by decide +kernel
theorem dX2_isBroken_127 : decode cX2_isBroken 127 = .ok (.ifCond .ge 7, 3) := by decide +kernel
theorem dX2_isBroken_130 : decode cX2_isBroken 130 = .ok (.iconst 1, 1) := by decide +kernel
theorem dX2_isBroken_131 : decode cX2_isBroken 131 = .ok (.goto 4, 3) := by decide +kernel
theorem dX2_isBroken_134 : decode cX2_isBroken 134 = .ok (.iconst 0, 1) := by decide +kernel
theorem dX2_isBroken_135 : decode cX2_isBroken 135 = .ok (.ireturn, 1) := by decide +kernel
theorem dX8_countBreak_0 : decode cX8_countBreak 0 = .ok (.aload_n 0, 1) := by decide +kernel
theorem dX8_countBreak_1 : decode cX8_countBreak 1 = .ok (.getfield 54, 3) := by decide +kernel
theorem dX8_countBreak_4 : decode cX8_countBreak 4 = .ok (.lconst 0, 1) := by decide +kernel
theorem dX8_countBreak_5 : decode cX8_countBreak 5 = .ok (.lcmp, 1) := by decide +kernel
theorem dX8_countBreak_6 : decode cX8_countBreak 6 = .ok (.ifCond .ne 16, 3) := by decide +kernel
theorem dX8_countBreak_9 : decode cX8_countBreak 9 = .ok (.aload_n 0, 1) := by decide +kernel
theorem dX8_countBreak_10 : decode cX8_countBreak 10 = .ok (.iload_n 1, 1) := by decide +kernel
theorem dX8_countBreak_11 : decode cX8_countBreak 11 = .ok (.putfield 57, 3) := by decide +kernel
theorem dX8_countBreak_14 : decode cX8_countBreak 14 = .ok (.aload_n 0, 1) := by decide +kernel
theorem dX8_countBreak_15 : decode cX8_countBreak 15 = .ok (.aload_n 0, 1) := by decide +kernel
theorem dX8_countBreak_16 : decode cX8_countBreak 16 = .ok (.getfield 44, 3) := by decide +kernel
theorem dX8_countBreak_19 : decode cX8_countBreak 19 = .ok (.putfield 62, 3) := by decide +kernel
theorem dX8_countBreak_22 : decode cX8_countBreak 22 = .ok (.aload_n 0, 1) := by decide +kernel
theorem dX8_countBreak_23 : decode cX8_countBreak 23 = .ok (.dup, 1) := by decide +kernel
theorem dX8_countBreak_24 : decode cX8_countBreak 24 = .ok (.getfield 54, 3) := by decide +kernel
theorem dX8_countBreak_27 : decode cX8_countBreak 27 = .ok (.lconst 1, 1) := by decide +kernel
theorem dX8_countBreak_28 : decode cX8_countBreak 28 = .ok (.ladd, 1) := by decide +kernel
theorem dX8_countBreak_29 : decode cX8_countBreak 29 = .ok (.putfield 54, 3) := by decide +kernel
theorem dX8_countBreak_32 : decode cX8_countBreak 32 = .ok (.return_, 1) := by decide +kernel
theorem dX2_lookAtLaws_0 : decode cX2_lookAtLaws 0 = .ok (.iconst 0, 1) := by decide +kernel
theorem dX2_lookAtLaws_1 : decode cX2_lookAtLaws 1 = .ok (.istore_n 2, 1) := by decide +kernel
theorem dX2_lookAtLaws_2 : decode cX2_lookAtLaws 2 = .ok (.iload_n 2, 1) := by decide +kernel
theorem dX2_lookAtLaws_3 : decode cX2_lookAtLaws 3 = .ok (.aload_n 0, 1) := by decide +kernel
theorem dX2_lookAtLaws_4 : decode cX2_lookAtLaws 4 = .ok (.getfield 30, 3) := by decide +kernel
theorem dX2_lookAtLaws_7 : decode cX2_lookAtLaws 7 = .ok (.getfield 156, 3) := by decide +kernel
theorem dX2_lookAtLaws_10 : decode cX2_lookAtLaws 10 = .ok (.if_icmp .ge 46, 3) := by decide +kernel
theorem dX2_lookAtLaws_13 : decode cX2_lookAtLaws 13 = .ok (.aload_n 0, 1) := by decide +kernel
theorem dX2_lookAtLaws_14 : decode cX2_lookAtLaws 14 = .ok (.getfield 30, 3) := by decide +kernel
theorem dX2_lookAtLaws_17 : decode cX2_lookAtLaws 17 = .ok (.getfield 159, 3) := by decide +kernel
theorem dX2_lookAtLaws_20 : decode cX2_lookAtLaws 20 = .ok (.iload_n 2, 1) := by decide +kernel
theorem dX2_lookAtLaws_21 : decode cX2_lookAtLaws 21 = .ok (.aaload, 1) := by decide +kernel
theorem dX2_lookAtLaws_22 : decode cX2_lookAtLaws 22 = .ok (.astore_n 3, 1) := by decide +kernel
theorem dX2_lookAtLaws_23 : decode cX2_lookAtLaws 23 = .ok (.iload_n 1, 1) := by decide +kernel
theorem dX2_lookAtLaws_24 : decode cX2_lookAtLaws 24 = .ok (.aload_n 3, 1) := by decide +kernel
theorem dX2_lookAtLaws_25 : decode cX2_lookAtLaws 25 = .ok (.getfield 163, 3) := by decide +kernel
theorem dX2_lookAtLaws_28 : decode cX2_lookAtLaws 28 = .ok (.invokestatic 138, 3) := by decide +kernel
theorem dX2_lookAtLaws_31 : decode cX2_lookAtLaws 31 = .ok (.ifCond .eq 19, 3) := by decide +kernel
theorem dX2_lookAtLaws_34 : decode cX2_lookAtLaws 34 = .ok (.aload_n 0, 1) := by decide +kernel
theorem dX2_lookAtLaws_35 : decode cX2_lookAtLaws 35 = .ok (.aload_n 3, 1) := by decide +kernel
theorem dX2_lookAtLaws_36 : decode cX2_lookAtLaws 36 = .ok (.invokevirtual 168, 3) := by decide +kernel
theorem dX2_lookAtLaws_39 : decode cX2_lookAtLaws 39 = .ok (.ifCond .eq 11, 3) := by decide +kernel
theorem dX2_lookAtLaws_42 : decode cX2_lookAtLaws 42 = .ok (.aload_n 0, 1) := by decide +kernel
theorem dX2_lookAtLaws_43 : decode cX2_lookAtLaws 43 = .ok (.getfield 34, 3) := by decide +kernel
theorem dX2_lookAtLaws_46 : decode cX2_lookAtLaws 46 = .ok (.iload_n 2, 1) := by decide +kernel
theorem dX2_lookAtLaws_47 : decode cX2_lookAtLaws 47 = .ok (.invokevirtual 172, 3) := by decide +kernel
theorem dX2_lookAtLaws_50 : decode cX2_lookAtLaws 50 = .ok (.iinc 2 1, 3) := by decide +kernel
theorem dX2_lookAtLaws_53 : decode cX2_lookAtLaws 53 = .ok (.goto (-51), 3) := by decide +kernel
theorem dX2_lookAtLaws_56 : decode cX2_lookAtLaws 56 = .ok (.return_, 1) := by decide +kernel
theorem dX2_loadHeld_0 : decode cX2_loadHeld 0 = .ok (.iconst 0, 1) := by decide +kernel
theorem dX2_loadHeld_1 : decode cX2_loadHeld 1 = .ok (.istore_n 1, 1) := by decide +kernel
theorem dX2_loadHeld_2 : decode cX2_loadHeld 2 = .ok (.iload_n 1, 1) := by decide +kernel
theorem dX2_loadHeld_3 : decode cX2_loadHeld 3 = .ok (.aload_n 0, 1) := by decide +kernel
theorem dX2_loadHeld_4 : decode cX2_loadHeld 4 = .ok (.getfield 30, 3) := by decide +kernel
theorem dX2_loadHeld_7 : decode cX2_loadHeld 7 = .ok (.getfield 49, 3) := by decide +kernel
theorem dX2_loadHeld_10 : decode cX2_loadHeld 10 = .ok (.if_icmp .ge 43, 3) := by decide +kernel
theorem dX2_loadHeld_13 : decode cX2_loadHeld 13 = .ok (.aload_n 0, 1) := by decide +kernel
theorem dX2_loadHeld_14 : decode cX2_loadHeld 14 = .ok (.getfield 30, 3) := by decide +kernel
theorem dX2_loadHeld_17 : decode cX2_loadHeld 17 = .ok (.getfield 54, 3) := by decide +kernel
theorem dX2_loadHeld_20 : decode cX2_loadHeld 20 = .ok (.iload_n 1, 1) := by decide +kernel
theorem dX2_loadHeld_21 : decode cX2_loadHeld 21 = .ok (.aaload, 1) := by decide +kernel
theorem dX2_loadHeld_22 : decode cX2_loadHeld 22 = .ok (.getfield 89, 3) := by decide +kernel
theorem dX2_loadHeld_25 : decode cX2_loadHeld 25 = .ok (.iconst 5, 1) := by decide +kernel
theorem dX2_loadHeld_26 : decode cX2_loadHeld 26 = .ok (.if_icmp .ne 21, 3) := by decide +kernel
theorem dX2_loadHeld_29 : decode cX2_loadHeld 29 = .ok (.aload_n 0, 1) := by decide +kernel
theorem dX2_loadHeld_30 : decode cX2_loadHeld 30 = .ok (.getfield 34, 3) := by decide +kernel
theorem dX2_loadHeld_33 : decode cX2_loadHeld 33 = .ok (.getfield 62, 3) := by decide +kernel
theorem dX2_loadHeld_36 : decode cX2_loadHeld 36 = .ok (.iload_n 1, 1) := by decide +kernel
theorem dX2_loadHeld_37 : decode cX2_loadHeld 37 = .ok (.aload_n 0, 1) := by decide +kernel
theorem dX2_loadHeld_38 : decode cX2_loadHeld 38 = .ok (.getfield 34, 3) := by decide +kernel
theorem dX2_loadHeld_41 : decode cX2_loadHeld 41 = .ok (.getfield 70, 3) := by decide +kernel
theorem dX2_loadHeld_44 : decode cX2_loadHeld 44 = .ok (.iload_n 1, 1) := by decide +kernel
theorem dX2_loadHeld_45 : decode cX2_loadHeld 45 = .ok (.iaload, 1) := by decide +kernel
theorem dX2_loadHeld_46 : decode cX2_loadHeld 46 = .ok (.iastore, 1) := by decide +kernel
theorem dX2_loadHeld_47 : decode cX2_loadHeld 47 = .ok (.iinc 1 1, 3) := by decide +kernel
theorem dX2_loadHeld_50 : decode cX2_loadHeld 50 = .ok (.goto (-48), 3) := by decide +kernel
theorem dX2_loadHeld_53 : decode cX2_loadHeld 53 = .ok (.return_, 1) := by decide +kernel
theorem dX2_writeField_0 : decode cX2_writeField 0 = .ok (.aload_n 0, 1) := by decide +kernel
theorem dX2_writeField_1 : decode cX2_writeField 1 = .ok (.getfield 30, 3) := by decide +kernel
theorem dX2_writeField_4 : decode cX2_writeField 4 = .ok (.getfield 54, 3) := by decide +kernel
theorem dX2_writeField_7 : decode cX2_writeField 7 = .ok (.iload_n 1, 1) := by decide +kernel
theorem dX2_writeField_8 : decode cX2_writeField 8 = .ok (.aaload, 1) := by decide +kernel
theorem dX2_writeField_9 : decode cX2_writeField 9 = .ok (.getfield 89, 3) := by decide +kernel
theorem dX2_writeField_12 : decode cX2_writeField 12 = .ok (.tableswitch 137 0 6 #[44, 137, 57, 137, 75, 113, 126], 44) := by decide +kernel
theorem dX2_writeField_56 : decode cX2_writeField 56 = .ok (.aload_n 0, 1) := by decide +kernel
theorem dX2_writeField_57 : decode cX2_writeField 57 = .ok (.getfield 34, 3) := by decide +kernel
theorem dX2_writeField_60 : decode cX2_writeField 60 = .ok (.getfield 62, 3) := by decide +kernel
theorem dX2_writeField_63 : decode cX2_writeField 63 = .ok (.iload_n 1, 1) := by decide +kernel
theorem dX2_writeField_64 : decode cX2_writeField 64 = .ok (.iload_n 2, 1) := by decide +kernel
theorem dX2_writeField_65 : decode cX2_writeField 65 = .ok (.iastore, 1) := by decide +kernel
theorem dX2_writeField_66 : decode cX2_writeField 66 = .ok (.goto 83, 3) := by decide +kernel
theorem dX2_writeField_69 : decode cX2_writeField 69 = .ok (.aload_n 0, 1) := by decide +kernel
theorem dX2_writeField_70 : decode cX2_writeField 70 = .ok (.getfield 34, 3) := by decide +kernel
theorem dX2_writeField_73 : decode cX2_writeField 73 = .ok (.getfield 62, 3) := by decide +kernel
theorem dX2_writeField_76 : decode cX2_writeField 76 = .ok (.iload_n 1, 1) := by decide +kernel
theorem dX2_writeField_77 : decode cX2_writeField 77 = .ok (.dup2, 1) := by decide +kernel
theorem dX2_writeField_78 : decode cX2_writeField 78 = .ok (.iaload, 1) := by decide +kernel
theorem dX2_writeField_79 : decode cX2_writeField 79 = .ok (.iload_n 2, 1) := by decide +kernel
theorem dX2_writeField_80 : decode cX2_writeField 80 = .ok (.iconst (-1), 1) := by decide +kernel
theorem dX2_writeField_81 : decode cX2_writeField 81 = .ok (.ixor, 1) := by decide +kernel
theorem dX2_writeField_82 : decode cX2_writeField 82 = .ok (.iand, 1) := by decide +kernel
theorem dX2_writeField_83 : decode cX2_writeField 83 = .ok (.iastore, 1) := by decide +kernel
theorem dX2_writeField_84 : decode cX2_writeField 84 = .ok (.goto 65, 3) := by decide +kernel
theorem dX2_writeField_87 : decode cX2_writeField 87 = .ok (.iload_n 2, 1) := by decide +kernel
theorem dX2_writeField_88 : decode cX2_writeField 88 = .ok (.ifCond .eq 61, 3) := by decide +kernel
theorem dX2_writeField_91 : decode cX2_writeField 91 = .ok (.aload_n 0, 1) := by decide +kernel
theorem dX2_writeField_92 : decode cX2_writeField 92 = .ok (.getfield 34, 3) := by decide +kernel
theorem dX2_writeField_95 : decode cX2_writeField 95 = .ok (.getfield 62, 3) := by decide +kernel
theorem dX2_writeField_98 : decode cX2_writeField 98 = .ok (.iload_n 1, 1) := by decide +kernel
theorem dX2_writeField_99 : decode cX2_writeField 99 = .ok (.iload_n 2, 1) := by decide +kernel
theorem dX2_writeField_100 : decode cX2_writeField 100 = .ok (.iastore, 1) := by decide +kernel
theorem dX2_writeField_101 : decode cX2_writeField 101 = .ok (.aload_n 0, 1) := by decide +kernel
theorem dX2_writeField_102 : decode cX2_writeField 102 = .ok (.getfield 34, 3) := by decide +kernel
theorem dX2_writeField_105 : decode cX2_writeField 105 = .ok (.getfield 96, 3) := by decide +kernel
theorem dX2_writeField_108 : decode cX2_writeField 108 = .ok (.iload_n 1, 1) := by decide +kernel
theorem dX2_writeField_109 : decode cX2_writeField 109 = .ok (.aload_n 0, 1) := by decide +kernel
theorem dX2_writeField_110 : decode cX2_writeField 110 = .ok (.getfield 30, 3) := by decide +kernel
theorem dX2_writeField_113 : decode cX2_writeField 113 = .ok (.getfield 54, 3) := by decide +kernel
theorem dX2_writeField_116 : decode cX2_writeField 116 = .ok (.iload_n 1, 1) := by decide +kernel
theorem dX2_writeField_117 : decode cX2_writeField 117 = .ok (.aaload, 1) := by decide +kernel
theorem dX2_writeField_118 : decode cX2_writeField 118 = .ok (.getfield 184, 3) := by decide +kernel
theorem dX2_writeField_121 : decode cX2_writeField 121 = .ok (.iastore, 1) := by decide +kernel
theorem dX2_writeField_122 : decode cX2_writeField 122 = .ok (.goto 27, 3) := by decide +kernel
theorem dX2_writeField_125 : decode cX2_writeField 125 = .ok (.aload_n 0, 1) := by decide +kernel
theorem dX2_writeField_126 : decode cX2_writeField 126 = .ok (.getfield 34, 3) := by decide +kernel
theorem dX2_writeField_129 : decode cX2_writeField 129 = .ok (.getfield 70, 3) := by decide +kernel
theorem dX2_writeField_132 : decode cX2_writeField 132 = .ok (.iload_n 1, 1) := by decide +kernel
theorem dX2_writeField_133 : decode cX2_writeField 133 = .ok (.iload_n 2, 1) := by decide +kernel
theorem dX2_writeField_134 : decode cX2_writeField 134 = .ok (.iastore, 1) := by decide +kernel
theorem dX2_writeField_135 : decode cX2_writeField 135 = .ok (.goto 14, 3) := by decide +kernel
theorem dX2_writeField_138 : decode cX2_writeField 138 = .ok (.iload_n 2, 1) := by decide +kernel
theorem dX2_writeField_139 : decode cX2_writeField 139 = .ok (.ifCond .eq 10, 3) := by decide +kernel
theorem dX2_writeField_142 : decode cX2_writeField 142 = .ok (.aload_n 0, 1) := by decide +kernel
theorem dX2_writeField_143 : decode cX2_writeField 143 = .ok (.invokevirtual 187, 3) := by decide +kernel
theorem dX2_writeField_146 : decode cX2_writeField 146 = .ok (.goto 3, 3) := by decide +kernel
theorem dX2_writeField_149 : decode cX2_writeField 149 = .ok (.return_, 1) := by decide +kernel
theorem dX2_writeRegister_0 : decode cX2_writeRegister 0 = .ok (.aload_n 0, 1) := by decide +kernel
theorem dX2_writeRegister_1 : decode cX2_writeRegister 1 = .ok (.iload_n 1, 1) := by decide +kernel
theorem dX2_writeRegister_2 : decode cX2_writeRegister 2 = .ok (.iload_n 2, 1) := by decide +kernel
theorem dX2_writeRegister_3 : decode cX2_writeRegister 3 = .ok (.invokevirtual 131, 3) := by decide +kernel
theorem dX2_writeRegister_6 : decode cX2_writeRegister 6 = .ok (.istore_n 3, 1) := by decide +kernel
theorem dX2_writeRegister_7 : decode cX2_writeRegister 7 = .ok (.aload_n 0, 1) := by decide +kernel
theorem dX2_writeRegister_8 : decode cX2_writeRegister 8 = .ok (.iload_n 3, 1) := by decide +kernel
theorem dX2_writeRegister_9 : decode cX2_writeRegister 9 = .ok (.invokevirtual 135, 3) := by decide +kernel
theorem dX2_writeRegister_12 : decode cX2_writeRegister 12 = .ok (.iconst 0, 1) := by decide +kernel
theorem dX2_writeRegister_13 : decode cX2_writeRegister 13 = .ok (.istore 4, 2) := by decide +kernel
theorem dX2_writeRegister_15 : decode cX2_writeRegister 15 = .ok (.iload 4, 2) := by decide +kernel
theorem dX2_writeRegister_17 : decode cX2_writeRegister 17 = .ok (.aload_n 0, 1) := by decide +kernel
theorem dX2_writeRegister_18 : decode cX2_writeRegister 18 = .ok (.getfield 16, 3) := by decide +kernel
theorem dX2_writeRegister_21 : decode cX2_writeRegister 21 = .ok (.iload_n 1, 1) := by decide +kernel
theorem dX2_writeRegister_22 : decode cX2_writeRegister 22 = .ok (.iaload, 1) := by decide +kernel
theorem dX2_writeRegister_23 : decode cX2_writeRegister 23 = .ok (.if_icmp .ge 66, 3) := by decide +kernel
theorem dX2_writeRegister_26 : decode cX2_writeRegister 26 = .ok (.aload_n 0, 1) := by decide +kernel
theorem dX2_writeRegister_27 : decode cX2_writeRegister 27 = .ok (.getfield 11, 3) := by decide +kernel
theorem dX2_writeRegister_30 : decode cX2_writeRegister 30 = .ok (.iload_n 1, 1) := by decide +kernel
theorem dX2_writeRegister_31 : decode cX2_writeRegister 31 = .ok (.aaload, 1) := by decide +kernel
theorem dX2_writeRegister_32 : decode cX2_writeRegister 32 = .ok (.iload 4, 2) := by decide +kernel
theorem dX2_writeRegister_34 : decode cX2_writeRegister 34 = .ok (.iaload, 1) := by decide +kernel
theorem dX2_writeRegister_35 : decode cX2_writeRegister 35 = .ok (.istore 5, 2) := by decide +kernel
theorem dX2_writeRegister_37 : decode cX2_writeRegister 37 = .ok (.iload_n 3, 1) := by decide +kernel
theorem dX2_writeRegister_38 : decode cX2_writeRegister 38 = .ok (.iload 5, 2) := by decide +kernel
theorem dX2_writeRegister_40 : decode cX2_writeRegister 40 = .ok (.invokestatic 138, 3) := by decide +kernel
theorem dX2_writeRegister_43 : decode cX2_writeRegister 43 = .ok (.ifCond .eq 20, 3) := by decide +kernel
theorem dX2_writeRegister_46 : decode cX2_writeRegister 46 = .ok (.aload_n 0, 1) := by decide +kernel
theorem dX2_writeRegister_47 : decode cX2_writeRegister 47 = .ok (.getfield 34, 3) := by decide +kernel
theorem dX2_writeRegister_50 : decode cX2_writeRegister 50 = .ok (.getfield 142, 3) := by decide +kernel
theorem dX2_writeRegister_53 : decode cX2_writeRegister 53 = .ok (.iload 5, 2) := by decide +kernel
theorem dX2_writeRegister_55 : decode cX2_writeRegister 55 = .ok (.aload_n 0, 1) := by decide +kernel
theorem dX2_writeRegister_56 : decode cX2_writeRegister 56 = .ok (.getfield 34, 3) := by decide +kernel
theorem dX2_writeRegister_59 : decode cX2_writeRegister 59 = .ok (.getfield 92, 3) := by decide +kernel
theorem dX2_writeRegister_62 : decode cX2_writeRegister 62 = .ok (.lastore, 1) := by decide +kernel
theorem dX2_writeRegister_63 : decode cX2_writeRegister 63 = .ok (.aload_n 0, 1) := by decide +kernel
theorem dX2_writeRegister_64 : decode cX2_writeRegister 64 = .ok (.iload 5, 2) := by decide +kernel
theorem dX2_writeRegister_66 : decode cX2_writeRegister 66 = .ok (.aload_n 0, 1) := by decide +kernel
theorem dX2_writeRegister_67 : decode cX2_writeRegister 67 = .ok (.getfield 30, 3) := by decide +kernel
theorem dX2_writeRegister_70 : decode cX2_writeRegister 70 = .ok (.getfield 54, 3) := by decide +kernel
theorem dX2_writeRegister_73 : decode cX2_writeRegister 73 = .ok (.iload 5, 2) := by decide +kernel
theorem dX2_writeRegister_75 : decode cX2_writeRegister 75 = .ok (.aaload, 1) := by decide +kernel
theorem dX2_writeRegister_76 : decode cX2_writeRegister 76 = .ok (.iload_n 2, 1) := by decide +kernel
theorem dX2_writeRegister_77 : decode cX2_writeRegister 77 = .ok (.invokevirtual 145, 3) := by decide +kernel
theorem dX2_writeRegister_80 : decode cX2_writeRegister 80 = .ok (.invokevirtual 149, 3) := by decide +kernel
theorem dX2_writeRegister_83 : decode cX2_writeRegister 83 = .ok (.iinc 4 1, 3) := by decide +kernel
theorem dX2_writeRegister_86 : decode cX2_writeRegister 86 = .ok (.goto (-71), 3) := by decide +kernel
theorem dX2_writeRegister_89 : decode cX2_writeRegister 89 = .ok (.aload_n 0, 1) := by decide +kernel
theorem dX2_writeRegister_90 : decode cX2_writeRegister 90 = .ok (.invokevirtual 128, 3) := by decide +kernel
theorem dX2_writeRegister_93 : decode cX2_writeRegister 93 = .ok (.return_, 1) := by decide +kernel
theorem dX3_part_0 : decode cX3_part 0 = .ok (.aload_n 0, 1) := by decide +kernel
theorem dX3_part_1 : decode cX3_part 1 = .ok (.getfield 11, 3) := by decide +kernel
theorem dX3_part_4 : decode cX3_part 4 = .ok (.iload_n 1, 1) := by decide +kernel
theorem dX3_part_5 : decode cX3_part 5 = .ok (.bipush 6, 2) := by decide +kernel
theorem dX3_part_7 : decode cX3_part 7 = .ok (.imul, 1) := by decide +kernel
theorem dX3_part_8 : decode cX3_part 8 = .ok (.iload_n 2, 1) := by decide +kernel
theorem dX3_part_9 : decode cX3_part 9 = .ok (.iadd, 1) := by decide +kernel
theorem dX3_part_10 : decode cX3_part 10 = .ok (.iaload, 1) := by decide +kernel
theorem dX3_part_11 : decode cX3_part 11 = .ok (.ireturn, 1) := by decide +kernel
theorem dX3_isLike_0 : decode cX3_isLike 0 = .ok (.aload_n 0, 1) := by decide +kernel
theorem dX3_isLike_1 : decode cX3_isLike 1 = .ok (.getfield 15, 3) := by decide +kernel
theorem dX3_isLike_4 : decode cX3_isLike 4 = .ok (.aload_n 1, 1) := by decide +kernel
theorem dX3_isLike_5 : decode cX3_isLike 5 = .ok (.getfield 15, 3) := by decide +kernel
theorem dX3_isLike_8 : decode cX3_isLike 8 = .ok (.if_icmp .eq 5, 3) := by decide +kernel
theorem dX3_isLike_11 : decode cX3_isLike 11 = .ok (.iconst 0, 1) := by decide +kernel
theorem dX3_isLike_12 : decode cX3_isLike 12 = .ok (.ireturn, 1) := by decide +kernel
theorem dX3_isLike_13 : decode cX3_isLike 13 = .ok (.iconst 0, 1) := by decide +kernel
theorem dX3_isLike_14 : decode cX3_isLike 14 = .ok (.istore_n 2, 1) := by decide +kernel
theorem dX3_isLike_15 : decode cX3_isLike 15 = .ok (.iload_n 2, 1) := by decide +kernel
theorem dX3_isLike_16 : decode cX3_isLike 16 = .ok (.aload_n 0, 1) := by decide +kernel
theorem dX3_isLike_17 : decode cX3_isLike 17 = .ok (.getfield 15, 3) := by decide +kernel
theorem dX3_isLike_20 : decode cX3_isLike 20 = .ok (.bipush 6, 2) := by decide +kernel
theorem dX3_isLike_22 : decode cX3_isLike 22 = .ok (.imul, 1) := by decide +kernel
theorem dX3_isLike_23 : decode cX3_isLike 23 = .ok (.if_icmp .ge 26, 3) := by decide +kernel
theorem dX3_isLike_26 : decode cX3_isLike 26 = .ok (.aload_n 0, 1) := by decide +kernel
theorem dX3_isLike_27 : decode cX3_isLike 27 = .ok (.getfield 11, 3) := by decide +kernel
theorem dX3_isLike_30 : decode cX3_isLike 30 = .ok (.iload_n 2, 1) := by decide +kernel
theorem dX3_isLike_31 : decode cX3_isLike 31 = .ok (.iaload, 1) := by decide +kernel
theorem dX3_isLike_32 : decode cX3_isLike 32 = .ok (.aload_n 1, 1) := by decide +kernel
theorem dX3_isLike_33 : decode cX3_isLike 33 = .ok (.getfield 11, 3) := by decide +kernel
theorem dX3_isLike_36 : decode cX3_isLike 36 = .ok (.iload_n 2, 1) := by decide +kernel
theorem dX3_isLike_37 : decode cX3_isLike 37 = .ok (.iaload, 1) := by decide +kernel
theorem dX3_isLike_38 : decode cX3_isLike 38 = .ok (.if_icmp .eq 5, 3) := by decide +kernel
theorem dX3_isLike_41 : decode cX3_isLike 41 = .ok (.iconst 0, 1) := by decide +kernel
theorem dX3_isLike_42 : decode cX3_isLike 42 = .ok (.ireturn, 1) := by decide +kernel
theorem dX3_isLike_43 : decode cX3_isLike 43 = .ok (.iinc 2 1, 3) := by decide +kernel
theorem dX3_isLike_46 : decode cX3_isLike 46 = .ok (.goto (-31), 3) := by decide +kernel
theorem dX3_isLike_49 : decode cX3_isLike 49 = .ok (.iconst 1, 1) := by decide +kernel
theorem dX3_isLike_50 : decode cX3_isLike 50 = .ok (.ireturn, 1) := by decide +kernel
theorem dX4_start_0 : decode cX4_start 0 = .ok (.aload_n 0, 1) := by decide +kernel
theorem dX4_start_1 : decode cX4_start 1 = .ok (.iconst 0, 1) := by decide +kernel
theorem dX4_start_2 : decode cX4_start 2 = .ok (.putfield 7, 3) := by decide +kernel
theorem dX4_start_5 : decode cX4_start 5 = .ok (.aload_n 0, 1) := by decide +kernel
theorem dX4_start_6 : decode cX4_start 6 = .ok (.iconst 0, 1) := by decide +kernel
theorem dX4_start_7 : decode cX4_start 7 = .ok (.putfield 13, 3) := by decide +kernel
theorem dX4_start_10 : decode cX4_start 10 = .ok (.aload_n 0, 1) := by decide +kernel
theorem dX4_start_11 : decode cX4_start 11 = .ok (.iconst 0, 1) := by decide +kernel
theorem dX4_start_12 : decode cX4_start 12 = .ok (.putfield 16, 3) := by decide +kernel
theorem dX4_start_15 : decode cX4_start 15 = .ok (.aload_n 0, 1) := by decide +kernel
theorem dX4_start_16 : decode cX4_start 16 = .ok (.iconst 0, 1) := by decide +kernel
theorem dX4_start_17 : decode cX4_start 17 = .ok (.putfield 19, 3) := by decide +kernel
theorem dX4_start_20 : decode cX4_start 20 = .ok (.return_, 1) := by decide +kernel
theorem dX4_goesOn_0 : decode cX4_goesOn 0 = .ok (.aload_n 0, 1) := by decide +kernel
theorem dX4_goesOn_1 : decode cX4_goesOn 1 = .ok (.getfield 7, 3) := by decide +kernel
theorem dX4_goesOn_4 : decode cX4_goesOn 4 = .ok (.aload_n 1, 1) := by decide +kernel
theorem dX4_goesOn_5 : decode cX4_goesOn 5 = .ok (.getfield 23, 3) := by decide +kernel
theorem dX4_goesOn_8 : decode cX4_goesOn 8 = .ok (.if_icmp .ge 14, 3) := by decide +kernel
theorem dX4_goesOn_11 : decode cX4_goesOn 11 = .ok (.aload_n 0, 1) := by decide +kernel
theorem dX4_goesOn_12 : decode cX4_goesOn 12 = .ok (.getfield 19, 3) := by decide +kernel
theorem dX4_goesOn_15 : decode cX4_goesOn 15 = .ok (.ifCond .ne 7, 3) := by decide +kernel
theorem dX4_goesOn_18 : decode cX4_goesOn 18 = .ok (.iconst 1, 1) := by decide +kernel
theorem dX4_goesOn_19 : decode cX4_goesOn 19 = .ok (.goto 4, 3) := by decide +kernel
theorem dX4_goesOn_22 : decode cX4_goesOn 22 = .ok (.iconst 0, 1) := by decide +kernel
theorem dX4_goesOn_23 : decode cX4_goesOn 23 = .ok (.ireturn, 1) := by decide +kernel
theorem dX4_next_0 : decode cX4_next 0 = .ok (.aload_n 0, 1) := by decide +kernel
theorem dX4_next_1 : decode cX4_next 1 = .ok (.dup, 1) := by decide +kernel
theorem dX4_next_2 : decode cX4_next 2 = .ok (.getfield 7, 3) := by decide +kernel
theorem dX4_next_5 : decode cX4_next 5 = .ok (.iconst 1, 1) := by decide +kernel
theorem dX4_next_6 : decode cX4_next 6 = .ok (.iadd, 1) := by decide +kernel
theorem dX4_next_7 : decode cX4_next 7 = .ok (.putfield 7, 3) := by decide +kernel
theorem dX4_next_10 : decode cX4_next 10 = .ok (.aload_n 0, 1) := by decide +kernel
theorem dX4_next_11 : decode cX4_next 11 = .ok (.iconst 0, 1) := by decide +kernel
theorem dX4_next_12 : decode cX4_next 12 = .ok (.putfield 13, 3) := by decide +kernel
theorem dX4_next_15 : decode cX4_next 15 = .ok (.return_, 1) := by decide +kernel
theorem dX5_calledAct_0 : decode cX5_calledAct 0 = .ok (.iconst 0, 1) := by decide +kernel
theorem dX5_calledAct_1 : decode cX5_calledAct 1 = .ok (.istore_n 1, 1) := by decide +kernel
theorem dX5_calledAct_2 : decode cX5_calledAct 2 = .ok (.iload_n 1, 1) := by decide +kernel
theorem dX5_calledAct_3 : decode cX5_calledAct 3 = .ok (.aload_n 0, 1) := by decide +kernel
theorem dX5_calledAct_4 : decode cX5_calledAct 4 = .ok (.getfield 27, 3) := by decide +kernel
theorem dX5_calledAct_7 : decode cX5_calledAct 7 = .ok (.getfield 85, 3) := by decide +kernel
theorem dX5_calledAct_10 : decode cX5_calledAct 10 = .ok (.if_icmp .ge 49, 3) := by decide +kernel
theorem dX5_calledAct_13 : decode cX5_calledAct 13 = .ok (.aload_n 0, 1) := by decide +kernel
theorem dX5_calledAct_14 : decode cX5_calledAct 14 = .ok (.getfield 27, 3) := by decide +kernel
theorem dX5_calledAct_17 : decode cX5_calledAct 17 = .ok (.getfield 88, 3) := by decide +kernel
theorem dX5_calledAct_20 : decode cX5_calledAct 20 = .ok (.iload_n 1, 1) := by decide +kernel
theorem dX5_calledAct_21 : decode cX5_calledAct 21 = .ok (.aaload, 1) := by decide +kernel
theorem dX5_calledAct_22 : decode cX5_calledAct 22 = .ok (.getfield 92, 3) := by decide +kernel
theorem dX5_calledAct_25 : decode cX5_calledAct 25 = .ok (.ifCond .lt 28, 3) := by decide +kernel
theorem dX5_calledAct_28 : decode cX5_calledAct 28 = .ok (.aload_n 0, 1) := by decide +kernel
theorem dX5_calledAct_29 : decode cX5_calledAct 29 = .ok (.getfield 31, 3) := by decide +kernel
theorem dX5_calledAct_32 : decode cX5_calledAct 32 = .ok (.getfield 97, 3) := by decide +kernel
theorem dX5_calledAct_35 : decode cX5_calledAct 35 = .ok (.iload_n 1, 1) := by decide +kernel
theorem dX5_calledAct_36 : decode cX5_calledAct 36 = .ok (.iaload, 1) := by decide +kernel
theorem dX5_calledAct_37 : decode cX5_calledAct 37 = .ok (.ifCond .eq 16, 3) := by decide +kernel
theorem dX5_calledAct_40 : decode cX5_calledAct 40 = .ok (.aload_n 0, 1) := by decide +kernel
theorem dX5_calledAct_41 : decode cX5_calledAct 41 = .ok (.getfield 27, 3) := by decide +kernel
theorem dX5_calledAct_44 : decode cX5_calledAct 44 = .ok (.getfield 88, 3) := by decide +kernel
theorem dX5_calledAct_47 : decode cX5_calledAct 47 = .ok (.iload_n 1, 1) := by decide +kernel
theorem dX5_calledAct_48 : decode cX5_calledAct 48 = .ok (.aaload, 1) := by decide +kernel
theorem dX5_calledAct_49 : decode cX5_calledAct 49 = .ok (.getfield 92, 3) := by decide +kernel
theorem dX5_calledAct_52 : decode cX5_calledAct 52 = .ok (.ireturn, 1) := by decide +kernel
theorem dX5_calledAct_53 : decode cX5_calledAct 53 = .ok (.iinc 1 1, 3) := by decide +kernel
theorem dX5_calledAct_56 : decode cX5_calledAct 56 = .ok (.goto (-54), 3) := by decide +kernel
theorem dX5_calledAct_59 : decode cX5_calledAct 59 = .ok (.iconst (-1), 1) := by decide +kernel
theorem dX5_calledAct_60 : decode cX5_calledAct 60 = .ok (.ireturn, 1) := by decide +kernel
theorem dX5_numberToWrite_0 : decode cX5_numberToWrite 0 = .ok (.aload_n 1, 1) := by decide +kernel
theorem dX5_numberToWrite_1 : decode cX5_numberToWrite 1 = .ok (.aload_n 2, 1) := by decide +kernel
theorem dX5_numberToWrite_2 : decode cX5_numberToWrite 2 = .ok (.getfield 101, 3) := by decide +kernel
theorem dX5_numberToWrite_5 : decode cX5_numberToWrite 5 = .ok (.iconst 4, 1) := by decide +kernel
theorem dX5_numberToWrite_6 : decode cX5_numberToWrite 6 = .ok (.invokevirtual 104, 3) := by decide +kernel
theorem dX5_numberToWrite_9 : decode cX5_numberToWrite 9 = .ok (.istore_n 3, 1) := by decide +kernel
theorem dX5_numberToWrite_10 : decode cX5_numberToWrite 10 = .ok (.aload_n 1, 1) := by decide +kernel
theorem dX5_numberToWrite_11 : decode cX5_numberToWrite 11 = .ok (.aload_n 2, 1) := by decide +kernel
theorem dX5_numberToWrite_12 : decode cX5_numberToWrite 12 = .ok (.getfield 101, 3) := by decide +kernel
theorem dX5_numberToWrite_15 : decode cX5_numberToWrite 15 = .ok (.iconst 3, 1) := by decide +kernel
theorem dX5_numberToWrite_16 : decode cX5_numberToWrite 16 = .ok (.invokevirtual 104, 3) := by decide +kernel
theorem dX5_numberToWrite_19 : decode cX5_numberToWrite 19 = .ok (.istore 4, 2) := by decide +kernel
theorem dX5_numberToWrite_21 : decode cX5_numberToWrite 21 = .ok (.aload_n 1, 1) := by decide +kernel
theorem dX5_numberToWrite_22 : decode cX5_numberToWrite 22 = .ok (.aload_n 2, 1) := by decide +kernel
theorem dX5_numberToWrite_23 : decode cX5_numberToWrite 23 = .ok (.getfield 101, 3) := by decide +kernel
theorem dX5_numberToWrite_26 : decode cX5_numberToWrite 26 = .ok (.iconst 2, 1) := by decide +kernel
theorem dX5_numberToWrite_27 : decode cX5_numberToWrite 27 = .ok (.invokevirtual 104, 3) := by decide +kernel
theorem dX5_numberToWrite_30 : decode cX5_numberToWrite 30 = .ok (.lookupswitch 59 #[(1, 26), (2, 36)], 26) := by decide +kernel
theorem dX5_numberToWrite_56 : decode cX5_numberToWrite 56 = .ok (.iload_n 3, 1) := by decide +kernel
theorem dX5_numberToWrite_57 : decode cX5_numberToWrite 57 = .ok (.iload 4, 2) := by decide +kernel
theorem dX5_numberToWrite_59 : decode cX5_numberToWrite 59 = .ok (.aload_n 2, 1) := by decide +kernel
theorem dX5_numberToWrite_60 : decode cX5_numberToWrite 60 = .ok (.getfield 114, 3) := by decide +kernel
theorem dX5_numberToWrite_63 : decode cX5_numberToWrite 63 = .ok (.iand, 1) := by decide +kernel
theorem dX5_numberToWrite_64 : decode cX5_numberToWrite 64 = .ok (.ior, 1) := by decide +kernel
theorem dX5_numberToWrite_65 : decode cX5_numberToWrite 65 = .ok (.ireturn, 1) := by decide +kernel
theorem dX5_numberToWrite_66 : decode cX5_numberToWrite 66 = .ok (.iload_n 3, 1) := by decide +kernel
theorem dX5_numberToWrite_67 : decode cX5_numberToWrite 67 = .ok (.iload 4, 2) := by decide +kernel
theorem dX5_numberToWrite_69 : decode cX5_numberToWrite 69 = .ok (.aload_n 0, 1) := by decide +kernel
theorem dX5_numberToWrite_70 : decode cX5_numberToWrite 70 = .ok (.getfield 31, 3) := by decide +kernel
theorem dX5_numberToWrite_73 : decode cX5_numberToWrite 73 = .ok (.getfield 124, 3) := by decide +kernel
theorem dX5_numberToWrite_76 : decode cX5_numberToWrite 76 = .ok (.aload_n 1, 1) := by decide +kernel
theorem dX5_numberToWrite_77 : decode cX5_numberToWrite 77 = .ok (.aload_n 2, 1) := by decide +kernel
theorem dX5_numberToWrite_78 : decode cX5_numberToWrite 78 = .ok (.getfield 101, 3) := by decide +kernel
theorem dX5_numberToWrite_81 : decode cX5_numberToWrite 81 = .ok (.iconst 1, 1) := by decide +kernel
theorem dX5_numberToWrite_82 : decode cX5_numberToWrite 82 = .ok (.invokevirtual 104, 3) := by decide +kernel
theorem dX5_numberToWrite_85 : decode cX5_numberToWrite 85 = .ok (.iaload, 1) := by decide +kernel
theorem dX5_numberToWrite_86 : decode cX5_numberToWrite 86 = .ok (.iand, 1) := by decide +kernel
theorem dX5_numberToWrite_87 : decode cX5_numberToWrite 87 = .ok (.ior, 1) := by decide +kernel
theorem dX5_numberToWrite_88 : decode cX5_numberToWrite 88 = .ok (.ireturn, 1) := by decide +kernel
theorem dX5_numberToWrite_89 : decode cX5_numberToWrite 89 = .ok (.iload_n 3, 1) := by decide +kernel
theorem dX5_numberToWrite_90 : decode cX5_numberToWrite 90 = .ok (.ireturn, 1) := by decide +kernel
theorem dX5_endPollBeat_0 : decode cX5_endPollBeat 0 = .ok (.aload_n 2, 1) := by decide +kernel
theorem dX5_endPollBeat_1 : decode cX5_endPollBeat 1 = .ok (.dup, 1) := by decide +kernel
theorem dX5_endPollBeat_2 : decode cX5_endPollBeat 2 = .ok (.getfield 140, 3) := by decide +kernel
theorem dX5_endPollBeat_5 : decode cX5_endPollBeat 5 = .ok (.iconst 1, 1) := by decide +kernel
theorem dX5_endPollBeat_6 : decode cX5_endPollBeat 6 = .ok (.iadd, 1) := by decide +kernel
theorem dX5_endPollBeat_7 : decode cX5_endPollBeat 7 = .ok (.putfield 140, 3) := by decide +kernel
theorem dX5_endPollBeat_10 : decode cX5_endPollBeat 10 = .ok (.aload_n 2, 1) := by decide +kernel
theorem dX5_endPollBeat_11 : decode cX5_endPollBeat 11 = .ok (.getfield 114, 3) := by decide +kernel
theorem dX5_endPollBeat_14 : decode cX5_endPollBeat 14 = .ok (.aload_n 1, 1) := by decide +kernel
theorem dX5_endPollBeat_15 : decode cX5_endPollBeat 15 = .ok (.aload_n 2, 1) := by decide +kernel
theorem dX5_endPollBeat_16 : decode cX5_endPollBeat 16 = .ok (.getfield 101, 3) := by decide +kernel
theorem dX5_endPollBeat_19 : decode cX5_endPollBeat 19 = .ok (.iconst 3, 1) := by decide +kernel
theorem dX5_endPollBeat_20 : decode cX5_endPollBeat 20 = .ok (.invokevirtual 104, 3) := by decide +kernel
theorem dX5_endPollBeat_23 : decode cX5_endPollBeat 23 = .ok (.iand, 1) := by decide +kernel
theorem dX5_endPollBeat_24 : decode cX5_endPollBeat 24 = .ok (.aload_n 1, 1) := by decide +kernel
theorem dX5_endPollBeat_25 : decode cX5_endPollBeat 25 = .ok (.aload_n 2, 1) := by decide +kernel
theorem dX5_endPollBeat_26 : decode cX5_endPollBeat 26 = .ok (.getfield 101, 3) := by decide +kernel
theorem dX5_endPollBeat_29 : decode cX5_endPollBeat 29 = .ok (.iconst 4, 1) := by decide +kernel
theorem dX5_endPollBeat_30 : decode cX5_endPollBeat 30 = .ok (.invokevirtual 104, 3) := by decide +kernel
theorem dX5_endPollBeat_33 : decode cX5_endPollBeat 33 = .ok (.if_icmp .ne 10, 3) := by decide +kernel
theorem dX5_endPollBeat_36 : decode cX5_endPollBeat 36 = .ok (.aload_n 2, 1) := by decide +kernel
theorem dX5_endPollBeat_37 : decode cX5_endPollBeat 37 = .ok (.invokevirtual 117, 3) := by decide +kernel
theorem dX5_endPollBeat_40 : decode cX5_endPollBeat 40 = .ok (.goto 24, 3) := by decide +kernel
theorem dX5_endPollBeat_43 : decode cX5_endPollBeat 43 = .ok (.aload_n 2, 1) := by decide +kernel
theorem dX5_endPollBeat_44 : decode cX5_endPollBeat 44 = .ok (.getfield 140, 3) := by decide +kernel
theorem dX5_endPollBeat_47 : decode cX5_endPollBeat 47 = .ok (.aload_n 1, 1) := by decide +kernel
theorem dX5_endPollBeat_48 : decode cX5_endPollBeat 48 = .ok (.aload_n 2, 1) := by decide +kernel
theorem dX5_endPollBeat_49 : decode cX5_endPollBeat 49 = .ok (.getfield 101, 3) := by decide +kernel
theorem dX5_endPollBeat_52 : decode cX5_endPollBeat 52 = .ok (.iconst 5, 1) := by decide +kernel
theorem dX5_endPollBeat_53 : decode cX5_endPollBeat 53 = .ok (.invokevirtual 104, 3) := by decide +kernel
theorem dX5_endPollBeat_56 : decode cX5_endPollBeat 56 = .ok (.if_icmp .le 8, 3) := by decide +kernel
theorem dX5_endPollBeat_59 : decode cX5_endPollBeat 59 = .ok (.aload_n 2, 1) := by decide +kernel
theorem dX5_endPollBeat_60 : decode cX5_endPollBeat 60 = .ok (.iconst 1, 1) := by decide +kernel
theorem dX5_endPollBeat_61 : decode cX5_endPollBeat 61 = .ok (.putfield 65, 3) := by decide +kernel
theorem dX5_endPollBeat_64 : decode cX5_endPollBeat 64 = .ok (.return_, 1) := by decide +kernel
theorem dX5_pick_0 : decode cX5_pick 0 = .ok (.aload_n 0, 1) := by decide +kernel
theorem dX5_pick_1 : decode cX5_pick 1 = .ok (.getfield 27, 3) := by decide +kernel
theorem dX5_pick_4 : decode cX5_pick 4 = .ok (.getfield 88, 3) := by decide +kernel
theorem dX5_pick_7 : decode cX5_pick 7 = .ok (.iload_n 1, 1) := by decide +kernel
theorem dX5_pick_8 : decode cX5_pick 8 = .ok (.aaload, 1) := by decide +kernel
theorem dX5_pick_9 : decode cX5_pick 9 = .ok (.astore_n 3, 1) := by decide +kernel
theorem dX5_pick_10 : decode cX5_pick 10 = .ok (.aload_n 3, 1) := by decide +kernel
theorem dX5_pick_11 : decode cX5_pick 11 = .ok (.getfield 146, 3) := by decide +kernel
theorem dX5_pick_14 : decode cX5_pick 14 = .ok (.iconst 3, 1) := by decide +kernel
theorem dX5_pick_15 : decode cX5_pick 15 = .ok (.if_icmp .ne 32, 3) := by decide +kernel
theorem dX5_pick_18 : decode cX5_pick 18 = .ok (.aload_n 0, 1) := by decide +kernel
theorem dX5_pick_19 : decode cX5_pick 19 = .ok (.getfield 31, 3) := by decide +kernel
theorem dX5_pick_22 : decode cX5_pick 22 = .ok (.aload_n 0, 1) := by decide +kernel
theorem dX5_pick_23 : decode cX5_pick 23 = .ok (.getfield 31, 3) := by decide +kernel
theorem dX5_pick_26 : decode cX5_pick 26 = .ok (.getfield 149, 3) := by decide +kernel
theorem dX5_pick_29 : decode cX5_pick 29 = .ok (.iload_n 1, 1) := by decide +kernel
theorem dX5_pick_30 : decode cX5_pick 30 = .ok (.iaload, 1) := by decide +kernel
theorem dX5_pick_31 : decode cX5_pick 31 = .ok (.putfield 76, 3) := by decide +kernel
theorem dX5_pick_34 : decode cX5_pick 34 = .ok (.aload_n 0, 1) := by decide +kernel
theorem dX5_pick_35 : decode cX5_pick 35 = .ok (.getfield 31, 3) := by decide +kernel
theorem dX5_pick_38 : decode cX5_pick 38 = .ok (.getfield 149, 3) := by decide +kernel
theorem dX5_pick_41 : decode cX5_pick 41 = .ok (.iload_n 1, 1) := by decide +kernel
theorem dX5_pick_42 : decode cX5_pick 42 = .ok (.iconst 0, 1) := by decide +kernel
theorem dX5_pick_43 : decode cX5_pick 43 = .ok (.iastore, 1) := by decide +kernel
theorem dX5_pick_44 : decode cX5_pick 44 = .ok (.goto 15, 3) := by decide +kernel
theorem dX5_pick_47 : decode cX5_pick 47 = .ok (.aload_n 0, 1) := by decide +kernel
theorem dX5_pick_48 : decode cX5_pick 48 = .ok (.getfield 31, 3) := by decide +kernel
theorem dX5_pick_51 : decode cX5_pick 51 = .ok (.aload_n 3, 1) := by decide +kernel
theorem dX5_pick_52 : decode cX5_pick 52 = .ok (.iload_n 2, 1) := by decide +kernel
theorem dX5_pick_53 : decode cX5_pick 53 = .ok (.invokevirtual 152, 3) := by decide +kernel
theorem dX5_pick_56 : decode cX5_pick 56 = .ok (.putfield 76, 3) := by decide +kernel
theorem dX5_pick_59 : decode cX5_pick 59 = .ok (.return_, 1) := by decide +kernel
theorem dX5_beat_0 : decode cX5_beat 0 = .ok (.aload_n 1, 1) := by decide +kernel
theorem dX5_beat_1 : decode cX5_beat 1 = .ok (.aload_n 2, 1) := by decide +kernel
theorem dX5_beat_2 : decode cX5_beat 2 = .ok (.getfield 101, 3) := by decide +kernel
theorem dX5_beat_5 : decode cX5_beat 5 = .ok (.iconst 1, 1) := by decide +kernel
theorem dX5_beat_6 : decode cX5_beat 6 = .ok (.invokevirtual 104, 3) := by decide +kernel
theorem dX5_beat_9 : decode cX5_beat 9 = .ok (.istore_n 3, 1) := by decide +kernel
theorem dX5_beat_10 : decode cX5_beat 10 = .ok (.aload_n 1, 1) := by decide +kernel
theorem dX5_beat_11 : decode cX5_beat 11 = .ok (.aload_n 2, 1) := by decide +kernel
theorem dX5_beat_12 : decode cX5_beat 12 = .ok (.getfield 101, 3) := by decide +kernel
theorem dX5_beat_15 : decode cX5_beat 15 = .ok (.iconst 0, 1) := by decide +kernel
theorem dX5_beat_16 : decode cX5_beat 16 = .ok (.invokevirtual 104, 3) := by decide +kernel
theorem dX5_beat_19 : decode cX5_beat 19 = .ok (.tableswitch 169 0 4 #[33, 53, 99, 121, 153], 33) := by decide +kernel
theorem dX5_beat_52 : decode cX5_beat 52 = .ok (.aload_n 2, 1) := by decide +kernel
theorem dX5_beat_53 : decode cX5_beat 53 = .ok (.aload_n 0, 1) := by decide +kernel
theorem dX5_beat_54 : decode cX5_beat 54 = .ok (.getfield 35, 3) := by decide +kernel
theorem dX5_beat_57 : decode cX5_beat 57 = .ok (.iload_n 3, 1) := by decide +kernel
theorem dX5_beat_58 : decode cX5_beat 58 = .ok (.iconst 1, 1) := by decide +kernel
theorem dX5_beat_59 : decode cX5_beat 59 = .ok (.invokevirtual 108, 3) := by decide +kernel
theorem dX5_beat_62 : decode cX5_beat 62 = .ok (.putfield 114, 3) := by decide +kernel
theorem dX5_beat_65 : decode cX5_beat 65 = .ok (.aload_n 2, 1) := by decide +kernel
theorem dX5_beat_66 : decode cX5_beat 66 = .ok (.invokevirtual 117, 3) := by decide +kernel
theorem dX5_beat_69 : decode cX5_beat 69 = .ok (.goto 145, 3) := by decide +kernel
theorem dX5_beat_72 : decode cX5_beat 72 = .ok (.aload_n 0, 1) := by decide +kernel
theorem dX5_beat_73 : decode cX5_beat 73 = .ok (.aload_n 1, 1) := by decide +kernel
theorem dX5_beat_74 : decode cX5_beat 74 = .ok (.aload_n 2, 1) := by decide +kernel
theorem dX5_beat_75 : decode cX5_beat 75 = .ok (.invokevirtual 120, 3) := by decide +kernel
theorem dX5_beat_78 : decode cX5_beat 78 = .ok (.istore 4, 2) := by decide +kernel
theorem dX5_beat_80 : decode cX5_beat 80 = .ok (.aload_n 0, 1) := by decide +kernel
theorem dX5_beat_81 : decode cX5_beat 81 = .ok (.getfield 31, 3) := by decide +kernel
theorem dX5_beat_84 : decode cX5_beat 84 = .ok (.getfield 124, 3) := by decide +kernel
theorem dX5_beat_87 : decode cX5_beat 87 = .ok (.iload_n 3, 1) := by decide +kernel
theorem dX5_beat_88 : decode cX5_beat 88 = .ok (.iload 4, 2) := by decide +kernel
theorem dX5_beat_90 : decode cX5_beat 90 = .ok (.aload_n 0, 1) := by decide +kernel
theorem dX5_beat_91 : decode cX5_beat 91 = .ok (.getfield 35, 3) := by decide +kernel
theorem dX5_beat_94 : decode cX5_beat 94 = .ok (.getfield 127, 3) := by decide +kernel
theorem dX5_beat_97 : decode cX5_beat 97 = .ok (.iload_n 3, 1) := by decide +kernel
theorem dX5_beat_98 : decode cX5_beat 98 = .ok (.iaload, 1) := by decide +kernel
theorem dX5_beat_99 : decode cX5_beat 99 = .ok (.iand, 1) := by decide +kernel
theorem dX5_beat_100 : decode cX5_beat 100 = .ok (.iastore, 1) := by decide +kernel
theorem dX5_beat_101 : decode cX5_beat 101 = .ok (.aload_n 0, 1) := by decide +kernel
theorem dX5_beat_102 : decode cX5_beat 102 = .ok (.getfield 35, 3) := by decide +kernel
theorem dX5_beat_105 : decode cX5_beat 105 = .ok (.iload_n 3, 1) := by decide +kernel
theorem dX5_beat_106 : decode cX5_beat 106 = .ok (.iload 4, 2) := by decide +kernel
theorem dX5_beat_108 : decode cX5_beat 108 = .ok (.invokevirtual 130, 3) := by decide +kernel
theorem dX5_beat_111 : decode cX5_beat 111 = .ok (.aload_n 2, 1) := by decide +kernel
theorem dX5_beat_112 : decode cX5_beat 112 = .ok (.invokevirtual 117, 3) := by decide +kernel
theorem dX5_beat_115 : decode cX5_beat 115 = .ok (.goto 99, 3) := by decide +kernel
theorem dX5_beat_118 : decode cX5_beat 118 = .ok (.aload_n 2, 1) := by decide +kernel
theorem dX5_beat_119 : decode cX5_beat 119 = .ok (.aload_n 0, 1) := by decide +kernel
theorem dX5_beat_120 : decode cX5_beat 120 = .ok (.getfield 35, 3) := by decide +kernel
theorem dX5_beat_123 : decode cX5_beat 123 = .ok (.iload_n 3, 1) := by decide +kernel
theorem dX5_beat_124 : decode cX5_beat 124 = .ok (.iconst 1, 1) := by decide +kernel
theorem dX5_beat_125 : decode cX5_beat 125 = .ok (.invokevirtual 108, 3) := by decide +kernel
theorem dX5_beat_128 : decode cX5_beat 128 = .ok (.putfield 114, 3) := by decide +kernel
theorem dX5_beat_131 : decode cX5_beat 131 = .ok (.aload_n 0, 1) := by decide +kernel
theorem dX5_beat_132 : decode cX5_beat 132 = .ok (.aload_n 1, 1) := by decide +kernel
theorem dX5_beat_133 : decode cX5_beat 133 = .ok (.aload_n 2, 1) := by decide +kernel
theorem dX5_beat_134 : decode cX5_beat 134 = .ok (.invokevirtual 134, 3) := by decide +kernel
theorem dX5_beat_137 : decode cX5_beat 137 = .ok (.goto 77, 3) := by decide +kernel
theorem dX5_beat_140 : decode cX5_beat 140 = .ok (.aload_n 0, 1) := by decide +kernel
theorem dX5_beat_141 : decode cX5_beat 141 = .ok (.getfield 35, 3) := by decide +kernel
theorem dX5_beat_144 : decode cX5_beat 144 = .ok (.invokevirtual 137, 3) := by decide +kernel
theorem dX5_beat_147 : decode cX5_beat 147 = .ok (.aload_n 2, 1) := by decide +kernel
theorem dX5_beat_148 : decode cX5_beat 148 = .ok (.dup, 1) := by decide +kernel
theorem dX5_beat_149 : decode cX5_beat 149 = .ok (.getfield 140, 3) := by decide +kernel
theorem dX5_beat_152 : decode cX5_beat 152 = .ok (.iconst 1, 1) := by decide +kernel
theorem dX5_beat_153 : decode cX5_beat 153 = .ok (.iadd, 1) := by decide +kernel
theorem dX5_beat_154 : decode cX5_beat 154 = .ok (.putfield 140, 3) := by decide +kernel
theorem dX5_beat_157 : decode cX5_beat 157 = .ok (.aload_n 2, 1) := by decide +kernel
theorem dX5_beat_158 : decode cX5_beat 158 = .ok (.getfield 140, 3) := by decide +kernel
theorem dX5_beat_161 : decode cX5_beat 161 = .ok (.iload_n 3, 1) := by decide +kernel
theorem dX5_beat_162 : decode cX5_beat 162 = .ok (.if_icmp .lt 52, 3) := by decide +kernel
theorem dX5_beat_165 : decode cX5_beat 165 = .ok (.aload_n 2, 1) := by decide +kernel
theorem dX5_beat_166 : decode cX5_beat 166 = .ok (.invokevirtual 117, 3) := by decide +kernel
theorem dX5_beat_169 : decode cX5_beat 169 = .ok (.goto 45, 3) := by decide +kernel
theorem dX5_beat_172 : decode cX5_beat 172 = .ok (.aload_n 0, 1) := by decide +kernel
theorem dX5_beat_173 : decode cX5_beat 173 = .ok (.iload_n 3, 1) := by decide +kernel
theorem dX5_beat_174 : decode cX5_beat 174 = .ok (.aload_n 2, 1) := by decide +kernel
theorem dX5_beat_175 : decode cX5_beat 175 = .ok (.getfield 114, 3) := by decide +kernel
theorem dX5_beat_178 : decode cX5_beat 178 = .ok (.invokevirtual 143, 3) := by decide +kernel
theorem dX5_beat_181 : decode cX5_beat 181 = .ok (.aload_n 2, 1) := by decide +kernel
theorem dX5_beat_182 : decode cX5_beat 182 = .ok (.invokevirtual 117, 3) := by decide +kernel
theorem dX5_beat_185 : decode cX5_beat 185 = .ok (.goto 29, 3) := by decide +kernel
theorem dX5_beat_188 : decode cX5_beat 188 = .ok (.aload_n 0, 1) := by decide +kernel
theorem dX5_beat_189 : decode cX5_beat 189 = .ok (.aload_n 1, 1) := by decide +kernel
theorem dX5_beat_190 : decode cX5_beat 190 = .ok (.aload_n 2, 1) := by decide +kernel
theorem dX5_beat_191 : decode cX5_beat 191 = .ok (.getfield 101, 3) := by decide +kernel
theorem dX5_beat_194 : decode cX5_beat 194 = .ok (.iconst 0, 1) := by decide +kernel
theorem dX5_beat_195 : decode cX5_beat 195 = .ok (.invokevirtual 104, 3) := by decide +kernel
theorem dX5_beat_198 : decode cX5_beat 198 = .ok (.iconst 5, 1) := by decide +kernel
theorem dX5_beat_199 : decode cX5_beat 199 = .ok (.if_icmp .ne 7, 3) := by decide +kernel
theorem dX5_beat_202 : decode cX5_beat 202 = .ok (.iconst 1, 1) := by decide +kernel
theorem dX5_beat_203 : decode cX5_beat 203 = .ok (.goto 4, 3) := by decide +kernel
theorem dX5_beat_206 : decode cX5_beat 206 = .ok (.iconst 0, 1) := by decide +kernel
theorem dX5_beat_207 : decode cX5_beat 207 = .ok (.putfield 23, 3) := by decide +kernel
theorem dX5_beat_210 : decode cX5_beat 210 = .ok (.aload_n 2, 1) := by decide +kernel
theorem dX5_beat_211 : decode cX5_beat 211 = .ok (.invokevirtual 117, 3) := by decide +kernel
theorem dX5_beat_214 : decode cX5_beat 214 = .ok (.return_, 1) := by decide +kernel
theorem dX5_serve_0 : decode cX5_serve 0 = .ok (.iconst 0, 1) := by decide +kernel
theorem dX5_serve_1 : decode cX5_serve 1 = .ok (.istore_n 1, 1) := by decide +kernel
theorem dX5_serve_2 : decode cX5_serve 2 = .ok (.iload_n 1, 1) := by decide +kernel
theorem dX5_serve_3 : decode cX5_serve 3 = .ok (.bipush 8, 2) := by decide +kernel
theorem dX5_serve_5 : decode cX5_serve 5 = .ok (.if_icmp .ge 121, 3) := by decide +kernel
theorem dX5_serve_8 : decode cX5_serve 8 = .ok (.aload_n 0, 1) := by decide +kernel
theorem dX5_serve_9 : decode cX5_serve 9 = .ok (.getfield 23, 3) := by decide +kernel
theorem dX5_serve_12 : decode cX5_serve 12 = .ok (.ifCond .ne 114, 3) := by decide +kernel
theorem dX5_serve_15 : decode cX5_serve 15 = .ok (.aload_n 0, 1) := by decide +kernel
theorem dX5_serve_16 : decode cX5_serve 16 = .ok (.invokevirtual 68, 3) := by decide +kernel
theorem dX5_serve_19 : decode cX5_serve 19 = .ok (.istore_n 2, 1) := by decide +kernel
theorem dX5_serve_20 : decode cX5_serve 20 = .ok (.aload_n 0, 1) := by decide +kernel
theorem dX5_serve_21 : decode cX5_serve 21 = .ok (.getfield 27, 3) := by decide +kernel
theorem dX5_serve_24 : decode cX5_serve 24 = .ok (.iload_n 2, 1) := by decide +kernel
theorem dX5_serve_25 : decode cX5_serve 25 = .ok (.invokevirtual 72, 3) := by decide +kernel
theorem dX5_serve_28 : decode cX5_serve 28 = .ok (.ifCond .ne 4, 3) := by decide +kernel
theorem dX5_serve_31 : decode cX5_serve 31 = .ok (.return_, 1) := by decide +kernel
theorem dX5_serve_32 : decode cX5_serve 32 = .ok (.aload_n 0, 1) := by decide +kernel
theorem dX5_serve_33 : decode cX5_serve 33 = .ok (.getfield 27, 3) := by decide +kernel
theorem dX5_serve_36 : decode cX5_serve 36 = .ok (.getfield 39, 3) := by decide +kernel
theorem dX5_serve_39 : decode cX5_serve 39 = .ok (.iload_n 2, 1) := by decide +kernel
theorem dX5_serve_40 : decode cX5_serve 40 = .ok (.aaload, 1) := by decide +kernel
theorem dX5_serve_41 : decode cX5_serve 41 = .ok (.getfield 45, 3) := by decide +kernel
theorem dX5_serve_44 : decode cX5_serve 44 = .ok (.astore_n 3, 1) := by decide +kernel
theorem dX5_serve_45 : decode cX5_serve 45 = .ok (.aload_n 0, 1) := by decide +kernel
theorem dX5_serve_46 : decode cX5_serve 46 = .ok (.getfield 31, 3) := by decide +kernel
theorem dX5_serve_49 : decode cX5_serve 49 = .ok (.getfield 76, 3) := by decide +kernel
theorem dX5_serve_52 : decode cX5_serve 52 = .ok (.istore 4, 2) := by decide +kernel
theorem dX5_serve_54 : decode cX5_serve 54 = .ok (.aload_n 0, 1) := by decide +kernel
theorem dX5_serve_55 : decode cX5_serve 55 = .ok (.getfield 20, 3) := by decide +kernel
theorem dX5_serve_58 : decode cX5_serve 58 = .ok (.invokevirtual 51, 3) := by decide +kernel
theorem dX5_serve_61 : decode cX5_serve 61 = .ok (.iconst 0, 1) := by decide +kernel
theorem dX5_serve_62 : decode cX5_serve 62 = .ok (.istore 5, 2) := by decide +kernel
theorem dX5_serve_64 : decode cX5_serve 64 = .ok (.iload 5, 2) := by decide +kernel
theorem dX5_serve_66 : decode cX5_serve 66 = .ok (.sipush 1008, 3) := by decide +kernel
theorem dX5_serve_69 : decode cX5_serve 69 = .ok (.if_icmp .ge 29, 3) := by decide +kernel
theorem dX5_serve_72 : decode cX5_serve 72 = .ok (.aload_n 0, 1) := by decide +kernel
theorem dX5_serve_73 : decode cX5_serve 73 = .ok (.getfield 20, 3) := by decide +kernel
theorem dX5_serve_76 : decode cX5_serve 76 = .ok (.aload_n 3, 1) := by decide +kernel
theorem dX5_serve_77 : decode cX5_serve 77 = .ok (.invokevirtual 54, 3) := by decide +kernel
theorem dX5_serve_80 : decode cX5_serve 80 = .ok (.ifCond .eq 18, 3) := by decide +kernel
theorem dX5_serve_83 : decode cX5_serve 83 = .ok (.aload_n 0, 1) := by decide +kernel
theorem dX5_serve_84 : decode cX5_serve 84 = .ok (.aload_n 3, 1) := by decide +kernel
theorem dX5_serve_85 : decode cX5_serve 85 = .ok (.aload_n 0, 1) := by decide +kernel
theorem dX5_serve_86 : decode cX5_serve 86 = .ok (.getfield 20, 3) := by decide +kernel
theorem dX5_serve_89 : decode cX5_serve 89 = .ok (.invokevirtual 61, 3) := by decide +kernel
theorem dX5_serve_92 : decode cX5_serve 92 = .ok (.iinc 5 1, 3) := by decide +kernel
theorem dX5_serve_95 : decode cX5_serve 95 = .ok (.goto (-31), 3) := by decide +kernel
theorem dX5_serve_98 : decode cX5_serve 98 = .ok (.aload_n 0, 1) := by decide +kernel
theorem dX5_serve_99 : decode cX5_serve 99 = .ok (.getfield 31, 3) := by decide +kernel
theorem dX5_serve_102 : decode cX5_serve 102 = .ok (.iload 4, 2) := by decide +kernel
theorem dX5_serve_104 : decode cX5_serve 104 = .ok (.putfield 76, 3) := by decide +kernel
theorem dX5_serve_107 : decode cX5_serve 107 = .ok (.aload_n 0, 1) := by decide +kernel
theorem dX5_serve_108 : decode cX5_serve 108 = .ok (.getfield 31, 3) := by decide +kernel
theorem dX5_serve_111 : decode cX5_serve 111 = .ok (.dup, 1) := by decide +kernel
theorem dX5_serve_112 : decode cX5_serve 112 = .ok (.getfield 82, 3) := by decide +kernel
theorem dX5_serve_115 : decode cX5_serve 115 = .ok (.iconst 1, 1) := by decide +kernel
theorem dX5_serve_116 : decode cX5_serve 116 = .ok (.iadd, 1) := by decide +kernel
theorem dX5_serve_117 : decode cX5_serve 117 = .ok (.putfield 82, 3) := by decide +kernel
theorem dX5_serve_120 : decode cX5_serve 120 = .ok (.iinc 1 1, 3) := by decide +kernel
theorem dX5_serve_123 : decode cX5_serve 123 = .ok (.goto (-121), 3) := by decide +kernel
theorem dX5_serve_126 : decode cX5_serve 126 = .ok (.return_, 1) := by decide +kernel
theorem dX5_runAct_0 : decode cX5_runAct 0 = .ok (.aload_n 0, 1) := by decide +kernel
theorem dX5_runAct_1 : decode cX5_runAct 1 = .ok (.getfield 27, 3) := by decide +kernel
theorem dX5_runAct_4 : decode cX5_runAct 4 = .ok (.getfield 39, 3) := by decide +kernel
theorem dX5_runAct_7 : decode cX5_runAct 7 = .ok (.iload_n 1, 1) := by decide +kernel
theorem dX5_runAct_8 : decode cX5_runAct 8 = .ok (.aaload, 1) := by decide +kernel
theorem dX5_runAct_9 : decode cX5_runAct 9 = .ok (.getfield 45, 3) := by decide +kernel
theorem dX5_runAct_12 : decode cX5_runAct 12 = .ok (.astore_n 2, 1) := by decide +kernel
theorem dX5_runAct_13 : decode cX5_runAct 13 = .ok (.aload_n 0, 1) := by decide +kernel
theorem dX5_runAct_14 : decode cX5_runAct 14 = .ok (.iconst 0, 1) := by decide +kernel
theorem dX5_runAct_15 : decode cX5_runAct 15 = .ok (.putfield 23, 3) := by decide +kernel
theorem dX5_runAct_18 : decode cX5_runAct 18 = .ok (.aload_n 0, 1) := by decide +kernel
theorem dX5_runAct_19 : decode cX5_runAct 19 = .ok (.getfield 14, 3) := by decide +kernel
theorem dX5_runAct_22 : decode cX5_runAct 22 = .ok (.invokevirtual 51, 3) := by decide +kernel
theorem dX5_runAct_25 : decode cX5_runAct 25 = .ok (.iconst 0, 1) := by decide +kernel
theorem dX5_runAct_26 : decode cX5_runAct 26 = .ok (.istore_n 3, 1) := by decide +kernel
theorem dX5_runAct_27 : decode cX5_runAct 27 = .ok (.iload_n 3, 1) := by decide +kernel
theorem dX5_runAct_28 : decode cX5_runAct 28 = .ok (.sipush 1008, 3) := by decide +kernel
theorem dX5_runAct_31 : decode cX5_runAct 31 = .ok (.if_icmp .ge 33, 3) := by decide +kernel
theorem dX5_runAct_34 : decode cX5_runAct 34 = .ok (.aload_n 0, 1) := by decide +kernel
theorem dX5_runAct_35 : decode cX5_runAct 35 = .ok (.getfield 14, 3) := by decide +kernel
theorem dX5_runAct_38 : decode cX5_runAct 38 = .ok (.aload_n 2, 1) := by decide +kernel
theorem dX5_runAct_39 : decode cX5_runAct 39 = .ok (.invokevirtual 54, 3) := by decide +kernel
theorem dX5_runAct_42 : decode cX5_runAct 42 = .ok (.ifCond .eq 22, 3) := by decide +kernel
theorem dX5_runAct_45 : decode cX5_runAct 45 = .ok (.aload_n 0, 1) := by decide +kernel
theorem dX5_runAct_46 : decode cX5_runAct 46 = .ok (.invokevirtual 58, 3) := by decide +kernel
theorem dX5_runAct_49 : decode cX5_runAct 49 = .ok (.aload_n 0, 1) := by decide +kernel
theorem dX5_runAct_50 : decode cX5_runAct 50 = .ok (.aload_n 2, 1) := by decide +kernel
theorem dX5_runAct_51 : decode cX5_runAct 51 = .ok (.aload_n 0, 1) := by decide +kernel
theorem dX5_runAct_52 : decode cX5_runAct 52 = .ok (.getfield 14, 3) := by decide +kernel
theorem dX5_runAct_55 : decode cX5_runAct 55 = .ok (.invokevirtual 61, 3) := by decide +kernel
theorem dX5_runAct_58 : decode cX5_runAct 58 = .ok (.iinc 3 1, 3) := by decide +kernel
theorem dX5_runAct_61 : decode cX5_runAct 61 = .ok (.goto (-34), 3) := by decide +kernel
theorem dX5_runAct_64 : decode cX5_runAct 64 = .ok (.aload_n 0, 1) := by decide +kernel
theorem dX5_runAct_65 : decode cX5_runAct 65 = .ok (.iconst 0, 1) := by decide +kernel
theorem dX5_runAct_66 : decode cX5_runAct 66 = .ok (.putfield 23, 3) := by decide +kernel
theorem dX5_runAct_69 : decode cX5_runAct 69 = .ok (.aload_n 0, 1) := by decide +kernel
theorem dX5_runAct_70 : decode cX5_runAct 70 = .ok (.invokevirtual 58, 3) := by decide +kernel
theorem dX5_runAct_73 : decode cX5_runAct 73 = .ok (.aload_n 0, 1) := by decide +kernel
theorem dX5_runAct_74 : decode cX5_runAct 74 = .ok (.getfield 14, 3) := by decide +kernel
theorem dX5_runAct_77 : decode cX5_runAct 77 = .ok (.getfield 65, 3) := by decide +kernel
theorem dX5_runAct_80 : decode cX5_runAct 80 = .ok (.ifCond .ne 7, 3) := by decide +kernel
theorem dX5_runAct_83 : decode cX5_runAct 83 = .ok (.iconst 1, 1) := by decide +kernel
theorem dX5_runAct_84 : decode cX5_runAct 84 = .ok (.goto 4, 3) := by decide +kernel
theorem dX5_runAct_87 : decode cX5_runAct 87 = .ok (.iconst 0, 1) := by decide +kernel
theorem dX5_runAct_88 : decode cX5_runAct 88 = .ok (.ireturn, 1) := by decide +kernel
theorem dX8_takeFrom_0 : decode cX8_takeFrom 0 = .ok (.aload_n 1, 1) := by decide +kernel
theorem dX8_takeFrom_1 : decode cX8_takeFrom 1 = .ok (.getfield 9, 3) := by decide +kernel
theorem dX8_takeFrom_4 : decode cX8_takeFrom 4 = .ok (.iconst 0, 1) := by decide +kernel
theorem dX8_takeFrom_5 : decode cX8_takeFrom 5 = .ok (.aload_n 0, 1) := by decide +kernel
theorem dX8_takeFrom_6 : decode cX8_takeFrom 6 = .ok (.getfield 9, 3) := by decide +kernel
theorem dX8_takeFrom_9 : decode cX8_takeFrom 9 = .ok (.iconst 0, 1) := by decide +kernel
theorem dX8_takeFrom_10 : decode cX8_takeFrom 10 = .ok (.bipush 24, 2) := by decide +kernel
theorem dX8_takeFrom_12 : decode cX8_takeFrom 12 = .ok (.invokestatic 74, 3) := by decide +kernel
theorem dX8_takeFrom_15 : decode cX8_takeFrom 15 = .ok (.aload_n 1, 1) := by decide +kernel
theorem dX8_takeFrom_16 : decode cX8_takeFrom 16 = .ok (.getfield 15, 3) := by decide +kernel
theorem dX8_takeFrom_19 : decode cX8_takeFrom 19 = .ok (.iconst 0, 1) := by decide +kernel
theorem dX8_takeFrom_20 : decode cX8_takeFrom 20 = .ok (.aload_n 0, 1) := by decide +kernel
theorem dX8_takeFrom_21 : decode cX8_takeFrom 21 = .ok (.getfield 15, 3) := by decide +kernel
theorem dX8_takeFrom_24 : decode cX8_takeFrom 24 = .ok (.iconst 0, 1) := by decide +kernel
theorem dX8_takeFrom_25 : decode cX8_takeFrom 25 = .ok (.bipush 24, 2) := by decide +kernel
theorem dX8_takeFrom_27 : decode cX8_takeFrom 27 = .ok (.invokestatic 74, 3) := by decide +kernel
theorem dX8_takeFrom_30 : decode cX8_takeFrom 30 = .ok (.aload_n 1, 1) := by decide +kernel
theorem dX8_takeFrom_31 : decode cX8_takeFrom 31 = .ok (.getfield 18, 3) := by decide +kernel
theorem dX8_takeFrom_34 : decode cX8_takeFrom 34 = .ok (.iconst 0, 1) := by decide +kernel
theorem dX8_takeFrom_35 : decode cX8_takeFrom 35 = .ok (.aload_n 0, 1) := by decide +kernel
theorem dX8_takeFrom_36 : decode cX8_takeFrom 36 = .ok (.getfield 18, 3) := by decide +kernel
theorem dX8_takeFrom_39 : decode cX8_takeFrom 39 = .ok (.iconst 0, 1) := by decide +kernel
theorem dX8_takeFrom_40 : decode cX8_takeFrom 40 = .ok (.bipush 24, 2) := by decide +kernel
theorem dX8_takeFrom_42 : decode cX8_takeFrom 42 = .ok (.invokestatic 74, 3) := by decide +kernel
theorem dX8_takeFrom_45 : decode cX8_takeFrom 45 = .ok (.aload_n 1, 1) := by decide +kernel
theorem dX8_takeFrom_46 : decode cX8_takeFrom 46 = .ok (.getfield 21, 3) := by decide +kernel
theorem dX8_takeFrom_49 : decode cX8_takeFrom 49 = .ok (.iconst 0, 1) := by decide +kernel
theorem dX8_takeFrom_50 : decode cX8_takeFrom 50 = .ok (.aload_n 0, 1) := by decide +kernel
theorem dX8_takeFrom_51 : decode cX8_takeFrom 51 = .ok (.getfield 21, 3) := by decide +kernel
theorem dX8_takeFrom_54 : decode cX8_takeFrom 54 = .ok (.iconst 0, 1) := by decide +kernel
theorem dX8_takeFrom_55 : decode cX8_takeFrom 55 = .ok (.bipush 24, 2) := by decide +kernel
theorem dX8_takeFrom_57 : decode cX8_takeFrom 57 = .ok (.invokestatic 74, 3) := by decide +kernel
theorem dX8_takeFrom_60 : decode cX8_takeFrom 60 = .ok (.aload_n 1, 1) := by decide +kernel
theorem dX8_takeFrom_61 : decode cX8_takeFrom 61 = .ok (.getfield 24, 3) := by decide +kernel
theorem dX8_takeFrom_64 : decode cX8_takeFrom 64 = .ok (.iconst 0, 1) := by decide +kernel
theorem dX8_takeFrom_65 : decode cX8_takeFrom 65 = .ok (.aload_n 0, 1) := by decide +kernel
theorem dX8_takeFrom_66 : decode cX8_takeFrom 66 = .ok (.getfield 24, 3) := by decide +kernel
theorem dX8_takeFrom_69 : decode cX8_takeFrom 69 = .ok (.iconst 0, 1) := by decide +kernel
theorem dX8_takeFrom_70 : decode cX8_takeFrom 70 = .ok (.bipush 24, 2) := by decide +kernel
theorem dX8_takeFrom_72 : decode cX8_takeFrom 72 = .ok (.invokestatic 74, 3) := by decide +kernel
theorem dX8_takeFrom_75 : decode cX8_takeFrom 75 = .ok (.aload_n 1, 1) := by decide +kernel
theorem dX8_takeFrom_76 : decode cX8_takeFrom 76 = .ok (.getfield 28, 3) := by decide +kernel
theorem dX8_takeFrom_79 : decode cX8_takeFrom 79 = .ok (.iconst 0, 1) := by decide +kernel
theorem dX8_takeFrom_80 : decode cX8_takeFrom 80 = .ok (.aload_n 0, 1) := by decide +kernel
theorem dX8_takeFrom_81 : decode cX8_takeFrom 81 = .ok (.getfield 28, 3) := by decide +kernel
theorem dX8_takeFrom_84 : decode cX8_takeFrom 84 = .ok (.iconst 0, 1) := by decide +kernel
theorem dX8_takeFrom_85 : decode cX8_takeFrom 85 = .ok (.bipush 8, 2) := by decide +kernel
theorem dX8_takeFrom_87 : decode cX8_takeFrom 87 = .ok (.invokestatic 74, 3) := by decide +kernel
theorem dX8_takeFrom_90 : decode cX8_takeFrom 90 = .ok (.aload_n 1, 1) := by decide +kernel
theorem dX8_takeFrom_91 : decode cX8_takeFrom 91 = .ok (.getfield 31, 3) := by decide +kernel
theorem dX8_takeFrom_94 : decode cX8_takeFrom 94 = .ok (.iconst 0, 1) := by decide +kernel
theorem dX8_takeFrom_95 : decode cX8_takeFrom 95 = .ok (.aload_n 0, 1) := by decide +kernel
theorem dX8_takeFrom_96 : decode cX8_takeFrom 96 = .ok (.getfield 31, 3) := by decide +kernel
theorem dX8_takeFrom_99 : decode cX8_takeFrom 99 = .ok (.iconst 0, 1) := by decide +kernel
theorem dX8_takeFrom_100 : decode cX8_takeFrom 100 = .ok (.bipush 16, 2) := by decide +kernel
theorem dX8_takeFrom_102 : decode cX8_takeFrom 102 = .ok (.invokestatic 74, 3) := by decide +kernel
theorem dX8_takeFrom_105 : decode cX8_takeFrom 105 = .ok (.aload_n 1, 1) := by decide +kernel
theorem dX8_takeFrom_106 : decode cX8_takeFrom 106 = .ok (.getfield 34, 3) := by decide +kernel
theorem dX8_takeFrom_109 : decode cX8_takeFrom 109 = .ok (.iconst 0, 1) := by decide +kernel
theorem dX8_takeFrom_110 : decode cX8_takeFrom 110 = .ok (.aload_n 0, 1) := by decide +kernel
theorem dX8_takeFrom_111 : decode cX8_takeFrom 111 = .ok (.getfield 34, 3) := by decide +kernel
theorem dX8_takeFrom_114 : decode cX8_takeFrom 114 = .ok (.iconst 0, 1) := by decide +kernel
theorem dX8_takeFrom_115 : decode cX8_takeFrom 115 = .ok (.bipush 16, 2) := by decide +kernel
theorem dX8_takeFrom_117 : decode cX8_takeFrom 117 = .ok (.invokestatic 74, 3) := by decide +kernel
theorem dX8_takeFrom_120 : decode cX8_takeFrom 120 = .ok (.aload_n 1, 1) := by decide +kernel
theorem dX8_takeFrom_121 : decode cX8_takeFrom 121 = .ok (.getfield 37, 3) := by decide +kernel
theorem dX8_takeFrom_124 : decode cX8_takeFrom 124 = .ok (.iconst 0, 1) := by decide +kernel
theorem dX8_takeFrom_125 : decode cX8_takeFrom 125 = .ok (.aload_n 0, 1) := by decide +kernel
theorem dX8_takeFrom_126 : decode cX8_takeFrom 126 = .ok (.getfield 37, 3) := by decide +kernel
theorem dX8_takeFrom_129 : decode cX8_takeFrom 129 = .ok (.iconst 0, 1) := by decide +kernel
theorem dX8_takeFrom_130 : decode cX8_takeFrom 130 = .ok (.bipush 16, 2) := by decide +kernel
theorem dX8_takeFrom_132 : decode cX8_takeFrom 132 = .ok (.invokestatic 74, 3) := by decide +kernel
theorem dX8_takeFrom_135 : decode cX8_takeFrom 135 = .ok (.aload_n 0, 1) := by decide +kernel
theorem dX8_takeFrom_136 : decode cX8_takeFrom 136 = .ok (.aload_n 1, 1) := by decide +kernel
theorem dX8_takeFrom_137 : decode cX8_takeFrom 137 = .ok (.getfield 40, 3) := by decide +kernel
theorem dX8_takeFrom_140 : decode cX8_takeFrom 140 = .ok (.putfield 40, 3) := by decide +kernel
theorem dX8_takeFrom_143 : decode cX8_takeFrom 143 = .ok (.aload_n 0, 1) := by decide +kernel
theorem dX8_takeFrom_144 : decode cX8_takeFrom 144 = .ok (.aload_n 1, 1) := by decide +kernel
theorem dX8_takeFrom_145 : decode cX8_takeFrom 145 = .ok (.getfield 44, 3) := by decide +kernel
theorem dX8_takeFrom_148 : decode cX8_takeFrom 148 = .ok (.putfield 44, 3) := by decide +kernel
theorem dX8_takeFrom_151 : decode cX8_takeFrom 151 = .ok (.aload_n 0, 1) := by decide +kernel
theorem dX8_takeFrom_152 : decode cX8_takeFrom 152 = .ok (.aload_n 1, 1) := by decide +kernel
theorem dX8_takeFrom_153 : decode cX8_takeFrom 153 = .ok (.getfield 48, 3) := by decide +kernel
theorem dX8_takeFrom_156 : decode cX8_takeFrom 156 = .ok (.putfield 48, 3) := by decide +kernel
theorem dX8_takeFrom_159 : decode cX8_takeFrom 159 = .ok (.aload_n 0, 1) := by decide +kernel
theorem dX8_takeFrom_160 : decode cX8_takeFrom 160 = .ok (.aload_n 1, 1) := by decide +kernel
theorem dX8_takeFrom_161 : decode cX8_takeFrom 161 = .ok (.getfield 51, 3) := by decide +kernel
theorem dX8_takeFrom_164 : decode cX8_takeFrom 164 = .ok (.putfield 51, 3) := by decide +kernel
theorem dX8_takeFrom_167 : decode cX8_takeFrom 167 = .ok (.aload_n 0, 1) := by decide +kernel
theorem dX8_takeFrom_168 : decode cX8_takeFrom 168 = .ok (.aload_n 1, 1) := by decide +kernel
theorem dX8_takeFrom_169 : decode cX8_takeFrom 169 = .ok (.getfield 54, 3) := by decide +kernel
theorem dX8_takeFrom_172 : decode cX8_takeFrom 172 = .ok (.putfield 54, 3) := by decide +kernel
theorem dX8_takeFrom_175 : decode cX8_takeFrom 175 = .ok (.aload_n 0, 1) := by decide +kernel
theorem dX8_takeFrom_176 : decode cX8_takeFrom 176 = .ok (.aload_n 1, 1) := by decide +kernel
theorem dX8_takeFrom_177 : decode cX8_takeFrom 177 = .ok (.getfield 57, 3) := by decide +kernel
theorem dX8_takeFrom_180 : decode cX8_takeFrom 180 = .ok (.putfield 57, 3) := by decide +kernel
theorem dX8_takeFrom_183 : decode cX8_takeFrom 183 = .ok (.aload_n 0, 1) := by decide +kernel
theorem dX8_takeFrom_184 : decode cX8_takeFrom 184 = .ok (.aload_n 1, 1) := by decide +kernel
theorem dX8_takeFrom_185 : decode cX8_takeFrom 185 = .ok (.getfield 62, 3) := by decide +kernel
theorem dX8_takeFrom_188 : decode cX8_takeFrom 188 = .ok (.putfield 62, 3) := by decide +kernel
theorem dX8_takeFrom_191 : decode cX8_takeFrom 191 = .ok (.return_, 1) := by decide +kernel
theorem dX8_tellEvent_0 : decode cX8_tellEvent 0 = .ok (.aload_n 0, 1) := by decide +kernel
theorem dX8_tellEvent_1 : decode cX8_tellEvent 1 = .ok (.getfield 40, 3) := by decide +kernel
theorem dX8_tellEvent_4 : decode cX8_tellEvent 4 = .ok (.bipush 16, 2) := by decide +kernel
theorem dX8_tellEvent_6 : decode cX8_tellEvent 6 = .ok (.if_icmp .lt 4, 3) := by decide +kernel
theorem dX8_tellEvent_9 : decode cX8_tellEvent 9 = .ok (.return_, 1) := by decide +kernel
theorem dX8_tellEvent_10 : decode cX8_tellEvent 10 = .ok (.aload_n 0, 1) := by decide +kernel
theorem dX8_tellEvent_11 : decode cX8_tellEvent 11 = .ok (.getfield 31, 3) := by decide +kernel
theorem dX8_tellEvent_14 : decode cX8_tellEvent 14 = .ok (.aload_n 0, 1) := by decide +kernel
theorem dX8_tellEvent_15 : decode cX8_tellEvent 15 = .ok (.getfield 40, 3) := by decide +kernel
theorem dX8_tellEvent_18 : decode cX8_tellEvent 18 = .ok (.iload_n 1, 1) := by decide +kernel
theorem dX8_tellEvent_19 : decode cX8_tellEvent 19 = .ok (.iastore, 1) := by decide +kernel
theorem dX8_tellEvent_20 : decode cX8_tellEvent 20 = .ok (.aload_n 0, 1) := by decide +kernel
theorem dX8_tellEvent_21 : decode cX8_tellEvent 21 = .ok (.getfield 34, 3) := by decide +kernel
theorem dX8_tellEvent_24 : decode cX8_tellEvent 24 = .ok (.aload_n 0, 1) := by decide +kernel
theorem dX8_tellEvent_25 : decode cX8_tellEvent 25 = .ok (.getfield 40, 3) := by decide +kernel
theorem dX8_tellEvent_28 : decode cX8_tellEvent 28 = .ok (.iload_n 2, 1) := by decide +kernel
theorem dX8_tellEvent_29 : decode cX8_tellEvent 29 = .ok (.iastore, 1) := by decide +kernel
theorem dX8_tellEvent_30 : decode cX8_tellEvent 30 = .ok (.aload_n 0, 1) := by decide +kernel
theorem dX8_tellEvent_31 : decode cX8_tellEvent 31 = .ok (.getfield 37, 3) := by decide +kernel
theorem dX8_tellEvent_34 : decode cX8_tellEvent 34 = .ok (.aload_n 0, 1) := by decide +kernel
theorem dX8_tellEvent_35 : decode cX8_tellEvent 35 = .ok (.getfield 40, 3) := by decide +kernel
theorem dX8_tellEvent_38 : decode cX8_tellEvent 38 = .ok (.lload_n 3, 1) := by decide +kernel
theorem dX8_tellEvent_39 : decode cX8_tellEvent 39 = .ok (.lastore, 1) := by decide +kernel
theorem dX8_tellEvent_40 : decode cX8_tellEvent 40 = .ok (.aload_n 0, 1) := by decide +kernel
theorem dX8_tellEvent_41 : decode cX8_tellEvent 41 = .ok (.dup, 1) := by decide +kernel
theorem dX8_tellEvent_42 : decode cX8_tellEvent 42 = .ok (.getfield 40, 3) := by decide +kernel
theorem dX8_tellEvent_45 : decode cX8_tellEvent 45 = .ok (.iconst 1, 1) := by decide +kernel
theorem dX8_tellEvent_46 : decode cX8_tellEvent 46 = .ok (.iadd, 1) := by decide +kernel
theorem dX8_tellEvent_47 : decode cX8_tellEvent 47 = .ok (.putfield 40, 3) := by decide +kernel
theorem dX8_tellEvent_50 : decode cX8_tellEvent 50 = .ok (.return_, 1) := by decide +kernel
theorem dX9_takeRow_0 : decode cX9_takeRow 0 = .ok (.aload_n 0, 1) := by decide +kernel
theorem dX9_takeRow_1 : decode cX9_takeRow 1 = .ok (.iload_n 1, 1) := by decide +kernel
theorem dX9_takeRow_2 : decode cX9_takeRow 2 = .ok (.putfield 11, 3) := by decide +kernel
theorem dX9_takeRow_5 : decode cX9_takeRow 5 = .ok (.aload_n 0, 1) := by decide +kernel
theorem dX9_takeRow_6 : decode cX9_takeRow 6 = .ok (.iload_n 2, 1) := by decide +kernel
theorem dX9_takeRow_7 : decode cX9_takeRow 7 = .ok (.putfield 15, 3) := by decide +kernel
theorem dX9_takeRow_10 : decode cX9_takeRow 10 = .ok (.aload_n 0, 1) := by decide +kernel
theorem dX9_takeRow_11 : decode cX9_takeRow 11 = .ok (.getfield 18, 3) := by decide +kernel
theorem dX9_takeRow_14 : decode cX9_takeRow 14 = .ok (.lconst 0, 1) := by decide +kernel
theorem dX9_takeRow_15 : decode cX9_takeRow 15 = .ok (.invokestatic 32, 3) := by decide +kernel
theorem dX9_takeRow_18 : decode cX9_takeRow 18 = .ok (.return_, 1) := by decide +kernel
theorem dX9_takeImage_0 : decode cX9_takeImage 0 = .ok (.aload_n 0, 1) := by decide +kernel
theorem dX9_takeImage_1 : decode cX9_takeImage 1 = .ok (.iconst 5, 1) := by decide +kernel
theorem dX9_takeImage_2 : decode cX9_takeImage 2 = .ok (.putfield 11, 3) := by decide +kernel
theorem dX9_takeImage_5 : decode cX9_takeImage 5 = .ok (.aload_n 0, 1) := by decide +kernel
theorem dX9_takeImage_6 : decode cX9_takeImage 6 = .ok (.getfield 25, 3) := by decide +kernel
theorem dX9_takeImage_9 : decode cX9_takeImage 9 = .ok (.aload_n 1, 1) := by decide +kernel
theorem dX9_takeImage_10 : decode cX9_takeImage 10 = .ok (.invokevirtual 38, 3) := by decide +kernel
theorem dX9_takeImage_13 : decode cX9_takeImage 13 = .ok (.aload_n 0, 1) := by decide +kernel
theorem dX9_takeImage_14 : decode cX9_takeImage 14 = .ok (.iload_n 2, 1) := by decide +kernel
theorem dX9_takeImage_15 : decode cX9_takeImage 15 = .ok (.putfield 29, 3) := by decide +kernel
theorem dX9_takeImage_18 : decode cX9_takeImage 18 = .ok (.return_, 1) := by decide +kernel
theorem dX9_holdsRow_0 : decode cX9_holdsRow 0 = .ok (.aload_n 0, 1) := by decide +kernel
theorem dX9_holdsRow_1 : decode cX9_holdsRow 1 = .ok (.getfield 11, 3) := by decide +kernel
theorem dX9_holdsRow_4 : decode cX9_holdsRow 4 = .ok (.iconst 1, 1) := by decide +kernel
theorem dX9_holdsRow_5 : decode cX9_holdsRow 5 = .ok (.if_icmp .lt 15, 3) := by decide +kernel
theorem dX9_holdsRow_8 : decode cX9_holdsRow 8 = .ok (.aload_n 0, 1) := by decide +kernel
theorem dX9_holdsRow_9 : decode cX9_holdsRow 9 = .ok (.getfield 11, 3) := by decide +kernel
theorem dX9_holdsRow_12 : decode cX9_holdsRow 12 = .ok (.iconst 4, 1) := by decide +kernel
theorem dX9_holdsRow_13 : decode cX9_holdsRow 13 = .ok (.if_icmp .gt 7, 3) := by decide +kernel
theorem dX9_holdsRow_16 : decode cX9_holdsRow 16 = .ok (.iconst 1, 1) := by decide +kernel
theorem dX9_holdsRow_17 : decode cX9_holdsRow 17 = .ok (.goto 4, 3) := by decide +kernel
theorem dX9_holdsRow_20 : decode cX9_holdsRow 20 = .ok (.iconst 0, 1) := by decide +kernel
theorem dX9_holdsRow_21 : decode cX9_holdsRow 21 = .ok (.ireturn, 1) := by decide +kernel
theorem dX9_hasPlace_0 : decode cX9_hasPlace 0 = .ok (.iload_n 1, 1) := by decide +kernel
theorem dX9_hasPlace_1 : decode cX9_hasPlace 1 = .ok (.ifCond .lt 15, 3) := by decide +kernel
theorem dX9_hasPlace_4 : decode cX9_hasPlace 4 = .ok (.iload_n 1, 1) := by decide +kernel
theorem dX9_hasPlace_5 : decode cX9_hasPlace 5 = .ok (.aload_n 0, 1) := by decide +kernel
theorem dX9_hasPlace_6 : decode cX9_hasPlace 6 = .ok (.getfield 15, 3) := by decide +kernel
theorem dX9_hasPlace_9 : decode cX9_hasPlace 9 = .ok (.if_icmp .ge 7, 3) := by decide +kernel
theorem dX9_hasPlace_12 : decode cX9_hasPlace 12 = .ok (.iconst 1, 1) := by decide +kernel
theorem dX9_hasPlace_13 : decode cX9_hasPlace 13 = .ok (.goto 4, 3) := by decide +kernel
theorem dX9_hasPlace_16 : decode cX9_hasPlace 16 = .ok (.iconst 0, 1) := by decide +kernel
theorem dX9_hasPlace_17 : decode cX9_hasPlace 17 = .ok (.ireturn, 1) := by decide +kernel
theorem dX9_hasPlaces_0 : decode cX9_hasPlaces 0 = .ok (.iload_n 2, 1) := by decide +kernel
theorem dX9_hasPlaces_1 : decode cX9_hasPlaces 1 = .ok (.ifCond .lt 29, 3) := by decide +kernel
theorem dX9_hasPlaces_4 : decode cX9_hasPlaces 4 = .ok (.iload_n 1, 1) := by decide +kernel
theorem dX9_hasPlaces_5 : decode cX9_hasPlaces 5 = .ok (.ifCond .lt 25, 3) := by decide +kernel
theorem dX9_hasPlaces_8 : decode cX9_hasPlaces 8 = .ok (.iload_n 2, 1) := by decide +kernel
theorem dX9_hasPlaces_9 : decode cX9_hasPlaces 9 = .ok (.aload_n 0, 1) := by decide +kernel
theorem dX9_hasPlaces_10 : decode cX9_hasPlaces 10 = .ok (.getfield 15, 3) := by decide +kernel
theorem dX9_hasPlaces_13 : decode cX9_hasPlaces 13 = .ok (.if_icmp .gt 17, 3) := by decide +kernel
theorem dX9_hasPlaces_16 : decode cX9_hasPlaces 16 = .ok (.iload_n 1, 1) := by decide +kernel
theorem dX9_hasPlaces_17 : decode cX9_hasPlaces 17 = .ok (.aload_n 0, 1) := by decide +kernel
theorem dX9_hasPlaces_18 : decode cX9_hasPlaces 18 = .ok (.getfield 15, 3) := by decide +kernel
theorem dX9_hasPlaces_21 : decode cX9_hasPlaces 21 = .ok (.iload_n 2, 1) := by decide +kernel
theorem dX9_hasPlaces_22 : decode cX9_hasPlaces 22 = .ok (.isub, 1) := by decide +kernel
theorem dX9_hasPlaces_23 : decode cX9_hasPlaces 23 = .ok (.if_icmp .gt 7, 3) := by decide +kernel
theorem dX9_hasPlaces_26 : decode cX9_hasPlaces 26 = .ok (.iconst 1, 1) := by decide +kernel
theorem dX9_hasPlaces_27 : decode cX9_hasPlaces 27 = .ok (.goto 4, 3) := by decide +kernel
theorem dX9_hasPlaces_30 : decode cX9_hasPlaces 30 = .ok (.iconst 0, 1) := by decide +kernel
theorem dX9_hasPlaces_31 : decode cX9_hasPlaces 31 = .ok (.ireturn, 1) := by decide +kernel
theorem dX9_narrowed_0 : decode cX9_narrowed 0 = .ok (.aload_n 0, 1) := by decide +kernel
theorem dX9_narrowed_1 : decode cX9_narrowed 1 = .ok (.getfield 11, 3) := by decide +kernel
theorem dX9_narrowed_4 : decode cX9_narrowed 4 = .ok (.tableswitch 42 1 3 #[28, 33, 38], 28) := by decide +kernel
theorem dX9_narrowed_32 : decode cX9_narrowed 32 = .ok (.lload_n 1, 1) := by decide +kernel
theorem dX9_narrowed_33 : decode cX9_narrowed 33 = .ok (.l2i, 1) := by decide +kernel
theorem dX9_narrowed_34 : decode cX9_narrowed 34 = .ok (.i2b, 1) := by decide +kernel
theorem dX9_narrowed_35 : decode cX9_narrowed 35 = .ok (.i2l, 1) := by decide +kernel
theorem dX9_narrowed_36 : decode cX9_narrowed 36 = .ok (.lreturn, 1) := by decide +kernel
theorem dX9_narrowed_37 : decode cX9_narrowed 37 = .ok (.lload_n 1, 1) := by decide +kernel
theorem dX9_narrowed_38 : decode cX9_narrowed 38 = .ok (.l2i, 1) := by decide +kernel
theorem dX9_narrowed_39 : decode cX9_narrowed 39 = .ok (.i2s, 1) := by decide +kernel
theorem dX9_narrowed_40 : decode cX9_narrowed 40 = .ok (.i2l, 1) := by decide +kernel
theorem dX9_narrowed_41 : decode cX9_narrowed 41 = .ok (.lreturn, 1) := by decide +kernel
theorem dX9_narrowed_42 : decode cX9_narrowed 42 = .ok (.lload_n 1, 1) := by decide +kernel
theorem dX9_narrowed_43 : decode cX9_narrowed 43 = .ok (.l2i, 1) := by decide +kernel
theorem dX9_narrowed_44 : decode cX9_narrowed 44 = .ok (.i2l, 1) := by decide +kernel
theorem dX9_narrowed_45 : decode cX9_narrowed 45 = .ok (.lreturn, 1) := by decide +kernel
theorem dX9_narrowed_46 : decode cX9_narrowed 46 = .ok (.lload_n 1, 1) := by decide +kernel
theorem dX9_narrowed_47 : decode cX9_narrowed 47 = .ok (.lreturn, 1) := by decide +kernel
theorem dX10_forget_0 : decode cX10_forget 0 = .ok (.aload_n 0, 1) := by decide +kernel
theorem dX10_forget_1 : decode cX10_forget 1 = .ok (.iconst 0, 1) := by decide +kernel
theorem dX10_forget_2 : decode cX10_forget 2 = .ok (.putfield 25, 3) := by decide +kernel
theorem dX10_forget_5 : decode cX10_forget 5 = .ok (.aload_n 0, 1) := by decide +kernel
theorem dX10_forget_6 : decode cX10_forget 6 = .ok (.bipush (-2), 2) := by decide +kernel
theorem dX10_forget_8 : decode cX10_forget 8 = .ok (.putfield 29, 3) := by decide +kernel
theorem dX10_forget_11 : decode cX10_forget 11 = .ok (.return_, 1) := by decide +kernel
theorem dX10_keepStart_0 : decode cX10_keepStart 0 = .ok (.aload_n 0, 1) := by decide +kernel
theorem dX10_keepStart_1 : decode cX10_keepStart 1 = .ok (.getfield 12, 3) := by decide +kernel
theorem dX10_keepStart_4 : decode cX10_keepStart 4 = .ok (.aload_n 0, 1) := by decide +kernel
theorem dX10_keepStart_5 : decode cX10_keepStart 5 = .ok (.getfield 36, 3) := by decide +kernel
theorem dX10_keepStart_8 : decode cX10_keepStart 8 = .ok (.invokevirtual 43, 3) := by decide +kernel
theorem dX10_keepStart_11 : decode cX10_keepStart 11 = .ok (.return_, 1) := by decide +kernel
theorem dX10_restoreStart_0 : decode cX10_restoreStart 0 = .ok (.aload_n 0, 1) := by decide +kernel
theorem dX10_restoreStart_1 : decode cX10_restoreStart 1 = .ok (.getfield 36, 3) := by decide +kernel
theorem dX10_restoreStart_4 : decode cX10_restoreStart 4 = .ok (.aload_n 0, 1) := by decide +kernel
theorem dX10_restoreStart_5 : decode cX10_restoreStart 5 = .ok (.getfield 12, 3) := by decide +kernel
theorem dX10_restoreStart_8 : decode cX10_restoreStart 8 = .ok (.invokevirtual 43, 3) := by decide +kernel
theorem dX10_restoreStart_11 : decode cX10_restoreStart 11 = .ok (.return_, 1) := by decide +kernel
theorem dX11_nearestInt_0 : decode cX11_nearestInt 0 = .ok (.lload_n 0, 1) := by decide +kernel
theorem dX11_nearestInt_1 : decode cX11_nearestInt 1 = .ok (.ldc2_w 328, 3) := by decide +kernel
theorem dX11_nearestInt_4 : decode cX11_nearestInt 4 = .ok (.invokestatic 330, 3) := by decide +kernel
theorem dX11_nearestInt_7 : decode cX11_nearestInt 7 = .ok (.l2i, 1) := by decide +kernel
theorem dX11_nearestInt_8 : decode cX11_nearestInt 8 = .ok (.ireturn, 1) := by decide +kernel
theorem dX10_noteSets_0 : decode cX10_noteSets 0 = .ok (.iconst 0, 1) := by decide +kernel
theorem dX10_noteSets_1 : decode cX10_noteSets 1 = .ok (.istore_n 3, 1) := by decide +kernel
theorem dX10_noteSets_2 : decode cX10_noteSets 2 = .ok (.iload_n 3, 1) := by decide +kernel
theorem dX10_noteSets_3 : decode cX10_noteSets 3 = .ok (.aload_n 0, 1) := by decide +kernel
theorem dX10_noteSets_4 : decode cX10_noteSets 4 = .ok (.getfield 32, 3) := by decide +kernel
theorem dX10_noteSets_7 : decode cX10_noteSets 7 = .ok (.getfield 101, 3) := by decide +kernel
theorem dX10_noteSets_10 : decode cX10_noteSets 10 = .ok (.if_icmp .ge 31, 3) := by decide +kernel
theorem dX10_noteSets_13 : decode cX10_noteSets 13 = .ok (.aload_n 0, 1) := by decide +kernel
theorem dX10_noteSets_14 : decode cX10_noteSets 14 = .ok (.getfield 18, 3) := by decide +kernel
theorem dX10_noteSets_17 : decode cX10_noteSets 17 = .ok (.iload_n 3, 1) := by decide +kernel
theorem dX10_noteSets_18 : decode cX10_noteSets 18 = .ok (.aload_n 1, 1) := by decide +kernel
theorem dX10_noteSets_19 : decode cX10_noteSets 19 = .ok (.iload_n 3, 1) := by decide +kernel
theorem dX10_noteSets_20 : decode cX10_noteSets 20 = .ok (.invokevirtual 104, 3) := by decide +kernel
theorem dX10_noteSets_23 : decode cX10_noteSets 23 = .ok (.iastore, 1) := by decide +kernel
theorem dX10_noteSets_24 : decode cX10_noteSets 24 = .ok (.aload_n 0, 1) := by decide +kernel
theorem dX10_noteSets_25 : decode cX10_noteSets 25 = .ok (.getfield 22, 3) := by decide +kernel
theorem dX10_noteSets_28 : decode cX10_noteSets 28 = .ok (.iload_n 3, 1) := by decide +kernel
theorem dX10_noteSets_29 : decode cX10_noteSets 29 = .ok (.aload_n 2, 1) := by decide +kernel
theorem dX10_noteSets_30 : decode cX10_noteSets 30 = .ok (.iload_n 3, 1) := by decide +kernel
theorem dX10_noteSets_31 : decode cX10_noteSets 31 = .ok (.invokevirtual 104, 3) := by decide +kernel
theorem dX10_noteSets_34 : decode cX10_noteSets 34 = .ok (.iastore, 1) := by decide +kernel
theorem dX10_noteSets_35 : decode cX10_noteSets 35 = .ok (.iinc 3 1, 3) := by decide +kernel
theorem dX10_noteSets_38 : decode cX10_noteSets 38 = .ok (.goto (-36), 3) := by decide +kernel
theorem dX10_noteSets_41 : decode cX10_noteSets 41 = .ok (.return_, 1) := by decide +kernel
theorem dX10_isRight_0 : decode cX10_isRight 0 = .ok (.aload_n 0, 1) := by decide +kernel
theorem dX10_isRight_1 : decode cX10_isRight 1 = .ok (.getfield 32, 3) := by decide +kernel
theorem dX10_isRight_4 : decode cX10_isRight 4 = .ok (.getfield 73, 3) := by decide +kernel
theorem dX10_isRight_7 : decode cX10_isRight 7 = .ok (.iload_n 1, 1) := by decide +kernel
theorem dX10_isRight_8 : decode cX10_isRight 8 = .ok (.aaload, 1) := by decide +kernel
theorem dX10_isRight_9 : decode cX10_isRight 9 = .ok (.getfield 120, 3) := by decide +kernel
theorem dX10_isRight_12 : decode cX10_isRight 12 = .ok (.ifCond .ne 7, 3) := by decide +kernel
theorem dX10_isRight_15 : decode cX10_isRight 15 = .ok (.iconst 1, 1) := by decide +kernel
theorem dX10_isRight_16 : decode cX10_isRight 16 = .ok (.goto 4, 3) := by decide +kernel
theorem dX10_isRight_19 : decode cX10_isRight 19 = .ok (.iconst 0, 1) := by decide +kernel
theorem dX10_isRight_20 : decode cX10_isRight 20 = .ok (.istore_n 2, 1) := by decide +kernel
theorem dX10_isRight_21 : decode cX10_isRight 21 = .ok (.iload_n 2, 1) := by decide +kernel
theorem dX10_isRight_22 : decode cX10_isRight 22 = .ok (.ifCond .eq 15, 3) := by decide +kernel
theorem dX10_isRight_25 : decode cX10_isRight 25 = .ok (.aload_n 0, 1) := by decide +kernel
theorem dX10_isRight_26 : decode cX10_isRight 26 = .ok (.getfield 36, 3) := by decide +kernel
theorem dX10_isRight_29 : decode cX10_isRight 29 = .ok (.getfield 123, 3) := by decide +kernel
theorem dX10_isRight_32 : decode cX10_isRight 32 = .ok (.iload_n 1, 1) := by decide +kernel
theorem dX10_isRight_33 : decode cX10_isRight 33 = .ok (.iaload, 1) := by decide +kernel
theorem dX10_isRight_34 : decode cX10_isRight 34 = .ok (.goto 12, 3) := by decide +kernel
theorem dX10_isRight_37 : decode cX10_isRight 37 = .ok (.aload_n 0, 1) := by decide +kernel
theorem dX10_isRight_38 : decode cX10_isRight 38 = .ok (.getfield 36, 3) := by decide +kernel
theorem dX10_isRight_41 : decode cX10_isRight 41 = .ok (.getfield 126, 3) := by decide +kernel
theorem dX10_isRight_44 : decode cX10_isRight 44 = .ok (.iload_n 1, 1) := by decide +kernel
theorem dX10_isRight_45 : decode cX10_isRight 45 = .ok (.iaload, 1) := by decide +kernel
theorem dX10_isRight_46 : decode cX10_isRight 46 = .ok (.istore_n 3, 1) := by decide +kernel
theorem dX10_isRight_47 : decode cX10_isRight 47 = .ok (.aload_n 0, 1) := by decide +kernel
theorem dX10_isRight_48 : decode cX10_isRight 48 = .ok (.getfield 18, 3) := by decide +kernel
theorem dX10_isRight_51 : decode cX10_isRight 51 = .ok (.iload_n 1, 1) := by decide +kernel
theorem dX10_isRight_52 : decode cX10_isRight 52 = .ok (.iaload, 1) := by decide +kernel
theorem dX10_isRight_53 : decode cX10_isRight 53 = .ok (.ifCond .ge 47, 3) := by decide +kernel
theorem dX10_isRight_56 : decode cX10_isRight 56 = .ok (.aload_n 0, 1) := by decide +kernel
theorem dX10_isRight_57 : decode cX10_isRight 57 = .ok (.getfield 22, 3) := by decide +kernel
theorem dX10_isRight_60 : decode cX10_isRight 60 = .ok (.iload_n 1, 1) := by decide +kernel
theorem dX10_isRight_61 : decode cX10_isRight 61 = .ok (.iaload, 1) := by decide +kernel
theorem dX10_isRight_62 : decode cX10_isRight 62 = .ok (.ifCond .ge 38, 3) := by decide +kernel
theorem dX10_isRight_65 : decode cX10_isRight 65 = .ok (.iload_n 3, 1) := by decide +kernel
theorem dX10_isRight_66 : decode cX10_isRight 66 = .ok (.iload_n 2, 1) := by decide +kernel
theorem dX10_isRight_67 : decode cX10_isRight 67 = .ok (.ifCond .eq 15, 3) := by decide +kernel
theorem dX10_isRight_70 : decode cX10_isRight 70 = .ok (.aload_n 0, 1) := by decide +kernel
theorem dX10_isRight_71 : decode cX10_isRight 71 = .ok (.getfield 12, 3) := by decide +kernel
theorem dX10_isRight_74 : decode cX10_isRight 74 = .ok (.getfield 123, 3) := by decide +kernel
theorem dX10_isRight_77 : decode cX10_isRight 77 = .ok (.iload_n 1, 1) := by decide +kernel
theorem dX10_isRight_78 : decode cX10_isRight 78 = .ok (.iaload, 1) := by decide +kernel
theorem dX10_isRight_79 : decode cX10_isRight 79 = .ok (.goto 12, 3) := by decide +kernel
theorem dX10_isRight_82 : decode cX10_isRight 82 = .ok (.aload_n 0, 1) := by decide +kernel
theorem dX10_isRight_83 : decode cX10_isRight 83 = .ok (.getfield 12, 3) := by decide +kernel
theorem dX10_isRight_86 : decode cX10_isRight 86 = .ok (.getfield 126, 3) := by decide +kernel
theorem dX10_isRight_89 : decode cX10_isRight 89 = .ok (.iload_n 1, 1) := by decide +kernel
theorem dX10_isRight_90 : decode cX10_isRight 90 = .ok (.iaload, 1) := by decide +kernel
theorem dX10_isRight_91 : decode cX10_isRight 91 = .ok (.if_icmp .ne 7, 3) := by decide +kernel
theorem dX10_isRight_94 : decode cX10_isRight 94 = .ok (.iconst 1, 1) := by decide +kernel
theorem dX10_isRight_95 : decode cX10_isRight 95 = .ok (.goto 4, 3) := by decide +kernel
theorem dX10_isRight_98 : decode cX10_isRight 98 = .ok (.iconst 0, 1) := by decide +kernel
theorem dX10_isRight_99 : decode cX10_isRight 99 = .ok (.ireturn, 1) := by decide +kernel
theorem dX10_isRight_100 : decode cX10_isRight 100 = .ok (.iload_n 3, 1) := by decide +kernel
theorem dX10_isRight_101 : decode cX10_isRight 101 = .ok (.aload_n 0, 1) := by decide +kernel
theorem dX10_isRight_102 : decode cX10_isRight 102 = .ok (.getfield 18, 3) := by decide +kernel
theorem dX10_isRight_105 : decode cX10_isRight 105 = .ok (.iload_n 1, 1) := by decide +kernel
theorem dX10_isRight_106 : decode cX10_isRight 106 = .ok (.iaload, 1) := by decide +kernel
theorem dX10_isRight_107 : decode cX10_isRight 107 = .ok (.if_icmp .eq 13, 3) := by decide +kernel
theorem dX10_isRight_110 : decode cX10_isRight 110 = .ok (.iload_n 3, 1) := by decide +kernel
theorem dX10_isRight_111 : decode cX10_isRight 111 = .ok (.aload_n 0, 1) := by decide +kernel
theorem dX10_isRight_112 : decode cX10_isRight 112 = .ok (.getfield 22, 3) := by decide +kernel
theorem dX10_isRight_115 : decode cX10_isRight 115 = .ok (.iload_n 1, 1) := by decide +kernel
theorem dX10_isRight_116 : decode cX10_isRight 116 = .ok (.iaload, 1) := by decide +kernel
theorem dX10_isRight_117 : decode cX10_isRight 117 = .ok (.if_icmp .ne 7, 3) := by decide +kernel
theorem dX10_isRight_120 : decode cX10_isRight 120 = .ok (.iconst 1, 1) := by decide +kernel
theorem dX10_isRight_121 : decode cX10_isRight 121 = .ok (.goto 4, 3) := by decide +kernel
theorem dX10_isRight_124 : decode cX10_isRight 124 = .ok (.iconst 0, 1) := by decide +kernel
theorem dX10_isRight_125 : decode cX10_isRight 125 = .ok (.ireturn, 1) := by decide +kernel
theorem dX10_wrongField_0 : decode cX10_wrongField 0 = .ok (.iconst 0, 1) := by decide +kernel
theorem dX10_wrongField_1 : decode cX10_wrongField 1 = .ok (.istore_n 1, 1) := by decide +kernel
theorem dX10_wrongField_2 : decode cX10_wrongField 2 = .ok (.iload_n 1, 1) := by decide +kernel
theorem dX10_wrongField_3 : decode cX10_wrongField 3 = .ok (.aload_n 0, 1) := by decide +kernel
theorem dX10_wrongField_4 : decode cX10_wrongField 4 = .ok (.getfield 32, 3) := by decide +kernel
theorem dX10_wrongField_7 : decode cX10_wrongField 7 = .ok (.getfield 101, 3) := by decide +kernel
theorem dX10_wrongField_10 : decode cX10_wrongField 10 = .ok (.if_icmp .ge 34, 3) := by decide +kernel
theorem dX10_wrongField_13 : decode cX10_wrongField 13 = .ok (.aload_n 0, 1) := by decide +kernel
theorem dX10_wrongField_14 : decode cX10_wrongField 14 = .ok (.getfield 32, 3) := by decide +kernel
theorem dX10_wrongField_17 : decode cX10_wrongField 17 = .ok (.getfield 73, 3) := by decide +kernel
theorem dX10_wrongField_20 : decode cX10_wrongField 20 = .ok (.iload_n 1, 1) := by decide +kernel
theorem dX10_wrongField_21 : decode cX10_wrongField 21 = .ok (.aaload, 1) := by decide +kernel
theorem dX10_wrongField_22 : decode cX10_wrongField 22 = .ok (.invokevirtual 113, 3) := by decide +kernel
theorem dX10_wrongField_25 : decode cX10_wrongField 25 = .ok (.ifCond .eq 13, 3) := by decide +kernel
theorem dX10_wrongField_28 : decode cX10_wrongField 28 = .ok (.aload_n 0, 1) := by decide +kernel
theorem dX10_wrongField_29 : decode cX10_wrongField 29 = .ok (.iload_n 1, 1) := by decide +kernel
theorem dX10_wrongField_30 : decode cX10_wrongField 30 = .ok (.invokevirtual 117, 3) := by decide +kernel
theorem dX10_wrongField_33 : decode cX10_wrongField 33 = .ok (.ifCond .ne 5, 3) := by decide +kernel
theorem dX10_wrongField_36 : decode cX10_wrongField 36 = .ok (.iload_n 1, 1) := by decide +kernel
theorem dX10_wrongField_37 : decode cX10_wrongField 37 = .ok (.ireturn, 1) := by decide +kernel
theorem dX10_wrongField_38 : decode cX10_wrongField 38 = .ok (.iinc 1 1, 3) := by decide +kernel
theorem dX10_wrongField_41 : decode cX10_wrongField 41 = .ok (.goto (-39), 3) := by decide +kernel
theorem dX10_wrongField_44 : decode cX10_wrongField 44 = .ok (.bipush (-2), 2) := by decide +kernel
theorem dX10_wrongField_46 : decode cX10_wrongField 46 = .ok (.ireturn, 1) := by decide +kernel
theorem dX10_brokenRule_0 : decode cX10_brokenRule 0 = .ok (.iload_n 1, 1) := by decide +kernel
theorem dX10_brokenRule_1 : decode cX10_brokenRule 1 = .ok (.ifCond .ne 5, 3) := by decide +kernel
theorem dX10_brokenRule_4 : decode cX10_brokenRule 4 = .ok (.iconst 1, 1) := by decide +kernel
theorem dX10_brokenRule_5 : decode cX10_brokenRule 5 = .ok (.ireturn, 1) := by decide +kernel
theorem dX10_brokenRule_6 : decode cX10_brokenRule 6 = .ok (.aload_n 0, 1) := by decide +kernel
theorem dX10_brokenRule_7 : decode cX10_brokenRule 7 = .ok (.getfield 36, 3) := by decide +kernel
theorem dX10_brokenRule_10 : decode cX10_brokenRule 10 = .ok (.getfield 110, 3) := by decide +kernel
theorem dX10_brokenRule_13 : decode cX10_brokenRule 13 = .ok (.aload_n 0, 1) := by decide +kernel
theorem dX10_brokenRule_14 : decode cX10_brokenRule 14 = .ok (.getfield 12, 3) := by decide +kernel
theorem dX10_brokenRule_17 : decode cX10_brokenRule 17 = .ok (.getfield 110, 3) := by decide +kernel
theorem dX10_brokenRule_20 : decode cX10_brokenRule 20 = .ok (.lcmp, 1) := by decide +kernel
theorem dX10_brokenRule_21 : decode cX10_brokenRule 21 = .ok (.ifCond .le 5, 3) := by decide +kernel
theorem dX10_brokenRule_24 : decode cX10_brokenRule 24 = .ok (.iconst 2, 1) := by decide +kernel
theorem dX10_brokenRule_25 : decode cX10_brokenRule 25 = .ok (.ireturn, 1) := by decide +kernel
theorem dX10_brokenRule_26 : decode cX10_brokenRule 26 = .ok (.aload_n 0, 1) := by decide +kernel
theorem dX10_brokenRule_27 : decode cX10_brokenRule 27 = .ok (.invokevirtual 97, 3) := by decide +kernel
theorem dX10_brokenRule_30 : decode cX10_brokenRule 30 = .ok (.bipush (-2), 2) := by decide +kernel
theorem dX10_brokenRule_32 : decode cX10_brokenRule 32 = .ok (.if_icmp .eq 5, 3) := by decide +kernel
theorem dX10_brokenRule_35 : decode cX10_brokenRule 35 = .ok (.iconst 3, 1) := by decide +kernel
theorem dX10_brokenRule_36 : decode cX10_brokenRule 36 = .ok (.ireturn, 1) := by decide +kernel
theorem dX10_brokenRule_37 : decode cX10_brokenRule 37 = .ok (.aload_n 0, 1) := by decide +kernel
theorem dX10_brokenRule_38 : decode cX10_brokenRule 38 = .ok (.getfield 36, 3) := by decide +kernel
theorem dX10_brokenRule_41 : decode cX10_brokenRule 41 = .ok (.getfield 64, 3) := by decide +kernel
theorem dX10_brokenRule_44 : decode cX10_brokenRule 44 = .ok (.iload_n 2, 1) := by decide +kernel
theorem dX10_brokenRule_45 : decode cX10_brokenRule 45 = .ok (.iconst 1, 1) := by decide +kernel
theorem dX10_brokenRule_46 : decode cX10_brokenRule 46 = .ok (.iadd, 1) := by decide +kernel
theorem dX10_brokenRule_47 : decode cX10_brokenRule 47 = .ok (.if_icmp .ne 7, 3) := by decide +kernel
theorem dX10_brokenRule_50 : decode cX10_brokenRule 50 = .ok (.iconst 0, 1) := by decide +kernel
theorem dX10_brokenRule_51 : decode cX10_brokenRule 51 = .ok (.goto 4, 3) := by decide +kernel
theorem dX10_brokenRule_54 : decode cX10_brokenRule 54 = .ok (.iconst 4, 1) := by decide +kernel
theorem dX10_brokenRule_55 : decode cX10_brokenRule 55 = .ok (.ireturn, 1) := by decide +kernel
theorem dX10_firstUnwell_0 : decode cX10_firstUnwell 0 = .ok (.aload_n 0, 1) := by decide +kernel
theorem dX10_firstUnwell_1 : decode cX10_firstUnwell 1 = .ok (.getfield 39, 3) := by decide +kernel
theorem dX10_firstUnwell_4 : decode cX10_firstUnwell 4 = .ok (.iload_n 1, 1) := by decide +kernel
theorem dX10_firstUnwell_5 : decode cX10_firstUnwell 5 = .ok (.invokevirtual 47, 3) := by decide +kernel
theorem dX10_firstUnwell_8 : decode cX10_firstUnwell 8 = .ok (.ifCond .ne 6, 3) := by decide +kernel
theorem dX10_firstUnwell_11 : decode cX10_firstUnwell 11 = .ok (.bipush (-5), 2) := by decide +kernel
theorem dX10_firstUnwell_13 : decode cX10_firstUnwell 13 = .ok (.ireturn, 1) := by decide +kernel
theorem dX10_firstUnwell_14 : decode cX10_firstUnwell 14 = .ok (.aload_n 0, 1) := by decide +kernel
theorem dX10_firstUnwell_15 : decode cX10_firstUnwell 15 = .ok (.getfield 12, 3) := by decide +kernel
theorem dX10_firstUnwell_18 : decode cX10_firstUnwell 18 = .ok (.getfield 53, 3) := by decide +kernel
theorem dX10_firstUnwell_21 : decode cX10_firstUnwell 21 = .ok (.bipush 16, 2) := by decide +kernel
theorem dX10_firstUnwell_23 : decode cX10_firstUnwell 23 = .ok (.if_icmp .lt 6, 3) := by decide +kernel
theorem dX10_firstUnwell_26 : decode cX10_firstUnwell 26 = .ok (.bipush (-3), 2) := by decide +kernel
theorem dX10_firstUnwell_28 : decode cX10_firstUnwell 28 = .ok (.ireturn, 1) := by decide +kernel
theorem dX10_firstUnwell_29 : decode cX10_firstUnwell 29 = .ok (.aload_n 0, 1) := by decide +kernel
theorem dX10_firstUnwell_30 : decode cX10_firstUnwell 30 = .ok (.getfield 36, 3) := by decide +kernel
theorem dX10_firstUnwell_33 : decode cX10_firstUnwell 33 = .ok (.getfield 56, 3) := by decide +kernel
theorem dX10_firstUnwell_36 : decode cX10_firstUnwell 36 = .ok (.aload_n 0, 1) := by decide +kernel
theorem dX10_firstUnwell_37 : decode cX10_firstUnwell 37 = .ok (.getfield 12, 3) := by decide +kernel
theorem dX10_firstUnwell_40 : decode cX10_firstUnwell 40 = .ok (.getfield 56, 3) := by decide +kernel
theorem dX10_firstUnwell_43 : decode cX10_firstUnwell 43 = .ok (.lsub, 1) := by decide +kernel
theorem dX10_firstUnwell_44 : decode cX10_firstUnwell 44 = .ok (.invokestatic 60, 3) := by decide +kernel
theorem dX10_firstUnwell_47 : decode cX10_firstUnwell 47 = .ok (.istore_n 3, 1) := by decide +kernel
theorem dX10_firstUnwell_48 : decode cX10_firstUnwell 48 = .ok (.aload_n 0, 1) := by decide +kernel
theorem dX10_firstUnwell_49 : decode cX10_firstUnwell 49 = .ok (.getfield 36, 3) := by decide +kernel
theorem dX10_firstUnwell_52 : decode cX10_firstUnwell 52 = .ok (.getfield 64, 3) := by decide +kernel
theorem dX10_firstUnwell_55 : decode cX10_firstUnwell 55 = .ok (.istore 4, 2) := by decide +kernel
theorem dX10_firstUnwell_57 : decode cX10_firstUnwell 57 = .ok (.aload_n 0, 1) := by decide +kernel
theorem dX10_firstUnwell_58 : decode cX10_firstUnwell 58 = .ok (.aload_n 0, 1) := by decide +kernel
theorem dX10_firstUnwell_59 : decode cX10_firstUnwell 59 = .ok (.getfield 32, 3) := by decide +kernel
theorem dX10_firstUnwell_62 : decode cX10_firstUnwell 62 = .ok (.getfield 67, 3) := by decide +kernel
theorem dX10_firstUnwell_65 : decode cX10_firstUnwell 65 = .ok (.iload_n 1, 1) := by decide +kernel
theorem dX10_firstUnwell_66 : decode cX10_firstUnwell 66 = .ok (.aaload, 1) := by decide +kernel
theorem dX10_firstUnwell_67 : decode cX10_firstUnwell 67 = .ok (.aload_n 0, 1) := by decide +kernel
theorem dX10_firstUnwell_68 : decode cX10_firstUnwell 68 = .ok (.getfield 32, 3) := by decide +kernel
theorem dX10_firstUnwell_71 : decode cX10_firstUnwell 71 = .ok (.getfield 67, 3) := by decide +kernel
theorem dX10_firstUnwell_74 : decode cX10_firstUnwell 74 = .ok (.aload_n 0, 1) := by decide +kernel
theorem dX10_firstUnwell_75 : decode cX10_firstUnwell 75 = .ok (.getfield 32, 3) := by decide +kernel
theorem dX10_firstUnwell_78 : decode cX10_firstUnwell 78 = .ok (.getfield 73, 3) := by decide +kernel
theorem dX10_firstUnwell_81 : decode cX10_firstUnwell 81 = .ok (.iload_n 2, 1) := by decide +kernel
theorem dX10_firstUnwell_82 : decode cX10_firstUnwell 82 = .ok (.aaload, 1) := by decide +kernel
theorem dX10_firstUnwell_83 : decode cX10_firstUnwell 83 = .ok (.getfield 77, 3) := by decide +kernel
theorem dX10_firstUnwell_86 : decode cX10_firstUnwell 86 = .ok (.aaload, 1) := by decide +kernel
theorem dX10_firstUnwell_87 : decode cX10_firstUnwell 87 = .ok (.invokevirtual 82, 3) := by decide +kernel
theorem dX10_firstUnwell_90 : decode cX10_firstUnwell 90 = .ok (.iconst 1, 1) := by decide +kernel
theorem dX10_firstUnwell_91 : decode cX10_firstUnwell 91 = .ok (.istore 5, 2) := by decide +kernel
theorem dX10_firstUnwell_93 : decode cX10_firstUnwell 93 = .ok (.iload 5, 2) := by decide +kernel
theorem dX10_firstUnwell_95 : decode cX10_firstUnwell 95 = .ok (.iload_n 3, 1) := by decide +kernel
theorem dX10_firstUnwell_96 : decode cX10_firstUnwell 96 = .ok (.if_icmp .gt 86, 3) := by decide +kernel
theorem dX10_firstUnwell_99 : decode cX10_firstUnwell 99 = .ok (.aload_n 0, 1) := by decide +kernel
theorem dX10_firstUnwell_100 : decode cX10_firstUnwell 100 = .ok (.invokevirtual 86, 3) := by decide +kernel
theorem dX10_firstUnwell_103 : decode cX10_firstUnwell 103 = .ok (.aload_n 0, 1) := by decide +kernel
theorem dX10_firstUnwell_104 : decode cX10_firstUnwell 104 = .ok (.getfield 36, 3) := by decide +kernel
theorem dX10_firstUnwell_107 : decode cX10_firstUnwell 107 = .ok (.iload_n 2, 1) := by decide +kernel
theorem dX10_firstUnwell_108 : decode cX10_firstUnwell 108 = .ok (.iconst 1, 1) := by decide +kernel
theorem dX10_firstUnwell_109 : decode cX10_firstUnwell 109 = .ok (.aload_n 0, 1) := by decide +kernel
theorem dX10_firstUnwell_110 : decode cX10_firstUnwell 110 = .ok (.getfield 12, 3) := by decide +kernel
theorem dX10_firstUnwell_113 : decode cX10_firstUnwell 113 = .ok (.getfield 56, 3) := by decide +kernel
theorem dX10_firstUnwell_116 : decode cX10_firstUnwell 116 = .ok (.iload 5, 2) := by decide +kernel
theorem dX10_firstUnwell_118 : decode cX10_firstUnwell 118 = .ok (.i2l, 1) := by decide +kernel
theorem dX10_firstUnwell_119 : decode cX10_firstUnwell 119 = .ok (.ladd, 1) := by decide +kernel
theorem dX10_firstUnwell_120 : decode cX10_firstUnwell 120 = .ok (.invokevirtual 89, 3) := by decide +kernel
theorem dX10_firstUnwell_123 : decode cX10_firstUnwell 123 = .ok (.aload_n 0, 1) := by decide +kernel
theorem dX10_firstUnwell_124 : decode cX10_firstUnwell 124 = .ok (.getfield 39, 3) := by decide +kernel
theorem dX10_firstUnwell_127 : decode cX10_firstUnwell 127 = .ok (.iload_n 1, 1) := by decide +kernel
theorem dX10_firstUnwell_128 : decode cX10_firstUnwell 128 = .ok (.invokevirtual 47, 3) := by decide +kernel
theorem dX10_firstUnwell_131 : decode cX10_firstUnwell 131 = .ok (.istore 6, 2) := by decide +kernel
theorem dX10_firstUnwell_133 : decode cX10_firstUnwell 133 = .ok (.aload_n 0, 1) := by decide +kernel
theorem dX10_firstUnwell_134 : decode cX10_firstUnwell 134 = .ok (.iload 6, 2) := by decide +kernel
theorem dX10_firstUnwell_136 : decode cX10_firstUnwell 136 = .ok (.iload 4, 2) := by decide +kernel
theorem dX10_firstUnwell_138 : decode cX10_firstUnwell 138 = .ok (.invokevirtual 93, 3) := by decide +kernel
theorem dX10_firstUnwell_141 : decode cX10_firstUnwell 141 = .ok (.istore 7, 2) := by decide +kernel
theorem dX10_firstUnwell_143 : decode cX10_firstUnwell 143 = .ok (.iload 7, 2) := by decide +kernel
theorem dX10_firstUnwell_145 : decode cX10_firstUnwell 145 = .ok (.ifCond .eq 31, 3) := by decide +kernel
theorem dX10_firstUnwell_148 : decode cX10_firstUnwell 148 = .ok (.aload_n 0, 1) := by decide +kernel
theorem dX10_firstUnwell_149 : decode cX10_firstUnwell 149 = .ok (.iload 7, 2) := by decide +kernel
theorem dX10_firstUnwell_151 : decode cX10_firstUnwell 151 = .ok (.putfield 25, 3) := by decide +kernel
theorem dX10_firstUnwell_154 : decode cX10_firstUnwell 154 = .ok (.aload_n 0, 1) := by decide +kernel
theorem dX10_firstUnwell_155 : decode cX10_firstUnwell 155 = .ok (.iload 7, 2) := by decide +kernel
theorem dX10_firstUnwell_157 : decode cX10_firstUnwell 157 = .ok (.iconst 3, 1) := by decide +kernel
theorem dX10_firstUnwell_158 : decode cX10_firstUnwell 158 = .ok (.if_icmp .ne 10, 3) := by decide +kernel
theorem dX10_firstUnwell_161 : decode cX10_firstUnwell 161 = .ok (.aload_n 0, 1) := by decide +kernel
theorem dX10_firstUnwell_162 : decode cX10_firstUnwell 162 = .ok (.invokevirtual 97, 3) := by decide +kernel
theorem dX10_firstUnwell_165 : decode cX10_firstUnwell 165 = .ok (.goto 5, 3) := by decide +kernel
theorem dX10_firstUnwell_168 : decode cX10_firstUnwell 168 = .ok (.bipush (-2), 2) := by decide +kernel
theorem dX10_firstUnwell_170 : decode cX10_firstUnwell 170 = .ok (.putfield 29, 3) := by decide +kernel
theorem dX10_firstUnwell_173 : decode cX10_firstUnwell 173 = .ok (.iload 5, 2) := by decide +kernel
theorem dX10_firstUnwell_175 : decode cX10_firstUnwell 175 = .ok (.ireturn, 1) := by decide +kernel
theorem dX10_firstUnwell_176 : decode cX10_firstUnwell 176 = .ok (.iinc 5 1, 3) := by decide +kernel
theorem dX10_firstUnwell_179 : decode cX10_firstUnwell 179 = .ok (.goto (-86), 3) := by decide +kernel
theorem dX10_firstUnwell_182 : decode cX10_firstUnwell 182 = .ok (.iconst 0, 1) := by decide +kernel
theorem dX10_firstUnwell_183 : decode cX10_firstUnwell 183 = .ok (.ireturn, 1) := by decide +kernel
theorem dX11_begin_0 : decode cX11_begin 0 = .ok (.iload_n 1, 1) := by decide +kernel
theorem dX11_begin_1 : decode cX11_begin 1 = .ok (.iconst 1, 1) := by decide +kernel
theorem dX11_begin_2 : decode cX11_begin 2 = .ok (.if_icmp .lt 9, 3) := by decide +kernel
theorem dX11_begin_5 : decode cX11_begin 5 = .ok (.iload_n 1, 1) := by decide +kernel
theorem dX11_begin_6 : decode cX11_begin 6 = .ok (.bipush 8, 2) := by decide +kernel
theorem dX11_begin_8 : decode cX11_begin 8 = .ok (.if_icmp .le 5, 3) := by decide +kernel
theorem dX11_begin_11 : decode cX11_begin 11 = .ok (.iconst (-1), 1) := by decide +kernel
theorem dX11_begin_12 : decode cX11_begin 12 = .ok (.ireturn, 1) := by decide +kernel
theorem dX11_begin_13 : decode cX11_begin 13 = .ok (.aload_n 0, 1) := by decide +kernel
theorem dX11_begin_14 : decode cX11_begin 14 = .ok (.getfield 10, 3) := by decide +kernel
theorem dX11_begin_17 : decode cX11_begin 17 = .ok (.iload_n 1, 1) := by decide +kernel
theorem dX11_begin_18 : decode cX11_begin 18 = .ok (.invokevirtual 61, 3) := by decide +kernel
theorem dX11_begin_21 : decode cX11_begin 21 = .ok (.aload_n 0, 1) := by decide +kernel
theorem dX11_begin_22 : decode cX11_begin 22 = .ok (.getfield 46, 3) := by decide +kernel
theorem dX11_begin_25 : decode cX11_begin 25 = .ok (.invokevirtual 65, 3) := by decide +kernel
theorem dX11_begin_28 : decode cX11_begin 28 = .ok (.aload_n 0, 1) := by decide +kernel
theorem dX11_begin_29 : decode cX11_begin 29 = .ok (.iconst 0, 1) := by decide +kernel
theorem dX11_begin_30 : decode cX11_begin 30 = .ok (.putfield 57, 3) := by decide +kernel
theorem dX11_begin_33 : decode cX11_begin 33 = .ok (.aload_n 0, 1) := by decide +kernel
theorem dX11_begin_34 : decode cX11_begin 34 = .ok (.getfield 28, 3) := by decide +kernel
theorem dX11_begin_37 : decode cX11_begin 37 = .ok (.invokevirtual 68, 3) := by decide +kernel
theorem dX11_begin_40 : decode cX11_begin 40 = .ok (.iload_n 1, 1) := by decide +kernel
theorem dX11_begin_41 : decode cX11_begin 41 = .ok (.ireturn, 1) := by decide +kernel
theorem dX11_fits_0 : decode cX11_fits 0 = .ok (.iload_n 0, 1) := by decide +kernel
theorem dX11_fits_1 : decode cX11_fits 1 = .ok (.ifCond .lt 14, 3) := by decide +kernel
theorem dX11_fits_4 : decode cX11_fits 4 = .ok (.iload_n 0, 1) := by decide +kernel
theorem dX11_fits_5 : decode cX11_fits 5 = .ok (.iconst 1, 1) := by decide +kernel
theorem dX11_fits_6 : decode cX11_fits 6 = .ok (.iload_n 1, 1) := by decide +kernel
theorem dX11_fits_7 : decode cX11_fits 7 = .ok (.ishl, 1) := by decide +kernel
theorem dX11_fits_8 : decode cX11_fits 8 = .ok (.if_icmp .ge 7, 3) := by decide +kernel
theorem dX11_fits_11 : decode cX11_fits 11 = .ok (.iconst 1, 1) := by decide +kernel
theorem dX11_fits_12 : decode cX11_fits 12 = .ok (.goto 4, 3) := by decide +kernel
theorem dX11_fits_15 : decode cX11_fits 15 = .ok (.iconst 0, 1) := by decide +kernel
theorem dX11_fits_16 : decode cX11_fits 16 = .ok (.ireturn, 1) := by decide +kernel
theorem dX11_field_0 : decode cX11_field 0 = .ok (.aload_n 0, 1) := by decide +kernel
theorem dX11_field_1 : decode cX11_field 1 = .ok (.getfield 10, 3) := by decide +kernel
theorem dX11_field_4 : decode cX11_field 4 = .ok (.iload_n 1, 1) := by decide +kernel
theorem dX11_field_5 : decode cX11_field 5 = .ok (.invokevirtual 71, 3) := by decide +kernel
theorem dX11_field_8 : decode cX11_field 8 = .ok (.ifCond .eq 15, 3) := by decide +kernel
theorem dX11_field_11 : decode cX11_field 11 = .ok (.iload 4, 2) := by decide +kernel
theorem dX11_field_13 : decode cX11_field 13 = .ok (.ifCond .lt 10, 3) := by decide +kernel
theorem dX11_field_16 : decode cX11_field 16 = .ok (.iload 4, 2) := by decide +kernel
theorem dX11_field_18 : decode cX11_field 18 = .ok (.bipush 6, 2) := by decide +kernel
theorem dX11_field_20 : decode cX11_field 20 = .ok (.if_icmp .le 5, 3) := by decide +kernel
theorem dX11_field_23 : decode cX11_field 23 = .ok (.iconst (-1), 1) := by decide +kernel
theorem dX11_field_24 : decode cX11_field 24 = .ok (.ireturn, 1) := by decide +kernel
theorem dX11_field_25 : decode cX11_field 25 = .ok (.iload_n 2, 1) := by decide +kernel
theorem dX11_field_26 : decode cX11_field 26 = .ok (.ifCond .lt 22, 3) := by decide +kernel
theorem dX11_field_29 : decode cX11_field 29 = .ok (.iload_n 3, 1) := by decide +kernel
theorem dX11_field_30 : decode cX11_field 30 = .ok (.iconst 1, 1) := by decide +kernel
theorem dX11_field_31 : decode cX11_field 31 = .ok (.if_icmp .lt 17, 3) := by decide +kernel
theorem dX11_field_34 : decode cX11_field 34 = .ok (.iload_n 3, 1) := by decide +kernel
theorem dX11_field_35 : decode cX11_field 35 = .ok (.bipush 8, 2) := by decide +kernel
theorem dX11_field_37 : decode cX11_field 37 = .ok (.if_icmp .gt 11, 3) := by decide +kernel
theorem dX11_field_40 : decode cX11_field 40 = .ok (.iload_n 2, 1) := by decide +kernel
theorem dX11_field_41 : decode cX11_field 41 = .ok (.bipush 16, 2) := by decide +kernel
theorem dX11_field_43 : decode cX11_field 43 = .ok (.iload_n 3, 1) := by decide +kernel
theorem dX11_field_44 : decode cX11_field 44 = .ok (.isub, 1) := by decide +kernel
theorem dX11_field_45 : decode cX11_field 45 = .ok (.if_icmp .le 5, 3) := by decide +kernel
theorem dX11_field_48 : decode cX11_field 48 = .ok (.iconst (-1), 1) := by decide +kernel
theorem dX11_field_49 : decode cX11_field 49 = .ok (.ireturn, 1) := by decide +kernel
theorem dX11_field_50 : decode cX11_field 50 = .ok (.iload 5, 2) := by decide +kernel
theorem dX11_field_52 : decode cX11_field 52 = .ok (.iload_n 3, 1) := by decide +kernel
theorem dX11_field_53 : decode cX11_field 53 = .ok (.invokestatic 77, 3) := by decide +kernel
theorem dX11_field_56 : decode cX11_field 56 = .ok (.ifCond .eq 21, 3) := by decide +kernel
theorem dX11_field_59 : decode cX11_field 59 = .ok (.iload 5, 2) := by decide +kernel
theorem dX11_field_61 : decode cX11_field 61 = .ok (.ifCond .eq 18, 3) := by decide +kernel
theorem dX11_field_64 : decode cX11_field 64 = .ok (.iload 4, 2) := by decide +kernel
theorem dX11_field_66 : decode cX11_field 66 = .ok (.iconst 4, 1) := by decide +kernel
theorem dX11_field_67 : decode cX11_field 67 = .ok (.if_icmp .eq 10, 3) := by decide +kernel
theorem dX11_field_70 : decode cX11_field 70 = .ok (.iload 4, 2) := by decide +kernel
theorem dX11_field_72 : decode cX11_field 72 = .ok (.bipush 6, 2) := by decide +kernel
theorem dX11_field_74 : decode cX11_field 74 = .ok (.if_icmp .ne 5, 3) := by decide +kernel
theorem dX11_field_77 : decode cX11_field 77 = .ok (.iconst (-1), 1) := by decide +kernel
theorem dX11_field_78 : decode cX11_field 78 = .ok (.ireturn, 1) := by decide +kernel
theorem dX11_field_79 : decode cX11_field 79 = .ok (.iconst 1, 1) := by decide +kernel
theorem dX11_field_80 : decode cX11_field 80 = .ok (.iload_n 3, 1) := by decide +kernel
theorem dX11_field_81 : decode cX11_field 81 = .ok (.ishl, 1) := by decide +kernel
theorem dX11_field_82 : decode cX11_field 82 = .ok (.iconst 1, 1) := by decide +kernel
theorem dX11_field_83 : decode cX11_field 83 = .ok (.isub, 1) := by decide +kernel
theorem dX11_field_84 : decode cX11_field 84 = .ok (.iload_n 2, 1) := by decide +kernel
theorem dX11_field_85 : decode cX11_field 85 = .ok (.ishl, 1) := by decide +kernel
theorem dX11_field_86 : decode cX11_field 86 = .ok (.istore 6, 2) := by decide +kernel
theorem dX11_field_88 : decode cX11_field 88 = .ok (.aload_n 0, 1) := by decide +kernel
theorem dX11_field_89 : decode cX11_field 89 = .ok (.getfield 10, 3) := by decide +kernel
theorem dX11_field_92 : decode cX11_field 92 = .ok (.iload_n 1, 1) := by decide +kernel
theorem dX11_field_93 : decode cX11_field 93 = .ok (.invokevirtual 81, 3) := by decide +kernel
theorem dX11_field_96 : decode cX11_field 96 = .ok (.iload 6, 2) := by decide +kernel
theorem dX11_field_98 : decode cX11_field 98 = .ok (.iand, 1) := by decide +kernel
theorem dX11_field_99 : decode cX11_field 99 = .ok (.ifCond .eq 6, 3) := by decide +kernel
theorem dX11_field_102 : decode cX11_field 102 = .ok (.bipush (-2), 2) := by decide +kernel
theorem dX11_field_104 : decode cX11_field 104 = .ok (.ireturn, 1) := by decide +kernel
theorem dX11_field_105 : decode cX11_field 105 = .ok (.aload_n 0, 1) := by decide +kernel
theorem dX11_field_106 : decode cX11_field 106 = .ok (.getfield 10, 3) := by decide +kernel
theorem dX11_field_109 : decode cX11_field 109 = .ok (.getfield 85, 3) := by decide +kernel
theorem dX11_field_112 : decode cX11_field 112 = .ok (.bipush 24, 2) := by decide +kernel
theorem dX11_field_114 : decode cX11_field 114 = .ok (.if_icmp .lt 6, 3) := by decide +kernel
theorem dX11_field_117 : decode cX11_field 117 = .ok (.bipush (-3), 2) := by decide +kernel
theorem dX11_field_119 : decode cX11_field 119 = .ok (.ireturn, 1) := by decide +kernel
theorem dX11_field_120 : decode cX11_field 120 = .ok (.aload_n 0, 1) := by decide +kernel
theorem dX11_field_121 : decode cX11_field 121 = .ok (.getfield 10, 3) := by decide +kernel
theorem dX11_field_124 : decode cX11_field 124 = .ok (.iload_n 1, 1) := by decide +kernel
theorem dX11_field_125 : decode cX11_field 125 = .ok (.iload_n 2, 1) := by decide +kernel
theorem dX11_field_126 : decode cX11_field 126 = .ok (.iload_n 3, 1) := by decide +kernel
theorem dX11_field_127 : decode cX11_field 127 = .ok (.iload 4, 2) := by decide +kernel
theorem dX11_field_129 : decode cX11_field 129 = .ok (.iload 5, 2) := by decide +kernel
theorem dX11_field_131 : decode cX11_field 131 = .ok (.invokevirtual 88, 3) := by decide +kernel
theorem dX11_field_134 : decode cX11_field 134 = .ok (.istore 7, 2) := by decide +kernel
theorem dX11_field_136 : decode cX11_field 136 = .ok (.aload_n 0, 1) := by decide +kernel
theorem dX11_field_137 : decode cX11_field 137 = .ok (.getfield 28, 3) := by decide +kernel
theorem dX11_field_140 : decode cX11_field 140 = .ok (.invokevirtual 68, 3) := by decide +kernel
theorem dX11_field_143 : decode cX11_field 143 = .ok (.iload 7, 2) := by decide +kernel
theorem dX11_field_145 : decode cX11_field 145 = .ok (.ireturn, 1) := by decide +kernel
theorem dX11_period_0 : decode cX11_period 0 = .ok (.aload_n 0, 1) := by decide +kernel
theorem dX11_period_1 : decode cX11_period 1 = .ok (.getfield 10, 3) := by decide +kernel
theorem dX11_period_4 : decode cX11_period 4 = .ok (.iload_n 1, 1) := by decide +kernel
theorem dX11_period_5 : decode cX11_period 5 = .ok (.invokevirtual 92, 3) := by decide +kernel
theorem dX11_period_8 : decode cX11_period 8 = .ok (.ifCond .eq 14, 3) := by decide +kernel
theorem dX11_period_11 : decode cX11_period 11 = .ok (.iload_n 2, 1) := by decide +kernel
theorem dX11_period_12 : decode cX11_period 12 = .ok (.iconst 1, 1) := by decide +kernel
theorem dX11_period_13 : decode cX11_period 13 = .ok (.if_icmp .lt 9, 3) := by decide +kernel
theorem dX11_period_16 : decode cX11_period 16 = .ok (.iload_n 2, 1) := by decide +kernel
theorem dX11_period_17 : decode cX11_period 17 = .ok (.bipush 9, 2) := by decide +kernel
theorem dX11_period_19 : decode cX11_period 19 = .ok (.if_icmp .le 5, 3) := by decide +kernel
theorem dX11_period_22 : decode cX11_period 22 = .ok (.iconst (-1), 1) := by decide +kernel
theorem dX11_period_23 : decode cX11_period 23 = .ok (.ireturn, 1) := by decide +kernel
theorem dX11_period_24 : decode cX11_period 24 = .ok (.aload_n 0, 1) := by decide +kernel
theorem dX11_period_25 : decode cX11_period 25 = .ok (.getfield 10, 3) := by decide +kernel
theorem dX11_period_28 : decode cX11_period 28 = .ok (.getfield 95, 3) := by decide +kernel
theorem dX11_period_31 : decode cX11_period 31 = .ok (.iload_n 1, 1) := by decide +kernel
theorem dX11_period_32 : decode cX11_period 32 = .ok (.aaload, 1) := by decide +kernel
theorem dX11_period_33 : decode cX11_period 33 = .ok (.getfield 99, 3) := by decide +kernel
theorem dX11_period_36 : decode cX11_period 36 = .ok (.iconst 4, 1) := by decide +kernel
theorem dX11_period_37 : decode cX11_period 37 = .ok (.if_icmp .eq 6, 3) := by decide +kernel
theorem dX11_period_40 : decode cX11_period 40 = .ok (.bipush (-4), 2) := by decide +kernel
theorem dX11_period_42 : decode cX11_period 42 = .ok (.ireturn, 1) := by decide +kernel
theorem dX11_period_43 : decode cX11_period 43 = .ok (.aload_n 0, 1) := by decide +kernel
theorem dX11_period_44 : decode cX11_period 44 = .ok (.getfield 10, 3) := by decide +kernel
theorem dX11_period_47 : decode cX11_period 47 = .ok (.iload_n 1, 1) := by decide +kernel
theorem dX11_period_48 : decode cX11_period 48 = .ok (.iload_n 2, 1) := by decide +kernel
theorem dX11_period_49 : decode cX11_period 49 = .ok (.invokevirtual 102, 3) := by decide +kernel
theorem dX11_period_52 : decode cX11_period 52 = .ok (.istore_n 3, 1) := by decide +kernel
theorem dX11_period_53 : decode cX11_period 53 = .ok (.aload_n 0, 1) := by decide +kernel
theorem dX11_period_54 : decode cX11_period 54 = .ok (.getfield 28, 3) := by decide +kernel
theorem dX11_period_57 : decode cX11_period 57 = .ok (.invokevirtual 68, 3) := by decide +kernel
theorem dX11_period_60 : decode cX11_period 60 = .ok (.iload_n 3, 1) := by decide +kernel
theorem dX11_period_61 : decode cX11_period 61 = .ok (.ireturn, 1) := by decide +kernel
theorem dX11_done_0 : decode cX11_done 0 = .ok (.aload_n 0, 1) := by decide +kernel
theorem dX11_done_1 : decode cX11_done 1 = .ok (.getfield 10, 3) := by decide +kernel
theorem dX11_done_4 : decode cX11_done 4 = .ok (.iload_n 1, 1) := by decide +kernel
theorem dX11_done_5 : decode cX11_done 5 = .ok (.invokevirtual 92, 3) := by decide +kernel
theorem dX11_done_8 : decode cX11_done 8 = .ok (.ifCond .eq 19, 3) := by decide +kernel
theorem dX11_done_11 : decode cX11_done 11 = .ok (.iload_n 2, 1) := by decide +kernel
theorem dX11_done_12 : decode cX11_done 12 = .ok (.iconst (-1), 1) := by decide +kernel
theorem dX11_done_13 : decode cX11_done 13 = .ok (.if_icmp .eq 16, 3) := by decide +kernel
theorem dX11_done_16 : decode cX11_done 16 = .ok (.aload_n 0, 1) := by decide +kernel
theorem dX11_done_17 : decode cX11_done 17 = .ok (.getfield 10, 3) := by decide +kernel
theorem dX11_done_20 : decode cX11_done 20 = .ok (.iload_n 2, 1) := by decide +kernel
theorem dX11_done_21 : decode cX11_done 21 = .ok (.invokevirtual 92, 3) := by decide +kernel
theorem dX11_done_24 : decode cX11_done 24 = .ok (.ifCond .ne 5, 3) := by decide +kernel
theorem dX11_done_27 : decode cX11_done 27 = .ok (.iconst (-1), 1) := by decide +kernel
theorem dX11_done_28 : decode cX11_done 28 = .ok (.ireturn, 1) := by decide +kernel
theorem dX11_done_29 : decode cX11_done 29 = .ok (.aload_n 0, 1) := by decide +kernel
theorem dX11_done_30 : decode cX11_done 30 = .ok (.getfield 10, 3) := by decide +kernel
theorem dX11_done_33 : decode cX11_done 33 = .ok (.getfield 95, 3) := by decide +kernel
theorem dX11_done_36 : decode cX11_done 36 = .ok (.iload_n 1, 1) := by decide +kernel
theorem dX11_done_37 : decode cX11_done 37 = .ok (.aaload, 1) := by decide +kernel
theorem dX11_done_38 : decode cX11_done 38 = .ok (.getfield 99, 3) := by decide +kernel
theorem dX11_done_41 : decode cX11_done 41 = .ok (.iconst 4, 1) := by decide +kernel
theorem dX11_done_42 : decode cX11_done 42 = .ok (.if_icmp .eq 6, 3) := by decide +kernel
theorem dX11_done_45 : decode cX11_done 45 = .ok (.bipush (-4), 2) := by decide +kernel
theorem dX11_done_47 : decode cX11_done 47 = .ok (.ireturn, 1) := by decide +kernel
theorem dX11_done_48 : decode cX11_done 48 = .ok (.iload_n 2, 1) := by decide +kernel
theorem dX11_done_49 : decode cX11_done 49 = .ok (.iconst (-1), 1) := by decide +kernel
theorem dX11_done_50 : decode cX11_done 50 = .ok (.if_icmp .eq 38, 3) := by decide +kernel
theorem dX11_done_53 : decode cX11_done 53 = .ok (.aload_n 0, 1) := by decide +kernel
theorem dX11_done_54 : decode cX11_done 54 = .ok (.getfield 10, 3) := by decide +kernel
theorem dX11_done_57 : decode cX11_done 57 = .ok (.getfield 95, 3) := by decide +kernel
theorem dX11_done_60 : decode cX11_done 60 = .ok (.iload_n 2, 1) := by decide +kernel
theorem dX11_done_61 : decode cX11_done 61 = .ok (.aaload, 1) := by decide +kernel
theorem dX11_done_62 : decode cX11_done 62 = .ok (.getfield 99, 3) := by decide +kernel
theorem dX11_done_65 : decode cX11_done 65 = .ok (.iconst 1, 1) := by decide +kernel
theorem dX11_done_66 : decode cX11_done 66 = .ok (.if_icmp .eq 22, 3) := by decide +kernel
theorem dX11_done_69 : decode cX11_done 69 = .ok (.aload_n 0, 1) := by decide +kernel
theorem dX11_done_70 : decode cX11_done 70 = .ok (.getfield 10, 3) := by decide +kernel
theorem dX11_done_73 : decode cX11_done 73 = .ok (.getfield 95, 3) := by decide +kernel
theorem dX11_done_76 : decode cX11_done 76 = .ok (.iload_n 2, 1) := by decide +kernel
theorem dX11_done_77 : decode cX11_done 77 = .ok (.aaload, 1) := by decide +kernel
theorem dX11_done_78 : decode cX11_done 78 = .ok (.getfield 99, 3) := by decide +kernel
theorem dX11_done_81 : decode cX11_done 81 = .ok (.iconst 2, 1) := by decide +kernel
theorem dX11_done_82 : decode cX11_done 82 = .ok (.if_icmp .eq 6, 3) := by decide +kernel
theorem dX11_done_85 : decode cX11_done 85 = .ok (.bipush (-4), 2) := by decide +kernel
theorem dX11_done_87 : decode cX11_done 87 = .ok (.ireturn, 1) := by decide +kernel
theorem dX11_done_88 : decode cX11_done 88 = .ok (.aload_n 0, 1) := by decide +kernel
theorem dX11_done_89 : decode cX11_done 89 = .ok (.getfield 10, 3) := by decide +kernel
theorem dX11_done_92 : decode cX11_done 92 = .ok (.iload_n 1, 1) := by decide +kernel
theorem dX11_done_93 : decode cX11_done 93 = .ok (.iload_n 2, 1) := by decide +kernel
theorem dX11_done_94 : decode cX11_done 94 = .ok (.invokevirtual 106, 3) := by decide +kernel
theorem dX11_done_97 : decode cX11_done 97 = .ok (.istore_n 3, 1) := by decide +kernel
theorem dX11_done_98 : decode cX11_done 98 = .ok (.aload_n 0, 1) := by decide +kernel
theorem dX11_done_99 : decode cX11_done 99 = .ok (.getfield 28, 3) := by decide +kernel
theorem dX11_done_102 : decode cX11_done 102 = .ok (.invokevirtual 68, 3) := by decide +kernel
theorem dX11_done_105 : decode cX11_done 105 = .ok (.iload_n 3, 1) := by decide +kernel
theorem dX11_done_106 : decode cX11_done 106 = .ok (.ireturn, 1) := by decide +kernel
theorem dX11_law_0 : decode cX11_law 0 = .ok (.iload_n 1, 1) := by decide +kernel
theorem dX11_law_1 : decode cX11_law 1 = .ok (.ifCond .lt 30, 3) := by decide +kernel
theorem dX11_law_4 : decode cX11_law 4 = .ok (.iload_n 1, 1) := by decide +kernel
theorem dX11_law_5 : decode cX11_law 5 = .ok (.iconst 2, 1) := by decide +kernel
theorem dX11_law_6 : decode cX11_law 6 = .ok (.if_icmp .gt 25, 3) := by decide +kernel
theorem dX11_law_9 : decode cX11_law 9 = .ok (.aload_n 0, 1) := by decide +kernel
theorem dX11_law_10 : decode cX11_law 10 = .ok (.getfield 10, 3) := by decide +kernel
theorem dX11_law_13 : decode cX11_law 13 = .ok (.iload_n 2, 1) := by decide +kernel
theorem dX11_law_14 : decode cX11_law 14 = .ok (.invokevirtual 92, 3) := by decide +kernel
theorem dX11_law_17 : decode cX11_law 17 = .ok (.ifCond .eq 14, 3) := by decide +kernel
theorem dX11_law_20 : decode cX11_law 20 = .ok (.aload_n 0, 1) := by decide +kernel
theorem dX11_law_21 : decode cX11_law 21 = .ok (.getfield 10, 3) := by decide +kernel
theorem dX11_law_24 : decode cX11_law 24 = .ok (.iload_n 3, 1) := by decide +kernel
theorem dX11_law_25 : decode cX11_law 25 = .ok (.invokevirtual 92, 3) := by decide +kernel
theorem dX11_law_28 : decode cX11_law 28 = .ok (.ifCond .ne 5, 3) := by decide +kernel
theorem dX11_law_31 : decode cX11_law 31 = .ok (.iconst (-1), 1) := by decide +kernel
theorem dX11_law_32 : decode cX11_law 32 = .ok (.ireturn, 1) := by decide +kernel
theorem dX11_law_33 : decode cX11_law 33 = .ok (.iload 4, 2) := by decide +kernel
theorem dX11_law_35 : decode cX11_law 35 = .ok (.ifCond .lt 11, 3) := by decide +kernel
theorem dX11_law_38 : decode cX11_law 38 = .ok (.iload 4, 2) := by decide +kernel
theorem dX11_law_40 : decode cX11_law 40 = .ok (.sipush 255, 3) := by decide +kernel
theorem dX11_law_43 : decode cX11_law 43 = .ok (.if_icmp .le 5, 3) := by decide +kernel
theorem dX11_law_46 : decode cX11_law 46 = .ok (.iconst (-1), 1) := by decide +kernel
theorem dX11_law_47 : decode cX11_law 47 = .ok (.ireturn, 1) := by decide +kernel
theorem dX11_law_48 : decode cX11_law 48 = .ok (.aload_n 0, 1) := by decide +kernel
theorem dX11_law_49 : decode cX11_law 49 = .ok (.getfield 10, 3) := by decide +kernel
theorem dX11_law_52 : decode cX11_law 52 = .ok (.getfield 111, 3) := by decide +kernel
theorem dX11_law_55 : decode cX11_law 55 = .ok (.bipush 12, 2) := by decide +kernel
theorem dX11_law_57 : decode cX11_law 57 = .ok (.if_icmp .lt 6, 3) := by decide +kernel
theorem dX11_law_60 : decode cX11_law 60 = .ok (.bipush (-3), 2) := by decide +kernel
theorem dX11_law_62 : decode cX11_law 62 = .ok (.ireturn, 1) := by decide +kernel
theorem dX11_law_63 : decode cX11_law 63 = .ok (.aload_n 0, 1) := by decide +kernel
theorem dX11_law_64 : decode cX11_law 64 = .ok (.getfield 10, 3) := by decide +kernel
theorem dX11_law_67 : decode cX11_law 67 = .ok (.iload_n 1, 1) := by decide +kernel
theorem dX11_law_68 : decode cX11_law 68 = .ok (.iload_n 2, 1) := by decide +kernel
theorem dX11_law_69 : decode cX11_law 69 = .ok (.iload_n 3, 1) := by decide +kernel
theorem dX11_law_70 : decode cX11_law 70 = .ok (.iload 4, 2) := by decide +kernel
theorem dX11_law_72 : decode cX11_law 72 = .ok (.invokevirtual 114, 3) := by decide +kernel
theorem dX11_law_75 : decode cX11_law 75 = .ok (.ireturn, 1) := by decide +kernel
theorem dX11_act_0 : decode cX11_act 0 = .ok (.aload_n 0, 1) := by decide +kernel
theorem dX11_act_1 : decode cX11_act 1 = .ok (.getfield 10, 3) := by decide +kernel
theorem dX11_act_4 : decode cX11_act 4 = .ok (.getfield 118, 3) := by decide +kernel
theorem dX11_act_7 : decode cX11_act 7 = .ok (.bipush 6, 2) := by decide +kernel
theorem dX11_act_9 : decode cX11_act 9 = .ok (.if_icmp .lt 6, 3) := by decide +kernel
theorem dX11_act_12 : decode cX11_act 12 = .ok (.bipush (-3), 2) := by decide +kernel
theorem dX11_act_14 : decode cX11_act 14 = .ok (.ireturn, 1) := by decide +kernel
theorem dX11_act_15 : decode cX11_act 15 = .ok (.aload_n 0, 1) := by decide +kernel
theorem dX11_act_16 : decode cX11_act 16 = .ok (.getfield 10, 3) := by decide +kernel
theorem dX11_act_19 : decode cX11_act 19 = .ok (.invokevirtual 121, 3) := by decide +kernel
theorem dX11_act_22 : decode cX11_act 22 = .ok (.ireturn, 1) := by decide +kernel
theorem dX11_isStepNumber_0 : decode cX11_isStepNumber 0 = .ok (.iload_n 1, 1) := by decide +kernel
theorem dX11_isStepNumber_1 : decode cX11_isStepNumber 1 = .ok (.lookupswitch 54 #[(2, 27), (3, 37)], 27) := by decide +kernel
theorem dX11_isStepNumber_28 : decode cX11_isStepNumber 28 = .ok (.iload_n 3, 1) := by decide +kernel
theorem dX11_isStepNumber_29 : decode cX11_isStepNumber 29 = .ok (.ifCond .ne 7, 3) := by decide +kernel
theorem dX11_isStepNumber_32 : decode cX11_isStepNumber 32 = .ok (.iconst 1, 1) := by decide +kernel
theorem dX11_isStepNumber_33 : decode cX11_isStepNumber 33 = .ok (.goto 4, 3) := by decide +kernel
theorem dX11_isStepNumber_36 : decode cX11_isStepNumber 36 = .ok (.iconst 0, 1) := by decide +kernel
theorem dX11_isStepNumber_37 : decode cX11_isStepNumber 37 = .ok (.ireturn, 1) := by decide +kernel
theorem dX11_isStepNumber_38 : decode cX11_isStepNumber 38 = .ok (.iload_n 3, 1) := by decide +kernel
theorem dX11_isStepNumber_39 : decode cX11_isStepNumber 39 = .ok (.iconst 1, 1) := by decide +kernel
theorem dX11_isStepNumber_40 : decode cX11_isStepNumber 40 = .ok (.if_icmp .lt 13, 3) := by decide +kernel
theorem dX11_isStepNumber_43 : decode cX11_isStepNumber 43 = .ok (.iload_n 3, 1) := by decide +kernel
theorem dX11_isStepNumber_44 : decode cX11_isStepNumber 44 = .ok (.bipush 9, 2) := by decide +kernel
theorem dX11_isStepNumber_46 : decode cX11_isStepNumber 46 = .ok (.if_icmp .gt 7, 3) := by decide +kernel
theorem dX11_isStepNumber_49 : decode cX11_isStepNumber 49 = .ok (.iconst 1, 1) := by decide +kernel
theorem dX11_isStepNumber_50 : decode cX11_isStepNumber 50 = .ok (.goto 4, 3) := by decide +kernel
theorem dX11_isStepNumber_53 : decode cX11_isStepNumber 53 = .ok (.iconst 0, 1) := by decide +kernel
theorem dX11_isStepNumber_54 : decode cX11_isStepNumber 54 = .ok (.ireturn, 1) := by decide +kernel
theorem dX11_isStepNumber_55 : decode cX11_isStepNumber 55 = .ok (.iload_n 3, 1) := by decide +kernel
theorem dX11_isStepNumber_56 : decode cX11_isStepNumber 56 = .ok (.aload_n 0, 1) := by decide +kernel
theorem dX11_isStepNumber_57 : decode cX11_isStepNumber 57 = .ok (.getfield 10, 3) := by decide +kernel
theorem dX11_isStepNumber_60 : decode cX11_isStepNumber 60 = .ok (.getfield 95, 3) := by decide +kernel
theorem dX11_isStepNumber_63 : decode cX11_isStepNumber 63 = .ok (.iload_n 2, 1) := by decide +kernel
theorem dX11_isStepNumber_64 : decode cX11_isStepNumber 64 = .ok (.aaload, 1) := by decide +kernel
theorem dX11_isStepNumber_65 : decode cX11_isStepNumber 65 = .ok (.getfield 175, 3) := by decide +kernel
theorem dX11_isStepNumber_68 : decode cX11_isStepNumber 68 = .ok (.invokestatic 77, 3) := by decide +kernel
theorem dX11_isStepNumber_71 : decode cX11_isStepNumber 71 = .ok (.ireturn, 1) := by decide +kernel
theorem dX11_allowsStep_0 : decode cX11_allowsStep 0 = .ok (.iload_n 1, 1) := by decide +kernel
theorem dX11_allowsStep_1 : decode cX11_allowsStep 1 = .ok (.ifCond .ne 19, 3) := by decide +kernel
theorem dX11_allowsStep_4 : decode cX11_allowsStep 4 = .ok (.iload_n 0, 1) := by decide +kernel
theorem dX11_allowsStep_5 : decode cX11_allowsStep 5 = .ok (.iconst 1, 1) := by decide +kernel
theorem dX11_allowsStep_6 : decode cX11_allowsStep 6 = .ok (.if_icmp .eq 12, 3) := by decide +kernel
theorem dX11_allowsStep_9 : decode cX11_allowsStep 9 = .ok (.iload_n 0, 1) := by decide +kernel
theorem dX11_allowsStep_10 : decode cX11_allowsStep 10 = .ok (.iconst 3, 1) := by decide +kernel
theorem dX11_allowsStep_11 : decode cX11_allowsStep 11 = .ok (.if_icmp .eq 7, 3) := by decide +kernel
theorem dX11_allowsStep_14 : decode cX11_allowsStep 14 = .ok (.iconst 1, 1) := by decide +kernel
theorem dX11_allowsStep_15 : decode cX11_allowsStep 15 = .ok (.goto 4, 3) := by decide +kernel
theorem dX11_allowsStep_18 : decode cX11_allowsStep 18 = .ok (.iconst 0, 1) := by decide +kernel
theorem dX11_allowsStep_19 : decode cX11_allowsStep 19 = .ok (.ireturn, 1) := by decide +kernel
theorem dX11_allowsStep_20 : decode cX11_allowsStep 20 = .ok (.iload_n 1, 1) := by decide +kernel
theorem dX11_allowsStep_21 : decode cX11_allowsStep 21 = .ok (.iconst 1, 1) := by decide +kernel
theorem dX11_allowsStep_22 : decode cX11_allowsStep 22 = .ok (.if_icmp .ne 8, 3) := by decide +kernel
theorem dX11_allowsStep_25 : decode cX11_allowsStep 25 = .ok (.iload_n 0, 1) := by decide +kernel
theorem dX11_allowsStep_26 : decode cX11_allowsStep 26 = .ok (.iconst 3, 1) := by decide +kernel
theorem dX11_allowsStep_27 : decode cX11_allowsStep 27 = .ok (.if_icmp .eq 7, 3) := by decide +kernel
theorem dX11_allowsStep_30 : decode cX11_allowsStep 30 = .ok (.iconst 1, 1) := by decide +kernel
theorem dX11_allowsStep_31 : decode cX11_allowsStep 31 = .ok (.goto 4, 3) := by decide +kernel
theorem dX11_allowsStep_34 : decode cX11_allowsStep 34 = .ok (.iconst 0, 1) := by decide +kernel
theorem dX11_allowsStep_35 : decode cX11_allowsStep 35 = .ok (.ireturn, 1) := by decide +kernel
theorem dX11_step_0 : decode cX11_step 0 = .ok (.aload_n 0, 1) := by decide +kernel
theorem dX11_step_1 : decode cX11_step 1 = .ok (.getfield 10, 3) := by decide +kernel
theorem dX11_step_4 : decode cX11_step 4 = .ok (.iload_n 1, 1) := by decide +kernel
theorem dX11_step_5 : decode cX11_step 5 = .ok (.invokevirtual 125, 3) := by decide +kernel
theorem dX11_step_8 : decode cX11_step 8 = .ok (.ifCond .eq 12, 3) := by decide +kernel
theorem dX11_step_11 : decode cX11_step 11 = .ok (.iload_n 2, 1) := by decide +kernel
theorem dX11_step_12 : decode cX11_step 12 = .ok (.ifCond .lt 8, 3) := by decide +kernel
theorem dX11_step_15 : decode cX11_step 15 = .ok (.iload_n 2, 1) := by decide +kernel
theorem dX11_step_16 : decode cX11_step 16 = .ok (.iconst 3, 1) := by decide +kernel
theorem dX11_step_17 : decode cX11_step 17 = .ok (.if_icmp .le 5, 3) := by decide +kernel
theorem dX11_step_20 : decode cX11_step 20 = .ok (.iconst (-1), 1) := by decide +kernel
theorem dX11_step_21 : decode cX11_step 21 = .ok (.ireturn, 1) := by decide +kernel
theorem dX11_step_22 : decode cX11_step 22 = .ok (.iload_n 2, 1) := by decide +kernel
theorem dX11_step_23 : decode cX11_step 23 = .ok (.iconst 3, 1) := by decide +kernel
theorem dX11_step_24 : decode cX11_step 24 = .ok (.if_icmp .ne 11, 3) := by decide +kernel
theorem dX11_step_27 : decode cX11_step 27 = .ok (.iload_n 3, 1) := by decide +kernel
theorem dX11_step_28 : decode cX11_step 28 = .ok (.iconst (-1), 1) := by decide +kernel
theorem dX11_step_29 : decode cX11_step 29 = .ok (.if_icmp .eq 19, 3) := by decide +kernel
theorem dX11_step_32 : decode cX11_step 32 = .ok (.goto 14, 3) := by decide +kernel
theorem dX11_step_35 : decode cX11_step 35 = .ok (.aload_n 0, 1) := by decide +kernel
theorem dX11_step_36 : decode cX11_step 36 = .ok (.getfield 10, 3) := by decide +kernel
theorem dX11_step_39 : decode cX11_step 39 = .ok (.iload_n 3, 1) := by decide +kernel
theorem dX11_step_40 : decode cX11_step 40 = .ok (.invokevirtual 92, 3) := by decide +kernel
theorem dX11_step_43 : decode cX11_step 43 = .ok (.ifCond .ne 5, 3) := by decide +kernel
theorem dX11_step_46 : decode cX11_step 46 = .ok (.iconst (-1), 1) := by decide +kernel
theorem dX11_step_47 : decode cX11_step 47 = .ok (.ireturn, 1) := by decide +kernel
theorem dX11_step_48 : decode cX11_step 48 = .ok (.aload_n 0, 1) := by decide +kernel
theorem dX11_step_49 : decode cX11_step 49 = .ok (.iload_n 2, 1) := by decide +kernel
theorem dX11_step_50 : decode cX11_step 50 = .ok (.iload_n 3, 1) := by decide +kernel
theorem dX11_step_51 : decode cX11_step 51 = .ok (.iload 4, 2) := by decide +kernel
theorem dX11_step_53 : decode cX11_step 53 = .ok (.invokevirtual 130, 3) := by decide +kernel
theorem dX11_step_56 : decode cX11_step 56 = .ok (.ifCond .ne 5, 3) := by decide +kernel
theorem dX11_step_59 : decode cX11_step 59 = .ok (.iconst (-1), 1) := by decide +kernel
theorem dX11_step_60 : decode cX11_step 60 = .ok (.ireturn, 1) := by decide +kernel
theorem dX11_step_61 : decode cX11_step 61 = .ok (.iload 5, 2) := by decide +kernel
theorem dX11_step_63 : decode cX11_step 63 = .ok (.ifCond .lt 19, 3) := by decide +kernel
theorem dX11_step_66 : decode cX11_step 66 = .ok (.iload 5, 2) := by decide +kernel
theorem dX11_step_68 : decode cX11_step 68 = .ok (.iload_n 2, 1) := by decide +kernel
theorem dX11_step_69 : decode cX11_step 69 = .ok (.iconst 1, 1) := by decide +kernel
theorem dX11_step_70 : decode cX11_step 70 = .ok (.if_icmp .ne 8, 3) := by decide +kernel
theorem dX11_step_73 : decode cX11_step 73 = .ok (.bipush 20, 2) := by decide +kernel
theorem dX11_step_75 : decode cX11_step 75 = .ok (.goto 4, 3) := by decide +kernel
theorem dX11_step_78 : decode cX11_step 78 = .ok (.iconst 0, 1) := by decide +kernel
theorem dX11_step_79 : decode cX11_step 79 = .ok (.if_icmp .le 5, 3) := by decide +kernel
theorem dX11_step_82 : decode cX11_step 82 = .ok (.iconst (-1), 1) := by decide +kernel
theorem dX11_step_83 : decode cX11_step 83 = .ok (.ireturn, 1) := by decide +kernel
theorem dX11_step_84 : decode cX11_step 84 = .ok (.iload_n 2, 1) := by decide +kernel
theorem dX11_step_85 : decode cX11_step 85 = .ok (.iconst 3, 1) := by decide +kernel
theorem dX11_step_86 : decode cX11_step 86 = .ok (.if_icmp .eq 25, 3) := by decide +kernel
theorem dX11_step_89 : decode cX11_step 89 = .ok (.aload_n 0, 1) := by decide +kernel
theorem dX11_step_90 : decode cX11_step 90 = .ok (.getfield 10, 3) := by decide +kernel
theorem dX11_step_93 : decode cX11_step 93 = .ok (.getfield 95, 3) := by decide +kernel
theorem dX11_step_96 : decode cX11_step 96 = .ok (.iload_n 3, 1) := by decide +kernel
theorem dX11_step_97 : decode cX11_step 97 = .ok (.aaload, 1) := by decide +kernel
theorem dX11_step_98 : decode cX11_step 98 = .ok (.getfield 99, 3) := by decide +kernel
theorem dX11_step_101 : decode cX11_step 101 = .ok (.iload_n 2, 1) := by decide +kernel
theorem dX11_step_102 : decode cX11_step 102 = .ok (.invokestatic 134, 3) := by decide +kernel
theorem dX11_step_105 : decode cX11_step 105 = .ok (.ifCond .ne 6, 3) := by decide +kernel
theorem dX11_step_108 : decode cX11_step 108 = .ok (.bipush (-4), 2) := by decide +kernel
theorem dX11_step_110 : decode cX11_step 110 = .ok (.ireturn, 1) := by decide +kernel
theorem dX11_step_111 : decode cX11_step 111 = .ok (.aload_n 0, 1) := by decide +kernel
theorem dX11_step_112 : decode cX11_step 112 = .ok (.getfield 10, 3) := by decide +kernel
theorem dX11_step_115 : decode cX11_step 115 = .ok (.getfield 137, 3) := by decide +kernel
theorem dX11_step_118 : decode cX11_step 118 = .ok (.iload_n 1, 1) := by decide +kernel
theorem dX11_step_119 : decode cX11_step 119 = .ok (.aaload, 1) := by decide +kernel
theorem dX11_step_120 : decode cX11_step 120 = .ok (.getfield 141, 3) := by decide +kernel
theorem dX11_step_123 : decode cX11_step 123 = .ok (.bipush 12, 2) := by decide +kernel
theorem dX11_step_125 : decode cX11_step 125 = .ok (.if_icmp .lt 6, 3) := by decide +kernel
theorem dX11_step_128 : decode cX11_step 128 = .ok (.bipush (-3), 2) := by decide +kernel
theorem dX11_step_130 : decode cX11_step 130 = .ok (.ireturn, 1) := by decide +kernel
theorem dX11_step_131 : decode cX11_step 131 = .ok (.aload_n 0, 1) := by decide +kernel
theorem dX11_step_132 : decode cX11_step 132 = .ok (.getfield 10, 3) := by decide +kernel
theorem dX11_step_135 : decode cX11_step 135 = .ok (.iload_n 1, 1) := by decide +kernel
theorem dX11_step_136 : decode cX11_step 136 = .ok (.iload_n 2, 1) := by decide +kernel
theorem dX11_step_137 : decode cX11_step 137 = .ok (.iload_n 3, 1) := by decide +kernel
theorem dX11_step_138 : decode cX11_step 138 = .ok (.iload 4, 2) := by decide +kernel
theorem dX11_step_140 : decode cX11_step 140 = .ok (.iload 5, 2) := by decide +kernel
theorem dX11_step_142 : decode cX11_step 142 = .ok (.invokevirtual 144, 3) := by decide +kernel
theorem dX11_step_145 : decode cX11_step 145 = .ok (.ireturn, 1) := by decide +kernel
theorem dX11_bare_0 : decode cX11_bare 0 = .ok (.aload_n 0, 1) := by decide +kernel
theorem dX11_bare_1 : decode cX11_bare 1 = .ok (.getfield 10, 3) := by decide +kernel
theorem dX11_bare_4 : decode cX11_bare 4 = .ok (.iload_n 1, 1) := by decide +kernel
theorem dX11_bare_5 : decode cX11_bare 5 = .ok (.invokevirtual 125, 3) := by decide +kernel
theorem dX11_bare_8 : decode cX11_bare 8 = .ok (.ifCond .ne 5, 3) := by decide +kernel
theorem dX11_bare_11 : decode cX11_bare 11 = .ok (.iconst (-1), 1) := by decide +kernel
theorem dX11_bare_12 : decode cX11_bare 12 = .ok (.ireturn, 1) := by decide +kernel
theorem dX11_bare_13 : decode cX11_bare 13 = .ok (.aload_n 0, 1) := by decide +kernel
theorem dX11_bare_14 : decode cX11_bare 14 = .ok (.getfield 10, 3) := by decide +kernel
theorem dX11_bare_17 : decode cX11_bare 17 = .ok (.iload_n 1, 1) := by decide +kernel
theorem dX11_bare_18 : decode cX11_bare 18 = .ok (.invokevirtual 147, 3) := by decide +kernel
theorem dX11_bare_21 : decode cX11_bare 21 = .ok (.ireturn, 1) := by decide +kernel
theorem dX11_handler_0 : decode cX11_handler 0 = .ok (.aload_n 0, 1) := by decide +kernel
theorem dX11_handler_1 : decode cX11_handler 1 = .ok (.getfield 10, 3) := by decide +kernel
theorem dX11_handler_4 : decode cX11_handler 4 = .ok (.iload_n 1, 1) := by decide +kernel
theorem dX11_handler_5 : decode cX11_handler 5 = .ok (.invokevirtual 92, 3) := by decide +kernel
theorem dX11_handler_8 : decode cX11_handler 8 = .ok (.ifCond .eq 19, 3) := by decide +kernel
theorem dX11_handler_11 : decode cX11_handler 11 = .ok (.iload_n 2, 1) := by decide +kernel
theorem dX11_handler_12 : decode cX11_handler 12 = .ok (.iconst (-1), 1) := by decide +kernel
theorem dX11_handler_13 : decode cX11_handler 13 = .ok (.if_icmp .eq 16, 3) := by decide +kernel
theorem dX11_handler_16 : decode cX11_handler 16 = .ok (.aload_n 0, 1) := by decide +kernel
theorem dX11_handler_17 : decode cX11_handler 17 = .ok (.getfield 10, 3) := by decide +kernel
theorem dX11_handler_20 : decode cX11_handler 20 = .ok (.iload_n 2, 1) := by decide +kernel
theorem dX11_handler_21 : decode cX11_handler 21 = .ok (.invokevirtual 125, 3) := by decide +kernel
theorem dX11_handler_24 : decode cX11_handler 24 = .ok (.ifCond .ne 5, 3) := by decide +kernel
theorem dX11_handler_27 : decode cX11_handler 27 = .ok (.iconst (-1), 1) := by decide +kernel
theorem dX11_handler_28 : decode cX11_handler 28 = .ok (.ireturn, 1) := by decide +kernel
theorem dX11_handler_29 : decode cX11_handler 29 = .ok (.aload_n 0, 1) := by decide +kernel
theorem dX11_handler_30 : decode cX11_handler 30 = .ok (.getfield 10, 3) := by decide +kernel
theorem dX11_handler_33 : decode cX11_handler 33 = .ok (.getfield 95, 3) := by decide +kernel
theorem dX11_handler_36 : decode cX11_handler 36 = .ok (.iload_n 1, 1) := by decide +kernel
theorem dX11_handler_37 : decode cX11_handler 37 = .ok (.aaload, 1) := by decide +kernel
theorem dX11_handler_38 : decode cX11_handler 38 = .ok (.getfield 99, 3) := by decide +kernel
theorem dX11_handler_41 : decode cX11_handler 41 = .ok (.iconst 2, 1) := by decide +kernel
theorem dX11_handler_42 : decode cX11_handler 42 = .ok (.if_icmp .eq 6, 3) := by decide +kernel
theorem dX11_handler_45 : decode cX11_handler 45 = .ok (.bipush (-4), 2) := by decide +kernel
theorem dX11_handler_47 : decode cX11_handler 47 = .ok (.ireturn, 1) := by decide +kernel
theorem dX11_handler_48 : decode cX11_handler 48 = .ok (.aload_n 0, 1) := by decide +kernel
theorem dX11_handler_49 : decode cX11_handler 49 = .ok (.getfield 10, 3) := by decide +kernel
theorem dX11_handler_52 : decode cX11_handler 52 = .ok (.iload_n 1, 1) := by decide +kernel
theorem dX11_handler_53 : decode cX11_handler 53 = .ok (.iload_n 2, 1) := by decide +kernel
theorem dX11_handler_54 : decode cX11_handler 54 = .ok (.invokevirtual 150, 3) := by decide +kernel
theorem dX11_handler_57 : decode cX11_handler 57 = .ok (.ireturn, 1) := by decide +kernel
theorem dX11_locks_0 : decode cX11_locks 0 = .ok (.iload_n 1, 1) := by decide +kernel
theorem dX11_locks_1 : decode cX11_locks 1 = .ok (.ifCond .eq 10, 3) := by decide +kernel
theorem dX11_locks_4 : decode cX11_locks 4 = .ok (.iload_n 1, 1) := by decide +kernel
theorem dX11_locks_5 : decode cX11_locks 5 = .ok (.iconst 1, 1) := by decide +kernel
theorem dX11_locks_6 : decode cX11_locks 6 = .ok (.if_icmp .eq 5, 3) := by decide +kernel
theorem dX11_locks_9 : decode cX11_locks 9 = .ok (.iconst (-1), 1) := by decide +kernel
theorem dX11_locks_10 : decode cX11_locks 10 = .ok (.ireturn, 1) := by decide +kernel
theorem dX11_locks_11 : decode cX11_locks 11 = .ok (.aload_n 0, 1) := by decide +kernel
theorem dX11_locks_12 : decode cX11_locks 12 = .ok (.getfield 10, 3) := by decide +kernel
theorem dX11_locks_15 : decode cX11_locks 15 = .ok (.iload_n 1, 1) := by decide +kernel
theorem dX11_locks_16 : decode cX11_locks 16 = .ok (.invokevirtual 153, 3) := by decide +kernel
theorem dX11_locks_19 : decode cX11_locks 19 = .ok (.ireturn, 1) := by decide +kernel
theorem dX11_code_0 : decode cX11_code 0 = .ok (.aload_n 0, 1) := by decide +kernel
theorem dX11_code_1 : decode cX11_code 1 = .ok (.getfield 10, 3) := by decide +kernel
theorem dX11_code_4 : decode cX11_code 4 = .ok (.iload_n 1, 1) := by decide +kernel
theorem dX11_code_5 : decode cX11_code 5 = .ok (.invokevirtual 125, 3) := by decide +kernel
theorem dX11_code_8 : decode cX11_code 8 = .ok (.ifCond .ne 5, 3) := by decide +kernel
theorem dX11_code_11 : decode cX11_code 11 = .ok (.iconst (-1), 1) := by decide +kernel
theorem dX11_code_12 : decode cX11_code 12 = .ok (.ireturn, 1) := by decide +kernel
theorem dX11_code_13 : decode cX11_code 13 = .ok (.aload_n 0, 1) := by decide +kernel
theorem dX11_code_14 : decode cX11_code 14 = .ok (.getfield 10, 3) := by decide +kernel
theorem dX11_code_17 : decode cX11_code 17 = .ok (.invokevirtual 156, 3) := by decide +kernel
theorem dX11_code_20 : decode cX11_code 20 = .ok (.aload_n 0, 1) := by decide +kernel
theorem dX11_code_21 : decode cX11_code 21 = .ok (.getfield 10, 3) := by decide +kernel
theorem dX11_code_24 : decode cX11_code 24 = .ok (.getfield 137, 3) := by decide +kernel
theorem dX11_code_27 : decode cX11_code 27 = .ok (.iload_n 1, 1) := by decide +kernel
theorem dX11_code_28 : decode cX11_code 28 = .ok (.aaload, 1) := by decide +kernel
theorem dX11_code_29 : decode cX11_code 29 = .ok (.getfield 159, 3) := by decide +kernel
theorem dX11_code_32 : decode cX11_code 32 = .ok (.getfield 163, 3) := by decide +kernel
theorem dX11_code_35 : decode cX11_code 35 = .ok (.ireturn, 1) := by decide +kernel
theorem dX11_op_0 : decode cX11_op 0 = .ok (.aload_n 0, 1) := by decide +kernel
theorem dX11_op_1 : decode cX11_op 1 = .ok (.getfield 10, 3) := by decide +kernel
theorem dX11_op_4 : decode cX11_op 4 = .ok (.iload_n 1, 1) := by decide +kernel
theorem dX11_op_5 : decode cX11_op 5 = .ok (.invokevirtual 125, 3) := by decide +kernel
theorem dX11_op_8 : decode cX11_op 8 = .ok (.ifCond .eq 13, 3) := by decide +kernel
theorem dX11_op_11 : decode cX11_op 11 = .ok (.iload_n 3, 1) := by decide +kernel
theorem dX11_op_12 : decode cX11_op 12 = .ok (.ifCond .lt 9, 3) := by decide +kernel
theorem dX11_op_15 : decode cX11_op 15 = .ok (.iload_n 3, 1) := by decide +kernel
theorem dX11_op_16 : decode cX11_op 16 = .ok (.bipush 6, 2) := by decide +kernel
theorem dX11_op_18 : decode cX11_op 18 = .ok (.if_icmp .lt 5, 3) := by decide +kernel
theorem dX11_op_21 : decode cX11_op 21 = .ok (.iconst (-1), 1) := by decide +kernel
theorem dX11_op_22 : decode cX11_op 22 = .ok (.ireturn, 1) := by decide +kernel
theorem dX11_op_23 : decode cX11_op 23 = .ok (.aload_n 0, 1) := by decide +kernel
theorem dX11_op_24 : decode cX11_op 24 = .ok (.getfield 10, 3) := by decide +kernel
theorem dX11_op_27 : decode cX11_op 27 = .ok (.invokevirtual 156, 3) := by decide +kernel
theorem dX11_op_30 : decode cX11_op 30 = .ok (.aload_n 0, 1) := by decide +kernel
theorem dX11_op_31 : decode cX11_op 31 = .ok (.getfield 10, 3) := by decide +kernel
theorem dX11_op_34 : decode cX11_op 34 = .ok (.getfield 137, 3) := by decide +kernel
theorem dX11_op_37 : decode cX11_op 37 = .ok (.iload_n 1, 1) := by decide +kernel
theorem dX11_op_38 : decode cX11_op 38 = .ok (.aaload, 1) := by decide +kernel
theorem dX11_op_39 : decode cX11_op 39 = .ok (.getfield 159, 3) := by decide +kernel
theorem dX11_op_42 : decode cX11_op 42 = .ok (.astore 4, 2) := by decide +kernel
theorem dX11_op_44 : decode cX11_op 44 = .ok (.iload_n 2, 1) := by decide +kernel
theorem dX11_op_45 : decode cX11_op 45 = .ok (.ifCond .lt 22, 3) := by decide +kernel
theorem dX11_op_48 : decode cX11_op 48 = .ok (.iload_n 2, 1) := by decide +kernel
theorem dX11_op_49 : decode cX11_op 49 = .ok (.aload 4, 2) := by decide +kernel
theorem dX11_op_51 : decode cX11_op 51 = .ok (.getfield 163, 3) := by decide +kernel
theorem dX11_op_54 : decode cX11_op 54 = .ok (.if_icmp .ge 13, 3) := by decide +kernel
theorem dX11_op_57 : decode cX11_op 57 = .ok (.aload 4, 2) := by decide +kernel
theorem dX11_op_59 : decode cX11_op 59 = .ok (.iload_n 2, 1) := by decide +kernel
theorem dX11_op_60 : decode cX11_op 60 = .ok (.iload_n 3, 1) := by decide +kernel
theorem dX11_op_61 : decode cX11_op 61 = .ok (.invokevirtual 168, 3) := by decide +kernel
theorem dX11_op_64 : decode cX11_op 64 = .ok (.goto 4, 3) := by decide +kernel
theorem dX11_op_67 : decode cX11_op 67 = .ok (.iconst (-1), 1) := by decide +kernel
theorem dX11_op_68 : decode cX11_op 68 = .ok (.ireturn, 1) := by decide +kernel
theorem dX11_same_0 : decode cX11_same 0 = .ok (.aload_n 0, 1) := by decide +kernel
theorem dX11_same_1 : decode cX11_same 1 = .ok (.getfield 10, 3) := by decide +kernel
theorem dX11_same_4 : decode cX11_same 4 = .ok (.iload_n 1, 1) := by decide +kernel
theorem dX11_same_5 : decode cX11_same 5 = .ok (.invokevirtual 125, 3) := by decide +kernel
theorem dX11_same_8 : decode cX11_same 8 = .ok (.ifCond .eq 14, 3) := by decide +kernel
theorem dX11_same_11 : decode cX11_same 11 = .ok (.aload_n 0, 1) := by decide +kernel
theorem dX11_same_12 : decode cX11_same 12 = .ok (.getfield 10, 3) := by decide +kernel
theorem dX11_same_15 : decode cX11_same 15 = .ok (.iload_n 2, 1) := by decide +kernel
theorem dX11_same_16 : decode cX11_same 16 = .ok (.invokevirtual 125, 3) := by decide +kernel
theorem dX11_same_19 : decode cX11_same 19 = .ok (.ifCond .ne 5, 3) := by decide +kernel
theorem dX11_same_22 : decode cX11_same 22 = .ok (.iconst (-1), 1) := by decide +kernel
theorem dX11_same_23 : decode cX11_same 23 = .ok (.ireturn, 1) := by decide +kernel
theorem dX11_same_24 : decode cX11_same 24 = .ok (.aload_n 0, 1) := by decide +kernel
theorem dX11_same_25 : decode cX11_same 25 = .ok (.getfield 10, 3) := by decide +kernel
theorem dX11_same_28 : decode cX11_same 28 = .ok (.invokevirtual 156, 3) := by decide +kernel
theorem dX11_same_31 : decode cX11_same 31 = .ok (.aload_n 0, 1) := by decide +kernel
theorem dX11_same_32 : decode cX11_same 32 = .ok (.getfield 10, 3) := by decide +kernel
theorem dX11_same_35 : decode cX11_same 35 = .ok (.getfield 137, 3) := by decide +kernel
theorem dX11_same_38 : decode cX11_same 38 = .ok (.iload_n 1, 1) := by decide +kernel
theorem dX11_same_39 : decode cX11_same 39 = .ok (.aaload, 1) := by decide +kernel
theorem dX11_same_40 : decode cX11_same 40 = .ok (.getfield 159, 3) := by decide +kernel
theorem dX11_same_43 : decode cX11_same 43 = .ok (.aload_n 0, 1) := by decide +kernel
theorem dX11_same_44 : decode cX11_same 44 = .ok (.getfield 10, 3) := by decide +kernel
theorem dX11_same_47 : decode cX11_same 47 = .ok (.getfield 137, 3) := by decide +kernel
theorem dX11_same_50 : decode cX11_same 50 = .ok (.iload_n 2, 1) := by decide +kernel
theorem dX11_same_51 : decode cX11_same 51 = .ok (.aaload, 1) := by decide +kernel
theorem dX11_same_52 : decode cX11_same 52 = .ok (.getfield 159, 3) := by decide +kernel
theorem dX11_same_55 : decode cX11_same 55 = .ok (.invokevirtual 171, 3) := by decide +kernel
theorem dX11_same_58 : decode cX11_same 58 = .ok (.ifCond .eq 7, 3) := by decide +kernel
theorem dX11_same_61 : decode cX11_same 61 = .ok (.iconst 1, 1) := by decide +kernel
theorem dX11_same_62 : decode cX11_same 62 = .ok (.goto 4, 3) := by decide +kernel
theorem dX11_same_65 : decode cX11_same 65 = .ok (.iconst 0, 1) := by decide +kernel
theorem dX11_same_66 : decode cX11_same 66 = .ok (.ireturn, 1) := by decide +kernel
theorem dX11_power_0 : decode cX11_power 0 = .ok (.aload_n 0, 1) := by decide +kernel
theorem dX11_power_1 : decode cX11_power 1 = .ok (.getfield 28, 3) := by decide +kernel
theorem dX11_power_4 : decode cX11_power 4 = .ok (.invokevirtual 68, 3) := by decide +kernel
theorem dX11_power_7 : decode cX11_power 7 = .ok (.aload_n 0, 1) := by decide +kernel
theorem dX11_power_8 : decode cX11_power 8 = .ok (.getfield 10, 3) := by decide +kernel
theorem dX11_power_11 : decode cX11_power 11 = .ok (.getfield 85, 3) := by decide +kernel
theorem dX11_power_14 : decode cX11_power 14 = .ok (.ireturn, 1) := by decide +kernel
theorem dX11_event_0 : decode cX11_event 0 = .ok (.aload_n 0, 1) := by decide +kernel
theorem dX11_event_1 : decode cX11_event 1 = .ok (.getfield 10, 3) := by decide +kernel
theorem dX11_event_4 : decode cX11_event 4 = .ok (.iload_n 1, 1) := by decide +kernel
theorem dX11_event_5 : decode cX11_event 5 = .ok (.invokevirtual 92, 3) := by decide +kernel
theorem dX11_event_8 : decode cX11_event 8 = .ok (.ifCond .eq 29, 3) := by decide +kernel
theorem dX11_event_11 : decode cX11_event 11 = .ok (.iload_n 2, 1) := by decide +kernel
theorem dX11_event_12 : decode cX11_event 12 = .ok (.aload_n 0, 1) := by decide +kernel
theorem dX11_event_13 : decode cX11_event 13 = .ok (.getfield 10, 3) := by decide +kernel
theorem dX11_event_16 : decode cX11_event 16 = .ok (.getfield 95, 3) := by decide +kernel
theorem dX11_event_19 : decode cX11_event 19 = .ok (.iload_n 1, 1) := by decide +kernel
theorem dX11_event_20 : decode cX11_event 20 = .ok (.aaload, 1) := by decide +kernel
theorem dX11_event_21 : decode cX11_event 21 = .ok (.getfield 175, 3) := by decide +kernel
theorem dX11_event_24 : decode cX11_event 24 = .ok (.invokestatic 77, 3) := by decide +kernel
theorem dX11_event_27 : decode cX11_event 27 = .ok (.ifCond .eq 10, 3) := by decide +kernel
theorem dX11_event_30 : decode cX11_event 30 = .ok (.iload_n 3, 1) := by decide +kernel
theorem dX11_event_31 : decode cX11_event 31 = .ok (.sipush 9999, 3) := by decide +kernel
theorem dX11_event_34 : decode cX11_event 34 = .ok (.if_icmp .le 5, 3) := by decide +kernel
theorem dX11_event_37 : decode cX11_event 37 = .ok (.iconst (-1), 1) := by decide +kernel
theorem dX11_event_38 : decode cX11_event 38 = .ok (.ireturn, 1) := by decide +kernel
theorem dX11_event_39 : decode cX11_event 39 = .ok (.aload_n 0, 1) := by decide +kernel
theorem dX11_event_40 : decode cX11_event 40 = .ok (.getfield 10, 3) := by decide +kernel
theorem dX11_event_43 : decode cX11_event 43 = .ok (.getfield 95, 3) := by decide +kernel
theorem dX11_event_46 : decode cX11_event 46 = .ok (.iload_n 1, 1) := by decide +kernel
theorem dX11_event_47 : decode cX11_event 47 = .ok (.aaload, 1) := by decide +kernel
theorem dX11_event_48 : decode cX11_event 48 = .ok (.getfield 99, 3) := by decide +kernel
theorem dX11_event_51 : decode cX11_event 51 = .ok (.istore 4, 2) := by decide +kernel
theorem dX11_event_53 : decode cX11_event 53 = .ok (.iload 4, 2) := by decide +kernel
theorem dX11_event_55 : decode cX11_event 55 = .ok (.iconst 1, 1) := by decide +kernel
theorem dX11_event_56 : decode cX11_event 56 = .ok (.if_icmp .eq 18, 3) := by decide +kernel
theorem dX11_event_59 : decode cX11_event 59 = .ok (.iload 4, 2) := by decide +kernel
theorem dX11_event_61 : decode cX11_event 61 = .ok (.iconst 2, 1) := by decide +kernel
theorem dX11_event_62 : decode cX11_event 62 = .ok (.if_icmp .eq 12, 3) := by decide +kernel
theorem dX11_event_65 : decode cX11_event 65 = .ok (.iload 4, 2) := by decide +kernel
theorem dX11_event_67 : decode cX11_event 67 = .ok (.iconst 3, 1) := by decide +kernel
theorem dX11_event_68 : decode cX11_event 68 = .ok (.if_icmp .eq 6, 3) := by decide +kernel
theorem dX11_event_71 : decode cX11_event 71 = .ok (.bipush (-4), 2) := by decide +kernel
theorem dX11_event_73 : decode cX11_event 73 = .ok (.ireturn, 1) := by decide +kernel
theorem dX11_event_74 : decode cX11_event 74 = .ok (.iload_n 3, 1) := by decide +kernel
theorem dX11_event_75 : decode cX11_event 75 = .ok (.i2l, 1) := by decide +kernel
theorem dX11_event_76 : decode cX11_event 76 = .ok (.aload_n 0, 1) := by decide +kernel
theorem dX11_event_77 : decode cX11_event 77 = .ok (.getfield 19, 3) := by decide +kernel
theorem dX11_event_80 : decode cX11_event 80 = .ok (.getfield 178, 3) := by decide +kernel
theorem dX11_event_83 : decode cX11_event 83 = .ok (.lcmp, 1) := by decide +kernel
theorem dX11_event_84 : decode cX11_event 84 = .ok (.ifCond .gt 6, 3) := by decide +kernel
theorem dX11_event_87 : decode cX11_event 87 = .ok (.bipush (-6), 2) := by decide +kernel
theorem dX11_event_89 : decode cX11_event 89 = .ok (.ireturn, 1) := by decide +kernel
theorem dX11_event_90 : decode cX11_event 90 = .ok (.aload_n 0, 1) := by decide +kernel
theorem dX11_event_91 : decode cX11_event 91 = .ok (.getfield 19, 3) := by decide +kernel
theorem dX11_event_94 : decode cX11_event 94 = .ok (.getfield 182, 3) := by decide +kernel
theorem dX11_event_97 : decode cX11_event 97 = .ok (.bipush 16, 2) := by decide +kernel
theorem dX11_event_99 : decode cX11_event 99 = .ok (.if_icmp .lt 6, 3) := by decide +kernel
theorem dX11_event_102 : decode cX11_event 102 = .ok (.bipush (-3), 2) := by decide +kernel
theorem dX11_event_104 : decode cX11_event 104 = .ok (.ireturn, 1) := by decide +kernel
theorem dX11_event_105 : decode cX11_event 105 = .ok (.aload_n 0, 1) := by decide +kernel
theorem dX11_event_106 : decode cX11_event 106 = .ok (.getfield 19, 3) := by decide +kernel
theorem dX11_event_109 : decode cX11_event 109 = .ok (.iload_n 1, 1) := by decide +kernel
theorem dX11_event_110 : decode cX11_event 110 = .ok (.iload_n 2, 1) := by decide +kernel
theorem dX11_event_111 : decode cX11_event 111 = .ok (.iload_n 3, 1) := by decide +kernel
theorem dX11_event_112 : decode cX11_event 112 = .ok (.i2l, 1) := by decide +kernel
theorem dX11_event_113 : decode cX11_event 113 = .ok (.invokevirtual 185, 3) := by decide +kernel
theorem dX11_event_116 : decode cX11_event 116 = .ok (.aload_n 0, 1) := by decide +kernel
theorem dX11_event_117 : decode cX11_event 117 = .ok (.getfield 19, 3) := by decide +kernel
theorem dX11_event_120 : decode cX11_event 120 = .ok (.getfield 182, 3) := by decide +kernel
theorem dX11_event_123 : decode cX11_event 123 = .ok (.ireturn, 1) := by decide +kernel
theorem dX11_run_0 : decode cX11_run 0 = .ok (.aload_n 0, 1) := by decide +kernel
theorem dX11_run_1 : decode cX11_run 1 = .ok (.getfield 10, 3) := by decide +kernel
theorem dX11_run_4 : decode cX11_run 4 = .ok (.iload_n 1, 1) := by decide +kernel
theorem dX11_run_5 : decode cX11_run 5 = .ok (.invokevirtual 125, 3) := by decide +kernel
theorem dX11_run_8 : decode cX11_run 8 = .ok (.ifCond .ne 5, 3) := by decide +kernel
theorem dX11_run_11 : decode cX11_run 11 = .ok (.iconst (-1), 1) := by decide +kernel
theorem dX11_run_12 : decode cX11_run 12 = .ok (.ireturn, 1) := by decide +kernel
theorem dX11_run_13 : decode cX11_run 13 = .ok (.aload_n 0, 1) := by decide +kernel
theorem dX11_run_14 : decode cX11_run 14 = .ok (.getfield 10, 3) := by decide +kernel
theorem dX11_run_17 : decode cX11_run 17 = .ok (.invokevirtual 156, 3) := by decide +kernel
theorem dX11_run_20 : decode cX11_run 20 = .ok (.aload_n 0, 1) := by decide +kernel
theorem dX11_run_21 : decode cX11_run 21 = .ok (.getfield 19, 3) := by decide +kernel
theorem dX11_run_24 : decode cX11_run 24 = .ok (.getfield 178, 3) := by decide +kernel
theorem dX11_run_27 : decode cX11_run 27 = .ok (.lstore_n 2, 1) := by decide +kernel
theorem dX11_run_28 : decode cX11_run 28 = .ok (.aload_n 0, 1) := by decide +kernel
theorem dX11_run_29 : decode cX11_run 29 = .ok (.getfield 37, 3) := by decide +kernel
theorem dX11_run_32 : decode cX11_run 32 = .ok (.iload_n 1, 1) := by decide +kernel
theorem dX11_run_33 : decode cX11_run 33 = .ok (.invokevirtual 189, 3) := by decide +kernel
theorem dX11_run_36 : decode cX11_run 36 = .ok (.ifCond .eq 18, 3) := by decide +kernel
theorem dX11_run_39 : decode cX11_run 39 = .ok (.aload_n 0, 1) := by decide +kernel
theorem dX11_run_40 : decode cX11_run 40 = .ok (.getfield 19, 3) := by decide +kernel
theorem dX11_run_43 : decode cX11_run 43 = .ok (.getfield 178, 3) := by decide +kernel
theorem dX11_run_46 : decode cX11_run 46 = .ok (.lload_n 2, 1) := by decide +kernel
theorem dX11_run_47 : decode cX11_run 47 = .ok (.lsub, 1) := by decide +kernel
theorem dX11_run_48 : decode cX11_run 48 = .ok (.invokestatic 192, 3) := by decide +kernel
theorem dX11_run_51 : decode cX11_run 51 = .ok (.goto 5, 3) := by decide +kernel
theorem dX11_run_54 : decode cX11_run 54 = .ok (.bipush (-5), 2) := by decide +kernel
theorem dX11_run_56 : decode cX11_run 56 = .ok (.ireturn, 1) := by decide +kernel
theorem dX11_read_0 : decode cX11_read 0 = .ok (.aload_n 0, 1) := by decide +kernel
theorem dX11_read_1 : decode cX11_read 1 = .ok (.getfield 10, 3) := by decide +kernel
theorem dX11_read_4 : decode cX11_read 4 = .ok (.iload_n 1, 1) := by decide +kernel
theorem dX11_read_5 : decode cX11_read 5 = .ok (.invokevirtual 71, 3) := by decide +kernel
theorem dX11_read_8 : decode cX11_read 8 = .ok (.ifCond .eq 15, 3) := by decide +kernel
theorem dX11_read_11 : decode cX11_read 11 = .ok (.aload_n 0, 1) := by decide +kernel
theorem dX11_read_12 : decode cX11_read 12 = .ok (.getfield 28, 3) := by decide +kernel
theorem dX11_read_15 : decode cX11_read 15 = .ok (.iload_n 1, 1) := by decide +kernel
theorem dX11_read_16 : decode cX11_read 16 = .ok (.iconst 0, 1) := by decide +kernel
theorem dX11_read_17 : decode cX11_read 17 = .ok (.invokevirtual 196, 3) := by decide +kernel
theorem dX11_read_20 : decode cX11_read 20 = .ok (.goto 4, 3) := by decide +kernel
theorem dX11_read_23 : decode cX11_read 23 = .ok (.iconst (-1), 1) := by decide +kernel
theorem dX11_read_24 : decode cX11_read 24 = .ok (.ireturn, 1) := by decide +kernel
theorem dX11_write_0 : decode cX11_write 0 = .ok (.aload_n 0, 1) := by decide +kernel
theorem dX11_write_1 : decode cX11_write 1 = .ok (.getfield 10, 3) := by decide +kernel
theorem dX11_write_4 : decode cX11_write 4 = .ok (.iload_n 1, 1) := by decide +kernel
theorem dX11_write_5 : decode cX11_write 5 = .ok (.invokevirtual 71, 3) := by decide +kernel
theorem dX11_write_8 : decode cX11_write 8 = .ok (.ifCond .eq 12, 3) := by decide +kernel
theorem dX11_write_11 : decode cX11_write 11 = .ok (.iload_n 2, 1) := by decide +kernel
theorem dX11_write_12 : decode cX11_write 12 = .ok (.bipush 16, 2) := by decide +kernel
theorem dX11_write_14 : decode cX11_write 14 = .ok (.invokestatic 77, 3) := by decide +kernel
theorem dX11_write_17 : decode cX11_write 17 = .ok (.ifCond .ne 5, 3) := by decide +kernel
theorem dX11_write_20 : decode cX11_write 20 = .ok (.iconst (-1), 1) := by decide +kernel
theorem dX11_write_21 : decode cX11_write 21 = .ok (.ireturn, 1) := by decide +kernel
theorem dX11_write_22 : decode cX11_write 22 = .ok (.aload_n 0, 1) := by decide +kernel
theorem dX11_write_23 : decode cX11_write 23 = .ok (.getfield 28, 3) := by decide +kernel
theorem dX11_write_26 : decode cX11_write 26 = .ok (.iload_n 1, 1) := by decide +kernel
theorem dX11_write_27 : decode cX11_write 27 = .ok (.iload_n 2, 1) := by decide +kernel
theorem dX11_write_28 : decode cX11_write 28 = .ok (.invokevirtual 200, 3) := by decide +kernel
theorem dX11_write_31 : decode cX11_write 31 = .ok (.aload_n 0, 1) := by decide +kernel
theorem dX11_write_32 : decode cX11_write 32 = .ok (.getfield 19, 3) := by decide +kernel
theorem dX11_write_35 : decode cX11_write 35 = .ok (.getfield 178, 3) := by decide +kernel
theorem dX11_write_38 : decode cX11_write 38 = .ok (.invokestatic 192, 3) := by decide +kernel
theorem dX11_write_41 : decode cX11_write 41 = .ok (.ireturn, 1) := by decide +kernel
theorem dX11_wait_0 : decode cX11_wait 0 = .ok (.iload_n 1, 1) := by decide +kernel
theorem dX11_wait_1 : decode cX11_wait 1 = .ok (.ifCond .lt 9, 3) := by decide +kernel
theorem dX11_wait_4 : decode cX11_wait 4 = .ok (.iload_n 1, 1) := by decide +kernel
theorem dX11_wait_5 : decode cX11_wait 5 = .ok (.bipush 50, 2) := by decide +kernel
theorem dX11_wait_7 : decode cX11_wait 7 = .ok (.if_icmp .le 5, 3) := by decide +kernel
theorem dX11_wait_10 : decode cX11_wait 10 = .ok (.iconst (-1), 1) := by decide +kernel
theorem dX11_wait_11 : decode cX11_wait 11 = .ok (.ireturn, 1) := by decide +kernel
theorem dX11_wait_12 : decode cX11_wait 12 = .ok (.iconst 0, 1) := by decide +kernel
theorem dX11_wait_13 : decode cX11_wait 13 = .ok (.istore_n 2, 1) := by decide +kernel
theorem dX11_wait_14 : decode cX11_wait 14 = .ok (.iload_n 2, 1) := by decide +kernel
theorem dX11_wait_15 : decode cX11_wait 15 = .ok (.iload_n 1, 1) := by decide +kernel
theorem dX11_wait_16 : decode cX11_wait 16 = .ok (.if_icmp .ge 16, 3) := by decide +kernel
theorem dX11_wait_19 : decode cX11_wait 19 = .ok (.aload_n 0, 1) := by decide +kernel
theorem dX11_wait_20 : decode cX11_wait 20 = .ok (.getfield 28, 3) := by decide +kernel
theorem dX11_wait_23 : decode cX11_wait 23 = .ok (.invokevirtual 204, 3) := by decide +kernel
theorem dX11_wait_26 : decode cX11_wait 26 = .ok (.iinc 2 1, 3) := by decide +kernel
theorem dX11_wait_29 : decode cX11_wait 29 = .ok (.goto (-15), 3) := by decide +kernel
theorem dX11_wait_32 : decode cX11_wait 32 = .ok (.aload_n 0, 1) := by decide +kernel
theorem dX11_wait_33 : decode cX11_wait 33 = .ok (.getfield 19, 3) := by decide +kernel
theorem dX11_wait_36 : decode cX11_wait 36 = .ok (.getfield 178, 3) := by decide +kernel
theorem dX11_wait_39 : decode cX11_wait 39 = .ok (.invokestatic 192, 3) := by decide +kernel
theorem dX11_wait_42 : decode cX11_wait 42 = .ok (.ireturn, 1) := by decide +kernel
theorem dX11_peek_0 : decode cX11_peek 0 = .ok (.aload_n 0, 1) := by decide +kernel
theorem dX11_peek_1 : decode cX11_peek 1 = .ok (.getfield 10, 3) := by decide +kernel
theorem dX11_peek_4 : decode cX11_peek 4 = .ok (.iload_n 1, 1) := by decide +kernel
theorem dX11_peek_5 : decode cX11_peek 5 = .ok (.invokevirtual 92, 3) := by decide +kernel
theorem dX11_peek_8 : decode cX11_peek 8 = .ok (.ifCond .eq 12, 3) := by decide +kernel
theorem dX11_peek_11 : decode cX11_peek 11 = .ok (.iload_n 2, 1) := by decide +kernel
theorem dX11_peek_12 : decode cX11_peek 12 = .ok (.ifCond .lt 8, 3) := by decide +kernel
theorem dX11_peek_15 : decode cX11_peek 15 = .ok (.iload_n 2, 1) := by decide +kernel
theorem dX11_peek_16 : decode cX11_peek 16 = .ok (.iconst 3, 1) := by decide +kernel
theorem dX11_peek_17 : decode cX11_peek 17 = .ok (.if_icmp .le 5, 3) := by decide +kernel
theorem dX11_peek_20 : decode cX11_peek 20 = .ok (.iconst (-1), 1) := by decide +kernel
theorem dX11_peek_21 : decode cX11_peek 21 = .ok (.ireturn, 1) := by decide +kernel
theorem dX11_peek_22 : decode cX11_peek 22 = .ok (.aload_n 0, 1) := by decide +kernel
theorem dX11_peek_23 : decode cX11_peek 23 = .ok (.getfield 10, 3) := by decide +kernel
theorem dX11_peek_26 : decode cX11_peek 26 = .ok (.getfield 95, 3) := by decide +kernel
theorem dX11_peek_29 : decode cX11_peek 29 = .ok (.iload_n 1, 1) := by decide +kernel
theorem dX11_peek_30 : decode cX11_peek 30 = .ok (.aaload, 1) := by decide +kernel
theorem dX11_peek_31 : decode cX11_peek 31 = .ok (.getfield 99, 3) := by decide +kernel
theorem dX11_peek_34 : decode cX11_peek 34 = .ok (.istore_n 3, 1) := by decide +kernel
theorem dX11_peek_35 : decode cX11_peek 35 = .ok (.iload_n 2, 1) := by decide +kernel
theorem dX11_peek_36 : decode cX11_peek 36 = .ok (.tableswitch 78 0 2 #[28, 38, 58], 28) := by decide +kernel
theorem dX11_peek_64 : decode cX11_peek 64 = .ok (.aload_n 0, 1) := by decide +kernel
theorem dX11_peek_65 : decode cX11_peek 65 = .ok (.getfield 19, 3) := by decide +kernel
theorem dX11_peek_68 : decode cX11_peek 68 = .ok (.getfield 207, 3) := by decide +kernel
theorem dX11_peek_71 : decode cX11_peek 71 = .ok (.iload_n 1, 1) := by decide +kernel
theorem dX11_peek_72 : decode cX11_peek 72 = .ok (.iaload, 1) := by decide +kernel
theorem dX11_peek_73 : decode cX11_peek 73 = .ok (.ireturn, 1) := by decide +kernel
theorem dX11_peek_74 : decode cX11_peek 74 = .ok (.iload_n 3, 1) := by decide +kernel
theorem dX11_peek_75 : decode cX11_peek 75 = .ok (.iconst 5, 1) := by decide +kernel
theorem dX11_peek_76 : decode cX11_peek 76 = .ok (.if_icmp .ne 15, 3) := by decide +kernel
theorem dX11_peek_79 : decode cX11_peek 79 = .ok (.aload_n 0, 1) := by decide +kernel
theorem dX11_peek_80 : decode cX11_peek 80 = .ok (.getfield 19, 3) := by decide +kernel
theorem dX11_peek_83 : decode cX11_peek 83 = .ok (.getfield 211, 3) := by decide +kernel
theorem dX11_peek_86 : decode cX11_peek 86 = .ok (.iload_n 1, 1) := by decide +kernel
theorem dX11_peek_87 : decode cX11_peek 87 = .ok (.iaload, 1) := by decide +kernel
theorem dX11_peek_88 : decode cX11_peek 88 = .ok (.goto 5, 3) := by decide +kernel
theorem dX11_peek_91 : decode cX11_peek 91 = .ok (.bipush (-4), 2) := by decide +kernel
theorem dX11_peek_93 : decode cX11_peek 93 = .ok (.ireturn, 1) := by decide +kernel
theorem dX11_peek_94 : decode cX11_peek 94 = .ok (.iload_n 3, 1) := by decide +kernel
theorem dX11_peek_95 : decode cX11_peek 95 = .ok (.iconst 4, 1) := by decide +kernel
theorem dX11_peek_96 : decode cX11_peek 96 = .ok (.if_icmp .ne 15, 3) := by decide +kernel
theorem dX11_peek_99 : decode cX11_peek 99 = .ok (.aload_n 0, 1) := by decide +kernel
theorem dX11_peek_100 : decode cX11_peek 100 = .ok (.getfield 19, 3) := by decide +kernel
theorem dX11_peek_103 : decode cX11_peek 103 = .ok (.getfield 214, 3) := by decide +kernel
theorem dX11_peek_106 : decode cX11_peek 106 = .ok (.iload_n 1, 1) := by decide +kernel
theorem dX11_peek_107 : decode cX11_peek 107 = .ok (.iaload, 1) := by decide +kernel
theorem dX11_peek_108 : decode cX11_peek 108 = .ok (.goto 5, 3) := by decide +kernel
theorem dX11_peek_111 : decode cX11_peek 111 = .ok (.bipush (-4), 2) := by decide +kernel
theorem dX11_peek_113 : decode cX11_peek 113 = .ok (.ireturn, 1) := by decide +kernel
theorem dX11_peek_114 : decode cX11_peek 114 = .ok (.iload_n 3, 1) := by decide +kernel
theorem dX11_peek_115 : decode cX11_peek 115 = .ok (.iconst 3, 1) := by decide +kernel
theorem dX11_peek_116 : decode cX11_peek 116 = .ok (.if_icmp .ne 15, 3) := by decide +kernel
theorem dX11_peek_119 : decode cX11_peek 119 = .ok (.aload_n 0, 1) := by decide +kernel
theorem dX11_peek_120 : decode cX11_peek 120 = .ok (.getfield 19, 3) := by decide +kernel
theorem dX11_peek_123 : decode cX11_peek 123 = .ok (.getfield 217, 3) := by decide +kernel
theorem dX11_peek_126 : decode cX11_peek 126 = .ok (.iload_n 1, 1) := by decide +kernel
theorem dX11_peek_127 : decode cX11_peek 127 = .ok (.iaload, 1) := by decide +kernel
theorem dX11_peek_128 : decode cX11_peek 128 = .ok (.goto 5, 3) := by decide +kernel
theorem dX11_peek_131 : decode cX11_peek 131 = .ok (.bipush (-4), 2) := by decide +kernel
theorem dX11_peek_133 : decode cX11_peek 133 = .ok (.ireturn, 1) := by decide +kernel
theorem dX11_shadow_0 : decode cX11_shadow 0 = .ok (.aload_n 0, 1) := by decide +kernel
theorem dX11_shadow_1 : decode cX11_shadow 1 = .ok (.getfield 10, 3) := by decide +kernel
theorem dX11_shadow_4 : decode cX11_shadow 4 = .ok (.iload_n 1, 1) := by decide +kernel
theorem dX11_shadow_5 : decode cX11_shadow 5 = .ok (.invokevirtual 71, 3) := by decide +kernel
theorem dX11_shadow_8 : decode cX11_shadow 8 = .ok (.ifCond .eq 15, 3) := by decide +kernel
theorem dX11_shadow_11 : decode cX11_shadow 11 = .ok (.aload_n 0, 1) := by decide +kernel
theorem dX11_shadow_12 : decode cX11_shadow 12 = .ok (.getfield 19, 3) := by decide +kernel
theorem dX11_shadow_15 : decode cX11_shadow 15 = .ok (.getfield 220, 3) := by decide +kernel
theorem dX11_shadow_18 : decode cX11_shadow 18 = .ok (.iload_n 1, 1) := by decide +kernel
theorem dX11_shadow_19 : decode cX11_shadow 19 = .ok (.iaload, 1) := by decide +kernel
theorem dX11_shadow_20 : decode cX11_shadow 20 = .ok (.goto 4, 3) := by decide +kernel
theorem dX11_shadow_23 : decode cX11_shadow 23 = .ok (.iconst (-1), 1) := by decide +kernel
theorem dX11_shadow_24 : decode cX11_shadow 24 = .ok (.ireturn, 1) := by decide +kernel
theorem dX11_result_0 : decode cX11_result 0 = .ok (.aload_n 0, 1) := by decide +kernel
theorem dX11_result_1 : decode cX11_result 1 = .ok (.getfield 19, 3) := by decide +kernel
theorem dX11_result_4 : decode cX11_result 4 = .ok (.getfield 223, 3) := by decide +kernel
theorem dX11_result_7 : decode cX11_result 7 = .ok (.ireturn, 1) := by decide +kernel
theorem dX11_breaks_0 : decode cX11_breaks 0 = .ok (.iload_n 1, 1) := by decide +kernel
theorem dX11_breaks_1 : decode cX11_breaks 1 = .ok (.tableswitch 89 0 2 #[27, 38, 62], 27) := by decide +kernel
theorem dX11_breaks_28 : decode cX11_breaks 28 = .ok (.aload_n 0, 1) := by decide +kernel
theorem dX11_breaks_29 : decode cX11_breaks 29 = .ok (.getfield 19, 3) := by decide +kernel
theorem dX11_breaks_32 : decode cX11_breaks 32 = .ok (.getfield 226, 3) := by decide +kernel
theorem dX11_breaks_35 : decode cX11_breaks 35 = .ok (.invokestatic 192, 3) := by decide +kernel
theorem dX11_breaks_38 : decode cX11_breaks 38 = .ok (.ireturn, 1) := by decide +kernel
theorem dX11_breaks_39 : decode cX11_breaks 39 = .ok (.aload_n 0, 1) := by decide +kernel
theorem dX11_breaks_40 : decode cX11_breaks 40 = .ok (.getfield 19, 3) := by decide +kernel
theorem dX11_breaks_43 : decode cX11_breaks 43 = .ok (.getfield 226, 3) := by decide +kernel
theorem dX11_breaks_46 : decode cX11_breaks 46 = .ok (.lconst 0, 1) := by decide +kernel
theorem dX11_breaks_47 : decode cX11_breaks 47 = .ok (.lcmp, 1) := by decide +kernel
theorem dX11_breaks_48 : decode cX11_breaks 48 = .ok (.ifCond .le 13, 3) := by decide +kernel
theorem dX11_breaks_51 : decode cX11_breaks 51 = .ok (.aload_n 0, 1) := by decide +kernel
theorem dX11_breaks_52 : decode cX11_breaks 52 = .ok (.getfield 19, 3) := by decide +kernel
theorem dX11_breaks_55 : decode cX11_breaks 55 = .ok (.getfield 229, 3) := by decide +kernel
theorem dX11_breaks_58 : decode cX11_breaks 58 = .ok (.goto 4, 3) := by decide +kernel
theorem dX11_breaks_61 : decode cX11_breaks 61 = .ok (.iconst (-1), 1) := by decide +kernel
theorem dX11_breaks_62 : decode cX11_breaks 62 = .ok (.ireturn, 1) := by decide +kernel
theorem dX11_breaks_63 : decode cX11_breaks 63 = .ok (.aload_n 0, 1) := by decide +kernel
theorem dX11_breaks_64 : decode cX11_breaks 64 = .ok (.getfield 19, 3) := by decide +kernel
theorem dX11_breaks_67 : decode cX11_breaks 67 = .ok (.getfield 226, 3) := by decide +kernel
theorem dX11_breaks_70 : decode cX11_breaks 70 = .ok (.lconst 0, 1) := by decide +kernel
theorem dX11_breaks_71 : decode cX11_breaks 71 = .ok (.lcmp, 1) := by decide +kernel
theorem dX11_breaks_72 : decode cX11_breaks 72 = .ok (.ifCond .le 16, 3) := by decide +kernel
theorem dX11_breaks_75 : decode cX11_breaks 75 = .ok (.aload_n 0, 1) := by decide +kernel
theorem dX11_breaks_76 : decode cX11_breaks 76 = .ok (.getfield 19, 3) := by decide +kernel
theorem dX11_breaks_79 : decode cX11_breaks 79 = .ok (.getfield 232, 3) := by decide +kernel
theorem dX11_breaks_82 : decode cX11_breaks 82 = .ok (.invokestatic 192, 3) := by decide +kernel
theorem dX11_breaks_85 : decode cX11_breaks 85 = .ok (.goto 4, 3) := by decide +kernel
theorem dX11_breaks_88 : decode cX11_breaks 88 = .ok (.iconst (-1), 1) := by decide +kernel
theorem dX11_breaks_89 : decode cX11_breaks 89 = .ok (.ireturn, 1) := by decide +kernel
theorem dX11_breaks_90 : decode cX11_breaks 90 = .ok (.iconst (-1), 1) := by decide +kernel
theorem dX11_breaks_91 : decode cX11_breaks 91 = .ok (.ireturn, 1) := by decide +kernel
theorem dX11_walk_0 : decode cX11_walk 0 = .ok (.aload_n 0, 1) := by decide +kernel
theorem dX11_walk_1 : decode cX11_walk 1 = .ok (.getfield 10, 3) := by decide +kernel
theorem dX11_walk_4 : decode cX11_walk 4 = .ok (.iload_n 1, 1) := by decide +kernel
theorem dX11_walk_5 : decode cX11_walk 5 = .ok (.invokevirtual 125, 3) := by decide +kernel
theorem dX11_walk_8 : decode cX11_walk 8 = .ok (.ifCond .eq 14, 3) := by decide +kernel
theorem dX11_walk_11 : decode cX11_walk 11 = .ok (.aload_n 0, 1) := by decide +kernel
theorem dX11_walk_12 : decode cX11_walk 12 = .ok (.getfield 10, 3) := by decide +kernel
theorem dX11_walk_15 : decode cX11_walk 15 = .ok (.iload_n 2, 1) := by decide +kernel
theorem dX11_walk_16 : decode cX11_walk 16 = .ok (.invokevirtual 92, 3) := by decide +kernel
theorem dX11_walk_19 : decode cX11_walk 19 = .ok (.ifCond .ne 5, 3) := by decide +kernel
theorem dX11_walk_22 : decode cX11_walk 22 = .ok (.iconst (-1), 1) := by decide +kernel
theorem dX11_walk_23 : decode cX11_walk 23 = .ok (.ireturn, 1) := by decide +kernel
theorem dX11_walk_24 : decode cX11_walk 24 = .ok (.aload_n 0, 1) := by decide +kernel
theorem dX11_walk_25 : decode cX11_walk 25 = .ok (.getfield 10, 3) := by decide +kernel
theorem dX11_walk_28 : decode cX11_walk 28 = .ok (.getfield 95, 3) := by decide +kernel
theorem dX11_walk_31 : decode cX11_walk 31 = .ok (.iload_n 2, 1) := by decide +kernel
theorem dX11_walk_32 : decode cX11_walk 32 = .ok (.aaload, 1) := by decide +kernel
theorem dX11_walk_33 : decode cX11_walk 33 = .ok (.astore_n 3, 1) := by decide +kernel
theorem dX11_walk_34 : decode cX11_walk 34 = .ok (.aload_n 3, 1) := by decide +kernel
theorem dX11_walk_35 : decode cX11_walk 35 = .ok (.getfield 99, 3) := by decide +kernel
theorem dX11_walk_38 : decode cX11_walk 38 = .ok (.iconst 2, 1) := by decide +kernel
theorem dX11_walk_39 : decode cX11_walk 39 = .ok (.if_icmp .ne 17, 3) := by decide +kernel
theorem dX11_walk_42 : decode cX11_walk 42 = .ok (.aload_n 0, 1) := by decide +kernel
theorem dX11_walk_43 : decode cX11_walk 43 = .ok (.getfield 10, 3) := by decide +kernel
theorem dX11_walk_46 : decode cX11_walk 46 = .ok (.aload_n 3, 1) := by decide +kernel
theorem dX11_walk_47 : decode cX11_walk 47 = .ok (.getfield 235, 3) := by decide +kernel
theorem dX11_walk_50 : decode cX11_walk 50 = .ok (.invokevirtual 125, 3) := by decide +kernel
theorem dX11_walk_53 : decode cX11_walk 53 = .ok (.ifCond .ne 6, 3) := by decide +kernel
theorem dX11_walk_56 : decode cX11_walk 56 = .ok (.bipush (-4), 2) := by decide +kernel
theorem dX11_walk_58 : decode cX11_walk 58 = .ok (.ireturn, 1) := by decide +kernel
theorem dX11_walk_59 : decode cX11_walk 59 = .ok (.aload_n 0, 1) := by decide +kernel
theorem dX11_walk_60 : decode cX11_walk 60 = .ok (.getfield 10, 3) := by decide +kernel
theorem dX11_walk_63 : decode cX11_walk 63 = .ok (.invokevirtual 156, 3) := by decide +kernel
theorem dX11_walk_66 : decode cX11_walk 66 = .ok (.aload_n 0, 1) := by decide +kernel
theorem dX11_walk_67 : decode cX11_walk 67 = .ok (.getfield 46, 3) := by decide +kernel
theorem dX11_walk_70 : decode cX11_walk 70 = .ok (.invokevirtual 238, 3) := by decide +kernel
theorem dX11_walk_73 : decode cX11_walk 73 = .ok (.aload_n 0, 1) := by decide +kernel
theorem dX11_walk_74 : decode cX11_walk 74 = .ok (.getfield 46, 3) := by decide +kernel
theorem dX11_walk_77 : decode cX11_walk 77 = .ok (.iload_n 1, 1) := by decide +kernel
theorem dX11_walk_78 : decode cX11_walk 78 = .ok (.iload_n 2, 1) := by decide +kernel
theorem dX11_walk_79 : decode cX11_walk 79 = .ok (.invokevirtual 241, 3) := by decide +kernel
theorem dX11_walk_82 : decode cX11_walk 82 = .ok (.istore 4, 2) := by decide +kernel
theorem dX11_walk_84 : decode cX11_walk 84 = .ok (.aload_n 0, 1) := by decide +kernel
theorem dX11_walk_85 : decode cX11_walk 85 = .ok (.getfield 46, 3) := by decide +kernel
theorem dX11_walk_88 : decode cX11_walk 88 = .ok (.invokevirtual 244, 3) := by decide +kernel
theorem dX11_walk_91 : decode cX11_walk 91 = .ok (.iload 4, 2) := by decide +kernel
theorem dX11_walk_93 : decode cX11_walk 93 = .ok (.ireturn, 1) := by decide +kernel
theorem dX11_why_0 : decode cX11_why 0 = .ok (.aload_n 0, 1) := by decide +kernel
theorem dX11_why_1 : decode cX11_why 1 = .ok (.getfield 46, 3) := by decide +kernel
theorem dX11_why_4 : decode cX11_why 4 = .ok (.getfield 247, 3) := by decide +kernel
theorem dX11_why_7 : decode cX11_why 7 = .ok (.ifCond .ne 5, 3) := by decide +kernel
theorem dX11_why_10 : decode cX11_why 10 = .ok (.iconst (-1), 1) := by decide +kernel
theorem dX11_why_11 : decode cX11_why 11 = .ok (.ireturn, 1) := by decide +kernel
theorem dX11_why_12 : decode cX11_why 12 = .ok (.iload_n 1, 1) := by decide +kernel
theorem dX11_why_13 : decode cX11_why 13 = .ok (.lookupswitch 43 #[(0, 27), (1, 35)], 27) := by decide +kernel
theorem dX11_why_40 : decode cX11_why 40 = .ok (.aload_n 0, 1) := by decide +kernel
theorem dX11_why_41 : decode cX11_why 41 = .ok (.getfield 46, 3) := by decide +kernel
theorem dX11_why_44 : decode cX11_why 44 = .ok (.getfield 247, 3) := by decide +kernel
theorem dX11_why_47 : decode cX11_why 47 = .ok (.ireturn, 1) := by decide +kernel
theorem dX11_why_48 : decode cX11_why 48 = .ok (.aload_n 0, 1) := by decide +kernel
theorem dX11_why_49 : decode cX11_why 49 = .ok (.getfield 46, 3) := by decide +kernel
theorem dX11_why_52 : decode cX11_why 52 = .ok (.getfield 250, 3) := by decide +kernel
theorem dX11_why_55 : decode cX11_why 55 = .ok (.ireturn, 1) := by decide +kernel
theorem dX11_why_56 : decode cX11_why 56 = .ok (.iconst (-1), 1) := by decide +kernel
theorem dX11_why_57 : decode cX11_why 57 = .ok (.ireturn, 1) := by decide +kernel
theorem dX11_isTape_0 : decode cX11_isTape 0 = .ok (.iload_n 0, 1) := by decide +kernel
theorem dX11_isTape_1 : decode cX11_isTape 1 = .ok (.ifCond .lt 13, 3) := by decide +kernel
theorem dX11_isTape_4 : decode cX11_isTape 4 = .ok (.iload_n 0, 1) := by decide +kernel
theorem dX11_isTape_5 : decode cX11_isTape 5 = .ok (.bipush 6, 2) := by decide +kernel
theorem dX11_isTape_7 : decode cX11_isTape 7 = .ok (.if_icmp .ge 7, 3) := by decide +kernel
theorem dX11_isTape_10 : decode cX11_isTape 10 = .ok (.iconst 1, 1) := by decide +kernel
theorem dX11_isTape_11 : decode cX11_isTape 11 = .ok (.goto 4, 3) := by decide +kernel
theorem dX11_isTape_14 : decode cX11_isTape 14 = .ok (.iconst 0, 1) := by decide +kernel
theorem dX11_isTape_15 : decode cX11_isTape 15 = .ok (.ireturn, 1) := by decide +kernel
theorem dX11_hostRefuses_0 : decode cX11_hostRefuses 0 = .ok (.aload_n 0, 1) := by decide +kernel
theorem dX11_hostRefuses_1 : decode cX11_hostRefuses 1 = .ok (.dup, 1) := by decide +kernel
theorem dX11_hostRefuses_2 : decode cX11_hostRefuses 2 = .ok (.getfield 57, 3) := by decide +kernel
theorem dX11_hostRefuses_5 : decode cX11_hostRefuses 5 = .ok (.iconst 1, 1) := by decide +kernel
theorem dX11_hostRefuses_6 : decode cX11_hostRefuses 6 = .ok (.iadd, 1) := by decide +kernel
theorem dX11_hostRefuses_7 : decode cX11_hostRefuses 7 = .ok (.putfield 57, 3) := by decide +kernel
theorem dX11_hostRefuses_10 : decode cX11_hostRefuses 10 = .ok (.iload_n 1, 1) := by decide +kernel
theorem dX11_hostRefuses_11 : decode cX11_hostRefuses 11 = .ok (.ireturn, 1) := by decide +kernel
theorem dX11_tape_0 : decode cX11_tape 0 = .ok (.iload_n 1, 1) := by decide +kernel
theorem dX11_tape_1 : decode cX11_tape 1 = .ok (.invokestatic 253, 3) := by decide +kernel
theorem dX11_tape_4 : decode cX11_tape 4 = .ok (.ifCond .eq 19, 3) := by decide +kernel
theorem dX11_tape_7 : decode cX11_tape 7 = .ok (.iload_n 2, 1) := by decide +kernel
theorem dX11_tape_8 : decode cX11_tape 8 = .ok (.iconst 1, 1) := by decide +kernel
theorem dX11_tape_9 : decode cX11_tape 9 = .ok (.if_icmp .lt 14, 3) := by decide +kernel
theorem dX11_tape_12 : decode cX11_tape 12 = .ok (.iload_n 2, 1) := by decide +kernel
theorem dX11_tape_13 : decode cX11_tape 13 = .ok (.iconst 4, 1) := by decide +kernel
theorem dX11_tape_14 : decode cX11_tape 14 = .ok (.if_icmp .gt 9, 3) := by decide +kernel
theorem dX11_tape_17 : decode cX11_tape 17 = .ok (.iload_n 3, 1) := by decide +kernel
theorem dX11_tape_18 : decode cX11_tape 18 = .ok (.bipush 64, 2) := by decide +kernel
theorem dX11_tape_20 : decode cX11_tape 20 = .ok (.if_icmp .le 5, 3) := by decide +kernel
theorem dX11_tape_23 : decode cX11_tape 23 = .ok (.iconst (-1), 1) := by decide +kernel
theorem dX11_tape_24 : decode cX11_tape 24 = .ok (.ireturn, 1) := by decide +kernel
theorem dX11_tape_25 : decode cX11_tape 25 = .ok (.iload_n 3, 1) := by decide +kernel
theorem dX11_tape_26 : decode cX11_tape 26 = .ok (.ifCond .ge 10, 3) := by decide +kernel
theorem dX11_tape_29 : decode cX11_tape 29 = .ok (.aload_n 0, 1) := by decide +kernel
theorem dX11_tape_30 : decode cX11_tape 30 = .ok (.bipush (-14), 2) := by decide +kernel
theorem dX11_tape_32 : decode cX11_tape 32 = .ok (.invokevirtual 256, 3) := by decide +kernel
theorem dX11_tape_35 : decode cX11_tape 35 = .ok (.ireturn, 1) := by decide +kernel
theorem dX11_tape_36 : decode cX11_tape 36 = .ok (.aload_n 0, 1) := by decide +kernel
theorem dX11_tape_37 : decode cX11_tape 37 = .ok (.getfield 52, 3) := by decide +kernel
theorem dX11_tape_40 : decode cX11_tape 40 = .ok (.iload_n 1, 1) := by decide +kernel
theorem dX11_tape_41 : decode cX11_tape 41 = .ok (.aaload, 1) := by decide +kernel
theorem dX11_tape_42 : decode cX11_tape 42 = .ok (.iload_n 2, 1) := by decide +kernel
theorem dX11_tape_43 : decode cX11_tape 43 = .ok (.iload_n 3, 1) := by decide +kernel
theorem dX11_tape_44 : decode cX11_tape 44 = .ok (.invokevirtual 259, 3) := by decide +kernel
theorem dX11_tape_47 : decode cX11_tape 47 = .ok (.iload_n 3, 1) := by decide +kernel
theorem dX11_tape_48 : decode cX11_tape 48 = .ok (.ireturn, 1) := by decide +kernel
theorem dX11_image_0 : decode cX11_image 0 = .ok (.iload_n 1, 1) := by decide +kernel
theorem dX11_image_1 : decode cX11_image 1 = .ok (.invokestatic 253, 3) := by decide +kernel
theorem dX11_image_4 : decode cX11_image 4 = .ok (.ifCond .ne 5, 3) := by decide +kernel
theorem dX11_image_7 : decode cX11_image 7 = .ok (.iconst (-1), 1) := by decide +kernel
theorem dX11_image_8 : decode cX11_image 8 = .ok (.ireturn, 1) := by decide +kernel
theorem dX11_image_9 : decode cX11_image 9 = .ok (.aload_n 0, 1) := by decide +kernel
theorem dX11_image_10 : decode cX11_image 10 = .ok (.getfield 52, 3) := by decide +kernel
theorem dX11_image_13 : decode cX11_image 13 = .ok (.iload_n 1, 1) := by decide +kernel
theorem dX11_image_14 : decode cX11_image 14 = .ok (.aaload, 1) := by decide +kernel
theorem dX11_image_15 : decode cX11_image 15 = .ok (.aload_n 0, 1) := by decide +kernel
theorem dX11_image_16 : decode cX11_image 16 = .ok (.getfield 19, 3) := by decide +kernel
theorem dX11_image_19 : decode cX11_image 19 = .ok (.aload_n 0, 1) := by decide +kernel
theorem dX11_image_20 : decode cX11_image 20 = .ok (.getfield 10, 3) := by decide +kernel
theorem dX11_image_23 : decode cX11_image 23 = .ok (.getfield 262, 3) := by decide +kernel
theorem dX11_image_26 : decode cX11_image 26 = .ok (.invokevirtual 265, 3) := by decide +kernel
theorem dX11_image_29 : decode cX11_image 29 = .ok (.aload_n 0, 1) := by decide +kernel
theorem dX11_image_30 : decode cX11_image 30 = .ok (.getfield 19, 3) := by decide +kernel
theorem dX11_image_33 : decode cX11_image 33 = .ok (.getfield 178, 3) := by decide +kernel
theorem dX11_image_36 : decode cX11_image 36 = .ok (.invokestatic 192, 3) := by decide +kernel
theorem dX11_image_39 : decode cX11_image 39 = .ok (.ireturn, 1) := by decide +kernel
theorem dX11_back_0 : decode cX11_back 0 = .ok (.iload_n 1, 1) := by decide +kernel
theorem dX11_back_1 : decode cX11_back 1 = .ok (.invokestatic 253, 3) := by decide +kernel
theorem dX11_back_4 : decode cX11_back 4 = .ok (.ifCond .ne 5, 3) := by decide +kernel
theorem dX11_back_7 : decode cX11_back 7 = .ok (.iconst (-1), 1) := by decide +kernel
theorem dX11_back_8 : decode cX11_back 8 = .ok (.ireturn, 1) := by decide +kernel
theorem dX11_back_9 : decode cX11_back 9 = .ok (.aload_n 0, 1) := by decide +kernel
theorem dX11_back_10 : decode cX11_back 10 = .ok (.getfield 52, 3) := by decide +kernel
theorem dX11_back_13 : decode cX11_back 13 = .ok (.iload_n 1, 1) := by decide +kernel
theorem dX11_back_14 : decode cX11_back 14 = .ok (.aaload, 1) := by decide +kernel
theorem dX11_back_15 : decode cX11_back 15 = .ok (.astore_n 2, 1) := by decide +kernel
theorem dX11_back_16 : decode cX11_back 16 = .ok (.aload_n 2, 1) := by decide +kernel
theorem dX11_back_17 : decode cX11_back 17 = .ok (.getfield 269, 3) := by decide +kernel
theorem dX11_back_20 : decode cX11_back 20 = .ok (.iconst 5, 1) := by decide +kernel
theorem dX11_back_21 : decode cX11_back 21 = .ok (.if_icmp .eq 22, 3) := by decide +kernel
theorem dX11_back_24 : decode cX11_back 24 = .ok (.aload_n 0, 1) := by decide +kernel
theorem dX11_back_25 : decode cX11_back 25 = .ok (.aload_n 2, 1) := by decide +kernel
theorem dX11_back_26 : decode cX11_back 26 = .ok (.getfield 269, 3) := by decide +kernel
theorem dX11_back_29 : decode cX11_back 29 = .ok (.ifCond .ne 8, 3) := by decide +kernel
theorem dX11_back_32 : decode cX11_back 32 = .ok (.bipush (-11), 2) := by decide +kernel
theorem dX11_back_34 : decode cX11_back 34 = .ok (.goto 5, 3) := by decide +kernel
theorem dX11_back_37 : decode cX11_back 37 = .ok (.bipush (-12), 2) := by decide +kernel
theorem dX11_back_39 : decode cX11_back 39 = .ok (.invokevirtual 256, 3) := by decide +kernel
theorem dX11_back_42 : decode cX11_back 42 = .ok (.ireturn, 1) := by decide +kernel
theorem dX11_back_43 : decode cX11_back 43 = .ok (.aload_n 2, 1) := by decide +kernel
theorem dX11_back_44 : decode cX11_back 44 = .ok (.getfield 272, 3) := by decide +kernel
theorem dX11_back_47 : decode cX11_back 47 = .ok (.aload_n 0, 1) := by decide +kernel
theorem dX11_back_48 : decode cX11_back 48 = .ok (.getfield 10, 3) := by decide +kernel
theorem dX11_back_51 : decode cX11_back 51 = .ok (.getfield 262, 3) := by decide +kernel
theorem dX11_back_54 : decode cX11_back 54 = .ok (.if_icmp .eq 6, 3) := by decide +kernel
theorem dX11_back_57 : decode cX11_back 57 = .ok (.bipush (-7), 2) := by decide +kernel
theorem dX11_back_59 : decode cX11_back 59 = .ok (.ireturn, 1) := by decide +kernel
theorem dX11_back_60 : decode cX11_back 60 = .ok (.aload_n 0, 1) := by decide +kernel
theorem dX11_back_61 : decode cX11_back 61 = .ok (.getfield 19, 3) := by decide +kernel
theorem dX11_back_64 : decode cX11_back 64 = .ok (.aload_n 2, 1) := by decide +kernel
theorem dX11_back_65 : decode cX11_back 65 = .ok (.getfield 273, 3) := by decide +kernel
theorem dX11_back_68 : decode cX11_back 68 = .ok (.invokevirtual 276, 3) := by decide +kernel
theorem dX11_back_71 : decode cX11_back 71 = .ok (.aload_n 0, 1) := by decide +kernel
theorem dX11_back_72 : decode cX11_back 72 = .ok (.getfield 19, 3) := by decide +kernel
theorem dX11_back_75 : decode cX11_back 75 = .ok (.getfield 178, 3) := by decide +kernel
theorem dX11_back_78 : decode cX11_back 78 = .ok (.invokestatic 192, 3) := by decide +kernel
theorem dX11_back_81 : decode cX11_back 81 = .ok (.ireturn, 1) := by decide +kernel
theorem dX11_play_0 : decode cX11_play 0 = .ok (.iload_n 1, 1) := by decide +kernel
theorem dX11_play_1 : decode cX11_play 1 = .ok (.invokestatic 253, 3) := by decide +kernel
theorem dX11_play_4 : decode cX11_play 4 = .ok (.ifCond .eq 13, 3) := by decide +kernel
theorem dX11_play_7 : decode cX11_play 7 = .ok (.iload_n 3, 1) := by decide +kernel
theorem dX11_play_8 : decode cX11_play 8 = .ok (.ifCond .lt 9, 3) := by decide +kernel
theorem dX11_play_11 : decode cX11_play 11 = .ok (.iload_n 3, 1) := by decide +kernel
theorem dX11_play_12 : decode cX11_play 12 = .ok (.bipush 64, 2) := by decide +kernel
theorem dX11_play_14 : decode cX11_play 14 = .ok (.if_icmp .le 5, 3) := by decide +kernel
theorem dX11_play_17 : decode cX11_play 17 = .ok (.iconst (-1), 1) := by decide +kernel
theorem dX11_play_18 : decode cX11_play 18 = .ok (.ireturn, 1) := by decide +kernel
theorem dX11_play_19 : decode cX11_play 19 = .ok (.aload_n 0, 1) := by decide +kernel
theorem dX11_play_20 : decode cX11_play 20 = .ok (.getfield 52, 3) := by decide +kernel
theorem dX11_play_23 : decode cX11_play 23 = .ok (.iload_n 1, 1) := by decide +kernel
theorem dX11_play_24 : decode cX11_play 24 = .ok (.aaload, 1) := by decide +kernel
theorem dX11_play_25 : decode cX11_play 25 = .ok (.astore 4, 2) := by decide +kernel
theorem dX11_play_27 : decode cX11_play 27 = .ok (.aload 4, 2) := by decide +kernel
theorem dX11_play_29 : decode cX11_play 29 = .ok (.getfield 269, 3) := by decide +kernel
theorem dX11_play_32 : decode cX11_play 32 = .ok (.iconst 3, 1) := by decide +kernel
theorem dX11_play_33 : decode cX11_play 33 = .ok (.if_icmp .eq 23, 3) := by decide +kernel
theorem dX11_play_36 : decode cX11_play 36 = .ok (.aload_n 0, 1) := by decide +kernel
theorem dX11_play_37 : decode cX11_play 37 = .ok (.aload 4, 2) := by decide +kernel
theorem dX11_play_39 : decode cX11_play 39 = .ok (.getfield 269, 3) := by decide +kernel
theorem dX11_play_42 : decode cX11_play 42 = .ok (.ifCond .ne 8, 3) := by decide +kernel
theorem dX11_play_45 : decode cX11_play 45 = .ok (.bipush (-11), 2) := by decide +kernel
theorem dX11_play_47 : decode cX11_play 47 = .ok (.goto 5, 3) := by decide +kernel
theorem dX11_play_50 : decode cX11_play 50 = .ok (.bipush (-12), 2) := by decide +kernel
theorem dX11_play_52 : decode cX11_play 52 = .ok (.invokevirtual 256, 3) := by decide +kernel
theorem dX11_play_55 : decode cX11_play 55 = .ok (.ireturn, 1) := by decide +kernel
theorem dX11_play_56 : decode cX11_play 56 = .ok (.aload_n 0, 1) := by decide +kernel
theorem dX11_play_57 : decode cX11_play 57 = .ok (.getfield 10, 3) := by decide +kernel
theorem dX11_play_60 : decode cX11_play 60 = .ok (.invokevirtual 156, 3) := by decide +kernel
theorem dX11_play_63 : decode cX11_play 63 = .ok (.iconst 0, 1) := by decide +kernel
theorem dX11_play_64 : decode cX11_play 64 = .ok (.istore 5, 2) := by decide +kernel
theorem dX11_play_66 : decode cX11_play 66 = .ok (.iload 5, 2) := by decide +kernel
theorem dX11_play_68 : decode cX11_play 68 = .ok (.iload_n 3, 1) := by decide +kernel
theorem dX11_play_69 : decode cX11_play 69 = .ok (.if_icmp .ge 68, 3) := by decide +kernel
theorem dX11_play_72 : decode cX11_play 72 = .ok (.aload 4, 2) := by decide +kernel
theorem dX11_play_74 : decode cX11_play 74 = .ok (.iload_n 2, 1) := by decide +kernel
theorem dX11_play_75 : decode cX11_play 75 = .ok (.iload 5, 2) := by decide +kernel
theorem dX11_play_77 : decode cX11_play 77 = .ok (.iadd, 1) := by decide +kernel
theorem dX11_play_78 : decode cX11_play 78 = .ok (.invokevirtual 285, 3) := by decide +kernel
theorem dX11_play_81 : decode cX11_play 81 = .ok (.ifCond .ne 10, 3) := by decide +kernel
theorem dX11_play_84 : decode cX11_play 84 = .ok (.aload_n 0, 1) := by decide +kernel
theorem dX11_play_85 : decode cX11_play 85 = .ok (.bipush (-13), 2) := by decide +kernel
theorem dX11_play_87 : decode cX11_play 87 = .ok (.invokevirtual 256, 3) := by decide +kernel
theorem dX11_play_90 : decode cX11_play 90 = .ok (.ireturn, 1) := by decide +kernel
theorem dX11_play_91 : decode cX11_play 91 = .ok (.aload 4, 2) := by decide +kernel
theorem dX11_play_93 : decode cX11_play 93 = .ok (.getfield 288, 3) := by decide +kernel
theorem dX11_play_96 : decode cX11_play 96 = .ok (.iload_n 2, 1) := by decide +kernel
theorem dX11_play_97 : decode cX11_play 97 = .ok (.iload 5, 2) := by decide +kernel
theorem dX11_play_99 : decode cX11_play 99 = .ok (.iadd, 1) := by decide +kernel
theorem dX11_play_100 : decode cX11_play 100 = .ok (.laload, 1) := by decide +kernel
theorem dX11_play_101 : decode cX11_play 101 = .ok (.l2i, 1) := by decide +kernel
theorem dX11_play_102 : decode cX11_play 102 = .ok (.istore 6, 2) := by decide +kernel
theorem dX11_play_104 : decode cX11_play 104 = .ok (.aload_n 0, 1) := by decide +kernel
theorem dX11_play_105 : decode cX11_play 105 = .ok (.getfield 10, 3) := by decide +kernel
theorem dX11_play_108 : decode cX11_play 108 = .ok (.iload 6, 2) := by decide +kernel
theorem dX11_play_110 : decode cX11_play 110 = .ok (.invokevirtual 125, 3) := by decide +kernel
theorem dX11_play_113 : decode cX11_play 113 = .ok (.ifCond .eq 15, 3) := by decide +kernel
theorem dX11_play_116 : decode cX11_play 116 = .ok (.aload_n 0, 1) := by decide +kernel
theorem dX11_play_117 : decode cX11_play 117 = .ok (.getfield 37, 3) := by decide +kernel
theorem dX11_play_120 : decode cX11_play 120 = .ok (.iload 6, 2) := by decide +kernel
theorem dX11_play_122 : decode cX11_play 122 = .ok (.invokevirtual 189, 3) := by decide +kernel
theorem dX11_play_125 : decode cX11_play 125 = .ok (.ifCond .ne 6, 3) := by decide +kernel
theorem dX11_play_128 : decode cX11_play 128 = .ok (.iload 5, 2) := by decide +kernel
theorem dX11_play_130 : decode cX11_play 130 = .ok (.ireturn, 1) := by decide +kernel
theorem dX11_play_131 : decode cX11_play 131 = .ok (.iinc 5 1, 3) := by decide +kernel
theorem dX11_play_134 : decode cX11_play 134 = .ok (.goto (-68), 3) := by decide +kernel
theorem dX11_play_137 : decode cX11_play 137 = .ok (.iload_n 3, 1) := by decide +kernel
theorem dX11_play_138 : decode cX11_play 138 = .ok (.ireturn, 1) := by decide +kernel
theorem dX11_clear_0 : decode cX11_clear 0 = .ok (.iload_n 1, 1) := by decide +kernel
theorem dX11_clear_1 : decode cX11_clear 1 = .ok (.invokestatic 253, 3) := by decide +kernel
theorem dX11_clear_4 : decode cX11_clear 4 = .ok (.ifCond .ne 5, 3) := by decide +kernel
theorem dX11_clear_7 : decode cX11_clear 7 = .ok (.iconst (-1), 1) := by decide +kernel
theorem dX11_clear_8 : decode cX11_clear 8 = .ok (.ireturn, 1) := by decide +kernel
theorem dX11_clear_9 : decode cX11_clear 9 = .ok (.aload_n 0, 1) := by decide +kernel
theorem dX11_clear_10 : decode cX11_clear 10 = .ok (.getfield 52, 3) := by decide +kernel
theorem dX11_clear_13 : decode cX11_clear 13 = .ok (.iload_n 1, 1) := by decide +kernel
theorem dX11_clear_14 : decode cX11_clear 14 = .ok (.aaload, 1) := by decide +kernel
theorem dX11_clear_15 : decode cX11_clear 15 = .ok (.getfield 269, 3) := by decide +kernel
theorem dX11_clear_18 : decode cX11_clear 18 = .ok (.istore_n 2, 1) := by decide +kernel
theorem dX11_clear_19 : decode cX11_clear 19 = .ok (.aload_n 0, 1) := by decide +kernel
theorem dX11_clear_20 : decode cX11_clear 20 = .ok (.getfield 52, 3) := by decide +kernel
theorem dX11_clear_23 : decode cX11_clear 23 = .ok (.iload_n 1, 1) := by decide +kernel
theorem dX11_clear_24 : decode cX11_clear 24 = .ok (.aaload, 1) := by decide +kernel
theorem dX11_clear_25 : decode cX11_clear 25 = .ok (.iconst 0, 1) := by decide +kernel
theorem dX11_clear_26 : decode cX11_clear 26 = .ok (.putfield 269, 3) := by decide +kernel
theorem dX11_clear_29 : decode cX11_clear 29 = .ok (.iload_n 2, 1) := by decide +kernel
theorem dX11_clear_30 : decode cX11_clear 30 = .ok (.ireturn, 1) := by decide +kernel
theorem dX11_put_0 : decode cX11_put 0 = .ok (.iload_n 1, 1) := by decide +kernel
theorem dX11_put_1 : decode cX11_put 1 = .ok (.invokestatic 253, 3) := by decide +kernel
theorem dX11_put_4 : decode cX11_put 4 = .ok (.ifCond .ne 5, 3) := by decide +kernel
theorem dX11_put_7 : decode cX11_put 7 = .ok (.iconst (-1), 1) := by decide +kernel
theorem dX11_put_8 : decode cX11_put 8 = .ok (.ireturn, 1) := by decide +kernel
theorem dX11_put_9 : decode cX11_put 9 = .ok (.aload_n 0, 1) := by decide +kernel
theorem dX11_put_10 : decode cX11_put 10 = .ok (.getfield 52, 3) := by decide +kernel
theorem dX11_put_13 : decode cX11_put 13 = .ok (.iload_n 1, 1) := by decide +kernel
theorem dX11_put_14 : decode cX11_put 14 = .ok (.aaload, 1) := by decide +kernel
theorem dX11_put_15 : decode cX11_put 15 = .ok (.astore 5, 2) := by decide +kernel
theorem dX11_put_17 : decode cX11_put 17 = .ok (.aload 5, 2) := by decide +kernel
theorem dX11_put_19 : decode cX11_put 19 = .ok (.invokevirtual 292, 3) := by decide +kernel
theorem dX11_put_22 : decode cX11_put 22 = .ok (.ifCond .ne 23, 3) := by decide +kernel
theorem dX11_put_25 : decode cX11_put 25 = .ok (.aload_n 0, 1) := by decide +kernel
theorem dX11_put_26 : decode cX11_put 26 = .ok (.aload 5, 2) := by decide +kernel
theorem dX11_put_28 : decode cX11_put 28 = .ok (.getfield 269, 3) := by decide +kernel
theorem dX11_put_31 : decode cX11_put 31 = .ok (.ifCond .ne 8, 3) := by decide +kernel
theorem dX11_put_34 : decode cX11_put 34 = .ok (.bipush (-11), 2) := by decide +kernel
theorem dX11_put_36 : decode cX11_put 36 = .ok (.goto 5, 3) := by decide +kernel
theorem dX11_put_39 : decode cX11_put 39 = .ok (.bipush (-12), 2) := by decide +kernel
theorem dX11_put_41 : decode cX11_put 41 = .ok (.invokevirtual 256, 3) := by decide +kernel
theorem dX11_put_44 : decode cX11_put 44 = .ok (.ireturn, 1) := by decide +kernel
theorem dX11_put_45 : decode cX11_put 45 = .ok (.aload 5, 2) := by decide +kernel
theorem dX11_put_47 : decode cX11_put 47 = .ok (.iload_n 2, 1) := by decide +kernel
theorem dX11_put_48 : decode cX11_put 48 = .ok (.invokevirtual 285, 3) := by decide +kernel
theorem dX11_put_51 : decode cX11_put 51 = .ok (.ifCond .ne 10, 3) := by decide +kernel
theorem dX11_put_54 : decode cX11_put 54 = .ok (.aload_n 0, 1) := by decide +kernel
theorem dX11_put_55 : decode cX11_put 55 = .ok (.bipush (-13), 2) := by decide +kernel
theorem dX11_put_57 : decode cX11_put 57 = .ok (.invokevirtual 256, 3) := by decide +kernel
theorem dX11_put_60 : decode cX11_put 60 = .ok (.ireturn, 1) := by decide +kernel
theorem dX11_put_61 : decode cX11_put 61 = .ok (.aload 5, 2) := by decide +kernel
theorem dX11_put_63 : decode cX11_put 63 = .ok (.getfield 288, 3) := by decide +kernel
theorem dX11_put_66 : decode cX11_put 66 = .ok (.iload_n 2, 1) := by decide +kernel
theorem dX11_put_67 : decode cX11_put 67 = .ok (.aload 5, 2) := by decide +kernel
theorem dX11_put_69 : decode cX11_put 69 = .ok (.lload_n 3, 1) := by decide +kernel
theorem dX11_put_70 : decode cX11_put 70 = .ok (.invokevirtual 296, 3) := by decide +kernel
theorem dX11_put_73 : decode cX11_put 73 = .ok (.lastore, 1) := by decide +kernel
theorem dX11_put_74 : decode cX11_put 74 = .ok (.iconst 1, 1) := by decide +kernel
theorem dX11_put_75 : decode cX11_put 75 = .ok (.ireturn, 1) := by decide +kernel
theorem dX11_copy_0 : decode cX11_copy 0 = .ok (.iload_n 1, 1) := by decide +kernel
theorem dX11_copy_1 : decode cX11_copy 1 = .ok (.invokestatic 253, 3) := by decide +kernel
theorem dX11_copy_4 : decode cX11_copy 4 = .ok (.ifCond .eq 10, 3) := by decide +kernel
theorem dX11_copy_7 : decode cX11_copy 7 = .ok (.iload_n 3, 1) := by decide +kernel
theorem dX11_copy_8 : decode cX11_copy 8 = .ok (.invokestatic 253, 3) := by decide +kernel
theorem dX11_copy_11 : decode cX11_copy 11 = .ok (.ifCond .ne 5, 3) := by decide +kernel
theorem dX11_copy_14 : decode cX11_copy 14 = .ok (.iconst (-1), 1) := by decide +kernel
theorem dX11_copy_15 : decode cX11_copy 15 = .ok (.ireturn, 1) := by decide +kernel
theorem dX11_copy_16 : decode cX11_copy 16 = .ok (.aload_n 0, 1) := by decide +kernel
theorem dX11_copy_17 : decode cX11_copy 17 = .ok (.getfield 52, 3) := by decide +kernel
theorem dX11_copy_20 : decode cX11_copy 20 = .ok (.iload_n 1, 1) := by decide +kernel
theorem dX11_copy_21 : decode cX11_copy 21 = .ok (.aaload, 1) := by decide +kernel
theorem dX11_copy_22 : decode cX11_copy 22 = .ok (.astore 6, 2) := by decide +kernel
theorem dX11_copy_24 : decode cX11_copy 24 = .ok (.aload_n 0, 1) := by decide +kernel
theorem dX11_copy_25 : decode cX11_copy 25 = .ok (.getfield 52, 3) := by decide +kernel
theorem dX11_copy_28 : decode cX11_copy 28 = .ok (.iload_n 3, 1) := by decide +kernel
theorem dX11_copy_29 : decode cX11_copy 29 = .ok (.aaload, 1) := by decide +kernel
theorem dX11_copy_30 : decode cX11_copy 30 = .ok (.astore 7, 2) := by decide +kernel
theorem dX11_copy_32 : decode cX11_copy 32 = .ok (.aload 6, 2) := by decide +kernel
theorem dX11_copy_34 : decode cX11_copy 34 = .ok (.getfield 269, 3) := by decide +kernel
theorem dX11_copy_37 : decode cX11_copy 37 = .ok (.ifCond .eq 11, 3) := by decide +kernel
theorem dX11_copy_40 : decode cX11_copy 40 = .ok (.aload 7, 2) := by decide +kernel
theorem dX11_copy_42 : decode cX11_copy 42 = .ok (.getfield 269, 3) := by decide +kernel
theorem dX11_copy_45 : decode cX11_copy 45 = .ok (.ifCond .ne 10, 3) := by decide +kernel
theorem dX11_copy_48 : decode cX11_copy 48 = .ok (.aload_n 0, 1) := by decide +kernel
theorem dX11_copy_49 : decode cX11_copy 49 = .ok (.bipush (-11), 2) := by decide +kernel
theorem dX11_copy_51 : decode cX11_copy 51 = .ok (.invokevirtual 256, 3) := by decide +kernel
theorem dX11_copy_54 : decode cX11_copy 54 = .ok (.ireturn, 1) := by decide +kernel
theorem dX11_copy_55 : decode cX11_copy 55 = .ok (.aload 6, 2) := by decide +kernel
theorem dX11_copy_57 : decode cX11_copy 57 = .ok (.invokevirtual 292, 3) := by decide +kernel
theorem dX11_copy_60 : decode cX11_copy 60 = .ok (.ifCond .eq 16, 3) := by decide +kernel
theorem dX11_copy_63 : decode cX11_copy 63 = .ok (.aload 6, 2) := by decide +kernel
theorem dX11_copy_65 : decode cX11_copy 65 = .ok (.getfield 269, 3) := by decide +kernel
theorem dX11_copy_68 : decode cX11_copy 68 = .ok (.aload 7, 2) := by decide +kernel
theorem dX11_copy_70 : decode cX11_copy 70 = .ok (.getfield 269, 3) := by decide +kernel
theorem dX11_copy_73 : decode cX11_copy 73 = .ok (.if_icmp .eq 10, 3) := by decide +kernel
theorem dX11_copy_76 : decode cX11_copy 76 = .ok (.aload_n 0, 1) := by decide +kernel
theorem dX11_copy_77 : decode cX11_copy 77 = .ok (.bipush (-12), 2) := by decide +kernel
theorem dX11_copy_79 : decode cX11_copy 79 = .ok (.invokevirtual 256, 3) := by decide +kernel
theorem dX11_copy_82 : decode cX11_copy 82 = .ok (.ireturn, 1) := by decide +kernel
theorem dX11_copy_83 : decode cX11_copy 83 = .ok (.aload 6, 2) := by decide +kernel
theorem dX11_copy_85 : decode cX11_copy 85 = .ok (.iload_n 2, 1) := by decide +kernel
theorem dX11_copy_86 : decode cX11_copy 86 = .ok (.iload 5, 2) := by decide +kernel
theorem dX11_copy_88 : decode cX11_copy 88 = .ok (.invokevirtual 310, 3) := by decide +kernel
theorem dX11_copy_91 : decode cX11_copy 91 = .ok (.ifCond .eq 15, 3) := by decide +kernel
theorem dX11_copy_94 : decode cX11_copy 94 = .ok (.aload 7, 2) := by decide +kernel
theorem dX11_copy_96 : decode cX11_copy 96 = .ok (.iload 4, 2) := by decide +kernel
theorem dX11_copy_98 : decode cX11_copy 98 = .ok (.iload 5, 2) := by decide +kernel
theorem dX11_copy_100 : decode cX11_copy 100 = .ok (.invokevirtual 310, 3) := by decide +kernel
theorem dX11_copy_103 : decode cX11_copy 103 = .ok (.ifCond .ne 10, 3) := by decide +kernel
theorem dX11_copy_106 : decode cX11_copy 106 = .ok (.aload_n 0, 1) := by decide +kernel
theorem dX11_copy_107 : decode cX11_copy 107 = .ok (.bipush (-13), 2) := by decide +kernel
theorem dX11_copy_109 : decode cX11_copy 109 = .ok (.invokevirtual 256, 3) := by decide +kernel
theorem dX11_copy_112 : decode cX11_copy 112 = .ok (.ireturn, 1) := by decide +kernel
theorem dX11_copy_113 : decode cX11_copy 113 = .ok (.aload 6, 2) := by decide +kernel
theorem dX11_copy_115 : decode cX11_copy 115 = .ok (.getfield 288, 3) := by decide +kernel
theorem dX11_copy_118 : decode cX11_copy 118 = .ok (.iload_n 2, 1) := by decide +kernel
theorem dX11_copy_119 : decode cX11_copy 119 = .ok (.aload 7, 2) := by decide +kernel
theorem dX11_copy_121 : decode cX11_copy 121 = .ok (.getfield 288, 3) := by decide +kernel
theorem dX11_copy_124 : decode cX11_copy 124 = .ok (.iload 4, 2) := by decide +kernel
theorem dX11_copy_126 : decode cX11_copy 126 = .ok (.iload 5, 2) := by decide +kernel
theorem dX11_copy_128 : decode cX11_copy 128 = .ok (.invokestatic 313, 3) := by decide +kernel
theorem dX11_copy_131 : decode cX11_copy 131 = .ok (.iload 5, 2) := by decide +kernel
theorem dX11_copy_133 : decode cX11_copy 133 = .ok (.ireturn, 1) := by decide +kernel
theorem dX11_count_0 : decode cX11_count 0 = .ok (.iload_n 1, 1) := by decide +kernel
theorem dX11_count_1 : decode cX11_count 1 = .ok (.tableswitch 123 0 8 #[51, 59, 67, 75, 83, 94, 102, 110, 118], 51) := by decide +kernel
theorem dX11_count_52 : decode cX11_count 52 = .ok (.aload_n 0, 1) := by decide +kernel
theorem dX11_count_53 : decode cX11_count 53 = .ok (.getfield 10, 3) := by decide +kernel
theorem dX11_count_56 : decode cX11_count 56 = .ok (.getfield 319, 3) := by decide +kernel
theorem dX11_count_59 : decode cX11_count 59 = .ok (.ireturn, 1) := by decide +kernel
theorem dX11_count_60 : decode cX11_count 60 = .ok (.aload_n 0, 1) := by decide +kernel
theorem dX11_count_61 : decode cX11_count 61 = .ok (.getfield 10, 3) := by decide +kernel
theorem dX11_count_64 : decode cX11_count 64 = .ok (.getfield 85, 3) := by decide +kernel
theorem dX11_count_67 : decode cX11_count 67 = .ok (.ireturn, 1) := by decide +kernel
theorem dX11_count_68 : decode cX11_count 68 = .ok (.aload_n 0, 1) := by decide +kernel
theorem dX11_count_69 : decode cX11_count 69 = .ok (.getfield 10, 3) := by decide +kernel
theorem dX11_count_72 : decode cX11_count 72 = .ok (.getfield 111, 3) := by decide +kernel
theorem dX11_count_75 : decode cX11_count 75 = .ok (.ireturn, 1) := by decide +kernel
theorem dX11_count_76 : decode cX11_count 76 = .ok (.aload_n 0, 1) := by decide +kernel
theorem dX11_count_77 : decode cX11_count 77 = .ok (.getfield 10, 3) := by decide +kernel
theorem dX11_count_80 : decode cX11_count 80 = .ok (.getfield 118, 3) := by decide +kernel
theorem dX11_count_83 : decode cX11_count 83 = .ok (.ireturn, 1) := by decide +kernel
theorem dX11_count_84 : decode cX11_count 84 = .ok (.aload_n 0, 1) := by decide +kernel
theorem dX11_count_85 : decode cX11_count 85 = .ok (.getfield 19, 3) := by decide +kernel
theorem dX11_count_88 : decode cX11_count 88 = .ok (.getfield 178, 3) := by decide +kernel
theorem dX11_count_91 : decode cX11_count 91 = .ok (.invokestatic 192, 3) := by decide +kernel
theorem dX11_count_94 : decode cX11_count 94 = .ok (.ireturn, 1) := by decide +kernel
theorem dX11_count_95 : decode cX11_count 95 = .ok (.aload_n 0, 1) := by decide +kernel
theorem dX11_count_96 : decode cX11_count 96 = .ok (.getfield 19, 3) := by decide +kernel
theorem dX11_count_99 : decode cX11_count 99 = .ok (.getfield 322, 3) := by decide +kernel
theorem dX11_count_102 : decode cX11_count 102 = .ok (.ireturn, 1) := by decide +kernel
theorem dX11_count_103 : decode cX11_count 103 = .ok (.aload_n 0, 1) := by decide +kernel
theorem dX11_count_104 : decode cX11_count 104 = .ok (.getfield 19, 3) := by decide +kernel
theorem dX11_count_107 : decode cX11_count 107 = .ok (.getfield 182, 3) := by decide +kernel
theorem dX11_count_110 : decode cX11_count 110 = .ok (.ireturn, 1) := by decide +kernel
theorem dX11_count_111 : decode cX11_count 111 = .ok (.aload_n 0, 1) := by decide +kernel
theorem dX11_count_112 : decode cX11_count 112 = .ok (.getfield 10, 3) := by decide +kernel
theorem dX11_count_115 : decode cX11_count 115 = .ok (.getfield 325, 3) := by decide +kernel
theorem dX11_count_118 : decode cX11_count 118 = .ok (.ireturn, 1) := by decide +kernel
theorem dX11_count_119 : decode cX11_count 119 = .ok (.aload_n 0, 1) := by decide +kernel
theorem dX11_count_120 : decode cX11_count 120 = .ok (.getfield 57, 3) := by decide +kernel
theorem dX11_count_123 : decode cX11_count 123 = .ok (.ireturn, 1) := by decide +kernel
theorem dX11_count_124 : decode cX11_count 124 = .ok (.iconst (-1), 1) := by decide +kernel
theorem dX11_count_125 : decode cX11_count 125 = .ok (.ireturn, 1) := by decide +kernel
