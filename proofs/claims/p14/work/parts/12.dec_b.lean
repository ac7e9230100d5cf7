theorem dX12_in_0 : decode cX12_in 0 = .ok (.iload_n 0, 1) := by decide +kernel
theorem dX12_in_1 : decode cX12_in 1 = .ok (.iload_n 1, 1) := by decide +kernel
theorem dX12_in_2 : decode cX12_in 2 = .ok (.if_icmp .lt 12, 3) := by decide +kernel
theorem dX12_in_5 : decode cX12_in 5 = .ok (.iload_n 0, 1) := by decide +kernel
theorem dX12_in_6 : decode cX12_in 6 = .ok (.iload_n 2, 1) := by decide +kernel
theorem dX12_in_7 : decode cX12_in 7 = .ok (.if_icmp .gt 7, 3) := by decide +kernel
theorem dX12_in_10 : decode cX12_in 10 = .ok (.iconst 1, 1) := by decide +kernel
theorem dX12_in_11 : decode cX12_in 11 = .ok (.goto 4, 3) := by decide +kernel
theorem dX12_in_14 : decode cX12_in 14 = .ok (.iconst 0, 1) := by decide +kernel
theorem dX12_in_15 : decode cX12_in 15 = .ok (.ireturn, 1) := by decide +kernel
theorem dX12_isField_0 : decode cX12_isField 0 = .ok (.iload_n 1, 1) := by decide +kernel
theorem dX12_isField_1 : decode cX12_isField 1 = .ok (.iconst 0, 1) := by decide +kernel
theorem dX12_isField_2 : decode cX12_isField 2 = .ok (.aload_n 0, 1) := by decide +kernel
theorem dX12_isField_3 : decode cX12_isField 3 = .ok (.getfield 181, 3) := by decide +kernel
theorem dX12_isField_6 : decode cX12_isField 6 = .ok (.iconst 1, 1) := by decide +kernel
theorem dX12_isField_7 : decode cX12_isField 7 = .ok (.isub, 1) := by decide +kernel
theorem dX12_isField_8 : decode cX12_isField 8 = .ok (.invokestatic 184, 3) := by decide +kernel
theorem dX12_isField_11 : decode cX12_isField 11 = .ok (.ireturn, 1) := by decide +kernel
theorem dX12_isAct_0 : decode cX12_isAct 0 = .ok (.iload_n 1, 1) := by decide +kernel
theorem dX12_isAct_1 : decode cX12_isAct 1 = .ok (.iconst 0, 1) := by decide +kernel
theorem dX12_isAct_2 : decode cX12_isAct 2 = .ok (.aload_n 0, 1) := by decide +kernel
theorem dX12_isAct_3 : decode cX12_isAct 3 = .ok (.getfield 188, 3) := by decide +kernel
theorem dX12_isAct_6 : decode cX12_isAct 6 = .ok (.iconst 1, 1) := by decide +kernel
theorem dX12_isAct_7 : decode cX12_isAct 7 = .ok (.isub, 1) := by decide +kernel
theorem dX12_isAct_8 : decode cX12_isAct 8 = .ok (.invokestatic 184, 3) := by decide +kernel
theorem dX12_isAct_11 : decode cX12_isAct 11 = .ok (.ireturn, 1) := by decide +kernel
theorem dX12_isRegister_0 : decode cX12_isRegister 0 = .ok (.iload_n 1, 1) := by decide +kernel
theorem dX12_isRegister_1 : decode cX12_isRegister 1 = .ok (.iconst 0, 1) := by decide +kernel
theorem dX12_isRegister_2 : decode cX12_isRegister 2 = .ok (.aload_n 0, 1) := by decide +kernel
theorem dX12_isRegister_3 : decode cX12_isRegister 3 = .ok (.getfield 7, 3) := by decide +kernel
theorem dX12_isRegister_6 : decode cX12_isRegister 6 = .ok (.iconst 1, 1) := by decide +kernel
theorem dX12_isRegister_7 : decode cX12_isRegister 7 = .ok (.isub, 1) := by decide +kernel
theorem dX12_isRegister_8 : decode cX12_isRegister 8 = .ok (.invokestatic 184, 3) := by decide +kernel
theorem dX12_isRegister_11 : decode cX12_isRegister 11 = .ok (.ireturn, 1) := by decide +kernel
theorem dX12_most_0 : decode cX12_most 0 = .ok (.iconst 1, 1) := by decide +kernel
theorem dX12_most_1 : decode cX12_most 1 = .ok (.aload_n 0, 1) := by decide +kernel
theorem dX12_most_2 : decode cX12_most 2 = .ok (.getfield 20, 3) := by decide +kernel
theorem dX12_most_5 : decode cX12_most 5 = .ok (.iload_n 1, 1) := by decide +kernel
theorem dX12_most_6 : decode cX12_most 6 = .ok (.iaload, 1) := by decide +kernel
theorem dX12_most_7 : decode cX12_most 7 = .ok (.ishl, 1) := by decide +kernel
theorem dX12_most_8 : decode cX12_most 8 = .ok (.iconst 1, 1) := by decide +kernel
theorem dX12_most_9 : decode cX12_most 9 = .ok (.isub, 1) := by decide +kernel
theorem dX12_most_10 : decode cX12_most 10 = .ok (.ireturn, 1) := by decide +kernel
theorem dX12_mask_0 : decode cX12_mask 0 = .ok (.aload_n 0, 1) := by decide +kernel
theorem dX12_mask_1 : decode cX12_mask 1 = .ok (.iload_n 1, 1) := by decide +kernel
theorem dX12_mask_2 : decode cX12_mask 2 = .ok (.invokevirtual 191, 3) := by decide +kernel
theorem dX12_mask_5 : decode cX12_mask 5 = .ok (.aload_n 0, 1) := by decide +kernel
theorem dX12_mask_6 : decode cX12_mask 6 = .ok (.getfield 17, 3) := by decide +kernel
theorem dX12_mask_9 : decode cX12_mask 9 = .ok (.iload_n 1, 1) := by decide +kernel
theorem dX12_mask_10 : decode cX12_mask 10 = .ok (.iaload, 1) := by decide +kernel
theorem dX12_mask_11 : decode cX12_mask 11 = .ok (.ishl, 1) := by decide +kernel
theorem dX12_mask_12 : decode cX12_mask 12 = .ok (.ireturn, 1) := by decide +kernel
theorem dX12_refuse_0 : decode cX12_refuse 0 = .ok (.aload_n 0, 1) := by decide +kernel
theorem dX12_refuse_1 : decode cX12_refuse 1 = .ok (.dup, 1) := by decide +kernel
theorem dX12_refuse_2 : decode cX12_refuse 2 = .ok (.getfield 195, 3) := by decide +kernel
theorem dX12_refuse_5 : decode cX12_refuse 5 = .ok (.iconst 1, 1) := by decide +kernel
theorem dX12_refuse_6 : decode cX12_refuse 6 = .ok (.iadd, 1) := by decide +kernel
theorem dX12_refuse_7 : decode cX12_refuse 7 = .ok (.putfield 195, 3) := by decide +kernel
theorem dX12_refuse_10 : decode cX12_refuse 10 = .ok (.iload_n 1, 1) := by decide +kernel
theorem dX12_refuse_11 : decode cX12_refuse 11 = .ok (.ireturn, 1) := by decide +kernel
theorem dX12_powers_0 : decode cX12_powers 0 = .ok (.aload_n 0, 1) := by decide +kernel
theorem dX12_powers_1 : decode cX12_powers 1 = .ok (.iconst 0, 1) := by decide +kernel
theorem dX12_powers_2 : decode cX12_powers 2 = .ok (.putfield 198, 3) := by decide +kernel
theorem dX12_powers_5 : decode cX12_powers 5 = .ok (.aload_n 0, 1) := by decide +kernel
theorem dX12_powers_6 : decode cX12_powers 6 = .ok (.iconst 0, 1) := by decide +kernel
theorem dX12_powers_7 : decode cX12_powers 7 = .ok (.putfield 201, 3) := by decide +kernel
theorem dX12_powers_10 : decode cX12_powers 10 = .ok (.aload_n 0, 1) := by decide +kernel
theorem dX12_powers_11 : decode cX12_powers 11 = .ok (.iconst 0, 1) := by decide +kernel
theorem dX12_powers_12 : decode cX12_powers 12 = .ok (.putfield 204, 3) := by decide +kernel
theorem dX12_powers_15 : decode cX12_powers 15 = .ok (.aload_n 0, 1) := by decide +kernel
theorem dX12_powers_16 : decode cX12_powers 16 = .ok (.iconst (-1), 1) := by decide +kernel
theorem dX12_powers_17 : decode cX12_powers 17 = .ok (.putfield 207, 3) := by decide +kernel
theorem dX12_powers_20 : decode cX12_powers 20 = .ok (.aload_n 0, 1) := by decide +kernel
theorem dX12_powers_21 : decode cX12_powers 21 = .ok (.iconst (-1), 1) := by decide +kernel
theorem dX12_powers_22 : decode cX12_powers 22 = .ok (.putfield 210, 3) := by decide +kernel
theorem dX12_powers_25 : decode cX12_powers 25 = .ok (.aload_n 0, 1) := by decide +kernel
theorem dX12_powers_26 : decode cX12_powers 26 = .ok (.iconst 0, 1) := by decide +kernel
theorem dX12_powers_27 : decode cX12_powers 27 = .ok (.putfield 213, 3) := by decide +kernel
theorem dX12_powers_30 : decode cX12_powers 30 = .ok (.aload_n 0, 1) := by decide +kernel
theorem dX12_powers_31 : decode cX12_powers 31 = .ok (.iconst 0, 1) := by decide +kernel
theorem dX12_powers_32 : decode cX12_powers 32 = .ok (.putfield 216, 3) := by decide +kernel
theorem dX12_powers_35 : decode cX12_powers 35 = .ok (.iconst 0, 1) := by decide +kernel
theorem dX12_powers_36 : decode cX12_powers 36 = .ok (.istore_n 1, 1) := by decide +kernel
theorem dX12_powers_37 : decode cX12_powers 37 = .ok (.iload_n 1, 1) := by decide +kernel
theorem dX12_powers_38 : decode cX12_powers 38 = .ok (.bipush 8, 2) := by decide +kernel
theorem dX12_powers_40 : decode cX12_powers 40 = .ok (.if_icmp .ge 16, 3) := by decide +kernel
theorem dX12_powers_43 : decode cX12_powers 43 = .ok (.aload_n 0, 1) := by decide +kernel
theorem dX12_powers_44 : decode cX12_powers 44 = .ok (.getfield 83, 3) := by decide +kernel
theorem dX12_powers_47 : decode cX12_powers 47 = .ok (.iload_n 1, 1) := by decide +kernel
theorem dX12_powers_48 : decode cX12_powers 48 = .ok (.iconst 0, 1) := by decide +kernel
theorem dX12_powers_49 : decode cX12_powers 49 = .ok (.iastore, 1) := by decide +kernel
theorem dX12_powers_50 : decode cX12_powers 50 = .ok (.iinc 1 1, 3) := by decide +kernel
theorem dX12_powers_53 : decode cX12_powers 53 = .ok (.goto (-16), 3) := by decide +kernel
theorem dX12_powers_56 : decode cX12_powers 56 = .ok (.iconst 0, 1) := by decide +kernel
theorem dX12_powers_57 : decode cX12_powers 57 = .ok (.istore_n 1, 1) := by decide +kernel
theorem dX12_powers_58 : decode cX12_powers 58 = .ok (.iload_n 1, 1) := by decide +kernel
theorem dX12_powers_59 : decode cX12_powers 59 = .ok (.aload_n 0, 1) := by decide +kernel
theorem dX12_powers_60 : decode cX12_powers 60 = .ok (.getfield 181, 3) := by decide +kernel
theorem dX12_powers_63 : decode cX12_powers 63 = .ok (.if_icmp .ge 104, 3) := by decide +kernel
theorem dX12_powers_66 : decode cX12_powers 66 = .ok (.aload_n 0, 1) := by decide +kernel
theorem dX12_powers_67 : decode cX12_powers 67 = .ok (.getfield 68, 3) := by decide +kernel
theorem dX12_powers_70 : decode cX12_powers 70 = .ok (.iload_n 1, 1) := by decide +kernel
theorem dX12_powers_71 : decode cX12_powers 71 = .ok (.aload_n 0, 1) := by decide +kernel
theorem dX12_powers_72 : decode cX12_powers 72 = .ok (.getfield 26, 3) := by decide +kernel
theorem dX12_powers_75 : decode cX12_powers 75 = .ok (.iload_n 1, 1) := by decide +kernel
theorem dX12_powers_76 : decode cX12_powers 76 = .ok (.iaload, 1) := by decide +kernel
theorem dX12_powers_77 : decode cX12_powers 77 = .ok (.iastore, 1) := by decide +kernel
theorem dX12_powers_78 : decode cX12_powers 78 = .ok (.aload_n 0, 1) := by decide +kernel
theorem dX12_powers_79 : decode cX12_powers 79 = .ok (.getfield 71, 3) := by decide +kernel
theorem dX12_powers_82 : decode cX12_powers 82 = .ok (.iload_n 1, 1) := by decide +kernel
theorem dX12_powers_83 : decode cX12_powers 83 = .ok (.aload_n 0, 1) := by decide +kernel
theorem dX12_powers_84 : decode cX12_powers 84 = .ok (.getfield 26, 3) := by decide +kernel
theorem dX12_powers_87 : decode cX12_powers 87 = .ok (.iload_n 1, 1) := by decide +kernel
theorem dX12_powers_88 : decode cX12_powers 88 = .ok (.iaload, 1) := by decide +kernel
theorem dX12_powers_89 : decode cX12_powers 89 = .ok (.iastore, 1) := by decide +kernel
theorem dX12_powers_90 : decode cX12_powers 90 = .ok (.aload_n 0, 1) := by decide +kernel
theorem dX12_powers_91 : decode cX12_powers 91 = .ok (.getfield 74, 3) := by decide +kernel
theorem dX12_powers_94 : decode cX12_powers 94 = .ok (.iload_n 1, 1) := by decide +kernel
theorem dX12_powers_95 : decode cX12_powers 95 = .ok (.iconst 0, 1) := by decide +kernel
theorem dX12_powers_96 : decode cX12_powers 96 = .ok (.iastore, 1) := by decide +kernel
theorem dX12_powers_97 : decode cX12_powers 97 = .ok (.aload_n 0, 1) := by decide +kernel
theorem dX12_powers_98 : decode cX12_powers 98 = .ok (.getfield 77, 3) := by decide +kernel
theorem dX12_powers_101 : decode cX12_powers 101 = .ok (.iload_n 1, 1) := by decide +kernel
theorem dX12_powers_102 : decode cX12_powers 102 = .ok (.iconst 0, 1) := by decide +kernel
theorem dX12_powers_103 : decode cX12_powers 103 = .ok (.iastore, 1) := by decide +kernel
theorem dX12_powers_104 : decode cX12_powers 104 = .ok (.aload_n 0, 1) := by decide +kernel
theorem dX12_powers_105 : decode cX12_powers 105 = .ok (.getfield 80, 3) := by decide +kernel
theorem dX12_powers_108 : decode cX12_powers 108 = .ok (.iload_n 1, 1) := by decide +kernel
theorem dX12_powers_109 : decode cX12_powers 109 = .ok (.iconst (-1), 1) := by decide +kernel
theorem dX12_powers_110 : decode cX12_powers 110 = .ok (.iastore, 1) := by decide +kernel
theorem dX12_powers_111 : decode cX12_powers 111 = .ok (.aload_n 0, 1) := by decide +kernel
theorem dX12_powers_112 : decode cX12_powers 112 = .ok (.getfield 83, 3) := by decide +kernel
theorem dX12_powers_115 : decode cX12_powers 115 = .ok (.aload_n 0, 1) := by decide +kernel
theorem dX12_powers_116 : decode cX12_powers 116 = .ok (.getfield 13, 3) := by decide +kernel
theorem dX12_powers_119 : decode cX12_powers 119 = .ok (.iload_n 1, 1) := by decide +kernel
theorem dX12_powers_120 : decode cX12_powers 120 = .ok (.iaload, 1) := by decide +kernel
theorem dX12_powers_121 : decode cX12_powers 121 = .ok (.dup2, 1) := by decide +kernel
theorem dX12_powers_122 : decode cX12_powers 122 = .ok (.iaload, 1) := by decide +kernel
theorem dX12_powers_123 : decode cX12_powers 123 = .ok (.aload_n 0, 1) := by decide +kernel
theorem dX12_powers_124 : decode cX12_powers 124 = .ok (.getfield 23, 3) := by decide +kernel
theorem dX12_powers_127 : decode cX12_powers 127 = .ok (.iload_n 1, 1) := by decide +kernel
theorem dX12_powers_128 : decode cX12_powers 128 = .ok (.iaload, 1) := by decide +kernel
theorem dX12_powers_129 : decode cX12_powers 129 = .ok (.ifCond .eq 13, 3) := by decide +kernel
theorem dX12_powers_132 : decode cX12_powers 132 = .ok (.aload_n 0, 1) := by decide +kernel
theorem dX12_powers_133 : decode cX12_powers 133 = .ok (.getfield 23, 3) := by decide +kernel
theorem dX12_powers_136 : decode cX12_powers 136 = .ok (.iload_n 1, 1) := by decide +kernel
theorem dX12_powers_137 : decode cX12_powers 137 = .ok (.iaload, 1) := by decide +kernel
theorem dX12_powers_138 : decode cX12_powers 138 = .ok (.iconst 5, 1) := by decide +kernel
theorem dX12_powers_139 : decode cX12_powers 139 = .ok (.if_icmp .ne 19, 3) := by decide +kernel
theorem dX12_powers_142 : decode cX12_powers 142 = .ok (.aload_n 0, 1) := by decide +kernel
theorem dX12_powers_143 : decode cX12_powers 143 = .ok (.getfield 26, 3) := by decide +kernel
theorem dX12_powers_146 : decode cX12_powers 146 = .ok (.iload_n 1, 1) := by decide +kernel
theorem dX12_powers_147 : decode cX12_powers 147 = .ok (.iaload, 1) := by decide +kernel
theorem dX12_powers_148 : decode cX12_powers 148 = .ok (.aload_n 0, 1) := by decide +kernel
theorem dX12_powers_149 : decode cX12_powers 149 = .ok (.getfield 17, 3) := by decide +kernel
theorem dX12_powers_152 : decode cX12_powers 152 = .ok (.iload_n 1, 1) := by decide +kernel
theorem dX12_powers_153 : decode cX12_powers 153 = .ok (.iaload, 1) := by decide +kernel
theorem dX12_powers_154 : decode cX12_powers 154 = .ok (.ishl, 1) := by decide +kernel
theorem dX12_powers_155 : decode cX12_powers 155 = .ok (.goto 4, 3) := by decide +kernel
theorem dX12_powers_158 : decode cX12_powers 158 = .ok (.iconst 0, 1) := by decide +kernel
theorem dX12_powers_159 : decode cX12_powers 159 = .ok (.ior, 1) := by decide +kernel
theorem dX12_powers_160 : decode cX12_powers 160 = .ok (.iastore, 1) := by decide +kernel
theorem dX12_powers_161 : decode cX12_powers 161 = .ok (.iinc 1 1, 3) := by decide +kernel
theorem dX12_powers_164 : decode cX12_powers 164 = .ok (.goto (-106), 3) := by decide +kernel
theorem dX12_powers_167 : decode cX12_powers 167 = .ok (.return_, 1) := by decide +kernel
theorem dX12_changed_0 : decode cX12_changed 0 = .ok (.aload_n 0, 1) := by decide +kernel
theorem dX12_changed_1 : decode cX12_changed 1 = .ok (.dup, 1) := by decide +kernel
theorem dX12_changed_2 : decode cX12_changed 2 = .ok (.getfield 219, 3) := by decide +kernel
theorem dX12_changed_5 : decode cX12_changed 5 = .ok (.iconst 1, 1) := by decide +kernel
theorem dX12_changed_6 : decode cX12_changed 6 = .ok (.iadd, 1) := by decide +kernel
theorem dX12_changed_7 : decode cX12_changed 7 = .ok (.putfield 219, 3) := by decide +kernel
theorem dX12_changed_10 : decode cX12_changed 10 = .ok (.aload_n 0, 1) := by decide +kernel
theorem dX12_changed_11 : decode cX12_changed 11 = .ok (.invokevirtual 222, 3) := by decide +kernel
theorem dX12_changed_14 : decode cX12_changed 14 = .ok (.return_, 1) := by decide +kernel
theorem dX12_begin_0 : decode cX12_begin 0 = .ok (.iload_n 1, 1) := by decide +kernel
theorem dX12_begin_1 : decode cX12_begin 1 = .ok (.iconst 1, 1) := by decide +kernel
theorem dX12_begin_2 : decode cX12_begin 2 = .ok (.bipush 8, 2) := by decide +kernel
theorem dX12_begin_4 : decode cX12_begin 4 = .ok (.invokestatic 184, 3) := by decide +kernel
theorem dX12_begin_7 : decode cX12_begin 7 = .ok (.ifCond .ne 5, 3) := by decide +kernel
theorem dX12_begin_10 : decode cX12_begin 10 = .ok (.iconst (-1), 1) := by decide +kernel
theorem dX12_begin_11 : decode cX12_begin 11 = .ok (.ireturn, 1) := by decide +kernel
theorem dX12_begin_12 : decode cX12_begin 12 = .ok (.aload_n 0, 1) := by decide +kernel
theorem dX12_begin_13 : decode cX12_begin 13 = .ok (.iload_n 1, 1) := by decide +kernel
theorem dX12_begin_14 : decode cX12_begin 14 = .ok (.putfield 7, 3) := by decide +kernel
theorem dX12_begin_17 : decode cX12_begin 17 = .ok (.aload_n 0, 1) := by decide +kernel
theorem dX12_begin_18 : decode cX12_begin 18 = .ok (.iconst 0, 1) := by decide +kernel
theorem dX12_begin_19 : decode cX12_begin 19 = .ok (.putfield 181, 3) := by decide +kernel
theorem dX12_begin_22 : decode cX12_begin 22 = .ok (.aload_n 0, 1) := by decide +kernel
theorem dX12_begin_23 : decode cX12_begin 23 = .ok (.iconst 0, 1) := by decide +kernel
theorem dX12_begin_24 : decode cX12_begin 24 = .ok (.putfield 225, 3) := by decide +kernel
theorem dX12_begin_27 : decode cX12_begin 27 = .ok (.aload_n 0, 1) := by decide +kernel
theorem dX12_begin_28 : decode cX12_begin 28 = .ok (.iconst 0, 1) := by decide +kernel
theorem dX12_begin_29 : decode cX12_begin 29 = .ok (.putfield 188, 3) := by decide +kernel
theorem dX12_begin_32 : decode cX12_begin 32 = .ok (.aload_n 0, 1) := by decide +kernel
theorem dX12_begin_33 : decode cX12_begin 33 = .ok (.iconst 1, 1) := by decide +kernel
theorem dX12_begin_34 : decode cX12_begin 34 = .ok (.putfield 65, 3) := by decide +kernel
theorem dX12_begin_37 : decode cX12_begin 37 = .ok (.aload_n 0, 1) := by decide +kernel
theorem dX12_begin_38 : decode cX12_begin 38 = .ok (.iconst 0, 1) := by decide +kernel
theorem dX12_begin_39 : decode cX12_begin 39 = .ok (.putfield 195, 3) := by decide +kernel
theorem dX12_begin_42 : decode cX12_begin 42 = .ok (.aload_n 0, 1) := by decide +kernel
theorem dX12_begin_43 : decode cX12_begin 43 = .ok (.iconst (-1), 1) := by decide +kernel
theorem dX12_begin_44 : decode cX12_begin 44 = .ok (.putfield 146, 3) := by decide +kernel
theorem dX12_begin_47 : decode cX12_begin 47 = .ok (.aload_n 0, 1) := by decide +kernel
theorem dX12_begin_48 : decode cX12_begin 48 = .ok (.invokevirtual 228, 3) := by decide +kernel
theorem dX12_begin_51 : decode cX12_begin 51 = .ok (.iload_n 1, 1) := by decide +kernel
theorem dX12_begin_52 : decode cX12_begin 52 = .ok (.ireturn, 1) := by decide +kernel
theorem dX12_field_0 : decode cX12_field 0 = .ok (.aload_n 0, 1) := by decide +kernel
theorem dX12_field_1 : decode cX12_field 1 = .ok (.iload_n 1, 1) := by decide +kernel
theorem dX12_field_2 : decode cX12_field 2 = .ok (.invokevirtual 231, 3) := by decide +kernel
theorem dX12_field_5 : decode cX12_field 5 = .ok (.ifCond .eq 40, 3) := by decide +kernel
theorem dX12_field_8 : decode cX12_field 8 = .ok (.iload 4, 2) := by decide +kernel
theorem dX12_field_10 : decode cX12_field 10 = .ok (.iconst 0, 1) := by decide +kernel
theorem dX12_field_11 : decode cX12_field 11 = .ok (.bipush 6, 2) := by decide +kernel
theorem dX12_field_13 : decode cX12_field 13 = .ok (.invokestatic 184, 3) := by decide +kernel
theorem dX12_field_16 : decode cX12_field 16 = .ok (.ifCond .eq 29, 3) := by decide +kernel
theorem dX12_field_19 : decode cX12_field 19 = .ok (.iload_n 2, 1) := by decide +kernel
theorem dX12_field_20 : decode cX12_field 20 = .ok (.ifCond .lt 25, 3) := by decide +kernel
theorem dX12_field_23 : decode cX12_field 23 = .ok (.iload_n 3, 1) := by decide +kernel
theorem dX12_field_24 : decode cX12_field 24 = .ok (.iconst 1, 1) := by decide +kernel
theorem dX12_field_25 : decode cX12_field 25 = .ok (.bipush 8, 2) := by decide +kernel
theorem dX12_field_27 : decode cX12_field 27 = .ok (.invokestatic 184, 3) := by decide +kernel
theorem dX12_field_30 : decode cX12_field 30 = .ok (.ifCond .eq 15, 3) := by decide +kernel
theorem dX12_field_33 : decode cX12_field 33 = .ok (.iload_n 2, 1) := by decide +kernel
theorem dX12_field_34 : decode cX12_field 34 = .ok (.bipush 16, 2) := by decide +kernel
theorem dX12_field_36 : decode cX12_field 36 = .ok (.iload_n 3, 1) := by decide +kernel
theorem dX12_field_37 : decode cX12_field 37 = .ok (.isub, 1) := by decide +kernel
theorem dX12_field_38 : decode cX12_field 38 = .ok (.if_icmp .gt 7, 3) := by decide +kernel
theorem dX12_field_41 : decode cX12_field 41 = .ok (.iconst 1, 1) := by decide +kernel
theorem dX12_field_42 : decode cX12_field 42 = .ok (.goto 4, 3) := by decide +kernel
theorem dX12_field_45 : decode cX12_field 45 = .ok (.iconst 0, 1) := by decide +kernel
theorem dX12_field_46 : decode cX12_field 46 = .ok (.istore 6, 2) := by decide +kernel
theorem dX12_field_48 : decode cX12_field 48 = .ok (.iload 6, 2) := by decide +kernel
theorem dX12_field_50 : decode cX12_field 50 = .ok (.ifCond .eq 35, 3) := by decide +kernel
theorem dX12_field_53 : decode cX12_field 53 = .ok (.iload 5, 2) := by decide +kernel
theorem dX12_field_55 : decode cX12_field 55 = .ok (.iconst 0, 1) := by decide +kernel
theorem dX12_field_56 : decode cX12_field 56 = .ok (.iconst 1, 1) := by decide +kernel
theorem dX12_field_57 : decode cX12_field 57 = .ok (.iload_n 3, 1) := by decide +kernel
theorem dX12_field_58 : decode cX12_field 58 = .ok (.ishl, 1) := by decide +kernel
theorem dX12_field_59 : decode cX12_field 59 = .ok (.iconst 1, 1) := by decide +kernel
theorem dX12_field_60 : decode cX12_field 60 = .ok (.isub, 1) := by decide +kernel
theorem dX12_field_61 : decode cX12_field 61 = .ok (.invokestatic 184, 3) := by decide +kernel
theorem dX12_field_64 : decode cX12_field 64 = .ok (.ifCond .eq 21, 3) := by decide +kernel
theorem dX12_field_67 : decode cX12_field 67 = .ok (.iload 4, 2) := by decide +kernel
theorem dX12_field_69 : decode cX12_field 69 = .ok (.iconst 4, 1) := by decide +kernel
theorem dX12_field_70 : decode cX12_field 70 = .ok (.if_icmp .eq 10, 3) := by decide +kernel
theorem dX12_field_73 : decode cX12_field 73 = .ok (.iload 4, 2) := by decide +kernel
theorem dX12_field_75 : decode cX12_field 75 = .ok (.bipush 6, 2) := by decide +kernel
theorem dX12_field_77 : decode cX12_field 77 = .ok (.if_icmp .ne 10, 3) := by decide +kernel
theorem dX12_field_80 : decode cX12_field 80 = .ok (.iload 5, 2) := by decide +kernel
theorem dX12_field_82 : decode cX12_field 82 = .ok (.ifCond .eq 5, 3) := by decide +kernel
theorem dX12_field_85 : decode cX12_field 85 = .ok (.iconst (-1), 1) := by decide +kernel
theorem dX12_field_86 : decode cX12_field 86 = .ok (.ireturn, 1) := by decide +kernel
theorem dX12_field_87 : decode cX12_field 87 = .ok (.iconst 0, 1) := by decide +kernel
theorem dX12_field_88 : decode cX12_field 88 = .ok (.istore 7, 2) := by decide +kernel
theorem dX12_field_90 : decode cX12_field 90 = .ok (.iload 7, 2) := by decide +kernel
theorem dX12_field_92 : decode cX12_field 92 = .ok (.aload_n 0, 1) := by decide +kernel
theorem dX12_field_93 : decode cX12_field 93 = .ok (.getfield 181, 3) := by decide +kernel
theorem dX12_field_96 : decode cX12_field 96 = .ok (.if_icmp .ge 40, 3) := by decide +kernel
theorem dX12_field_99 : decode cX12_field 99 = .ok (.aload_n 0, 1) := by decide +kernel
theorem dX12_field_100 : decode cX12_field 100 = .ok (.getfield 13, 3) := by decide +kernel
theorem dX12_field_103 : decode cX12_field 103 = .ok (.iload 7, 2) := by decide +kernel
theorem dX12_field_105 : decode cX12_field 105 = .ok (.iaload, 1) := by decide +kernel
theorem dX12_field_106 : decode cX12_field 106 = .ok (.iload_n 1, 1) := by decide +kernel
theorem dX12_field_107 : decode cX12_field 107 = .ok (.if_icmp .ne 23, 3) := by decide +kernel
theorem dX12_field_110 : decode cX12_field 110 = .ok (.aload_n 0, 1) := by decide +kernel
theorem dX12_field_111 : decode cX12_field 111 = .ok (.iload 7, 2) := by decide +kernel
theorem dX12_field_113 : decode cX12_field 113 = .ok (.invokevirtual 235, 3) := by decide +kernel
theorem dX12_field_116 : decode cX12_field 116 = .ok (.iconst 1, 1) := by decide +kernel
theorem dX12_field_117 : decode cX12_field 117 = .ok (.iload_n 3, 1) := by decide +kernel
theorem dX12_field_118 : decode cX12_field 118 = .ok (.ishl, 1) := by decide +kernel
theorem dX12_field_119 : decode cX12_field 119 = .ok (.iconst 1, 1) := by decide +kernel
theorem dX12_field_120 : decode cX12_field 120 = .ok (.isub, 1) := by decide +kernel
theorem dX12_field_121 : decode cX12_field 121 = .ok (.iload_n 2, 1) := by decide +kernel
theorem dX12_field_122 : decode cX12_field 122 = .ok (.ishl, 1) := by decide +kernel
theorem dX12_field_123 : decode cX12_field 123 = .ok (.iand, 1) := by decide +kernel
theorem dX12_field_124 : decode cX12_field 124 = .ok (.ifCond .eq 6, 3) := by decide +kernel
theorem dX12_field_127 : decode cX12_field 127 = .ok (.bipush (-2), 2) := by decide +kernel
theorem dX12_field_129 : decode cX12_field 129 = .ok (.ireturn, 1) := by decide +kernel
theorem dX12_field_130 : decode cX12_field 130 = .ok (.iinc 7 1, 3) := by decide +kernel
theorem dX12_field_133 : decode cX12_field 133 = .ok (.goto (-43), 3) := by decide +kernel
theorem dX12_field_136 : decode cX12_field 136 = .ok (.aload_n 0, 1) := by decide +kernel
theorem dX12_field_137 : decode cX12_field 137 = .ok (.getfield 181, 3) := by decide +kernel
theorem dX12_field_140 : decode cX12_field 140 = .ok (.bipush 24, 2) := by decide +kernel
theorem dX12_field_142 : decode cX12_field 142 = .ok (.if_icmp .ne 6, 3) := by decide +kernel
theorem dX12_field_145 : decode cX12_field 145 = .ok (.bipush (-3), 2) := by decide +kernel
theorem dX12_field_147 : decode cX12_field 147 = .ok (.ireturn, 1) := by decide +kernel
theorem dX12_field_148 : decode cX12_field 148 = .ok (.aload_n 0, 1) := by decide +kernel
theorem dX12_field_149 : decode cX12_field 149 = .ok (.getfield 13, 3) := by decide +kernel
theorem dX12_field_152 : decode cX12_field 152 = .ok (.aload_n 0, 1) := by decide +kernel
theorem dX12_field_153 : decode cX12_field 153 = .ok (.getfield 181, 3) := by decide +kernel
theorem dX12_field_156 : decode cX12_field 156 = .ok (.iload_n 1, 1) := by decide +kernel
theorem dX12_field_157 : decode cX12_field 157 = .ok (.iastore, 1) := by decide +kernel
theorem dX12_field_158 : decode cX12_field 158 = .ok (.aload_n 0, 1) := by decide +kernel
theorem dX12_field_159 : decode cX12_field 159 = .ok (.getfield 17, 3) := by decide +kernel
theorem dX12_field_162 : decode cX12_field 162 = .ok (.aload_n 0, 1) := by decide +kernel
theorem dX12_field_163 : decode cX12_field 163 = .ok (.getfield 181, 3) := by decide +kernel
theorem dX12_field_166 : decode cX12_field 166 = .ok (.iload_n 2, 1) := by decide +kernel
theorem dX12_field_167 : decode cX12_field 167 = .ok (.iastore, 1) := by decide +kernel
theorem dX12_field_168 : decode cX12_field 168 = .ok (.aload_n 0, 1) := by decide +kernel
theorem dX12_field_169 : decode cX12_field 169 = .ok (.getfield 20, 3) := by decide +kernel
theorem dX12_field_172 : decode cX12_field 172 = .ok (.aload_n 0, 1) := by decide +kernel
theorem dX12_field_173 : decode cX12_field 173 = .ok (.getfield 181, 3) := by decide +kernel
theorem dX12_field_176 : decode cX12_field 176 = .ok (.iload_n 3, 1) := by decide +kernel
theorem dX12_field_177 : decode cX12_field 177 = .ok (.iastore, 1) := by decide +kernel
theorem dX12_field_178 : decode cX12_field 178 = .ok (.aload_n 0, 1) := by decide +kernel
theorem dX12_field_179 : decode cX12_field 179 = .ok (.getfield 23, 3) := by decide +kernel
theorem dX12_field_182 : decode cX12_field 182 = .ok (.aload_n 0, 1) := by decide +kernel
theorem dX12_field_183 : decode cX12_field 183 = .ok (.getfield 181, 3) := by decide +kernel
theorem dX12_field_186 : decode cX12_field 186 = .ok (.iload 4, 2) := by decide +kernel
theorem dX12_field_188 : decode cX12_field 188 = .ok (.iastore, 1) := by decide +kernel
theorem dX12_field_189 : decode cX12_field 189 = .ok (.aload_n 0, 1) := by decide +kernel
theorem dX12_field_190 : decode cX12_field 190 = .ok (.getfield 26, 3) := by decide +kernel
theorem dX12_field_193 : decode cX12_field 193 = .ok (.aload_n 0, 1) := by decide +kernel
theorem dX12_field_194 : decode cX12_field 194 = .ok (.getfield 181, 3) := by decide +kernel
theorem dX12_field_197 : decode cX12_field 197 = .ok (.iload 5, 2) := by decide +kernel
theorem dX12_field_199 : decode cX12_field 199 = .ok (.iastore, 1) := by decide +kernel
theorem dX12_field_200 : decode cX12_field 200 = .ok (.aload_n 0, 1) := by decide +kernel
theorem dX12_field_201 : decode cX12_field 201 = .ok (.getfield 29, 3) := by decide +kernel
theorem dX12_field_204 : decode cX12_field 204 = .ok (.aload_n 0, 1) := by decide +kernel
theorem dX12_field_205 : decode cX12_field 205 = .ok (.getfield 181, 3) := by decide +kernel
theorem dX12_field_208 : decode cX12_field 208 = .ok (.iconst 3, 1) := by decide +kernel
theorem dX12_field_209 : decode cX12_field 209 = .ok (.iastore, 1) := by decide +kernel
theorem dX12_field_210 : decode cX12_field 210 = .ok (.aload_n 0, 1) := by decide +kernel
theorem dX12_field_211 : decode cX12_field 211 = .ok (.getfield 32, 3) := by decide +kernel
theorem dX12_field_214 : decode cX12_field 214 = .ok (.aload_n 0, 1) := by decide +kernel
theorem dX12_field_215 : decode cX12_field 215 = .ok (.getfield 181, 3) := by decide +kernel
theorem dX12_field_218 : decode cX12_field 218 = .ok (.iconst (-1), 1) := by decide +kernel
theorem dX12_field_219 : decode cX12_field 219 = .ok (.iastore, 1) := by decide +kernel
theorem dX12_field_220 : decode cX12_field 220 = .ok (.aload_n 0, 1) := by decide +kernel
theorem dX12_field_221 : decode cX12_field 221 = .ok (.getfield 35, 3) := by decide +kernel
theorem dX12_field_224 : decode cX12_field 224 = .ok (.aload_n 0, 1) := by decide +kernel
theorem dX12_field_225 : decode cX12_field 225 = .ok (.getfield 181, 3) := by decide +kernel
theorem dX12_field_228 : decode cX12_field 228 = .ok (.iconst (-1), 1) := by decide +kernel
theorem dX12_field_229 : decode cX12_field 229 = .ok (.iastore, 1) := by decide +kernel
theorem dX12_field_230 : decode cX12_field 230 = .ok (.aload_n 0, 1) := by decide +kernel
theorem dX12_field_231 : decode cX12_field 231 = .ok (.dup, 1) := by decide +kernel
theorem dX12_field_232 : decode cX12_field 232 = .ok (.getfield 181, 3) := by decide +kernel
theorem dX12_field_235 : decode cX12_field 235 = .ok (.iconst 1, 1) := by decide +kernel
theorem dX12_field_236 : decode cX12_field 236 = .ok (.iadd, 1) := by decide +kernel
theorem dX12_field_237 : decode cX12_field 237 = .ok (.putfield 181, 3) := by decide +kernel
theorem dX12_field_240 : decode cX12_field 240 = .ok (.aload_n 0, 1) := by decide +kernel
theorem dX12_field_241 : decode cX12_field 241 = .ok (.invokevirtual 228, 3) := by decide +kernel
theorem dX12_field_244 : decode cX12_field 244 = .ok (.aload_n 0, 1) := by decide +kernel
theorem dX12_field_245 : decode cX12_field 245 = .ok (.getfield 181, 3) := by decide +kernel
theorem dX12_field_248 : decode cX12_field 248 = .ok (.iconst 1, 1) := by decide +kernel
theorem dX12_field_249 : decode cX12_field 249 = .ok (.isub, 1) := by decide +kernel
theorem dX12_field_250 : decode cX12_field 250 = .ok (.ireturn, 1) := by decide +kernel
theorem dX12_period_0 : decode cX12_period 0 = .ok (.aload_n 0, 1) := by decide +kernel
theorem dX12_period_1 : decode cX12_period 1 = .ok (.iload_n 1, 1) := by decide +kernel
theorem dX12_period_2 : decode cX12_period 2 = .ok (.invokevirtual 238, 3) := by decide +kernel
theorem dX12_period_5 : decode cX12_period 5 = .ok (.ifCond .eq 13, 3) := by decide +kernel
theorem dX12_period_8 : decode cX12_period 8 = .ok (.iload_n 2, 1) := by decide +kernel
theorem dX12_period_9 : decode cX12_period 9 = .ok (.iconst 1, 1) := by decide +kernel
theorem dX12_period_10 : decode cX12_period 10 = .ok (.bipush 9, 2) := by decide +kernel
theorem dX12_period_12 : decode cX12_period 12 = .ok (.invokestatic 184, 3) := by decide +kernel
theorem dX12_period_15 : decode cX12_period 15 = .ok (.ifCond .ne 5, 3) := by decide +kernel
theorem dX12_period_18 : decode cX12_period 18 = .ok (.iconst (-1), 1) := by decide +kernel
theorem dX12_period_19 : decode cX12_period 19 = .ok (.ireturn, 1) := by decide +kernel
theorem dX12_period_20 : decode cX12_period 20 = .ok (.aload_n 0, 1) := by decide +kernel
theorem dX12_period_21 : decode cX12_period 21 = .ok (.getfield 23, 3) := by decide +kernel
theorem dX12_period_24 : decode cX12_period 24 = .ok (.iload_n 1, 1) := by decide +kernel
theorem dX12_period_25 : decode cX12_period 25 = .ok (.iaload, 1) := by decide +kernel
theorem dX12_period_26 : decode cX12_period 26 = .ok (.iconst 4, 1) := by decide +kernel
theorem dX12_period_27 : decode cX12_period 27 = .ok (.if_icmp .eq 6, 3) := by decide +kernel
theorem dX12_period_30 : decode cX12_period 30 = .ok (.bipush (-4), 2) := by decide +kernel
theorem dX12_period_32 : decode cX12_period 32 = .ok (.ireturn, 1) := by decide +kernel
theorem dX12_period_33 : decode cX12_period 33 = .ok (.aload_n 0, 1) := by decide +kernel
theorem dX12_period_34 : decode cX12_period 34 = .ok (.getfield 29, 3) := by decide +kernel
theorem dX12_period_37 : decode cX12_period 37 = .ok (.iload_n 1, 1) := by decide +kernel
theorem dX12_period_38 : decode cX12_period 38 = .ok (.iaload, 1) := by decide +kernel
theorem dX12_period_39 : decode cX12_period 39 = .ok (.istore_n 3, 1) := by decide +kernel
theorem dX12_period_40 : decode cX12_period 40 = .ok (.aload_n 0, 1) := by decide +kernel
theorem dX12_period_41 : decode cX12_period 41 = .ok (.getfield 29, 3) := by decide +kernel
theorem dX12_period_44 : decode cX12_period 44 = .ok (.iload_n 1, 1) := by decide +kernel
theorem dX12_period_45 : decode cX12_period 45 = .ok (.iload_n 2, 1) := by decide +kernel
theorem dX12_period_46 : decode cX12_period 46 = .ok (.iastore, 1) := by decide +kernel
theorem dX12_period_47 : decode cX12_period 47 = .ok (.aload_n 0, 1) := by decide +kernel
theorem dX12_period_48 : decode cX12_period 48 = .ok (.invokevirtual 228, 3) := by decide +kernel
theorem dX12_period_51 : decode cX12_period 51 = .ok (.iload_n 3, 1) := by decide +kernel
theorem dX12_period_52 : decode cX12_period 52 = .ok (.ireturn, 1) := by decide +kernel
theorem dX12_done_0 : decode cX12_done 0 = .ok (.aload_n 0, 1) := by decide +kernel
theorem dX12_done_1 : decode cX12_done 1 = .ok (.iload_n 1, 1) := by decide +kernel
theorem dX12_done_2 : decode cX12_done 2 = .ok (.invokevirtual 238, 3) := by decide +kernel
theorem dX12_done_5 : decode cX12_done 5 = .ok (.ifCond .eq 16, 3) := by decide +kernel
theorem dX12_done_8 : decode cX12_done 8 = .ok (.iload_n 2, 1) := by decide +kernel
theorem dX12_done_9 : decode cX12_done 9 = .ok (.iconst (-1), 1) := by decide +kernel
theorem dX12_done_10 : decode cX12_done 10 = .ok (.if_icmp .eq 13, 3) := by decide +kernel
theorem dX12_done_13 : decode cX12_done 13 = .ok (.aload_n 0, 1) := by decide +kernel
theorem dX12_done_14 : decode cX12_done 14 = .ok (.iload_n 2, 1) := by decide +kernel
theorem dX12_done_15 : decode cX12_done 15 = .ok (.invokevirtual 238, 3) := by decide +kernel
theorem dX12_done_18 : decode cX12_done 18 = .ok (.ifCond .ne 5, 3) := by decide +kernel
theorem dX12_done_21 : decode cX12_done 21 = .ok (.iconst (-1), 1) := by decide +kernel
theorem dX12_done_22 : decode cX12_done 22 = .ok (.ireturn, 1) := by decide +kernel
theorem dX12_done_23 : decode cX12_done 23 = .ok (.aload_n 0, 1) := by decide +kernel
theorem dX12_done_24 : decode cX12_done 24 = .ok (.getfield 23, 3) := by decide +kernel
theorem dX12_done_27 : decode cX12_done 27 = .ok (.iload_n 1, 1) := by decide +kernel
theorem dX12_done_28 : decode cX12_done 28 = .ok (.iaload, 1) := by decide +kernel
theorem dX12_done_29 : decode cX12_done 29 = .ok (.iconst 4, 1) := by decide +kernel
theorem dX12_done_30 : decode cX12_done 30 = .ok (.if_icmp .ne 28, 3) := by decide +kernel
theorem dX12_done_33 : decode cX12_done 33 = .ok (.iload_n 2, 1) := by decide +kernel
theorem dX12_done_34 : decode cX12_done 34 = .ok (.iconst (-1), 1) := by decide +kernel
theorem dX12_done_35 : decode cX12_done 35 = .ok (.if_icmp .eq 26, 3) := by decide +kernel
theorem dX12_done_38 : decode cX12_done 38 = .ok (.aload_n 0, 1) := by decide +kernel
theorem dX12_done_39 : decode cX12_done 39 = .ok (.getfield 23, 3) := by decide +kernel
theorem dX12_done_42 : decode cX12_done 42 = .ok (.iload_n 2, 1) := by decide +kernel
theorem dX12_done_43 : decode cX12_done 43 = .ok (.iaload, 1) := by decide +kernel
theorem dX12_done_44 : decode cX12_done 44 = .ok (.iconst 1, 1) := by decide +kernel
theorem dX12_done_45 : decode cX12_done 45 = .ok (.if_icmp .eq 16, 3) := by decide +kernel
theorem dX12_done_48 : decode cX12_done 48 = .ok (.aload_n 0, 1) := by decide +kernel
theorem dX12_done_49 : decode cX12_done 49 = .ok (.getfield 23, 3) := by decide +kernel
theorem dX12_done_52 : decode cX12_done 52 = .ok (.iload_n 2, 1) := by decide +kernel
theorem dX12_done_53 : decode cX12_done 53 = .ok (.iaload, 1) := by decide +kernel
theorem dX12_done_54 : decode cX12_done 54 = .ok (.iconst 2, 1) := by decide +kernel
theorem dX12_done_55 : decode cX12_done 55 = .ok (.if_icmp .eq 6, 3) := by decide +kernel
theorem dX12_done_58 : decode cX12_done 58 = .ok (.bipush (-4), 2) := by decide +kernel
theorem dX12_done_60 : decode cX12_done 60 = .ok (.ireturn, 1) := by decide +kernel
theorem dX12_done_61 : decode cX12_done 61 = .ok (.aload_n 0, 1) := by decide +kernel
theorem dX12_done_62 : decode cX12_done 62 = .ok (.getfield 32, 3) := by decide +kernel
theorem dX12_done_65 : decode cX12_done 65 = .ok (.iload_n 1, 1) := by decide +kernel
theorem dX12_done_66 : decode cX12_done 66 = .ok (.iaload, 1) := by decide +kernel
theorem dX12_done_67 : decode cX12_done 67 = .ok (.istore_n 3, 1) := by decide +kernel
theorem dX12_done_68 : decode cX12_done 68 = .ok (.aload_n 0, 1) := by decide +kernel
theorem dX12_done_69 : decode cX12_done 69 = .ok (.getfield 32, 3) := by decide +kernel
theorem dX12_done_72 : decode cX12_done 72 = .ok (.iload_n 1, 1) := by decide +kernel
theorem dX12_done_73 : decode cX12_done 73 = .ok (.iload_n 2, 1) := by decide +kernel
theorem dX12_done_74 : decode cX12_done 74 = .ok (.iastore, 1) := by decide +kernel
theorem dX12_done_75 : decode cX12_done 75 = .ok (.aload_n 0, 1) := by decide +kernel
theorem dX12_done_76 : decode cX12_done 76 = .ok (.invokevirtual 228, 3) := by decide +kernel
theorem dX12_done_79 : decode cX12_done 79 = .ok (.iload_n 3, 1) := by decide +kernel
theorem dX12_done_80 : decode cX12_done 80 = .ok (.ireturn, 1) := by decide +kernel
theorem dX12_law_0 : decode cX12_law 0 = .ok (.iload_n 1, 1) := by decide +kernel
theorem dX12_law_1 : decode cX12_law 1 = .ok (.iconst 0, 1) := by decide +kernel
theorem dX12_law_2 : decode cX12_law 2 = .ok (.iconst 2, 1) := by decide +kernel
theorem dX12_law_3 : decode cX12_law 3 = .ok (.invokestatic 184, 3) := by decide +kernel
theorem dX12_law_6 : decode cX12_law 6 = .ok (.ifCond .eq 31, 3) := by decide +kernel
theorem dX12_law_9 : decode cX12_law 9 = .ok (.aload_n 0, 1) := by decide +kernel
theorem dX12_law_10 : decode cX12_law 10 = .ok (.iload_n 2, 1) := by decide +kernel
theorem dX12_law_11 : decode cX12_law 11 = .ok (.invokevirtual 238, 3) := by decide +kernel
theorem dX12_law_14 : decode cX12_law 14 = .ok (.ifCond .eq 23, 3) := by decide +kernel
theorem dX12_law_17 : decode cX12_law 17 = .ok (.aload_n 0, 1) := by decide +kernel
theorem dX12_law_18 : decode cX12_law 18 = .ok (.iload_n 3, 1) := by decide +kernel
theorem dX12_law_19 : decode cX12_law 19 = .ok (.invokevirtual 238, 3) := by decide +kernel
theorem dX12_law_22 : decode cX12_law 22 = .ok (.ifCond .eq 15, 3) := by decide +kernel
theorem dX12_law_25 : decode cX12_law 25 = .ok (.iload 4, 2) := by decide +kernel
theorem dX12_law_27 : decode cX12_law 27 = .ok (.iconst 0, 1) := by decide +kernel
theorem dX12_law_28 : decode cX12_law 28 = .ok (.sipush 255, 3) := by decide +kernel
theorem dX12_law_31 : decode cX12_law 31 = .ok (.invokestatic 184, 3) := by decide +kernel
theorem dX12_law_34 : decode cX12_law 34 = .ok (.ifCond .ne 5, 3) := by decide +kernel
theorem dX12_law_37 : decode cX12_law 37 = .ok (.iconst (-1), 1) := by decide +kernel
theorem dX12_law_38 : decode cX12_law 38 = .ok (.ireturn, 1) := by decide +kernel
theorem dX12_law_39 : decode cX12_law 39 = .ok (.aload_n 0, 1) := by decide +kernel
theorem dX12_law_40 : decode cX12_law 40 = .ok (.getfield 225, 3) := by decide +kernel
theorem dX12_law_43 : decode cX12_law 43 = .ok (.bipush 12, 2) := by decide +kernel
theorem dX12_law_45 : decode cX12_law 45 = .ok (.if_icmp .ne 6, 3) := by decide +kernel
theorem dX12_law_48 : decode cX12_law 48 = .ok (.bipush (-3), 2) := by decide +kernel
theorem dX12_law_50 : decode cX12_law 50 = .ok (.ireturn, 1) := by decide +kernel
theorem dX12_law_51 : decode cX12_law 51 = .ok (.aload_n 0, 1) := by decide +kernel
theorem dX12_law_52 : decode cX12_law 52 = .ok (.getfield 38, 3) := by decide +kernel
theorem dX12_law_55 : decode cX12_law 55 = .ok (.aload_n 0, 1) := by decide +kernel
theorem dX12_law_56 : decode cX12_law 56 = .ok (.getfield 225, 3) := by decide +kernel
theorem dX12_law_59 : decode cX12_law 59 = .ok (.iload_n 1, 1) := by decide +kernel
theorem dX12_law_60 : decode cX12_law 60 = .ok (.iastore, 1) := by decide +kernel
theorem dX12_law_61 : decode cX12_law 61 = .ok (.aload_n 0, 1) := by decide +kernel
theorem dX12_law_62 : decode cX12_law 62 = .ok (.getfield 41, 3) := by decide +kernel
theorem dX12_law_65 : decode cX12_law 65 = .ok (.aload_n 0, 1) := by decide +kernel
theorem dX12_law_66 : decode cX12_law 66 = .ok (.getfield 225, 3) := by decide +kernel
theorem dX12_law_69 : decode cX12_law 69 = .ok (.iload_n 2, 1) := by decide +kernel
theorem dX12_law_70 : decode cX12_law 70 = .ok (.iastore, 1) := by decide +kernel
theorem dX12_law_71 : decode cX12_law 71 = .ok (.aload_n 0, 1) := by decide +kernel
theorem dX12_law_72 : decode cX12_law 72 = .ok (.getfield 44, 3) := by decide +kernel
theorem dX12_law_75 : decode cX12_law 75 = .ok (.aload_n 0, 1) := by decide +kernel
theorem dX12_law_76 : decode cX12_law 76 = .ok (.getfield 225, 3) := by decide +kernel
theorem dX12_law_79 : decode cX12_law 79 = .ok (.iload_n 3, 1) := by decide +kernel
theorem dX12_law_80 : decode cX12_law 80 = .ok (.iastore, 1) := by decide +kernel
theorem dX12_law_81 : decode cX12_law 81 = .ok (.aload_n 0, 1) := by decide +kernel
theorem dX12_law_82 : decode cX12_law 82 = .ok (.getfield 47, 3) := by decide +kernel
theorem dX12_law_85 : decode cX12_law 85 = .ok (.aload_n 0, 1) := by decide +kernel
theorem dX12_law_86 : decode cX12_law 86 = .ok (.getfield 225, 3) := by decide +kernel
theorem dX12_law_89 : decode cX12_law 89 = .ok (.iload 4, 2) := by decide +kernel
theorem dX12_law_91 : decode cX12_law 91 = .ok (.iastore, 1) := by decide +kernel
theorem dX12_law_92 : decode cX12_law 92 = .ok (.aload_n 0, 1) := by decide +kernel
theorem dX12_law_93 : decode cX12_law 93 = .ok (.dup, 1) := by decide +kernel
theorem dX12_law_94 : decode cX12_law 94 = .ok (.getfield 225, 3) := by decide +kernel
theorem dX12_law_97 : decode cX12_law 97 = .ok (.iconst 1, 1) := by decide +kernel
theorem dX12_law_98 : decode cX12_law 98 = .ok (.iadd, 1) := by decide +kernel
theorem dX12_law_99 : decode cX12_law 99 = .ok (.putfield 225, 3) := by decide +kernel
theorem dX12_law_102 : decode cX12_law 102 = .ok (.aload_n 0, 1) := by decide +kernel
theorem dX12_law_103 : decode cX12_law 103 = .ok (.getfield 225, 3) := by decide +kernel
theorem dX12_law_106 : decode cX12_law 106 = .ok (.iconst 1, 1) := by decide +kernel
theorem dX12_law_107 : decode cX12_law 107 = .ok (.isub, 1) := by decide +kernel
theorem dX12_law_108 : decode cX12_law 108 = .ok (.ireturn, 1) := by decide +kernel
theorem dX12_act_0 : decode cX12_act 0 = .ok (.aload_n 0, 1) := by decide +kernel
theorem dX12_act_1 : decode cX12_act 1 = .ok (.getfield 188, 3) := by decide +kernel
theorem dX12_act_4 : decode cX12_act 4 = .ok (.bipush 6, 2) := by decide +kernel
theorem dX12_act_6 : decode cX12_act 6 = .ok (.if_icmp .ne 6, 3) := by decide +kernel
theorem dX12_act_9 : decode cX12_act 9 = .ok (.bipush (-3), 2) := by decide +kernel
theorem dX12_act_11 : decode cX12_act 11 = .ok (.ireturn, 1) := by decide +kernel
theorem dX12_act_12 : decode cX12_act 12 = .ok (.aload_n 0, 1) := by decide +kernel
theorem dX12_act_13 : decode cX12_act 13 = .ok (.getfield 50, 3) := by decide +kernel
theorem dX12_act_16 : decode cX12_act 16 = .ok (.aload_n 0, 1) := by decide +kernel
theorem dX12_act_17 : decode cX12_act 17 = .ok (.getfield 188, 3) := by decide +kernel
theorem dX12_act_20 : decode cX12_act 20 = .ok (.iconst 0, 1) := by decide +kernel
theorem dX12_act_21 : decode cX12_act 21 = .ok (.iastore, 1) := by decide +kernel
theorem dX12_act_22 : decode cX12_act 22 = .ok (.aload_n 0, 1) := by decide +kernel
theorem dX12_act_23 : decode cX12_act 23 = .ok (.dup, 1) := by decide +kernel
theorem dX12_act_24 : decode cX12_act 24 = .ok (.getfield 188, 3) := by decide +kernel
theorem dX12_act_27 : decode cX12_act 27 = .ok (.iconst 1, 1) := by decide +kernel
theorem dX12_act_28 : decode cX12_act 28 = .ok (.iadd, 1) := by decide +kernel
theorem dX12_act_29 : decode cX12_act 29 = .ok (.putfield 188, 3) := by decide +kernel
theorem dX12_act_32 : decode cX12_act 32 = .ok (.aload_n 0, 1) := by decide +kernel
theorem dX12_act_33 : decode cX12_act 33 = .ok (.getfield 188, 3) := by decide +kernel
theorem dX12_act_36 : decode cX12_act 36 = .ok (.iconst 1, 1) := by decide +kernel
theorem dX12_act_37 : decode cX12_act 37 = .ok (.isub, 1) := by decide +kernel
theorem dX12_act_38 : decode cX12_act 38 = .ok (.ireturn, 1) := by decide +kernel
theorem dX12_step_0 : decode cX12_step 0 = .ok (.aload_n 0, 1) := by decide +kernel
theorem dX12_step_1 : decode cX12_step 1 = .ok (.iload_n 1, 1) := by decide +kernel
theorem dX12_step_2 : decode cX12_step 2 = .ok (.invokevirtual 241, 3) := by decide +kernel
theorem dX12_step_5 : decode cX12_step 5 = .ok (.ifCond .eq 33, 3) := by decide +kernel
theorem dX12_step_8 : decode cX12_step 8 = .ok (.iload_n 2, 1) := by decide +kernel
theorem dX12_step_9 : decode cX12_step 9 = .ok (.iconst 0, 1) := by decide +kernel
theorem dX12_step_10 : decode cX12_step 10 = .ok (.iconst 3, 1) := by decide +kernel
theorem dX12_step_11 : decode cX12_step 11 = .ok (.invokestatic 184, 3) := by decide +kernel
theorem dX12_step_14 : decode cX12_step 14 = .ok (.ifCond .eq 24, 3) := by decide +kernel
theorem dX12_step_17 : decode cX12_step 17 = .ok (.iload_n 2, 1) := by decide +kernel
theorem dX12_step_18 : decode cX12_step 18 = .ok (.iconst 3, 1) := by decide +kernel
theorem dX12_step_19 : decode cX12_step 19 = .ok (.if_icmp .ne 11, 3) := by decide +kernel
theorem dX12_step_22 : decode cX12_step 22 = .ok (.iload_n 3, 1) := by decide +kernel
theorem dX12_step_23 : decode cX12_step 23 = .ok (.iconst (-1), 1) := by decide +kernel
theorem dX12_step_24 : decode cX12_step 24 = .ok (.if_icmp .eq 16, 3) := by decide +kernel
theorem dX12_step_27 : decode cX12_step 27 = .ok (.goto 11, 3) := by decide +kernel
theorem dX12_step_30 : decode cX12_step 30 = .ok (.aload_n 0, 1) := by decide +kernel
theorem dX12_step_31 : decode cX12_step 31 = .ok (.iload_n 3, 1) := by decide +kernel
theorem dX12_step_32 : decode cX12_step 32 = .ok (.invokevirtual 238, 3) := by decide +kernel
theorem dX12_step_35 : decode cX12_step 35 = .ok (.ifCond .ne 5, 3) := by decide +kernel
theorem dX12_step_38 : decode cX12_step 38 = .ok (.iconst (-1), 1) := by decide +kernel
theorem dX12_step_39 : decode cX12_step 39 = .ok (.ireturn, 1) := by decide +kernel
theorem dX12_step_40 : decode cX12_step 40 = .ok (.iload_n 2, 1) := by decide +kernel
theorem dX12_step_41 : decode cX12_step 41 = .ok (.iconst 3, 1) := by decide +kernel
theorem dX12_step_42 : decode cX12_step 42 = .ok (.if_icmp .ne 14, 3) := by decide +kernel
theorem dX12_step_45 : decode cX12_step 45 = .ok (.iload 4, 2) := by decide +kernel
theorem dX12_step_47 : decode cX12_step 47 = .ok (.iconst 1, 1) := by decide +kernel
theorem dX12_step_48 : decode cX12_step 48 = .ok (.bipush 9, 2) := by decide +kernel
theorem dX12_step_50 : decode cX12_step 50 = .ok (.invokestatic 184, 3) := by decide +kernel
theorem dX12_step_53 : decode cX12_step 53 = .ok (.goto 32, 3) := by decide +kernel
theorem dX12_step_56 : decode cX12_step 56 = .ok (.iload_n 2, 1) := by decide +kernel
theorem dX12_step_57 : decode cX12_step 57 = .ok (.iconst 2, 1) := by decide +kernel
theorem dX12_step_58 : decode cX12_step 58 = .ok (.if_icmp .ne 16, 3) := by decide +kernel
theorem dX12_step_61 : decode cX12_step 61 = .ok (.iload 4, 2) := by decide +kernel
theorem dX12_step_63 : decode cX12_step 63 = .ok (.ifCond .ne 7, 3) := by decide +kernel
theorem dX12_step_66 : decode cX12_step 66 = .ok (.iconst 1, 1) := by decide +kernel
theorem dX12_step_67 : decode cX12_step 67 = .ok (.goto 18, 3) := by decide +kernel
theorem dX12_step_70 : decode cX12_step 70 = .ok (.iconst 0, 1) := by decide +kernel
theorem dX12_step_71 : decode cX12_step 71 = .ok (.goto 14, 3) := by decide +kernel
theorem dX12_step_74 : decode cX12_step 74 = .ok (.iload 4, 2) := by decide +kernel
theorem dX12_step_76 : decode cX12_step 76 = .ok (.iconst 0, 1) := by decide +kernel
theorem dX12_step_77 : decode cX12_step 77 = .ok (.aload_n 0, 1) := by decide +kernel
theorem dX12_step_78 : decode cX12_step 78 = .ok (.iload_n 3, 1) := by decide +kernel
theorem dX12_step_79 : decode cX12_step 79 = .ok (.invokevirtual 191, 3) := by decide +kernel
theorem dX12_step_82 : decode cX12_step 82 = .ok (.invokestatic 184, 3) := by decide +kernel
theorem dX12_step_85 : decode cX12_step 85 = .ok (.istore 6, 2) := by decide +kernel
theorem dX12_step_87 : decode cX12_step 87 = .ok (.iload 6, 2) := by decide +kernel
theorem dX12_step_89 : decode cX12_step 89 = .ok (.ifCond .eq 27, 3) := by decide +kernel
theorem dX12_step_92 : decode cX12_step 92 = .ok (.iload_n 2, 1) := by decide +kernel
theorem dX12_step_93 : decode cX12_step 93 = .ok (.iconst 1, 1) := by decide +kernel
theorem dX12_step_94 : decode cX12_step 94 = .ok (.if_icmp .ne 17, 3) := by decide +kernel
theorem dX12_step_97 : decode cX12_step 97 = .ok (.iload 5, 2) := by decide +kernel
theorem dX12_step_99 : decode cX12_step 99 = .ok (.iconst 0, 1) := by decide +kernel
theorem dX12_step_100 : decode cX12_step 100 = .ok (.bipush 20, 2) := by decide +kernel
theorem dX12_step_102 : decode cX12_step 102 = .ok (.invokestatic 184, 3) := by decide +kernel
theorem dX12_step_105 : decode cX12_step 105 = .ok (.ifCond .ne 13, 3) := by decide +kernel
theorem dX12_step_108 : decode cX12_step 108 = .ok (.goto 8, 3) := by decide +kernel
theorem dX12_step_111 : decode cX12_step 111 = .ok (.iload 5, 2) := by decide +kernel
theorem dX12_step_113 : decode cX12_step 113 = .ok (.ifCond .eq 5, 3) := by decide +kernel
theorem dX12_step_116 : decode cX12_step 116 = .ok (.iconst (-1), 1) := by decide +kernel
theorem dX12_step_117 : decode cX12_step 117 = .ok (.ireturn, 1) := by decide +kernel
theorem dX12_step_118 : decode cX12_step 118 = .ok (.iload_n 2, 1) := by decide +kernel
theorem dX12_step_119 : decode cX12_step 119 = .ok (.ifCond .ne 23, 3) := by decide +kernel
theorem dX12_step_122 : decode cX12_step 122 = .ok (.aload_n 0, 1) := by decide +kernel
theorem dX12_step_123 : decode cX12_step 123 = .ok (.getfield 23, 3) := by decide +kernel
theorem dX12_step_126 : decode cX12_step 126 = .ok (.iload_n 3, 1) := by decide +kernel
theorem dX12_step_127 : decode cX12_step 127 = .ok (.iaload, 1) := by decide +kernel
theorem dX12_step_128 : decode cX12_step 128 = .ok (.iconst 1, 1) := by decide +kernel
theorem dX12_step_129 : decode cX12_step 129 = .ok (.if_icmp .eq 28, 3) := by decide +kernel
theorem dX12_step_132 : decode cX12_step 132 = .ok (.aload_n 0, 1) := by decide +kernel
theorem dX12_step_133 : decode cX12_step 133 = .ok (.getfield 23, 3) := by decide +kernel
theorem dX12_step_136 : decode cX12_step 136 = .ok (.iload_n 3, 1) := by decide +kernel
theorem dX12_step_137 : decode cX12_step 137 = .ok (.iaload, 1) := by decide +kernel
theorem dX12_step_138 : decode cX12_step 138 = .ok (.iconst 3, 1) := by decide +kernel
theorem dX12_step_139 : decode cX12_step 139 = .ok (.if_icmp .eq 18, 3) := by decide +kernel
theorem dX12_step_142 : decode cX12_step 142 = .ok (.iload_n 2, 1) := by decide +kernel
theorem dX12_step_143 : decode cX12_step 143 = .ok (.iconst 1, 1) := by decide +kernel
theorem dX12_step_144 : decode cX12_step 144 = .ok (.if_icmp .ne 16, 3) := by decide +kernel
theorem dX12_step_147 : decode cX12_step 147 = .ok (.aload_n 0, 1) := by decide +kernel
theorem dX12_step_148 : decode cX12_step 148 = .ok (.getfield 23, 3) := by decide +kernel
theorem dX12_step_151 : decode cX12_step 151 = .ok (.iload_n 3, 1) := by decide +kernel
theorem dX12_step_152 : decode cX12_step 152 = .ok (.iaload, 1) := by decide +kernel
theorem dX12_step_153 : decode cX12_step 153 = .ok (.iconst 3, 1) := by decide +kernel
theorem dX12_step_154 : decode cX12_step 154 = .ok (.if_icmp .ne 6, 3) := by decide +kernel
theorem dX12_step_157 : decode cX12_step 157 = .ok (.bipush (-4), 2) := by decide +kernel
theorem dX12_step_159 : decode cX12_step 159 = .ok (.ireturn, 1) := by decide +kernel
theorem dX12_step_160 : decode cX12_step 160 = .ok (.aload_n 0, 1) := by decide +kernel
theorem dX12_step_161 : decode cX12_step 161 = .ok (.getfield 50, 3) := by decide +kernel
theorem dX12_step_164 : decode cX12_step 164 = .ok (.iload_n 1, 1) := by decide +kernel
theorem dX12_step_165 : decode cX12_step 165 = .ok (.iaload, 1) := by decide +kernel
theorem dX12_step_166 : decode cX12_step 166 = .ok (.bipush 12, 2) := by decide +kernel
theorem dX12_step_168 : decode cX12_step 168 = .ok (.if_icmp .ne 6, 3) := by decide +kernel
theorem dX12_step_171 : decode cX12_step 171 = .ok (.bipush (-3), 2) := by decide +kernel
theorem dX12_step_173 : decode cX12_step 173 = .ok (.ireturn, 1) := by decide +kernel
theorem dX12_step_174 : decode cX12_step 174 = .ok (.bipush 12, 2) := by decide +kernel
theorem dX12_step_176 : decode cX12_step 176 = .ok (.iload_n 1, 1) := by decide +kernel
theorem dX12_step_177 : decode cX12_step 177 = .ok (.imul, 1) := by decide +kernel
theorem dX12_step_178 : decode cX12_step 178 = .ok (.aload_n 0, 1) := by decide +kernel
theorem dX12_step_179 : decode cX12_step 179 = .ok (.getfield 50, 3) := by decide +kernel
theorem dX12_step_182 : decode cX12_step 182 = .ok (.iload_n 1, 1) := by decide +kernel
theorem dX12_step_183 : decode cX12_step 183 = .ok (.iaload, 1) := by decide +kernel
theorem dX12_step_184 : decode cX12_step 184 = .ok (.iadd, 1) := by decide +kernel
theorem dX12_step_185 : decode cX12_step 185 = .ok (.istore 7, 2) := by decide +kernel
theorem dX12_step_187 : decode cX12_step 187 = .ok (.aload_n 0, 1) := by decide +kernel
theorem dX12_step_188 : decode cX12_step 188 = .ok (.getfield 53, 3) := by decide +kernel
theorem dX12_step_191 : decode cX12_step 191 = .ok (.iload 7, 2) := by decide +kernel
theorem dX12_step_193 : decode cX12_step 193 = .ok (.iload_n 2, 1) := by decide +kernel
theorem dX12_step_194 : decode cX12_step 194 = .ok (.iastore, 1) := by decide +kernel
theorem dX12_step_195 : decode cX12_step 195 = .ok (.aload_n 0, 1) := by decide +kernel
theorem dX12_step_196 : decode cX12_step 196 = .ok (.getfield 56, 3) := by decide +kernel
theorem dX12_step_199 : decode cX12_step 199 = .ok (.iload 7, 2) := by decide +kernel
theorem dX12_step_201 : decode cX12_step 201 = .ok (.iload_n 3, 1) := by decide +kernel
theorem dX12_step_202 : decode cX12_step 202 = .ok (.iastore, 1) := by decide +kernel
theorem dX12_step_203 : decode cX12_step 203 = .ok (.aload_n 0, 1) := by decide +kernel
theorem dX12_step_204 : decode cX12_step 204 = .ok (.getfield 59, 3) := by decide +kernel
theorem dX12_step_207 : decode cX12_step 207 = .ok (.iload 7, 2) := by decide +kernel
theorem dX12_step_209 : decode cX12_step 209 = .ok (.iload 4, 2) := by decide +kernel
theorem dX12_step_211 : decode cX12_step 211 = .ok (.iastore, 1) := by decide +kernel
theorem dX12_step_212 : decode cX12_step 212 = .ok (.aload_n 0, 1) := by decide +kernel
theorem dX12_step_213 : decode cX12_step 213 = .ok (.getfield 62, 3) := by decide +kernel
theorem dX12_step_216 : decode cX12_step 216 = .ok (.iload 7, 2) := by decide +kernel
theorem dX12_step_218 : decode cX12_step 218 = .ok (.iload 5, 2) := by decide +kernel
theorem dX12_step_220 : decode cX12_step 220 = .ok (.iastore, 1) := by decide +kernel
theorem dX12_step_221 : decode cX12_step 221 = .ok (.aload_n 0, 1) := by decide +kernel
theorem dX12_step_222 : decode cX12_step 222 = .ok (.getfield 50, 3) := by decide +kernel
theorem dX12_step_225 : decode cX12_step 225 = .ok (.iload_n 1, 1) := by decide +kernel
theorem dX12_step_226 : decode cX12_step 226 = .ok (.dup2, 1) := by decide +kernel
theorem dX12_step_227 : decode cX12_step 227 = .ok (.iaload, 1) := by decide +kernel
theorem dX12_step_228 : decode cX12_step 228 = .ok (.iconst 1, 1) := by decide +kernel
theorem dX12_step_229 : decode cX12_step 229 = .ok (.iadd, 1) := by decide +kernel
theorem dX12_step_230 : decode cX12_step 230 = .ok (.iastore, 1) := by decide +kernel
theorem dX12_step_231 : decode cX12_step 231 = .ok (.aload_n 0, 1) := by decide +kernel
theorem dX12_step_232 : decode cX12_step 232 = .ok (.getfield 50, 3) := by decide +kernel
theorem dX12_step_235 : decode cX12_step 235 = .ok (.iload_n 1, 1) := by decide +kernel
theorem dX12_step_236 : decode cX12_step 236 = .ok (.iaload, 1) := by decide +kernel
theorem dX12_step_237 : decode cX12_step 237 = .ok (.ireturn, 1) := by decide +kernel
theorem dX12_bare_0 : decode cX12_bare 0 = .ok (.aload_n 0, 1) := by decide +kernel
theorem dX12_bare_1 : decode cX12_bare 1 = .ok (.iload_n 1, 1) := by decide +kernel
theorem dX12_bare_2 : decode cX12_bare 2 = .ok (.invokevirtual 241, 3) := by decide +kernel
theorem dX12_bare_5 : decode cX12_bare 5 = .ok (.ifCond .ne 5, 3) := by decide +kernel
theorem dX12_bare_8 : decode cX12_bare 8 = .ok (.iconst (-1), 1) := by decide +kernel
theorem dX12_bare_9 : decode cX12_bare 9 = .ok (.ireturn, 1) := by decide +kernel
theorem dX12_bare_10 : decode cX12_bare 10 = .ok (.aload_n 0, 1) := by decide +kernel
theorem dX12_bare_11 : decode cX12_bare 11 = .ok (.getfield 50, 3) := by decide +kernel
theorem dX12_bare_14 : decode cX12_bare 14 = .ok (.iload_n 1, 1) := by decide +kernel
theorem dX12_bare_15 : decode cX12_bare 15 = .ok (.iaload, 1) := by decide +kernel
theorem dX12_bare_16 : decode cX12_bare 16 = .ok (.istore_n 2, 1) := by decide +kernel
theorem dX12_bare_17 : decode cX12_bare 17 = .ok (.aload_n 0, 1) := by decide +kernel
theorem dX12_bare_18 : decode cX12_bare 18 = .ok (.getfield 50, 3) := by decide +kernel
theorem dX12_bare_21 : decode cX12_bare 21 = .ok (.iload_n 1, 1) := by decide +kernel
theorem dX12_bare_22 : decode cX12_bare 22 = .ok (.iconst 0, 1) := by decide +kernel
theorem dX12_bare_23 : decode cX12_bare 23 = .ok (.iastore, 1) := by decide +kernel
theorem dX12_bare_24 : decode cX12_bare 24 = .ok (.iload_n 2, 1) := by decide +kernel
theorem dX12_bare_25 : decode cX12_bare 25 = .ok (.ireturn, 1) := by decide +kernel
theorem dX12_handler_0 : decode cX12_handler 0 = .ok (.aload_n 0, 1) := by decide +kernel
theorem dX12_handler_1 : decode cX12_handler 1 = .ok (.iload_n 1, 1) := by decide +kernel
theorem dX12_handler_2 : decode cX12_handler 2 = .ok (.invokevirtual 238, 3) := by decide +kernel
theorem dX12_handler_5 : decode cX12_handler 5 = .ok (.ifCond .eq 16, 3) := by decide +kernel
theorem dX12_handler_8 : decode cX12_handler 8 = .ok (.iload_n 2, 1) := by decide +kernel
theorem dX12_handler_9 : decode cX12_handler 9 = .ok (.iconst (-1), 1) := by decide +kernel
theorem dX12_handler_10 : decode cX12_handler 10 = .ok (.if_icmp .eq 13, 3) := by decide +kernel
theorem dX12_handler_13 : decode cX12_handler 13 = .ok (.aload_n 0, 1) := by decide +kernel
theorem dX12_handler_14 : decode cX12_handler 14 = .ok (.iload_n 2, 1) := by decide +kernel
theorem dX12_handler_15 : decode cX12_handler 15 = .ok (.invokevirtual 241, 3) := by decide +kernel
theorem dX12_handler_18 : decode cX12_handler 18 = .ok (.ifCond .ne 5, 3) := by decide +kernel
theorem dX12_handler_21 : decode cX12_handler 21 = .ok (.iconst (-1), 1) := by decide +kernel
theorem dX12_handler_22 : decode cX12_handler 22 = .ok (.ireturn, 1) := by decide +kernel
theorem dX12_handler_23 : decode cX12_handler 23 = .ok (.aload_n 0, 1) := by decide +kernel
theorem dX12_handler_24 : decode cX12_handler 24 = .ok (.getfield 23, 3) := by decide +kernel
theorem dX12_handler_27 : decode cX12_handler 27 = .ok (.iload_n 1, 1) := by decide +kernel
theorem dX12_handler_28 : decode cX12_handler 28 = .ok (.iaload, 1) := by decide +kernel
theorem dX12_handler_29 : decode cX12_handler 29 = .ok (.iconst 2, 1) := by decide +kernel
theorem dX12_handler_30 : decode cX12_handler 30 = .ok (.if_icmp .eq 6, 3) := by decide +kernel
theorem dX12_handler_33 : decode cX12_handler 33 = .ok (.bipush (-4), 2) := by decide +kernel
theorem dX12_handler_35 : decode cX12_handler 35 = .ok (.ireturn, 1) := by decide +kernel
theorem dX12_handler_36 : decode cX12_handler 36 = .ok (.aload_n 0, 1) := by decide +kernel
theorem dX12_handler_37 : decode cX12_handler 37 = .ok (.getfield 35, 3) := by decide +kernel
theorem dX12_handler_40 : decode cX12_handler 40 = .ok (.iload_n 1, 1) := by decide +kernel
theorem dX12_handler_41 : decode cX12_handler 41 = .ok (.iaload, 1) := by decide +kernel
theorem dX12_handler_42 : decode cX12_handler 42 = .ok (.istore_n 3, 1) := by decide +kernel
theorem dX12_handler_43 : decode cX12_handler 43 = .ok (.aload_n 0, 1) := by decide +kernel
theorem dX12_handler_44 : decode cX12_handler 44 = .ok (.getfield 35, 3) := by decide +kernel
theorem dX12_handler_47 : decode cX12_handler 47 = .ok (.iload_n 1, 1) := by decide +kernel
theorem dX12_handler_48 : decode cX12_handler 48 = .ok (.iload_n 2, 1) := by decide +kernel
theorem dX12_handler_49 : decode cX12_handler 49 = .ok (.iastore, 1) := by decide +kernel
theorem dX12_handler_50 : decode cX12_handler 50 = .ok (.iload_n 3, 1) := by decide +kernel
theorem dX12_handler_51 : decode cX12_handler 51 = .ok (.ireturn, 1) := by decide +kernel
theorem dX12_locks_0 : decode cX12_locks 0 = .ok (.iload_n 1, 1) := by decide +kernel
theorem dX12_locks_1 : decode cX12_locks 1 = .ok (.iconst 0, 1) := by decide +kernel
theorem dX12_locks_2 : decode cX12_locks 2 = .ok (.iconst 1, 1) := by decide +kernel
theorem dX12_locks_3 : decode cX12_locks 3 = .ok (.invokestatic 184, 3) := by decide +kernel
theorem dX12_locks_6 : decode cX12_locks 6 = .ok (.ifCond .ne 5, 3) := by decide +kernel
theorem dX12_locks_9 : decode cX12_locks 9 = .ok (.iconst (-1), 1) := by decide +kernel
theorem dX12_locks_10 : decode cX12_locks 10 = .ok (.ireturn, 1) := by decide +kernel
theorem dX12_locks_11 : decode cX12_locks 11 = .ok (.aload_n 0, 1) := by decide +kernel
theorem dX12_locks_12 : decode cX12_locks 12 = .ok (.getfield 65, 3) := by decide +kernel
theorem dX12_locks_15 : decode cX12_locks 15 = .ok (.istore_n 2, 1) := by decide +kernel
theorem dX12_locks_16 : decode cX12_locks 16 = .ok (.aload_n 0, 1) := by decide +kernel
theorem dX12_locks_17 : decode cX12_locks 17 = .ok (.iload_n 1, 1) := by decide +kernel
theorem dX12_locks_18 : decode cX12_locks 18 = .ok (.putfield 65, 3) := by decide +kernel
theorem dX12_locks_21 : decode cX12_locks 21 = .ok (.iload_n 2, 1) := by decide +kernel
theorem dX12_locks_22 : decode cX12_locks 22 = .ok (.ireturn, 1) := by decide +kernel
theorem dX12_ticks_0 : decode cX12_ticks 0 = .ok (.aload_n 0, 1) := by decide +kernel
theorem dX12_ticks_1 : decode cX12_ticks 1 = .ok (.dup, 1) := by decide +kernel
theorem dX12_ticks_2 : decode cX12_ticks 2 = .ok (.getfield 198, 3) := by decide +kernel
theorem dX12_ticks_5 : decode cX12_ticks 5 = .ok (.iconst 1, 1) := by decide +kernel
theorem dX12_ticks_6 : decode cX12_ticks 6 = .ok (.iadd, 1) := by decide +kernel
theorem dX12_ticks_7 : decode cX12_ticks 7 = .ok (.putfield 198, 3) := by decide +kernel
theorem dX12_ticks_10 : decode cX12_ticks 10 = .ok (.iconst 0, 1) := by decide +kernel
theorem dX12_ticks_11 : decode cX12_ticks 11 = .ok (.istore_n 1, 1) := by decide +kernel
theorem dX12_ticks_12 : decode cX12_ticks 12 = .ok (.iload_n 1, 1) := by decide +kernel
theorem dX12_ticks_13 : decode cX12_ticks 13 = .ok (.aload_n 0, 1) := by decide +kernel
theorem dX12_ticks_14 : decode cX12_ticks 14 = .ok (.getfield 181, 3) := by decide +kernel
theorem dX12_ticks_17 : decode cX12_ticks 17 = .ok (.if_icmp .ge 85, 3) := by decide +kernel
theorem dX12_ticks_20 : decode cX12_ticks 20 = .ok (.aload_n 0, 1) := by decide +kernel
theorem dX12_ticks_21 : decode cX12_ticks 21 = .ok (.getfield 23, 3) := by decide +kernel
theorem dX12_ticks_24 : decode cX12_ticks 24 = .ok (.iload_n 1, 1) := by decide +kernel
theorem dX12_ticks_25 : decode cX12_ticks 25 = .ok (.iaload, 1) := by decide +kernel
theorem dX12_ticks_26 : decode cX12_ticks 26 = .ok (.iconst 4, 1) := by decide +kernel
theorem dX12_ticks_27 : decode cX12_ticks 27 = .ok (.if_icmp .ne 69, 3) := by decide +kernel
theorem dX12_ticks_30 : decode cX12_ticks 30 = .ok (.aload_n 0, 1) := by decide +kernel
theorem dX12_ticks_31 : decode cX12_ticks 31 = .ok (.getfield 74, 3) := by decide +kernel
theorem dX12_ticks_34 : decode cX12_ticks 34 = .ok (.iload_n 1, 1) := by decide +kernel
theorem dX12_ticks_35 : decode cX12_ticks 35 = .ok (.iaload, 1) := by decide +kernel
theorem dX12_ticks_36 : decode cX12_ticks 36 = .ok (.ifCond .le 60, 3) := by decide +kernel
theorem dX12_ticks_39 : decode cX12_ticks 39 = .ok (.aload_n 0, 1) := by decide +kernel
theorem dX12_ticks_40 : decode cX12_ticks 40 = .ok (.getfield 74, 3) := by decide +kernel
theorem dX12_ticks_43 : decode cX12_ticks 43 = .ok (.iload_n 1, 1) := by decide +kernel
theorem dX12_ticks_44 : decode cX12_ticks 44 = .ok (.dup2, 1) := by decide +kernel
theorem dX12_ticks_45 : decode cX12_ticks 45 = .ok (.iaload, 1) := by decide +kernel
theorem dX12_ticks_46 : decode cX12_ticks 46 = .ok (.iconst 1, 1) := by decide +kernel
theorem dX12_ticks_47 : decode cX12_ticks 47 = .ok (.isub, 1) := by decide +kernel
theorem dX12_ticks_48 : decode cX12_ticks 48 = .ok (.iastore, 1) := by decide +kernel
theorem dX12_ticks_49 : decode cX12_ticks 49 = .ok (.aload_n 0, 1) := by decide +kernel
theorem dX12_ticks_50 : decode cX12_ticks 50 = .ok (.getfield 74, 3) := by decide +kernel
theorem dX12_ticks_53 : decode cX12_ticks 53 = .ok (.iload_n 1, 1) := by decide +kernel
theorem dX12_ticks_54 : decode cX12_ticks 54 = .ok (.iaload, 1) := by decide +kernel
theorem dX12_ticks_55 : decode cX12_ticks 55 = .ok (.ifCond .ne 41, 3) := by decide +kernel
theorem dX12_ticks_58 : decode cX12_ticks 58 = .ok (.aload_n 0, 1) := by decide +kernel
theorem dX12_ticks_59 : decode cX12_ticks 59 = .ok (.getfield 68, 3) := by decide +kernel
theorem dX12_ticks_62 : decode cX12_ticks 62 = .ok (.iload_n 1, 1) := by decide +kernel
theorem dX12_ticks_63 : decode cX12_ticks 63 = .ok (.iconst 0, 1) := by decide +kernel
theorem dX12_ticks_64 : decode cX12_ticks 64 = .ok (.iastore, 1) := by decide +kernel
theorem dX12_ticks_65 : decode cX12_ticks 65 = .ok (.aload_n 0, 1) := by decide +kernel
theorem dX12_ticks_66 : decode cX12_ticks 66 = .ok (.getfield 32, 3) := by decide +kernel
theorem dX12_ticks_69 : decode cX12_ticks 69 = .ok (.iload_n 1, 1) := by decide +kernel
theorem dX12_ticks_70 : decode cX12_ticks 70 = .ok (.iaload, 1) := by decide +kernel
theorem dX12_ticks_71 : decode cX12_ticks 71 = .ok (.iconst (-1), 1) := by decide +kernel
theorem dX12_ticks_72 : decode cX12_ticks 72 = .ok (.if_icmp .eq 24, 3) := by decide +kernel
theorem dX12_ticks_75 : decode cX12_ticks 75 = .ok (.aload_n 0, 1) := by decide +kernel
theorem dX12_ticks_76 : decode cX12_ticks 76 = .ok (.getfield 68, 3) := by decide +kernel
theorem dX12_ticks_79 : decode cX12_ticks 79 = .ok (.aload_n 0, 1) := by decide +kernel
theorem dX12_ticks_80 : decode cX12_ticks 80 = .ok (.getfield 32, 3) := by decide +kernel
theorem dX12_ticks_83 : decode cX12_ticks 83 = .ok (.iload_n 1, 1) := by decide +kernel
theorem dX12_ticks_84 : decode cX12_ticks 84 = .ok (.iaload, 1) := by decide +kernel
theorem dX12_ticks_85 : decode cX12_ticks 85 = .ok (.aload_n 0, 1) := by decide +kernel
theorem dX12_ticks_86 : decode cX12_ticks 86 = .ok (.aload_n 0, 1) := by decide +kernel
theorem dX12_ticks_87 : decode cX12_ticks 87 = .ok (.getfield 32, 3) := by decide +kernel
theorem dX12_ticks_90 : decode cX12_ticks 90 = .ok (.iload_n 1, 1) := by decide +kernel
theorem dX12_ticks_91 : decode cX12_ticks 91 = .ok (.iaload, 1) := by decide +kernel
theorem dX12_ticks_92 : decode cX12_ticks 92 = .ok (.invokevirtual 191, 3) := by decide +kernel
theorem dX12_ticks_95 : decode cX12_ticks 95 = .ok (.iastore, 1) := by decide +kernel
theorem dX12_ticks_96 : decode cX12_ticks 96 = .ok (.iinc 1 1, 3) := by decide +kernel
theorem dX12_ticks_99 : decode cX12_ticks 99 = .ok (.goto (-87), 3) := by decide +kernel
theorem dX12_ticks_102 : decode cX12_ticks 102 = .ok (.iconst 0, 1) := by decide +kernel
theorem dX12_ticks_103 : decode cX12_ticks 103 = .ok (.istore_n 1, 1) := by decide +kernel
theorem dX12_ticks_104 : decode cX12_ticks 104 = .ok (.iconst 0, 1) := by decide +kernel
theorem dX12_ticks_105 : decode cX12_ticks 105 = .ok (.istore_n 2, 1) := by decide +kernel
theorem dX12_ticks_106 : decode cX12_ticks 106 = .ok (.iload_n 2, 1) := by decide +kernel
theorem dX12_ticks_107 : decode cX12_ticks 107 = .ok (.aload_n 0, 1) := by decide +kernel
theorem dX12_ticks_108 : decode cX12_ticks 108 = .ok (.getfield 201, 3) := by decide +kernel
theorem dX12_ticks_111 : decode cX12_ticks 111 = .ok (.if_icmp .ge 104, 3) := by decide +kernel
theorem dX12_ticks_114 : decode cX12_ticks 114 = .ok (.aload_n 0, 1) := by decide +kernel
theorem dX12_ticks_115 : decode cX12_ticks 115 = .ok (.getfield 86, 3) := by decide +kernel
theorem dX12_ticks_118 : decode cX12_ticks 118 = .ok (.iload_n 2, 1) := by decide +kernel
theorem dX12_ticks_119 : decode cX12_ticks 119 = .ok (.iaload, 1) := by decide +kernel
theorem dX12_ticks_120 : decode cX12_ticks 120 = .ok (.istore_n 3, 1) := by decide +kernel
theorem dX12_ticks_121 : decode cX12_ticks 121 = .ok (.aload_n 0, 1) := by decide +kernel
theorem dX12_ticks_122 : decode cX12_ticks 122 = .ok (.getfield 92, 3) := by decide +kernel
theorem dX12_ticks_125 : decode cX12_ticks 125 = .ok (.iload_n 2, 1) := by decide +kernel
theorem dX12_ticks_126 : decode cX12_ticks 126 = .ok (.iaload, 1) := by decide +kernel
theorem dX12_ticks_127 : decode cX12_ticks 127 = .ok (.aload_n 0, 1) := by decide +kernel
theorem dX12_ticks_128 : decode cX12_ticks 128 = .ok (.getfield 198, 3) := by decide +kernel
theorem dX12_ticks_131 : decode cX12_ticks 131 = .ok (.if_icmp .ne 44, 3) := by decide +kernel
theorem dX12_ticks_134 : decode cX12_ticks 134 = .ok (.aload_n 0, 1) := by decide +kernel
theorem dX12_ticks_135 : decode cX12_ticks 135 = .ok (.getfield 68, 3) := by decide +kernel
theorem dX12_ticks_138 : decode cX12_ticks 138 = .ok (.iload_n 3, 1) := by decide +kernel
theorem dX12_ticks_139 : decode cX12_ticks 139 = .ok (.aload_n 0, 1) := by decide +kernel
theorem dX12_ticks_140 : decode cX12_ticks 140 = .ok (.getfield 23, 3) := by decide +kernel
theorem dX12_ticks_143 : decode cX12_ticks 143 = .ok (.iload_n 3, 1) := by decide +kernel
theorem dX12_ticks_144 : decode cX12_ticks 144 = .ok (.iaload, 1) := by decide +kernel
theorem dX12_ticks_145 : decode cX12_ticks 145 = .ok (.iconst 1, 1) := by decide +kernel
theorem dX12_ticks_146 : decode cX12_ticks 146 = .ok (.if_icmp .ne 12, 3) := by decide +kernel
theorem dX12_ticks_149 : decode cX12_ticks 149 = .ok (.aload_n 0, 1) := by decide +kernel
theorem dX12_ticks_150 : decode cX12_ticks 150 = .ok (.getfield 89, 3) := by decide +kernel
theorem dX12_ticks_153 : decode cX12_ticks 153 = .ok (.iload_n 2, 1) := by decide +kernel
theorem dX12_ticks_154 : decode cX12_ticks 154 = .ok (.iaload, 1) := by decide +kernel
theorem dX12_ticks_155 : decode cX12_ticks 155 = .ok (.goto 16, 3) := by decide +kernel
theorem dX12_ticks_158 : decode cX12_ticks 158 = .ok (.aload_n 0, 1) := by decide +kernel
theorem dX12_ticks_159 : decode cX12_ticks 159 = .ok (.getfield 68, 3) := by decide +kernel
theorem dX12_ticks_162 : decode cX12_ticks 162 = .ok (.iload_n 3, 1) := by decide +kernel
theorem dX12_ticks_163 : decode cX12_ticks 163 = .ok (.iaload, 1) := by decide +kernel
theorem dX12_ticks_164 : decode cX12_ticks 164 = .ok (.aload_n 0, 1) := by decide +kernel
theorem dX12_ticks_165 : decode cX12_ticks 165 = .ok (.getfield 89, 3) := by decide +kernel
theorem dX12_ticks_168 : decode cX12_ticks 168 = .ok (.iload_n 2, 1) := by decide +kernel
theorem dX12_ticks_169 : decode cX12_ticks 169 = .ok (.iaload, 1) := by decide +kernel
theorem dX12_ticks_170 : decode cX12_ticks 170 = .ok (.ior, 1) := by decide +kernel
theorem dX12_ticks_171 : decode cX12_ticks 171 = .ok (.iastore, 1) := by decide +kernel
theorem dX12_ticks_172 : decode cX12_ticks 172 = .ok (.goto 37, 3) := by decide +kernel
theorem dX12_ticks_175 : decode cX12_ticks 175 = .ok (.aload_n 0, 1) := by decide +kernel
theorem dX12_ticks_176 : decode cX12_ticks 176 = .ok (.getfield 86, 3) := by decide +kernel
theorem dX12_ticks_179 : decode cX12_ticks 179 = .ok (.iload_n 1, 1) := by decide +kernel
theorem dX12_ticks_180 : decode cX12_ticks 180 = .ok (.iload_n 3, 1) := by decide +kernel
theorem dX12_ticks_181 : decode cX12_ticks 181 = .ok (.iastore, 1) := by decide +kernel
theorem dX12_ticks_182 : decode cX12_ticks 182 = .ok (.aload_n 0, 1) := by decide +kernel
theorem dX12_ticks_183 : decode cX12_ticks 183 = .ok (.getfield 89, 3) := by decide +kernel
theorem dX12_ticks_186 : decode cX12_ticks 186 = .ok (.iload_n 1, 1) := by decide +kernel
theorem dX12_ticks_187 : decode cX12_ticks 187 = .ok (.aload_n 0, 1) := by decide +kernel
theorem dX12_ticks_188 : decode cX12_ticks 188 = .ok (.getfield 89, 3) := by decide +kernel
theorem dX12_ticks_191 : decode cX12_ticks 191 = .ok (.iload_n 2, 1) := by decide +kernel
theorem dX12_ticks_192 : decode cX12_ticks 192 = .ok (.iaload, 1) := by decide +kernel
theorem dX12_ticks_193 : decode cX12_ticks 193 = .ok (.iastore, 1) := by decide +kernel
theorem dX12_ticks_194 : decode cX12_ticks 194 = .ok (.aload_n 0, 1) := by decide +kernel
theorem dX12_ticks_195 : decode cX12_ticks 195 = .ok (.getfield 92, 3) := by decide +kernel
theorem dX12_ticks_198 : decode cX12_ticks 198 = .ok (.iload_n 1, 1) := by decide +kernel
theorem dX12_ticks_199 : decode cX12_ticks 199 = .ok (.aload_n 0, 1) := by decide +kernel
theorem dX12_ticks_200 : decode cX12_ticks 200 = .ok (.getfield 92, 3) := by decide +kernel
theorem dX12_ticks_203 : decode cX12_ticks 203 = .ok (.iload_n 2, 1) := by decide +kernel
theorem dX12_ticks_204 : decode cX12_ticks 204 = .ok (.iaload, 1) := by decide +kernel
theorem dX12_ticks_205 : decode cX12_ticks 205 = .ok (.iastore, 1) := by decide +kernel
theorem dX12_ticks_206 : decode cX12_ticks 206 = .ok (.iinc 1 1, 3) := by decide +kernel
theorem dX12_ticks_209 : decode cX12_ticks 209 = .ok (.iinc 2 1, 3) := by decide +kernel
theorem dX12_ticks_212 : decode cX12_ticks 212 = .ok (.goto (-106), 3) := by decide +kernel
theorem dX12_ticks_215 : decode cX12_ticks 215 = .ok (.aload_n 0, 1) := by decide +kernel
theorem dX12_ticks_216 : decode cX12_ticks 216 = .ok (.iload_n 1, 1) := by decide +kernel
theorem dX12_ticks_217 : decode cX12_ticks 217 = .ok (.putfield 201, 3) := by decide +kernel
theorem dX12_ticks_220 : decode cX12_ticks 220 = .ok (.return_, 1) := by decide +kernel
theorem dX12_reads_0 : decode cX12_reads 0 = .ok (.iconst 0, 1) := by decide +kernel
theorem dX12_reads_1 : decode cX12_reads 1 = .ok (.istore_n 3, 1) := by decide +kernel
theorem dX12_reads_2 : decode cX12_reads 2 = .ok (.iconst 0, 1) := by decide +kernel
theorem dX12_reads_3 : decode cX12_reads 3 = .ok (.istore 4, 2) := by decide +kernel
theorem dX12_reads_5 : decode cX12_reads 5 = .ok (.iload 4, 2) := by decide +kernel
theorem dX12_reads_7 : decode cX12_reads 7 = .ok (.aload_n 0, 1) := by decide +kernel
theorem dX12_reads_8 : decode cX12_reads 8 = .ok (.getfield 181, 3) := by decide +kernel
theorem dX12_reads_11 : decode cX12_reads 11 = .ok (.if_icmp .ge 94, 3) := by decide +kernel
theorem dX12_reads_14 : decode cX12_reads 14 = .ok (.aload_n 0, 1) := by decide +kernel
theorem dX12_reads_15 : decode cX12_reads 15 = .ok (.getfield 13, 3) := by decide +kernel
theorem dX12_reads_18 : decode cX12_reads 18 = .ok (.iload 4, 2) := by decide +kernel
theorem dX12_reads_20 : decode cX12_reads 20 = .ok (.iaload, 1) := by decide +kernel
theorem dX12_reads_21 : decode cX12_reads 21 = .ok (.iload_n 1, 1) := by decide +kernel
theorem dX12_reads_22 : decode cX12_reads 22 = .ok (.if_icmp .ne 77, 3) := by decide +kernel
theorem dX12_reads_25 : decode cX12_reads 25 = .ok (.aload_n 0, 1) := by decide +kernel
theorem dX12_reads_26 : decode cX12_reads 26 = .ok (.getfield 23, 3) := by decide +kernel
theorem dX12_reads_29 : decode cX12_reads 29 = .ok (.iload 4, 2) := by decide +kernel
theorem dX12_reads_31 : decode cX12_reads 31 = .ok (.iaload, 1) := by decide +kernel
theorem dX12_reads_32 : decode cX12_reads 32 = .ok (.bipush 6, 2) := by decide +kernel
theorem dX12_reads_34 : decode cX12_reads 34 = .ok (.if_icmp .eq 65, 3) := by decide +kernel
theorem dX12_reads_37 : decode cX12_reads 37 = .ok (.iload_n 3, 1) := by decide +kernel
theorem dX12_reads_38 : decode cX12_reads 38 = .ok (.aload_n 0, 1) := by decide +kernel
theorem dX12_reads_39 : decode cX12_reads 39 = .ok (.getfield 68, 3) := by decide +kernel
theorem dX12_reads_42 : decode cX12_reads 42 = .ok (.iload 4, 2) := by decide +kernel
theorem dX12_reads_44 : decode cX12_reads 44 = .ok (.iaload, 1) := by decide +kernel
theorem dX12_reads_45 : decode cX12_reads 45 = .ok (.aload_n 0, 1) := by decide +kernel
theorem dX12_reads_46 : decode cX12_reads 46 = .ok (.getfield 17, 3) := by decide +kernel
theorem dX12_reads_49 : decode cX12_reads 49 = .ok (.iload 4, 2) := by decide +kernel
theorem dX12_reads_51 : decode cX12_reads 51 = .ok (.iaload, 1) := by decide +kernel
theorem dX12_reads_52 : decode cX12_reads 52 = .ok (.ishl, 1) := by decide +kernel
theorem dX12_reads_53 : decode cX12_reads 53 = .ok (.ior, 1) := by decide +kernel
theorem dX12_reads_54 : decode cX12_reads 54 = .ok (.istore_n 3, 1) := by decide +kernel
theorem dX12_reads_55 : decode cX12_reads 55 = .ok (.aload_n 0, 1) := by decide +kernel
theorem dX12_reads_56 : decode cX12_reads 56 = .ok (.getfield 23, 3) := by decide +kernel
theorem dX12_reads_59 : decode cX12_reads 59 = .ok (.iload 4, 2) := by decide +kernel
theorem dX12_reads_61 : decode cX12_reads 61 = .ok (.iaload, 1) := by decide +kernel
theorem dX12_reads_62 : decode cX12_reads 62 = .ok (.iconst 3, 1) := by decide +kernel
theorem dX12_reads_63 : decode cX12_reads 63 = .ok (.if_icmp .ne 36, 3) := by decide +kernel
theorem dX12_reads_66 : decode cX12_reads 66 = .ok (.aload_n 0, 1) := by decide +kernel
theorem dX12_reads_67 : decode cX12_reads 67 = .ok (.getfield 77, 3) := by decide +kernel
theorem dX12_reads_70 : decode cX12_reads 70 = .ok (.iload 4, 2) := by decide +kernel
theorem dX12_reads_72 : decode cX12_reads 72 = .ok (.dup2, 1) := by decide +kernel
theorem dX12_reads_73 : decode cX12_reads 73 = .ok (.iaload, 1) := by decide +kernel
theorem dX12_reads_74 : decode cX12_reads 74 = .ok (.iload_n 2, 1) := by decide +kernel
theorem dX12_reads_75 : decode cX12_reads 75 = .ok (.ifCond .eq 13, 3) := by decide +kernel
theorem dX12_reads_78 : decode cX12_reads 78 = .ok (.aload_n 0, 1) := by decide +kernel
theorem dX12_reads_79 : decode cX12_reads 79 = .ok (.getfield 68, 3) := by decide +kernel
theorem dX12_reads_82 : decode cX12_reads 82 = .ok (.iload 4, 2) := by decide +kernel
theorem dX12_reads_84 : decode cX12_reads 84 = .ok (.iaload, 1) := by decide +kernel
theorem dX12_reads_85 : decode cX12_reads 85 = .ok (.goto 4, 3) := by decide +kernel
theorem dX12_reads_88 : decode cX12_reads 88 = .ok (.iconst 0, 1) := by decide +kernel
theorem dX12_reads_89 : decode cX12_reads 89 = .ok (.ior, 1) := by decide +kernel
theorem dX12_reads_90 : decode cX12_reads 90 = .ok (.iastore, 1) := by decide +kernel
theorem dX12_reads_91 : decode cX12_reads 91 = .ok (.aload_n 0, 1) := by decide +kernel
theorem dX12_reads_92 : decode cX12_reads 92 = .ok (.getfield 68, 3) := by decide +kernel
theorem dX12_reads_95 : decode cX12_reads 95 = .ok (.iload 4, 2) := by decide +kernel
theorem dX12_reads_97 : decode cX12_reads 97 = .ok (.iconst 0, 1) := by decide +kernel
theorem dX12_reads_98 : decode cX12_reads 98 = .ok (.iastore, 1) := by decide +kernel
theorem dX12_reads_99 : decode cX12_reads 99 = .ok (.iinc 4 1, 3) := by decide +kernel
theorem dX12_reads_102 : decode cX12_reads 102 = .ok (.goto (-97), 3) := by decide +kernel
theorem dX12_reads_105 : decode cX12_reads 105 = .ok (.aload_n 0, 1) := by decide +kernel
theorem dX12_reads_106 : decode cX12_reads 106 = .ok (.invokevirtual 244, 3) := by decide +kernel
theorem dX12_reads_109 : decode cX12_reads 109 = .ok (.iload_n 3, 1) := by decide +kernel
theorem dX12_reads_110 : decode cX12_reads 110 = .ok (.ireturn, 1) := by decide +kernel
theorem dX12_bitsOf_0 : decode cX12_bitsOf 0 = .ok (.iload_n 2, 1) := by decide +kernel
theorem dX12_bitsOf_1 : decode cX12_bitsOf 1 = .ok (.aload_n 0, 1) := by decide +kernel
theorem dX12_bitsOf_2 : decode cX12_bitsOf 2 = .ok (.getfield 17, 3) := by decide +kernel
theorem dX12_bitsOf_5 : decode cX12_bitsOf 5 = .ok (.iload_n 1, 1) := by decide +kernel
theorem dX12_bitsOf_6 : decode cX12_bitsOf 6 = .ok (.iaload, 1) := by decide +kernel
theorem dX12_bitsOf_7 : decode cX12_bitsOf 7 = .ok (.ishr, 1) := by decide +kernel
theorem dX12_bitsOf_8 : decode cX12_bitsOf 8 = .ok (.aload_n 0, 1) := by decide +kernel
theorem dX12_bitsOf_9 : decode cX12_bitsOf 9 = .ok (.iload_n 1, 1) := by decide +kernel
theorem dX12_bitsOf_10 : decode cX12_bitsOf 10 = .ok (.invokevirtual 191, 3) := by decide +kernel
theorem dX12_bitsOf_13 : decode cX12_bitsOf 13 = .ok (.iand, 1) := by decide +kernel
theorem dX12_bitsOf_14 : decode cX12_bitsOf 14 = .ok (.ireturn, 1) := by decide +kernel
theorem dX12_hits_0 : decode cX12_hits 0 = .ok (.aload_n 0, 1) := by decide +kernel
theorem dX12_hits_1 : decode cX12_hits 1 = .ok (.getfield 13, 3) := by decide +kernel
theorem dX12_hits_4 : decode cX12_hits 4 = .ok (.iload_n 1, 1) := by decide +kernel
theorem dX12_hits_5 : decode cX12_hits 5 = .ok (.iaload, 1) := by decide +kernel
theorem dX12_hits_6 : decode cX12_hits 6 = .ok (.iload_n 2, 1) := by decide +kernel
theorem dX12_hits_7 : decode cX12_hits 7 = .ok (.if_icmp .eq 5, 3) := by decide +kernel
theorem dX12_hits_10 : decode cX12_hits 10 = .ok (.iconst 0, 1) := by decide +kernel
theorem dX12_hits_11 : decode cX12_hits 11 = .ok (.ireturn, 1) := by decide +kernel
theorem dX12_hits_12 : decode cX12_hits 12 = .ok (.aload_n 0, 1) := by decide +kernel
theorem dX12_hits_13 : decode cX12_hits 13 = .ok (.iload_n 1, 1) := by decide +kernel
theorem dX12_hits_14 : decode cX12_hits 14 = .ok (.iload_n 3, 1) := by decide +kernel
theorem dX12_hits_15 : decode cX12_hits 15 = .ok (.invokevirtual 247, 3) := by decide +kernel
theorem dX12_hits_18 : decode cX12_hits 18 = .ok (.istore 4, 2) := by decide +kernel
theorem dX12_hits_20 : decode cX12_hits 20 = .ok (.aload_n 0, 1) := by decide +kernel
theorem dX12_hits_21 : decode cX12_hits 21 = .ok (.getfield 23, 3) := by decide +kernel
theorem dX12_hits_24 : decode cX12_hits 24 = .ok (.iload_n 1, 1) := by decide +kernel
theorem dX12_hits_25 : decode cX12_hits 25 = .ok (.iaload, 1) := by decide +kernel
theorem dX12_hits_26 : decode cX12_hits 26 = .ok (.tableswitch 87 0 6 #[42, 87, 76, 87, 76, 59, 76], 42) := by decide +kernel
theorem dX12_hits_68 : decode cX12_hits 68 = .ok (.iload 4, 2) := by decide +kernel
theorem dX12_hits_70 : decode cX12_hits 70 = .ok (.aload_n 0, 1) := by decide +kernel
theorem dX12_hits_71 : decode cX12_hits 71 = .ok (.getfield 68, 3) := by decide +kernel
theorem dX12_hits_74 : decode cX12_hits 74 = .ok (.iload_n 1, 1) := by decide +kernel
theorem dX12_hits_75 : decode cX12_hits 75 = .ok (.iaload, 1) := by decide +kernel
theorem dX12_hits_76 : decode cX12_hits 76 = .ok (.if_icmp .eq 7, 3) := by decide +kernel
theorem dX12_hits_79 : decode cX12_hits 79 = .ok (.iconst 1, 1) := by decide +kernel
theorem dX12_hits_80 : decode cX12_hits 80 = .ok (.goto 4, 3) := by decide +kernel
theorem dX12_hits_83 : decode cX12_hits 83 = .ok (.iconst 0, 1) := by decide +kernel
theorem dX12_hits_84 : decode cX12_hits 84 = .ok (.ireturn, 1) := by decide +kernel
theorem dX12_hits_85 : decode cX12_hits 85 = .ok (.iload 4, 2) := by decide +kernel
theorem dX12_hits_87 : decode cX12_hits 87 = .ok (.aload_n 0, 1) := by decide +kernel
theorem dX12_hits_88 : decode cX12_hits 88 = .ok (.getfield 71, 3) := by decide +kernel
theorem dX12_hits_91 : decode cX12_hits 91 = .ok (.iload_n 1, 1) := by decide +kernel
theorem dX12_hits_92 : decode cX12_hits 92 = .ok (.iaload, 1) := by decide +kernel
theorem dX12_hits_93 : decode cX12_hits 93 = .ok (.if_icmp .eq 7, 3) := by decide +kernel
theorem dX12_hits_96 : decode cX12_hits 96 = .ok (.iconst 1, 1) := by decide +kernel
theorem dX12_hits_97 : decode cX12_hits 97 = .ok (.goto 4, 3) := by decide +kernel
theorem dX12_hits_100 : decode cX12_hits 100 = .ok (.iconst 0, 1) := by decide +kernel
theorem dX12_hits_101 : decode cX12_hits 101 = .ok (.ireturn, 1) := by decide +kernel
theorem dX12_hits_102 : decode cX12_hits 102 = .ok (.iload 4, 2) := by decide +kernel
theorem dX12_hits_104 : decode cX12_hits 104 = .ok (.ifCond .eq 7, 3) := by decide +kernel
theorem dX12_hits_107 : decode cX12_hits 107 = .ok (.iconst 1, 1) := by decide +kernel
theorem dX12_hits_108 : decode cX12_hits 108 = .ok (.goto 4, 3) := by decide +kernel
theorem dX12_hits_111 : decode cX12_hits 111 = .ok (.iconst 0, 1) := by decide +kernel
theorem dX12_hits_112 : decode cX12_hits 112 = .ok (.ireturn, 1) := by decide +kernel
theorem dX12_hits_113 : decode cX12_hits 113 = .ok (.iconst 0, 1) := by decide +kernel
theorem dX12_hits_114 : decode cX12_hits 114 = .ok (.ireturn, 1) := by decide +kernel
theorem dX12_isBroken_0 : decode cX12_isBroken 0 = .ok (.aload_n 0, 1) := by decide +kernel
theorem dX12_isBroken_1 : decode cX12_isBroken 1 = .ok (.getfield 44, 3) := by decide +kernel
theorem dX12_isBroken_4 : decode cX12_isBroken 4 = .ok (.iload_n 1, 1) := by decide +kernel
theorem dX12_isBroken_5 : decode cX12_isBroken 5 = .ok (.iaload, 1) := by decide +kernel
theorem dX12_isBroken_6 : decode cX12_isBroken 6 = .ok (.istore_n 2, 1) := by decide +kernel
theorem dX12_isBroken_7 : decode cX12_isBroken 7 = .ok (.aload_n 0, 1) := by decide +kernel
theorem dX12_isBroken_8 : decode cX12_isBroken 8 = .ok (.getfield 38, 3) := by decide +kernel
theorem dX12_isBroken_11 : decode cX12_isBroken 11 = .ok (.iload_n 1, 1) := by decide +kernel
theorem dX12_isBroken_12 : decode cX12_isBroken 12 = .ok (.iaload, 1) := by decide +kernel
theorem dX12_isBroken_13 : decode cX12_isBroken 13 = .ok (.lookupswitch 69 #[(0, 27), (1, 48)], 27) := by decide +kernel
theorem dX12_isBroken_40 : decode cX12_isBroken 40 = .ok (.aload_n 0, 1) := by decide +kernel
theorem dX12_isBroken_41 : decode cX12_isBroken 41 = .ok (.getfield 68, 3) := by decide +kernel
theorem dX12_isBroken_44 : decode cX12_isBroken 44 = .ok (.iload_n 2, 1) := by decide +kernel
theorem dX12_isBroken_45 : decode cX12_isBroken 45 = .ok (.iaload, 1) := by decide +kernel
theorem dX12_isBroken_46 : decode cX12_isBroken 46 = .ok (.aload_n 0, 1) := by decide +kernel
theorem dX12_isBroken_47 : decode cX12_isBroken 47 = .ok (.getfield 47, 3) := by decide +kernel
theorem dX12_isBroken_50 : decode cX12_isBroken 50 = .ok (.iload_n 1, 1) := by decide +kernel
theorem dX12_isBroken_51 : decode cX12_isBroken 51 = .ok (.iaload, 1) := by decide +kernel
theorem dX12_isBroken_52 : decode cX12_isBroken 52 = .ok (.if_icmp .ne 7, 3) := by decide +kernel
theorem dX12_isBroken_55 : decode cX12_isBroken 55 = .ok (.iconst 1, 1) := by decide +kernel
theorem dX12_isBroken_56 : decode cX12_isBroken 56 = .ok (.goto 4, 3) := by decide +kernel
theorem dX12_isBroken_59 : decode cX12_isBroken 59 = .ok (.iconst 0, 1) := by decide +kernel
theorem dX12_isBroken_60 : decode cX12_isBroken 60 = .ok (.ireturn, 1) := by decide +kernel
theorem dX12_isBroken_61 : decode cX12_isBroken 61 = .ok (.aload_n 0, 1) := by decide +kernel
theorem dX12_isBroken_62 : decode cX12_isBroken 62 = .ok (.getfield 68, 3) := by decide +kernel
theorem dX12_isBroken_65 : decode cX12_isBroken 65 = .ok (.iload_n 2, 1) := by decide +kernel
theorem dX12_isBroken_66 : decode cX12_isBroken 66 = .ok (.iaload, 1) := by decide +kernel
theorem dX12_isBroken_67 : decode cX12_isBroken 67 = .ok (.aload_n 0, 1) := by decide +kernel
theorem dX12_isBroken_68 : decode cX12_isBroken 68 = .ok (.getfield 47, 3) := by decide +kernel
theorem dX12_isBroken_71 : decode cX12_isBroken 71 = .ok (.iload_n 1, 1) := by decide +kernel
theorem dX12_isBroken_72 : decode cX12_isBroken 72 = .ok (.iaload, 1) := by decide +kernel
theorem dX12_isBroken_73 : decode cX12_isBroken 73 = .ok (.if_icmp .eq 7, 3) := by decide +kernel
theorem dX12_isBroken_76 : decode cX12_isBroken 76 = .ok (.iconst 1, 1) := by decide +kernel
theorem dX12_isBroken_77 : decode cX12_isBroken 77 = .ok (.goto 4, 3) := by decide +kernel
theorem dX12_isBroken_80 : decode cX12_isBroken 80 = .ok (.iconst 0, 1) := by decide +kernel
theorem dX12_isBroken_81 : decode cX12_isBroken 81 = .ok (.ireturn, 1) := by decide +kernel
theorem dX12_isBroken_82 : decode cX12_isBroken 82 = .ok (.aload_n 0, 1) := by decide +kernel
theorem dX12_isBroken_83 : decode cX12_isBroken 83 = .ok (.getfield 80, 3) := by decide +kernel
theorem dX12_isBroken_86 : decode cX12_isBroken 86 = .ok (.iload_n 2, 1) := by decide +kernel
theorem dX12_isBroken_87 : decode cX12_isBroken 87 = .ok (.iaload, 1) := by decide +kernel
theorem dX12_isBroken_88 : decode cX12_isBroken 88 = .ok (.iconst (-1), 1) := by decide +kernel
theorem dX12_isBroken_89 : decode cX12_isBroken 89 = .ok (.if_icmp .eq 27, 3) := by decide +kernel
theorem dX12_isBroken_92 : decode cX12_isBroken 92 = .ok (.aload_n 0, 1) := by decide +kernel
theorem dX12_isBroken_93 : decode cX12_isBroken 93 = .ok (.getfield 198, 3) := by decide +kernel
theorem dX12_isBroken_96 : decode cX12_isBroken 96 = .ok (.aload_n 0, 1) := by decide +kernel
theorem dX12_isBroken_97 : decode cX12_isBroken 97 = .ok (.getfield 80, 3) := by decide +kernel
theorem dX12_isBroken_100 : decode cX12_isBroken 100 = .ok (.iload_n 2, 1) := by decide +kernel
theorem dX12_isBroken_101 : decode cX12_isBroken 101 = .ok (.iaload, 1) := by decide +kernel
theorem dX12_isBroken_102 : decode cX12_isBroken 102 = .ok (.isub, 1) := by decide +kernel
theorem dX12_isBroken_103 : decode cX12_isBroken 103 = .ok (.aload_n 0, 1) := by decide +kernel
theorem dX12_isBroken_104 : decode cX12_isBroken 104 = .ok (.getfield 47, 3) := by decide +kernel
theorem dX12_isBroken_107 : decode cX12_isBroken 107 = .ok (.iload_n 1, 1) := by decide +kernel
theorem dX12_isBroken_108 : decode cX12_isBroken 108 = .ok (.iaload, 1) := by decide +kernel
theorem dX12_isBroken_109 : decode cX12_isBroken 109 = .ok (.if_icmp .ge 7, 3) := by decide +kernel
theorem dX12_isBroken_112 : decode cX12_isBroken 112 = .ok (.iconst 1, 1) := by decide +kernel
theorem dX12_isBroken_113 : decode cX12_isBroken 113 = .ok (.goto 4, 3) := by decide +kernel
theorem dX12_isBroken_116 : decode cX12_isBroken 116 = .ok (.iconst 0, 1) := by decide +kernel
theorem dX12_isBroken_117 : decode cX12_isBroken 117 = .ok (.ireturn, 1) := by decide +kernel
theorem dX12_judges_0 : decode cX12_judges 0 = .ok (.iconst 0, 1) := by decide +kernel
theorem dX12_judges_1 : decode cX12_judges 1 = .ok (.istore_n 3, 1) := by decide +kernel
theorem dX12_judges_2 : decode cX12_judges 2 = .ok (.iload_n 3, 1) := by decide +kernel
theorem dX12_judges_3 : decode cX12_judges 3 = .ok (.aload_n 0, 1) := by decide +kernel
theorem dX12_judges_4 : decode cX12_judges 4 = .ok (.getfield 225, 3) := by decide +kernel
theorem dX12_judges_7 : decode cX12_judges 7 = .ok (.if_icmp .ge 62, 3) := by decide +kernel
theorem dX12_judges_10 : decode cX12_judges 10 = .ok (.aload_n 0, 1) := by decide +kernel
theorem dX12_judges_11 : decode cX12_judges 11 = .ok (.aload_n 0, 1) := by decide +kernel
theorem dX12_judges_12 : decode cX12_judges 12 = .ok (.getfield 41, 3) := by decide +kernel
theorem dX12_judges_15 : decode cX12_judges 15 = .ok (.iload_n 3, 1) := by decide +kernel
theorem dX12_judges_16 : decode cX12_judges 16 = .ok (.iaload, 1) := by decide +kernel
theorem dX12_judges_17 : decode cX12_judges 17 = .ok (.iload_n 1, 1) := by decide +kernel
theorem dX12_judges_18 : decode cX12_judges 18 = .ok (.iload_n 2, 1) := by decide +kernel
theorem dX12_judges_19 : decode cX12_judges 19 = .ok (.invokevirtual 251, 3) := by decide +kernel
theorem dX12_judges_22 : decode cX12_judges 22 = .ok (.ifCond .eq 41, 3) := by decide +kernel
theorem dX12_judges_25 : decode cX12_judges 25 = .ok (.aload_n 0, 1) := by decide +kernel
theorem dX12_judges_26 : decode cX12_judges 26 = .ok (.iload_n 3, 1) := by decide +kernel
theorem dX12_judges_27 : decode cX12_judges 27 = .ok (.invokevirtual 254, 3) := by decide +kernel
theorem dX12_judges_30 : decode cX12_judges 30 = .ok (.ifCond .eq 33, 3) := by decide +kernel
theorem dX12_judges_33 : decode cX12_judges 33 = .ok (.aload_n 0, 1) := by decide +kernel
theorem dX12_judges_34 : decode cX12_judges 34 = .ok (.getfield 204, 3) := by decide +kernel
theorem dX12_judges_37 : decode cX12_judges 37 = .ok (.ifCond .ne 16, 3) := by decide +kernel
theorem dX12_judges_40 : decode cX12_judges 40 = .ok (.aload_n 0, 1) := by decide +kernel
theorem dX12_judges_41 : decode cX12_judges 41 = .ok (.iload_n 3, 1) := by decide +kernel
theorem dX12_judges_42 : decode cX12_judges 42 = .ok (.putfield 207, 3) := by decide +kernel
theorem dX12_judges_45 : decode cX12_judges 45 = .ok (.aload_n 0, 1) := by decide +kernel
theorem dX12_judges_46 : decode cX12_judges 46 = .ok (.aload_n 0, 1) := by decide +kernel
theorem dX12_judges_47 : decode cX12_judges 47 = .ok (.getfield 198, 3) := by decide +kernel
theorem dX12_judges_50 : decode cX12_judges 50 = .ok (.putfield 210, 3) := by decide +kernel
theorem dX12_judges_53 : decode cX12_judges 53 = .ok (.aload_n 0, 1) := by decide +kernel
theorem dX12_judges_54 : decode cX12_judges 54 = .ok (.dup, 1) := by decide +kernel
theorem dX12_judges_55 : decode cX12_judges 55 = .ok (.getfield 204, 3) := by decide +kernel
theorem dX12_judges_58 : decode cX12_judges 58 = .ok (.iconst 1, 1) := by decide +kernel
theorem dX12_judges_59 : decode cX12_judges 59 = .ok (.iadd, 1) := by decide +kernel
theorem dX12_judges_60 : decode cX12_judges 60 = .ok (.putfield 204, 3) := by decide +kernel
theorem dX12_judges_63 : decode cX12_judges 63 = .ok (.iinc 3 1, 3) := by decide +kernel
theorem dX12_judges_66 : decode cX12_judges 66 = .ok (.goto (-64), 3) := by decide +kernel
theorem dX12_judges_69 : decode cX12_judges 69 = .ok (.return_, 1) := by decide +kernel
theorem dX12_takes_0 : decode cX12_takes 0 = .ok (.aload_n 0, 1) := by decide +kernel
theorem dX12_takes_1 : decode cX12_takes 1 = .ok (.getfield 23, 3) := by decide +kernel
theorem dX12_takes_4 : decode cX12_takes 4 = .ok (.iload_n 1, 1) := by decide +kernel
theorem dX12_takes_5 : decode cX12_takes 5 = .ok (.iaload, 1) := by decide +kernel
theorem dX12_takes_6 : decode cX12_takes 6 = .ok (.tableswitch 179 0 6 #[42, 179, 52, 179, 67, 115, 125], 42) := by decide +kernel
theorem dX12_takes_48 : decode cX12_takes 48 = .ok (.aload_n 0, 1) := by decide +kernel
theorem dX12_takes_49 : decode cX12_takes 49 = .ok (.getfield 68, 3) := by decide +kernel
theorem dX12_takes_52 : decode cX12_takes 52 = .ok (.iload_n 1, 1) := by decide +kernel
theorem dX12_takes_53 : decode cX12_takes 53 = .ok (.iload_n 2, 1) := by decide +kernel
theorem dX12_takes_54 : decode cX12_takes 54 = .ok (.iastore, 1) := by decide +kernel
theorem dX12_takes_55 : decode cX12_takes 55 = .ok (.goto 130, 3) := by decide +kernel
theorem dX12_takes_58 : decode cX12_takes 58 = .ok (.aload_n 0, 1) := by decide +kernel
theorem dX12_takes_59 : decode cX12_takes 59 = .ok (.getfield 68, 3) := by decide +kernel
theorem dX12_takes_62 : decode cX12_takes 62 = .ok (.iload_n 1, 1) := by decide +kernel
theorem dX12_takes_63 : decode cX12_takes 63 = .ok (.dup2, 1) := by decide +kernel
theorem dX12_takes_64 : decode cX12_takes 64 = .ok (.iaload, 1) := by decide +kernel
theorem dX12_takes_65 : decode cX12_takes 65 = .ok (.iload_n 2, 1) := by decide +kernel
theorem dX12_takes_66 : decode cX12_takes 66 = .ok (.iconst (-1), 1) := by decide +kernel
theorem dX12_takes_67 : decode cX12_takes 67 = .ok (.ixor, 1) := by decide +kernel
theorem dX12_takes_68 : decode cX12_takes 68 = .ok (.iand, 1) := by decide +kernel
theorem dX12_takes_69 : decode cX12_takes 69 = .ok (.iastore, 1) := by decide +kernel
theorem dX12_takes_70 : decode cX12_takes 70 = .ok (.goto 115, 3) := by decide +kernel
theorem dX12_takes_73 : decode cX12_takes 73 = .ok (.aload_n 0, 1) := by decide +kernel
theorem dX12_takes_74 : decode cX12_takes 74 = .ok (.getfield 68, 3) := by decide +kernel
theorem dX12_takes_77 : decode cX12_takes 77 = .ok (.iload_n 1, 1) := by decide +kernel
theorem dX12_takes_78 : decode cX12_takes 78 = .ok (.iload_n 2, 1) := by decide +kernel
theorem dX12_takes_79 : decode cX12_takes 79 = .ok (.ifCond .eq 7, 3) := by decide +kernel
theorem dX12_takes_82 : decode cX12_takes 82 = .ok (.iload_n 2, 1) := by decide +kernel
theorem dX12_takes_83 : decode cX12_takes 83 = .ok (.goto 9, 3) := by decide +kernel
theorem dX12_takes_86 : decode cX12_takes 86 = .ok (.aload_n 0, 1) := by decide +kernel
theorem dX12_takes_87 : decode cX12_takes 87 = .ok (.getfield 68, 3) := by decide +kernel
theorem dX12_takes_90 : decode cX12_takes 90 = .ok (.iload_n 1, 1) := by decide +kernel
theorem dX12_takes_91 : decode cX12_takes 91 = .ok (.iaload, 1) := by decide +kernel
theorem dX12_takes_92 : decode cX12_takes 92 = .ok (.iastore, 1) := by decide +kernel
theorem dX12_takes_93 : decode cX12_takes 93 = .ok (.aload_n 0, 1) := by decide +kernel
theorem dX12_takes_94 : decode cX12_takes 94 = .ok (.getfield 74, 3) := by decide +kernel
theorem dX12_takes_97 : decode cX12_takes 97 = .ok (.iload_n 1, 1) := by decide +kernel
theorem dX12_takes_98 : decode cX12_takes 98 = .ok (.iload_n 2, 1) := by decide +kernel
theorem dX12_takes_99 : decode cX12_takes 99 = .ok (.ifCond .eq 12, 3) := by decide +kernel
theorem dX12_takes_102 : decode cX12_takes 102 = .ok (.aload_n 0, 1) := by decide +kernel
theorem dX12_takes_103 : decode cX12_takes 103 = .ok (.getfield 29, 3) := by decide +kernel
theorem dX12_takes_106 : decode cX12_takes 106 = .ok (.iload_n 1, 1) := by decide +kernel
theorem dX12_takes_107 : decode cX12_takes 107 = .ok (.iaload, 1) := by decide +kernel
theorem dX12_takes_108 : decode cX12_takes 108 = .ok (.goto 9, 3) := by decide +kernel
theorem dX12_takes_111 : decode cX12_takes 111 = .ok (.aload_n 0, 1) := by decide +kernel
theorem dX12_takes_112 : decode cX12_takes 112 = .ok (.getfield 74, 3) := by decide +kernel
theorem dX12_takes_115 : decode cX12_takes 115 = .ok (.iload_n 1, 1) := by decide +kernel
theorem dX12_takes_116 : decode cX12_takes 116 = .ok (.iaload, 1) := by decide +kernel
theorem dX12_takes_117 : decode cX12_takes 117 = .ok (.iastore, 1) := by decide +kernel
theorem dX12_takes_118 : decode cX12_takes 118 = .ok (.goto 67, 3) := by decide +kernel
theorem dX12_takes_121 : decode cX12_takes 121 = .ok (.aload_n 0, 1) := by decide +kernel
theorem dX12_takes_122 : decode cX12_takes 122 = .ok (.getfield 71, 3) := by decide +kernel
theorem dX12_takes_125 : decode cX12_takes 125 = .ok (.iload_n 1, 1) := by decide +kernel
theorem dX12_takes_126 : decode cX12_takes 126 = .ok (.iload_n 2, 1) := by decide +kernel
theorem dX12_takes_127 : decode cX12_takes 127 = .ok (.iastore, 1) := by decide +kernel
theorem dX12_takes_128 : decode cX12_takes 128 = .ok (.goto 57, 3) := by decide +kernel
theorem dX12_takes_131 : decode cX12_takes 131 = .ok (.iconst 0, 1) := by decide +kernel
theorem dX12_takes_132 : decode cX12_takes 132 = .ok (.istore_n 3, 1) := by decide +kernel
theorem dX12_takes_133 : decode cX12_takes 133 = .ok (.iload_n 3, 1) := by decide +kernel
theorem dX12_takes_134 : decode cX12_takes 134 = .ok (.aload_n 0, 1) := by decide +kernel
theorem dX12_takes_135 : decode cX12_takes 135 = .ok (.getfield 181, 3) := by decide +kernel
theorem dX12_takes_138 : decode cX12_takes 138 = .ok (.if_icmp .ge 44, 3) := by decide +kernel
theorem dX12_takes_141 : decode cX12_takes 141 = .ok (.iload_n 2, 1) := by decide +kernel
theorem dX12_takes_142 : decode cX12_takes 142 = .ok (.ifCond .eq 40, 3) := by decide +kernel
theorem dX12_takes_145 : decode cX12_takes 145 = .ok (.aload_n 0, 1) := by decide +kernel
theorem dX12_takes_146 : decode cX12_takes 146 = .ok (.getfield 68, 3) := by decide +kernel
theorem dX12_takes_149 : decode cX12_takes 149 = .ok (.iload_n 3, 1) := by decide +kernel
theorem dX12_takes_150 : decode cX12_takes 150 = .ok (.aload_n 0, 1) := by decide +kernel
theorem dX12_takes_151 : decode cX12_takes 151 = .ok (.getfield 23, 3) := by decide +kernel
theorem dX12_takes_154 : decode cX12_takes 154 = .ok (.iload_n 3, 1) := by decide +kernel
theorem dX12_takes_155 : decode cX12_takes 155 = .ok (.iaload, 1) := by decide +kernel
theorem dX12_takes_156 : decode cX12_takes 156 = .ok (.iconst 5, 1) := by decide +kernel
theorem dX12_takes_157 : decode cX12_takes 157 = .ok (.if_icmp .ne 12, 3) := by decide +kernel
theorem dX12_takes_160 : decode cX12_takes 160 = .ok (.aload_n 0, 1) := by decide +kernel
theorem dX12_takes_161 : decode cX12_takes 161 = .ok (.getfield 71, 3) := by decide +kernel
theorem dX12_takes_164 : decode cX12_takes 164 = .ok (.iload_n 3, 1) := by decide +kernel
theorem dX12_takes_165 : decode cX12_takes 165 = .ok (.iaload, 1) := by decide +kernel
theorem dX12_takes_166 : decode cX12_takes 166 = .ok (.goto 9, 3) := by decide +kernel
theorem dX12_takes_169 : decode cX12_takes 169 = .ok (.aload_n 0, 1) := by decide +kernel
theorem dX12_takes_170 : decode cX12_takes 170 = .ok (.getfield 68, 3) := by decide +kernel
theorem dX12_takes_173 : decode cX12_takes 173 = .ok (.iload_n 3, 1) := by decide +kernel
theorem dX12_takes_174 : decode cX12_takes 174 = .ok (.iaload, 1) := by decide +kernel
theorem dX12_takes_175 : decode cX12_takes 175 = .ok (.iastore, 1) := by decide +kernel
theorem dX12_takes_176 : decode cX12_takes 176 = .ok (.iinc 3 1, 3) := by decide +kernel
theorem dX12_takes_179 : decode cX12_takes 179 = .ok (.goto (-46), 3) := by decide +kernel
theorem dX12_takes_182 : decode cX12_takes 182 = .ok (.goto 3, 3) := by decide +kernel
theorem dX12_takes_185 : decode cX12_takes 185 = .ok (.return_, 1) := by decide +kernel
theorem dX12_writes_0 : decode cX12_writes 0 = .ok (.aload_n 0, 1) := by decide +kernel
theorem dX12_writes_1 : decode cX12_writes 1 = .ok (.iload_n 1, 1) := by decide +kernel
theorem dX12_writes_2 : decode cX12_writes 2 = .ok (.iload_n 2, 1) := by decide +kernel
theorem dX12_writes_3 : decode cX12_writes 3 = .ok (.invokevirtual 257, 3) := by decide +kernel
theorem dX12_writes_6 : decode cX12_writes 6 = .ok (.iconst 0, 1) := by decide +kernel
theorem dX12_writes_7 : decode cX12_writes 7 = .ok (.istore_n 3, 1) := by decide +kernel
theorem dX12_writes_8 : decode cX12_writes 8 = .ok (.iload_n 3, 1) := by decide +kernel
theorem dX12_writes_9 : decode cX12_writes 9 = .ok (.aload_n 0, 1) := by decide +kernel
theorem dX12_writes_10 : decode cX12_writes 10 = .ok (.getfield 181, 3) := by decide +kernel
theorem dX12_writes_13 : decode cX12_writes 13 = .ok (.if_icmp .ge 22, 3) := by decide +kernel
theorem dX12_writes_16 : decode cX12_writes 16 = .ok (.aload_n 0, 1) := by decide +kernel
theorem dX12_writes_17 : decode cX12_writes 17 = .ok (.getfield 162, 3) := by decide +kernel
theorem dX12_writes_20 : decode cX12_writes 20 = .ok (.iload_n 3, 1) := by decide +kernel
theorem dX12_writes_21 : decode cX12_writes 21 = .ok (.aload_n 0, 1) := by decide +kernel
theorem dX12_writes_22 : decode cX12_writes 22 = .ok (.iload_n 3, 1) := by decide +kernel
theorem dX12_writes_23 : decode cX12_writes 23 = .ok (.iload_n 1, 1) := by decide +kernel
theorem dX12_writes_24 : decode cX12_writes 24 = .ok (.iload_n 2, 1) := by decide +kernel
theorem dX12_writes_25 : decode cX12_writes 25 = .ok (.invokevirtual 251, 3) := by decide +kernel
theorem dX12_writes_28 : decode cX12_writes 28 = .ok (.bastore, 1) := by decide +kernel
theorem dX12_writes_29 : decode cX12_writes 29 = .ok (.iinc 3 1, 3) := by decide +kernel
theorem dX12_writes_32 : decode cX12_writes 32 = .ok (.goto (-24), 3) := by decide +kernel
theorem dX12_writes_35 : decode cX12_writes 35 = .ok (.iconst 0, 1) := by decide +kernel
theorem dX12_writes_36 : decode cX12_writes 36 = .ok (.istore_n 3, 1) := by decide +kernel
theorem dX12_writes_37 : decode cX12_writes 37 = .ok (.iload_n 3, 1) := by decide +kernel
theorem dX12_writes_38 : decode cX12_writes 38 = .ok (.aload_n 0, 1) := by decide +kernel
theorem dX12_writes_39 : decode cX12_writes 39 = .ok (.getfield 181, 3) := by decide +kernel
theorem dX12_writes_42 : decode cX12_writes 42 = .ok (.if_icmp .ge 58, 3) := by decide +kernel
theorem dX12_writes_45 : decode cX12_writes 45 = .ok (.aload_n 0, 1) := by decide +kernel
theorem dX12_writes_46 : decode cX12_writes 46 = .ok (.getfield 13, 3) := by decide +kernel
theorem dX12_writes_49 : decode cX12_writes 49 = .ok (.iload_n 3, 1) := by decide +kernel
theorem dX12_writes_50 : decode cX12_writes 50 = .ok (.iaload, 1) := by decide +kernel
theorem dX12_writes_51 : decode cX12_writes 51 = .ok (.iload_n 1, 1) := by decide +kernel
theorem dX12_writes_52 : decode cX12_writes 52 = .ok (.if_icmp .ne 14, 3) := by decide +kernel
theorem dX12_writes_55 : decode cX12_writes 55 = .ok (.aload_n 0, 1) := by decide +kernel
theorem dX12_writes_56 : decode cX12_writes 56 = .ok (.iload_n 3, 1) := by decide +kernel
theorem dX12_writes_57 : decode cX12_writes 57 = .ok (.aload_n 0, 1) := by decide +kernel
theorem dX12_writes_58 : decode cX12_writes 58 = .ok (.iload_n 3, 1) := by decide +kernel
theorem dX12_writes_59 : decode cX12_writes 59 = .ok (.iload_n 2, 1) := by decide +kernel
theorem dX12_writes_60 : decode cX12_writes 60 = .ok (.invokevirtual 247, 3) := by decide +kernel
theorem dX12_writes_63 : decode cX12_writes 63 = .ok (.invokevirtual 261, 3) := by decide +kernel
theorem dX12_writes_66 : decode cX12_writes 66 = .ok (.aload_n 0, 1) := by decide +kernel
theorem dX12_writes_67 : decode cX12_writes 67 = .ok (.getfield 80, 3) := by decide +kernel
theorem dX12_writes_70 : decode cX12_writes 70 = .ok (.iload_n 3, 1) := by decide +kernel
theorem dX12_writes_71 : decode cX12_writes 71 = .ok (.aload_n 0, 1) := by decide +kernel
theorem dX12_writes_72 : decode cX12_writes 72 = .ok (.getfield 162, 3) := by decide +kernel
theorem dX12_writes_75 : decode cX12_writes 75 = .ok (.iload_n 3, 1) := by decide +kernel
theorem dX12_writes_76 : decode cX12_writes 76 = .ok (.baload, 1) := by decide +kernel
theorem dX12_writes_77 : decode cX12_writes 77 = .ok (.ifCond .eq 10, 3) := by decide +kernel
theorem dX12_writes_80 : decode cX12_writes 80 = .ok (.aload_n 0, 1) := by decide +kernel
theorem dX12_writes_81 : decode cX12_writes 81 = .ok (.getfield 198, 3) := by decide +kernel
theorem dX12_writes_84 : decode cX12_writes 84 = .ok (.goto 9, 3) := by decide +kernel
theorem dX12_writes_87 : decode cX12_writes 87 = .ok (.aload_n 0, 1) := by decide +kernel
theorem dX12_writes_88 : decode cX12_writes 88 = .ok (.getfield 80, 3) := by decide +kernel
theorem dX12_writes_91 : decode cX12_writes 91 = .ok (.iload_n 3, 1) := by decide +kernel
theorem dX12_writes_92 : decode cX12_writes 92 = .ok (.iaload, 1) := by decide +kernel
theorem dX12_writes_93 : decode cX12_writes 93 = .ok (.iastore, 1) := by decide +kernel
theorem dX12_writes_94 : decode cX12_writes 94 = .ok (.iinc 3 1, 3) := by decide +kernel
theorem dX12_writes_97 : decode cX12_writes 97 = .ok (.goto (-60), 3) := by decide +kernel
theorem dX12_writes_100 : decode cX12_writes 100 = .ok (.return_, 1) := by decide +kernel
theorem dX12_emit_0 : decode cX12_emit 0 = .ok (.bipush 6, 2) := by decide +kernel
theorem dX12_emit_2 : decode cX12_emit 2 = .ok (.bipush 50, 2) := by decide +kernel
theorem dX12_emit_4 : decode cX12_emit 4 = .ok (.iload_n 1, 1) := by decide +kernel
theorem dX12_emit_5 : decode cX12_emit 5 = .ok (.imul, 1) := by decide +kernel
theorem dX12_emit_6 : decode cX12_emit 6 = .ok (.aload_n 0, 1) := by decide +kernel
theorem dX12_emit_7 : decode cX12_emit 7 = .ok (.getfield 166, 3) := by decide +kernel
theorem dX12_emit_10 : decode cX12_emit 10 = .ok (.iload_n 1, 1) := by decide +kernel
theorem dX12_emit_11 : decode cX12_emit 11 = .ok (.iaload, 1) := by decide +kernel
theorem dX12_emit_12 : decode cX12_emit 12 = .ok (.iadd, 1) := by decide +kernel
theorem dX12_emit_13 : decode cX12_emit 13 = .ok (.imul, 1) := by decide +kernel
theorem dX12_emit_14 : decode cX12_emit 14 = .ok (.istore 8, 2) := by decide +kernel
theorem dX12_emit_16 : decode cX12_emit 16 = .ok (.aload_n 0, 1) := by decide +kernel
theorem dX12_emit_17 : decode cX12_emit 17 = .ok (.getfield 169, 3) := by decide +kernel
theorem dX12_emit_20 : decode cX12_emit 20 = .ok (.iload 8, 2) := by decide +kernel
theorem dX12_emit_22 : decode cX12_emit 22 = .ok (.iload_n 2, 1) := by decide +kernel
theorem dX12_emit_23 : decode cX12_emit 23 = .ok (.iastore, 1) := by decide +kernel
theorem dX12_emit_24 : decode cX12_emit 24 = .ok (.aload_n 0, 1) := by decide +kernel
theorem dX12_emit_25 : decode cX12_emit 25 = .ok (.getfield 169, 3) := by decide +kernel
theorem dX12_emit_28 : decode cX12_emit 28 = .ok (.iload 8, 2) := by decide +kernel
theorem dX12_emit_30 : decode cX12_emit 30 = .ok (.iconst 1, 1) := by decide +kernel
theorem dX12_emit_31 : decode cX12_emit 31 = .ok (.iadd, 1) := by decide +kernel
theorem dX12_emit_32 : decode cX12_emit 32 = .ok (.iload_n 3, 1) := by decide +kernel
theorem dX12_emit_33 : decode cX12_emit 33 = .ok (.iastore, 1) := by decide +kernel
theorem dX12_emit_34 : decode cX12_emit 34 = .ok (.aload_n 0, 1) := by decide +kernel
theorem dX12_emit_35 : decode cX12_emit 35 = .ok (.getfield 169, 3) := by decide +kernel
theorem dX12_emit_38 : decode cX12_emit 38 = .ok (.iload 8, 2) := by decide +kernel
theorem dX12_emit_40 : decode cX12_emit 40 = .ok (.iconst 2, 1) := by decide +kernel
theorem dX12_emit_41 : decode cX12_emit 41 = .ok (.iadd, 1) := by decide +kernel
theorem dX12_emit_42 : decode cX12_emit 42 = .ok (.iload 4, 2) := by decide +kernel
theorem dX12_emit_44 : decode cX12_emit 44 = .ok (.iastore, 1) := by decide +kernel
theorem dX12_emit_45 : decode cX12_emit 45 = .ok (.aload_n 0, 1) := by decide +kernel
theorem dX12_emit_46 : decode cX12_emit 46 = .ok (.getfield 169, 3) := by decide +kernel
theorem dX12_emit_49 : decode cX12_emit 49 = .ok (.iload 8, 2) := by decide +kernel
theorem dX12_emit_51 : decode cX12_emit 51 = .ok (.iconst 3, 1) := by decide +kernel
theorem dX12_emit_52 : decode cX12_emit 52 = .ok (.iadd, 1) := by decide +kernel
theorem dX12_emit_53 : decode cX12_emit 53 = .ok (.iload 5, 2) := by decide +kernel
theorem dX12_emit_55 : decode cX12_emit 55 = .ok (.iastore, 1) := by decide +kernel
theorem dX12_emit_56 : decode cX12_emit 56 = .ok (.aload_n 0, 1) := by decide +kernel
theorem dX12_emit_57 : decode cX12_emit 57 = .ok (.getfield 169, 3) := by decide +kernel
theorem dX12_emit_60 : decode cX12_emit 60 = .ok (.iload 8, 2) := by decide +kernel
theorem dX12_emit_62 : decode cX12_emit 62 = .ok (.iconst 4, 1) := by decide +kernel
theorem dX12_emit_63 : decode cX12_emit 63 = .ok (.iadd, 1) := by decide +kernel
theorem dX12_emit_64 : decode cX12_emit 64 = .ok (.iload 6, 2) := by decide +kernel
theorem dX12_emit_66 : decode cX12_emit 66 = .ok (.iastore, 1) := by decide +kernel
theorem dX12_emit_67 : decode cX12_emit 67 = .ok (.aload_n 0, 1) := by decide +kernel
theorem dX12_emit_68 : decode cX12_emit 68 = .ok (.getfield 169, 3) := by decide +kernel
theorem dX12_emit_71 : decode cX12_emit 71 = .ok (.iload 8, 2) := by decide +kernel
theorem dX12_emit_73 : decode cX12_emit 73 = .ok (.iconst 5, 1) := by decide +kernel
theorem dX12_emit_74 : decode cX12_emit 74 = .ok (.iadd, 1) := by decide +kernel
theorem dX12_emit_75 : decode cX12_emit 75 = .ok (.iload 7, 2) := by decide +kernel
theorem dX12_emit_77 : decode cX12_emit 77 = .ok (.iastore, 1) := by decide +kernel
theorem dX12_emit_78 : decode cX12_emit 78 = .ok (.aload_n 0, 1) := by decide +kernel
theorem dX12_emit_79 : decode cX12_emit 79 = .ok (.getfield 166, 3) := by decide +kernel
theorem dX12_emit_82 : decode cX12_emit 82 = .ok (.iload_n 1, 1) := by decide +kernel
theorem dX12_emit_83 : decode cX12_emit 83 = .ok (.dup2, 1) := by decide +kernel
theorem dX12_emit_84 : decode cX12_emit 84 = .ok (.iaload, 1) := by decide +kernel
theorem dX12_emit_85 : decode cX12_emit 85 = .ok (.iconst 1, 1) := by decide +kernel
theorem dX12_emit_86 : decode cX12_emit 86 = .ok (.iadd, 1) := by decide +kernel
theorem dX12_emit_87 : decode cX12_emit 87 = .ok (.iastore, 1) := by decide +kernel
theorem dX12_emit_88 : decode cX12_emit 88 = .ok (.return_, 1) := by decide +kernel
theorem dX12_isBound_0 : decode cX12_isBound 0 = .ok (.iconst 0, 1) := by decide +kernel
theorem dX12_isBound_1 : decode cX12_isBound 1 = .ok (.istore_n 3, 1) := by decide +kernel
theorem dX12_isBound_2 : decode cX12_isBound 2 = .ok (.iconst 0, 1) := by decide +kernel
theorem dX12_isBound_3 : decode cX12_isBound 3 = .ok (.istore 4, 2) := by decide +kernel
theorem dX12_isBound_5 : decode cX12_isBound 5 = .ok (.iload 4, 2) := by decide +kernel
theorem dX12_isBound_7 : decode cX12_isBound 7 = .ok (.aload_n 0, 1) := by decide +kernel
theorem dX12_isBound_8 : decode cX12_isBound 8 = .ok (.getfield 225, 3) := by decide +kernel
theorem dX12_isBound_11 : decode cX12_isBound 11 = .ok (.if_icmp .ge 63, 3) := by decide +kernel
theorem dX12_isBound_14 : decode cX12_isBound 14 = .ok (.iload_n 3, 1) := by decide +kernel
theorem dX12_isBound_15 : decode cX12_isBound 15 = .ok (.ifCond .ne 47, 3) := by decide +kernel
theorem dX12_isBound_18 : decode cX12_isBound 18 = .ok (.aload_n 0, 1) := by decide +kernel
theorem dX12_isBound_19 : decode cX12_isBound 19 = .ok (.getfield 41, 3) := by decide +kernel
theorem dX12_isBound_22 : decode cX12_isBound 22 = .ok (.iload 4, 2) := by decide +kernel
theorem dX12_isBound_24 : decode cX12_isBound 24 = .ok (.iaload, 1) := by decide +kernel
theorem dX12_isBound_25 : decode cX12_isBound 25 = .ok (.iload_n 1, 1) := by decide +kernel
theorem dX12_isBound_26 : decode cX12_isBound 26 = .ok (.if_icmp .ne 14, 3) := by decide +kernel
theorem dX12_isBound_29 : decode cX12_isBound 29 = .ok (.aload_n 0, 1) := by decide +kernel
theorem dX12_isBound_30 : decode cX12_isBound 30 = .ok (.getfield 44, 3) := by decide +kernel
theorem dX12_isBound_33 : decode cX12_isBound 33 = .ok (.iload 4, 2) := by decide +kernel
theorem dX12_isBound_35 : decode cX12_isBound 35 = .ok (.iaload, 1) := by decide +kernel
theorem dX12_isBound_36 : decode cX12_isBound 36 = .ok (.iload_n 2, 1) := by decide +kernel
theorem dX12_isBound_37 : decode cX12_isBound 37 = .ok (.if_icmp .eq 25, 3) := by decide +kernel
theorem dX12_isBound_40 : decode cX12_isBound 40 = .ok (.aload_n 0, 1) := by decide +kernel
theorem dX12_isBound_41 : decode cX12_isBound 41 = .ok (.getfield 41, 3) := by decide +kernel
theorem dX12_isBound_44 : decode cX12_isBound 44 = .ok (.iload 4, 2) := by decide +kernel
theorem dX12_isBound_46 : decode cX12_isBound 46 = .ok (.iaload, 1) := by decide +kernel
theorem dX12_isBound_47 : decode cX12_isBound 47 = .ok (.iload_n 2, 1) := by decide +kernel
theorem dX12_isBound_48 : decode cX12_isBound 48 = .ok (.if_icmp .ne 18, 3) := by decide +kernel
theorem dX12_isBound_51 : decode cX12_isBound 51 = .ok (.aload_n 0, 1) := by decide +kernel
theorem dX12_isBound_52 : decode cX12_isBound 52 = .ok (.getfield 44, 3) := by decide +kernel
theorem dX12_isBound_55 : decode cX12_isBound 55 = .ok (.iload 4, 2) := by decide +kernel
theorem dX12_isBound_57 : decode cX12_isBound 57 = .ok (.iaload, 1) := by decide +kernel
theorem dX12_isBound_58 : decode cX12_isBound 58 = .ok (.iload_n 1, 1) := by decide +kernel
theorem dX12_isBound_59 : decode cX12_isBound 59 = .ok (.if_icmp .ne 7, 3) := by decide +kernel
theorem dX12_isBound_62 : decode cX12_isBound 62 = .ok (.iconst 1, 1) := by decide +kernel
theorem dX12_isBound_63 : decode cX12_isBound 63 = .ok (.goto 4, 3) := by decide +kernel
theorem dX12_isBound_66 : decode cX12_isBound 66 = .ok (.iconst 0, 1) := by decide +kernel
theorem dX12_isBound_67 : decode cX12_isBound 67 = .ok (.istore_n 3, 1) := by decide +kernel
theorem dX12_isBound_68 : decode cX12_isBound 68 = .ok (.iinc 4 1, 3) := by decide +kernel
theorem dX12_isBound_71 : decode cX12_isBound 71 = .ok (.goto (-66), 3) := by decide +kernel
theorem dX12_isBound_74 : decode cX12_isBound 74 = .ok (.iload_n 3, 1) := by decide +kernel
theorem dX12_isBound_75 : decode cX12_isBound 75 = .ok (.ireturn, 1) := by decide +kernel
theorem dX12_isShadowed_0 : decode cX12_isShadowed 0 = .ok (.iconst 0, 1) := by decide +kernel
theorem dX12_isShadowed_1 : decode cX12_isShadowed 1 = .ok (.istore_n 2, 1) := by decide +kernel
theorem dX12_isShadowed_2 : decode cX12_isShadowed 2 = .ok (.iconst 0, 1) := by decide +kernel
theorem dX12_isShadowed_3 : decode cX12_isShadowed 3 = .ok (.istore_n 3, 1) := by decide +kernel
theorem dX12_isShadowed_4 : decode cX12_isShadowed 4 = .ok (.iload_n 3, 1) := by decide +kernel
theorem dX12_isShadowed_5 : decode cX12_isShadowed 5 = .ok (.aload_n 0, 1) := by decide +kernel
theorem dX12_isShadowed_6 : decode cX12_isShadowed 6 = .ok (.getfield 181, 3) := by decide +kernel
theorem dX12_isShadowed_9 : decode cX12_isShadowed 9 = .ok (.if_icmp .ge 49, 3) := by decide +kernel
theorem dX12_isShadowed_12 : decode cX12_isShadowed 12 = .ok (.iload_n 2, 1) := by decide +kernel
theorem dX12_isShadowed_13 : decode cX12_isShadowed 13 = .ok (.ifCond .ne 33, 3) := by decide +kernel
theorem dX12_isShadowed_16 : decode cX12_isShadowed 16 = .ok (.aload_n 0, 1) := by decide +kernel
theorem dX12_isShadowed_17 : decode cX12_isShadowed 17 = .ok (.getfield 13, 3) := by decide +kernel
theorem dX12_isShadowed_20 : decode cX12_isShadowed 20 = .ok (.iload_n 3, 1) := by decide +kernel
theorem dX12_isShadowed_21 : decode cX12_isShadowed 21 = .ok (.iaload, 1) := by decide +kernel
theorem dX12_isShadowed_22 : decode cX12_isShadowed 22 = .ok (.iload_n 1, 1) := by decide +kernel
theorem dX12_isShadowed_23 : decode cX12_isShadowed 23 = .ok (.if_icmp .ne 27, 3) := by decide +kernel
theorem dX12_isShadowed_26 : decode cX12_isShadowed 26 = .ok (.aload_n 0, 1) := by decide +kernel
theorem dX12_isShadowed_27 : decode cX12_isShadowed 27 = .ok (.getfield 23, 3) := by decide +kernel
theorem dX12_isShadowed_30 : decode cX12_isShadowed 30 = .ok (.iload_n 3, 1) := by decide +kernel
theorem dX12_isShadowed_31 : decode cX12_isShadowed 31 = .ok (.iaload, 1) := by decide +kernel
theorem dX12_isShadowed_32 : decode cX12_isShadowed 32 = .ok (.iconst 3, 1) := by decide +kernel
theorem dX12_isShadowed_33 : decode cX12_isShadowed 33 = .ok (.if_icmp .eq 13, 3) := by decide +kernel
theorem dX12_isShadowed_36 : decode cX12_isShadowed 36 = .ok (.aload_n 0, 1) := by decide +kernel
theorem dX12_isShadowed_37 : decode cX12_isShadowed 37 = .ok (.getfield 23, 3) := by decide +kernel
theorem dX12_isShadowed_40 : decode cX12_isShadowed 40 = .ok (.iload_n 3, 1) := by decide +kernel
theorem dX12_isShadowed_41 : decode cX12_isShadowed 41 = .ok (.iaload, 1) := by decide +kernel
theorem dX12_isShadowed_42 : decode cX12_isShadowed 42 = .ok (.iconst 5, 1) := by decide +kernel
theorem dX12_isShadowed_43 : decode cX12_isShadowed 43 = .ok (.if_icmp .ne 7, 3) := by decide +kernel
theorem dX12_isShadowed_46 : decode cX12_isShadowed 46 = .ok (.iconst 1, 1) := by decide +kernel
theorem dX12_isShadowed_47 : decode cX12_isShadowed 47 = .ok (.goto 4, 3) := by decide +kernel
theorem dX12_isShadowed_50 : decode cX12_isShadowed 50 = .ok (.iconst 0, 1) := by decide +kernel
theorem dX12_isShadowed_51 : decode cX12_isShadowed 51 = .ok (.istore_n 2, 1) := by decide +kernel
theorem dX12_isShadowed_52 : decode cX12_isShadowed 52 = .ok (.iinc 3 1, 3) := by decide +kernel
theorem dX12_isShadowed_55 : decode cX12_isShadowed 55 = .ok (.goto (-51), 3) := by decide +kernel
theorem dX12_isShadowed_58 : decode cX12_isShadowed 58 = .ok (.iload_n 2, 1) := by decide +kernel
theorem dX12_isShadowed_59 : decode cX12_isShadowed 59 = .ok (.ireturn, 1) := by decide +kernel
theorem dX12_hasHandler_0 : decode cX12_hasHandler 0 = .ok (.iconst 0, 1) := by decide +kernel
theorem dX12_hasHandler_1 : decode cX12_hasHandler 1 = .ok (.istore_n 1, 1) := by decide +kernel
theorem dX12_hasHandler_2 : decode cX12_hasHandler 2 = .ok (.iconst 0, 1) := by decide +kernel
theorem dX12_hasHandler_3 : decode cX12_hasHandler 3 = .ok (.istore_n 2, 1) := by decide +kernel
theorem dX12_hasHandler_4 : decode cX12_hasHandler 4 = .ok (.iload_n 2, 1) := by decide +kernel
theorem dX12_hasHandler_5 : decode cX12_hasHandler 5 = .ok (.aload_n 0, 1) := by decide +kernel
theorem dX12_hasHandler_6 : decode cX12_hasHandler 6 = .ok (.getfield 181, 3) := by decide +kernel
theorem dX12_hasHandler_9 : decode cX12_hasHandler 9 = .ok (.if_icmp .ge 29, 3) := by decide +kernel
theorem dX12_hasHandler_12 : decode cX12_hasHandler 12 = .ok (.iload_n 1, 1) := by decide +kernel
theorem dX12_hasHandler_13 : decode cX12_hasHandler 13 = .ok (.ifCond .ne 13, 3) := by decide +kernel
theorem dX12_hasHandler_16 : decode cX12_hasHandler 16 = .ok (.aload_n 0, 1) := by decide +kernel
theorem dX12_hasHandler_17 : decode cX12_hasHandler 17 = .ok (.getfield 35, 3) := by decide +kernel
theorem dX12_hasHandler_20 : decode cX12_hasHandler 20 = .ok (.iload_n 2, 1) := by decide +kernel
theorem dX12_hasHandler_21 : decode cX12_hasHandler 21 = .ok (.iaload, 1) := by decide +kernel
theorem dX12_hasHandler_22 : decode cX12_hasHandler 22 = .ok (.iconst (-1), 1) := by decide +kernel
theorem dX12_hasHandler_23 : decode cX12_hasHandler 23 = .ok (.if_icmp .eq 7, 3) := by decide +kernel
theorem dX12_hasHandler_26 : decode cX12_hasHandler 26 = .ok (.iconst 1, 1) := by decide +kernel
theorem dX12_hasHandler_27 : decode cX12_hasHandler 27 = .ok (.goto 4, 3) := by decide +kernel
theorem dX12_hasHandler_30 : decode cX12_hasHandler 30 = .ok (.iconst 0, 1) := by decide +kernel
theorem dX12_hasHandler_31 : decode cX12_hasHandler 31 = .ok (.istore_n 1, 1) := by decide +kernel
theorem dX12_hasHandler_32 : decode cX12_hasHandler 32 = .ok (.iinc 2 1, 3) := by decide +kernel
theorem dX12_hasHandler_35 : decode cX12_hasHandler 35 = .ok (.goto (-31), 3) := by decide +kernel
theorem dX12_hasHandler_38 : decode cX12_hasHandler 38 = .ok (.iload_n 1, 1) := by decide +kernel
theorem dX12_hasHandler_39 : decode cX12_hasHandler 39 = .ok (.ireturn, 1) := by decide +kernel
theorem dX12_joins_0 : decode cX12_joins 0 = .ok (.aload_n 0, 1) := by decide +kernel
theorem dX12_joins_1 : decode cX12_joins 1 = .ok (.getfield 53, 3) := by decide +kernel
theorem dX12_joins_4 : decode cX12_joins 4 = .ok (.iload_n 2, 1) := by decide +kernel
theorem dX12_joins_5 : decode cX12_joins 5 = .ok (.iaload, 1) := by decide +kernel
theorem dX12_joins_6 : decode cX12_joins 6 = .ok (.ifCond .ne 32, 3) := by decide +kernel
theorem dX12_joins_9 : decode cX12_joins 9 = .ok (.aload_n 0, 1) := by decide +kernel
theorem dX12_joins_10 : decode cX12_joins 10 = .ok (.getfield 13, 3) := by decide +kernel
theorem dX12_joins_13 : decode cX12_joins 13 = .ok (.aload_n 0, 1) := by decide +kernel
theorem dX12_joins_14 : decode cX12_joins 14 = .ok (.getfield 56, 3) := by decide +kernel
theorem dX12_joins_17 : decode cX12_joins 17 = .ok (.iload_n 2, 1) := by decide +kernel
theorem dX12_joins_18 : decode cX12_joins 18 = .ok (.iaload, 1) := by decide +kernel
theorem dX12_joins_19 : decode cX12_joins 19 = .ok (.iaload, 1) := by decide +kernel
theorem dX12_joins_20 : decode cX12_joins 20 = .ok (.aload_n 0, 1) := by decide +kernel
theorem dX12_joins_21 : decode cX12_joins 21 = .ok (.getfield 13, 3) := by decide +kernel
theorem dX12_joins_24 : decode cX12_joins 24 = .ok (.aload_n 0, 1) := by decide +kernel
theorem dX12_joins_25 : decode cX12_joins 25 = .ok (.getfield 56, 3) := by decide +kernel
theorem dX12_joins_28 : decode cX12_joins 28 = .ok (.iload_n 1, 1) := by decide +kernel
theorem dX12_joins_29 : decode cX12_joins 29 = .ok (.iaload, 1) := by decide +kernel
theorem dX12_joins_30 : decode cX12_joins 30 = .ok (.iaload, 1) := by decide +kernel
theorem dX12_joins_31 : decode cX12_joins 31 = .ok (.if_icmp .ne 7, 3) := by decide +kernel
theorem dX12_joins_34 : decode cX12_joins 34 = .ok (.iconst 1, 1) := by decide +kernel
theorem dX12_joins_35 : decode cX12_joins 35 = .ok (.goto 4, 3) := by decide +kernel
theorem dX12_joins_38 : decode cX12_joins 38 = .ok (.iconst 0, 1) := by decide +kernel
theorem dX12_joins_39 : decode cX12_joins 39 = .ok (.istore_n 3, 1) := by decide +kernel
theorem dX12_joins_40 : decode cX12_joins 40 = .ok (.iload_n 1, 1) := by decide +kernel
theorem dX12_joins_41 : decode cX12_joins 41 = .ok (.istore 4, 2) := by decide +kernel
theorem dX12_joins_43 : decode cX12_joins 43 = .ok (.iload 4, 2) := by decide +kernel
theorem dX12_joins_45 : decode cX12_joins 45 = .ok (.iload_n 2, 1) := by decide +kernel
theorem dX12_joins_46 : decode cX12_joins 46 = .ok (.if_icmp .ge 55, 3) := by decide +kernel
theorem dX12_joins_49 : decode cX12_joins 49 = .ok (.iload_n 3, 1) := by decide +kernel
theorem dX12_joins_50 : decode cX12_joins 50 = .ok (.ifCond .eq 51, 3) := by decide +kernel
theorem dX12_joins_53 : decode cX12_joins 53 = .ok (.aload_n 0, 1) := by decide +kernel
theorem dX12_joins_54 : decode cX12_joins 54 = .ok (.getfield 56, 3) := by decide +kernel
theorem dX12_joins_57 : decode cX12_joins 57 = .ok (.iload 4, 2) := by decide +kernel
theorem dX12_joins_59 : decode cX12_joins 59 = .ok (.iaload, 1) := by decide +kernel
theorem dX12_joins_60 : decode cX12_joins 60 = .ok (.aload_n 0, 1) := by decide +kernel
theorem dX12_joins_61 : decode cX12_joins 61 = .ok (.getfield 56, 3) := by decide +kernel
theorem dX12_joins_64 : decode cX12_joins 64 = .ok (.iload_n 2, 1) := by decide +kernel
theorem dX12_joins_65 : decode cX12_joins 65 = .ok (.iaload, 1) := by decide +kernel
theorem dX12_joins_66 : decode cX12_joins 66 = .ok (.if_icmp .eq 27, 3) := by decide +kernel
theorem dX12_joins_69 : decode cX12_joins 69 = .ok (.aload_n 0, 1) := by decide +kernel
theorem dX12_joins_70 : decode cX12_joins 70 = .ok (.aload_n 0, 1) := by decide +kernel
theorem dX12_joins_71 : decode cX12_joins 71 = .ok (.getfield 56, 3) := by decide +kernel
theorem dX12_joins_74 : decode cX12_joins 74 = .ok (.iload 4, 2) := by decide +kernel
theorem dX12_joins_76 : decode cX12_joins 76 = .ok (.iaload, 1) := by decide +kernel
theorem dX12_joins_77 : decode cX12_joins 77 = .ok (.aload_n 0, 1) := by decide +kernel
theorem dX12_joins_78 : decode cX12_joins 78 = .ok (.getfield 56, 3) := by decide +kernel
theorem dX12_joins_81 : decode cX12_joins 81 = .ok (.iload_n 2, 1) := by decide +kernel
theorem dX12_joins_82 : decode cX12_joins 82 = .ok (.iaload, 1) := by decide +kernel
theorem dX12_joins_83 : decode cX12_joins 83 = .ok (.invokevirtual 264, 3) := by decide +kernel
theorem dX12_joins_86 : decode cX12_joins 86 = .ok (.ifCond .ne 7, 3) := by decide +kernel
theorem dX12_joins_89 : decode cX12_joins 89 = .ok (.iconst 1, 1) := by decide +kernel
theorem dX12_joins_90 : decode cX12_joins 90 = .ok (.goto 4, 3) := by decide +kernel
theorem dX12_joins_93 : decode cX12_joins 93 = .ok (.iconst 0, 1) := by decide +kernel
theorem dX12_joins_94 : decode cX12_joins 94 = .ok (.istore_n 3, 1) := by decide +kernel
theorem dX12_joins_95 : decode cX12_joins 95 = .ok (.iinc 4 1, 3) := by decide +kernel
theorem dX12_joins_98 : decode cX12_joins 98 = .ok (.goto (-55), 3) := by decide +kernel
theorem dX12_joins_101 : decode cX12_joins 101 = .ok (.iload_n 3, 1) := by decide +kernel
theorem dX12_joins_102 : decode cX12_joins 102 = .ok (.ireturn, 1) := by decide +kernel
theorem dX12_groups_0 : decode cX12_groups 0 = .ok (.aload_n 0, 1) := by decide +kernel
theorem dX12_groups_1 : decode cX12_groups 1 = .ok (.getfield 13, 3) := by decide +kernel
theorem dX12_groups_4 : decode cX12_groups 4 = .ok (.aload_n 0, 1) := by decide +kernel
theorem dX12_groups_5 : decode cX12_groups 5 = .ok (.getfield 56, 3) := by decide +kernel
theorem dX12_groups_8 : decode cX12_groups 8 = .ok (.iload_n 2, 1) := by decide +kernel
theorem dX12_groups_9 : decode cX12_groups 9 = .ok (.iaload, 1) := by decide +kernel
theorem dX12_groups_10 : decode cX12_groups 10 = .ok (.iaload, 1) := by decide +kernel
theorem dX12_groups_11 : decode cX12_groups 11 = .ok (.istore 4, 2) := by decide +kernel
theorem dX12_groups_13 : decode cX12_groups 13 = .ok (.aload_n 0, 1) := by decide +kernel
theorem dX12_groups_14 : decode cX12_groups 14 = .ok (.iload 4, 2) := by decide +kernel
theorem dX12_groups_16 : decode cX12_groups 16 = .ok (.invokevirtual 268, 3) := by decide +kernel
theorem dX12_groups_19 : decode cX12_groups 19 = .ok (.istore 5, 2) := by decide +kernel
theorem dX12_groups_21 : decode cX12_groups 21 = .ok (.iconst 0, 1) := by decide +kernel
theorem dX12_groups_22 : decode cX12_groups 22 = .ok (.istore 6, 2) := by decide +kernel
theorem dX12_groups_24 : decode cX12_groups 24 = .ok (.iconst 0, 1) := by decide +kernel
theorem dX12_groups_25 : decode cX12_groups 25 = .ok (.istore 7, 2) := by decide +kernel
theorem dX12_groups_27 : decode cX12_groups 27 = .ok (.iload_n 2, 1) := by decide +kernel
theorem dX12_groups_28 : decode cX12_groups 28 = .ok (.istore 8, 2) := by decide +kernel
theorem dX12_groups_30 : decode cX12_groups 30 = .ok (.iload 8, 2) := by decide +kernel
theorem dX12_groups_32 : decode cX12_groups 32 = .ok (.iload_n 3, 1) := by decide +kernel
theorem dX12_groups_33 : decode cX12_groups 33 = .ok (.if_icmp .ge 34, 3) := by decide +kernel
theorem dX12_groups_36 : decode cX12_groups 36 = .ok (.iload 6, 2) := by decide +kernel
theorem dX12_groups_38 : decode cX12_groups 38 = .ok (.aload_n 0, 1) := by decide +kernel
theorem dX12_groups_39 : decode cX12_groups 39 = .ok (.getfield 59, 3) := by decide +kernel
theorem dX12_groups_42 : decode cX12_groups 42 = .ok (.iload 8, 2) := by decide +kernel
theorem dX12_groups_44 : decode cX12_groups 44 = .ok (.iaload, 1) := by decide +kernel
theorem dX12_groups_45 : decode cX12_groups 45 = .ok (.aload_n 0, 1) := by decide +kernel
theorem dX12_groups_46 : decode cX12_groups 46 = .ok (.getfield 17, 3) := by decide +kernel
theorem dX12_groups_49 : decode cX12_groups 49 = .ok (.aload_n 0, 1) := by decide +kernel
theorem dX12_groups_50 : decode cX12_groups 50 = .ok (.getfield 56, 3) := by decide +kernel
theorem dX12_groups_53 : decode cX12_groups 53 = .ok (.iload 8, 2) := by decide +kernel
theorem dX12_groups_55 : decode cX12_groups 55 = .ok (.iaload, 1) := by decide +kernel
theorem dX12_groups_56 : decode cX12_groups 56 = .ok (.iaload, 1) := by decide +kernel
theorem dX12_groups_57 : decode cX12_groups 57 = .ok (.ishl, 1) := by decide +kernel
theorem dX12_groups_58 : decode cX12_groups 58 = .ok (.ior, 1) := by decide +kernel
theorem dX12_groups_59 : decode cX12_groups 59 = .ok (.istore 6, 2) := by decide +kernel
theorem dX12_groups_61 : decode cX12_groups 61 = .ok (.iinc 8 1, 3) := by decide +kernel
theorem dX12_groups_64 : decode cX12_groups 64 = .ok (.goto (-34), 3) := by decide +kernel
theorem dX12_groups_67 : decode cX12_groups 67 = .ok (.iconst 0, 1) := by decide +kernel
theorem dX12_groups_68 : decode cX12_groups 68 = .ok (.istore 8, 2) := by decide +kernel
theorem dX12_groups_70 : decode cX12_groups 70 = .ok (.iload 8, 2) := by decide +kernel
theorem dX12_groups_72 : decode cX12_groups 72 = .ok (.aload_n 0, 1) := by decide +kernel
theorem dX12_groups_73 : decode cX12_groups 73 = .ok (.getfield 181, 3) := by decide +kernel
theorem dX12_groups_76 : decode cX12_groups 76 = .ok (.if_icmp .ge 113, 3) := by decide +kernel
theorem dX12_groups_79 : decode cX12_groups 79 = .ok (.aload_n 0, 1) := by decide +kernel
theorem dX12_groups_80 : decode cX12_groups 80 = .ok (.getfield 13, 3) := by decide +kernel
theorem dX12_groups_83 : decode cX12_groups 83 = .ok (.iload 8, 2) := by decide +kernel
theorem dX12_groups_85 : decode cX12_groups 85 = .ok (.iaload, 1) := by decide +kernel
theorem dX12_groups_86 : decode cX12_groups 86 = .ok (.iload 4, 2) := by decide +kernel
theorem dX12_groups_88 : decode cX12_groups 88 = .ok (.if_icmp .ne 33, 3) := by decide +kernel
theorem dX12_groups_91 : decode cX12_groups 91 = .ok (.aload_n 0, 1) := by decide +kernel
theorem dX12_groups_92 : decode cX12_groups 92 = .ok (.getfield 23, 3) := by decide +kernel
theorem dX12_groups_95 : decode cX12_groups 95 = .ok (.iload 8, 2) := by decide +kernel
theorem dX12_groups_97 : decode cX12_groups 97 = .ok (.iaload, 1) := by decide +kernel
theorem dX12_groups_98 : decode cX12_groups 98 = .ok (.ifCond .eq 19, 3) := by decide +kernel
theorem dX12_groups_101 : decode cX12_groups 101 = .ok (.aload_n 0, 1) := by decide +kernel
theorem dX12_groups_102 : decode cX12_groups 102 = .ok (.getfield 23, 3) := by decide +kernel
theorem dX12_groups_105 : decode cX12_groups 105 = .ok (.iload 8, 2) := by decide +kernel
theorem dX12_groups_107 : decode cX12_groups 107 = .ok (.iaload, 1) := by decide +kernel
theorem dX12_groups_108 : decode cX12_groups 108 = .ok (.iconst 5, 1) := by decide +kernel
theorem dX12_groups_109 : decode cX12_groups 109 = .ok (.if_icmp .ne 12, 3) := by decide +kernel
theorem dX12_groups_112 : decode cX12_groups 112 = .ok (.iload 5, 2) := by decide +kernel
theorem dX12_groups_114 : decode cX12_groups 114 = .ok (.ifCond .eq 7, 3) := by decide +kernel
theorem dX12_groups_117 : decode cX12_groups 117 = .ok (.iconst 1, 1) := by decide +kernel
theorem dX12_groups_118 : decode cX12_groups 118 = .ok (.goto 4, 3) := by decide +kernel
theorem dX12_groups_121 : decode cX12_groups 121 = .ok (.iconst 0, 1) := by decide +kernel
theorem dX12_groups_122 : decode cX12_groups 122 = .ok (.istore 9, 2) := by decide +kernel
theorem dX12_groups_124 : decode cX12_groups 124 = .ok (.iload_n 2, 1) := by decide +kernel
theorem dX12_groups_125 : decode cX12_groups 125 = .ok (.istore 10, 2) := by decide +kernel
theorem dX12_groups_127 : decode cX12_groups 127 = .ok (.iload 10, 2) := by decide +kernel
theorem dX12_groups_129 : decode cX12_groups 129 = .ok (.iload_n 3, 1) := by decide +kernel
theorem dX12_groups_130 : decode cX12_groups 130 = .ok (.if_icmp .ge 33, 3) := by decide +kernel
theorem dX12_groups_133 : decode cX12_groups 133 = .ok (.iload 9, 2) := by decide +kernel
theorem dX12_groups_135 : decode cX12_groups 135 = .ok (.ifCond .eq 19, 3) := by decide +kernel
theorem dX12_groups_138 : decode cX12_groups 138 = .ok (.aload_n 0, 1) := by decide +kernel
theorem dX12_groups_139 : decode cX12_groups 139 = .ok (.getfield 56, 3) := by decide +kernel
theorem dX12_groups_142 : decode cX12_groups 142 = .ok (.iload 10, 2) := by decide +kernel
theorem dX12_groups_144 : decode cX12_groups 144 = .ok (.iaload, 1) := by decide +kernel
theorem dX12_groups_145 : decode cX12_groups 145 = .ok (.iload 8, 2) := by decide +kernel
theorem dX12_groups_147 : decode cX12_groups 147 = .ok (.if_icmp .eq 7, 3) := by decide +kernel
theorem dX12_groups_150 : decode cX12_groups 150 = .ok (.iconst 1, 1) := by decide +kernel
theorem dX12_groups_151 : decode cX12_groups 151 = .ok (.goto 4, 3) := by decide +kernel
theorem dX12_groups_154 : decode cX12_groups 154 = .ok (.iconst 0, 1) := by decide +kernel
theorem dX12_groups_155 : decode cX12_groups 155 = .ok (.istore 9, 2) := by decide +kernel
theorem dX12_groups_157 : decode cX12_groups 157 = .ok (.iinc 10 1, 3) := by decide +kernel
theorem dX12_groups_160 : decode cX12_groups 160 = .ok (.goto (-33), 3) := by decide +kernel
theorem dX12_groups_163 : decode cX12_groups 163 = .ok (.iload 7, 2) := by decide +kernel
theorem dX12_groups_165 : decode cX12_groups 165 = .ok (.iload 9, 2) := by decide +kernel
theorem dX12_groups_167 : decode cX12_groups 167 = .ok (.ifCond .eq 12, 3) := by decide +kernel
theorem dX12_groups_170 : decode cX12_groups 170 = .ok (.aload_n 0, 1) := by decide +kernel
theorem dX12_groups_171 : decode cX12_groups 171 = .ok (.iload 8, 2) := by decide +kernel
theorem dX12_groups_173 : decode cX12_groups 173 = .ok (.invokevirtual 235, 3) := by decide +kernel
theorem dX12_groups_176 : decode cX12_groups 176 = .ok (.goto 4, 3) := by decide +kernel
theorem dX12_groups_179 : decode cX12_groups 179 = .ok (.iconst 0, 1) := by decide +kernel
theorem dX12_groups_180 : decode cX12_groups 180 = .ok (.ior, 1) := by decide +kernel
theorem dX12_groups_181 : decode cX12_groups 181 = .ok (.istore 7, 2) := by decide +kernel
theorem dX12_groups_183 : decode cX12_groups 183 = .ok (.iinc 8 1, 3) := by decide +kernel
theorem dX12_groups_186 : decode cX12_groups 186 = .ok (.goto (-116), 3) := by decide +kernel
theorem dX12_groups_189 : decode cX12_groups 189 = .ok (.iload 7, 2) := by decide +kernel
theorem dX12_groups_191 : decode cX12_groups 191 = .ok (.ifCond .eq 8, 3) := by decide +kernel
theorem dX12_groups_194 : decode cX12_groups 194 = .ok (.iload 5, 2) := by decide +kernel
theorem dX12_groups_196 : decode cX12_groups 196 = .ok (.ifCond .eq 28, 3) := by decide +kernel
theorem dX12_groups_199 : decode cX12_groups 199 = .ok (.aload_n 0, 1) := by decide +kernel
theorem dX12_groups_200 : decode cX12_groups 200 = .ok (.iload_n 1, 1) := by decide +kernel
theorem dX12_groups_201 : decode cX12_groups 201 = .ok (.iconst 1, 1) := by decide +kernel
theorem dX12_groups_202 : decode cX12_groups 202 = .ok (.iload 4, 2) := by decide +kernel
theorem dX12_groups_204 : decode cX12_groups 204 = .ok (.iload 7, 2) := by decide +kernel
theorem dX12_groups_206 : decode cX12_groups 206 = .ok (.ifCond .ne 7, 3) := by decide +kernel
theorem dX12_groups_209 : decode cX12_groups 209 = .ok (.iconst 0, 1) := by decide +kernel
theorem dX12_groups_210 : decode cX12_groups 210 = .ok (.goto 4, 3) := by decide +kernel
theorem dX12_groups_213 : decode cX12_groups 213 = .ok (.iconst 2, 1) := by decide +kernel
theorem dX12_groups_214 : decode cX12_groups 214 = .ok (.iload 7, 2) := by decide +kernel
theorem dX12_groups_216 : decode cX12_groups 216 = .ok (.iload 6, 2) := by decide +kernel
theorem dX12_groups_218 : decode cX12_groups 218 = .ok (.bipush (-2), 2) := by decide +kernel
theorem dX12_groups_220 : decode cX12_groups 220 = .ok (.invokevirtual 271, 3) := by decide +kernel
theorem dX12_groups_223 : decode cX12_groups 223 = .ok (.return_, 1) := by decide +kernel
theorem dX12_groups_224 : decode cX12_groups 224 = .ok (.aload_n 0, 1) := by decide +kernel
theorem dX12_groups_225 : decode cX12_groups 225 = .ok (.getfield 65, 3) := by decide +kernel
theorem dX12_groups_228 : decode cX12_groups 228 = .ok (.iconst 1, 1) := by decide +kernel
theorem dX12_groups_229 : decode cX12_groups 229 = .ok (.if_icmp .ne 14, 3) := by decide +kernel
theorem dX12_groups_232 : decode cX12_groups 232 = .ok (.aload_n 0, 1) := by decide +kernel
theorem dX12_groups_233 : decode cX12_groups 233 = .ok (.invokevirtual 275, 3) := by decide +kernel
theorem dX12_groups_236 : decode cX12_groups 236 = .ok (.ifCond .eq 7, 3) := by decide +kernel
theorem dX12_groups_239 : decode cX12_groups 239 = .ok (.iconst 1, 1) := by decide +kernel
theorem dX12_groups_240 : decode cX12_groups 240 = .ok (.goto 4, 3) := by decide +kernel
theorem dX12_groups_243 : decode cX12_groups 243 = .ok (.iconst 0, 1) := by decide +kernel
theorem dX12_groups_244 : decode cX12_groups 244 = .ok (.istore 8, 2) := by decide +kernel
theorem dX12_groups_246 : decode cX12_groups 246 = .ok (.iload 8, 2) := by decide +kernel
theorem dX12_groups_248 : decode cX12_groups 248 = .ok (.ifCond .eq 19, 3) := by decide +kernel
theorem dX12_groups_251 : decode cX12_groups 251 = .ok (.aload_n 0, 1) := by decide +kernel
theorem dX12_groups_252 : decode cX12_groups 252 = .ok (.iload_n 1, 1) := by decide +kernel
theorem dX12_groups_253 : decode cX12_groups 253 = .ok (.iconst 5, 1) := by decide +kernel
theorem dX12_groups_254 : decode cX12_groups 254 = .ok (.bipush (-2), 2) := by decide +kernel
theorem dX12_groups_256 : decode cX12_groups 256 = .ok (.bipush (-2), 2) := by decide +kernel
theorem dX12_groups_258 : decode cX12_groups 258 = .ok (.bipush (-2), 2) := by decide +kernel
theorem dX12_groups_260 : decode cX12_groups 260 = .ok (.bipush (-2), 2) := by decide +kernel
theorem dX12_groups_262 : decode cX12_groups 262 = .ok (.bipush (-2), 2) := by decide +kernel
theorem dX12_groups_264 : decode cX12_groups 264 = .ok (.invokevirtual 271, 3) := by decide +kernel
theorem dX12_groups_267 : decode cX12_groups 267 = .ok (.aload_n 0, 1) := by decide +kernel
theorem dX12_groups_268 : decode cX12_groups 268 = .ok (.iload_n 1, 1) := by decide +kernel
theorem dX12_groups_269 : decode cX12_groups 269 = .ok (.iconst 0, 1) := by decide +kernel
theorem dX12_groups_270 : decode cX12_groups 270 = .ok (.iload 4, 2) := by decide +kernel
theorem dX12_groups_272 : decode cX12_groups 272 = .ok (.bipush (-2), 2) := by decide +kernel
theorem dX12_groups_274 : decode cX12_groups 274 = .ok (.bipush (-2), 2) := by decide +kernel
theorem dX12_groups_276 : decode cX12_groups 276 = .ok (.bipush (-2), 2) := by decide +kernel
theorem dX12_groups_278 : decode cX12_groups 278 = .ok (.bipush (-2), 2) := by decide +kernel
theorem dX12_groups_280 : decode cX12_groups 280 = .ok (.invokevirtual 271, 3) := by decide +kernel
theorem dX12_groups_283 : decode cX12_groups 283 = .ok (.aload_n 0, 1) := by decide +kernel
theorem dX12_groups_284 : decode cX12_groups 284 = .ok (.iload_n 1, 1) := by decide +kernel
theorem dX12_groups_285 : decode cX12_groups 285 = .ok (.iconst 1, 1) := by decide +kernel
theorem dX12_groups_286 : decode cX12_groups 286 = .ok (.iload 4, 2) := by decide +kernel
theorem dX12_groups_288 : decode cX12_groups 288 = .ok (.iconst 1, 1) := by decide +kernel
theorem dX12_groups_289 : decode cX12_groups 289 = .ok (.iload 7, 2) := by decide +kernel
theorem dX12_groups_291 : decode cX12_groups 291 = .ok (.iload 6, 2) := by decide +kernel
theorem dX12_groups_293 : decode cX12_groups 293 = .ok (.bipush (-2), 2) := by decide +kernel
theorem dX12_groups_295 : decode cX12_groups 295 = .ok (.invokevirtual 271, 3) := by decide +kernel
theorem dX12_groups_298 : decode cX12_groups 298 = .ok (.iload 8, 2) := by decide +kernel
theorem dX12_groups_300 : decode cX12_groups 300 = .ok (.ifCond .eq 20, 3) := by decide +kernel
theorem dX12_groups_303 : decode cX12_groups 303 = .ok (.aload_n 0, 1) := by decide +kernel
theorem dX12_groups_304 : decode cX12_groups 304 = .ok (.iload_n 1, 1) := by decide +kernel
theorem dX12_groups_305 : decode cX12_groups 305 = .ok (.bipush 6, 2) := by decide +kernel
theorem dX12_groups_307 : decode cX12_groups 307 = .ok (.bipush (-2), 2) := by decide +kernel
theorem dX12_groups_309 : decode cX12_groups 309 = .ok (.bipush (-2), 2) := by decide +kernel
theorem dX12_groups_311 : decode cX12_groups 311 = .ok (.bipush (-2), 2) := by decide +kernel
theorem dX12_groups_313 : decode cX12_groups 313 = .ok (.bipush (-2), 2) := by decide +kernel
theorem dX12_groups_315 : decode cX12_groups 315 = .ok (.bipush (-2), 2) := by decide +kernel
theorem dX12_groups_317 : decode cX12_groups 317 = .ok (.invokevirtual 271, 3) := by decide +kernel
theorem dX12_groups_320 : decode cX12_groups 320 = .ok (.return_, 1) := by decide +kernel
theorem dX12_makes_0 : decode cX12_makes 0 = .ok (.aload_n 0, 1) := by decide +kernel
theorem dX12_makes_1 : decode cX12_makes 1 = .ok (.getfield 166, 3) := by decide +kernel
theorem dX12_makes_4 : decode cX12_makes 4 = .ok (.iload_n 1, 1) := by decide +kernel
theorem dX12_makes_5 : decode cX12_makes 5 = .ok (.iconst 0, 1) := by decide +kernel
theorem dX12_makes_6 : decode cX12_makes 6 = .ok (.iastore, 1) := by decide +kernel
theorem dX12_makes_7 : decode cX12_makes 7 = .ok (.bipush 12, 2) := by decide +kernel
theorem dX12_makes_9 : decode cX12_makes 9 = .ok (.iload_n 2, 1) := by decide +kernel
theorem dX12_makes_10 : decode cX12_makes 10 = .ok (.imul, 1) := by decide +kernel
theorem dX12_makes_11 : decode cX12_makes 11 = .ok (.aload_n 0, 1) := by decide +kernel
theorem dX12_makes_12 : decode cX12_makes 12 = .ok (.getfield 50, 3) := by decide +kernel
theorem dX12_makes_15 : decode cX12_makes 15 = .ok (.iload_n 2, 1) := by decide +kernel
theorem dX12_makes_16 : decode cX12_makes 16 = .ok (.iaload, 1) := by decide +kernel
theorem dX12_makes_17 : decode cX12_makes 17 = .ok (.iadd, 1) := by decide +kernel
theorem dX12_makes_18 : decode cX12_makes 18 = .ok (.istore_n 3, 1) := by decide +kernel
theorem dX12_makes_19 : decode cX12_makes 19 = .ok (.bipush 12, 2) := by decide +kernel
theorem dX12_makes_21 : decode cX12_makes 21 = .ok (.iload_n 2, 1) := by decide +kernel
theorem dX12_makes_22 : decode cX12_makes 22 = .ok (.imul, 1) := by decide +kernel
theorem dX12_makes_23 : decode cX12_makes 23 = .ok (.istore 4, 2) := by decide +kernel
theorem dX12_makes_25 : decode cX12_makes 25 = .ok (.iload 4, 2) := by decide +kernel
theorem dX12_makes_27 : decode cX12_makes 27 = .ok (.iload_n 3, 1) := by decide +kernel
theorem dX12_makes_28 : decode cX12_makes 28 = .ok (.if_icmp .ge 199, 3) := by decide +kernel
theorem dX12_makes_31 : decode cX12_makes 31 = .ok (.aload_n 0, 1) := by decide +kernel
theorem dX12_makes_32 : decode cX12_makes 32 = .ok (.getfield 56, 3) := by decide +kernel
theorem dX12_makes_35 : decode cX12_makes 35 = .ok (.iload 4, 2) := by decide +kernel
theorem dX12_makes_37 : decode cX12_makes 37 = .ok (.iaload, 1) := by decide +kernel
theorem dX12_makes_38 : decode cX12_makes 38 = .ok (.istore 5, 2) := by decide +kernel
theorem dX12_makes_40 : decode cX12_makes 40 = .ok (.iload 4, 2) := by decide +kernel
theorem dX12_makes_42 : decode cX12_makes 42 = .ok (.iconst 1, 1) := by decide +kernel
theorem dX12_makes_43 : decode cX12_makes 43 = .ok (.iadd, 1) := by decide +kernel
theorem dX12_makes_44 : decode cX12_makes 44 = .ok (.istore 6, 2) := by decide +kernel
theorem dX12_makes_46 : decode cX12_makes 46 = .ok (.aload_n 0, 1) := by decide +kernel
theorem dX12_makes_47 : decode cX12_makes 47 = .ok (.getfield 53, 3) := by decide +kernel
theorem dX12_makes_50 : decode cX12_makes 50 = .ok (.iload 4, 2) := by decide +kernel
theorem dX12_makes_52 : decode cX12_makes 52 = .ok (.iaload, 1) := by decide +kernel
theorem dX12_makes_53 : decode cX12_makes 53 = .ok (.ifCond .ne 38, 3) := by decide +kernel
theorem dX12_makes_56 : decode cX12_makes 56 = .ok (.iload 6, 2) := by decide +kernel
theorem dX12_makes_58 : decode cX12_makes 58 = .ok (.iload_n 3, 1) := by decide +kernel
theorem dX12_makes_59 : decode cX12_makes 59 = .ok (.if_icmp .ge 20, 3) := by decide +kernel
theorem dX12_makes_62 : decode cX12_makes 62 = .ok (.aload_n 0, 1) := by decide +kernel
theorem dX12_makes_63 : decode cX12_makes 63 = .ok (.iload 4, 2) := by decide +kernel
theorem dX12_makes_65 : decode cX12_makes 65 = .ok (.iload 6, 2) := by decide +kernel
theorem dX12_makes_67 : decode cX12_makes 67 = .ok (.invokevirtual 279, 3) := by decide +kernel
theorem dX12_makes_70 : decode cX12_makes 70 = .ok (.ifCond .eq 9, 3) := by decide +kernel
theorem dX12_makes_73 : decode cX12_makes 73 = .ok (.iinc 6 1, 3) := by decide +kernel
theorem dX12_makes_76 : decode cX12_makes 76 = .ok (.goto (-20), 3) := by decide +kernel
theorem dX12_makes_79 : decode cX12_makes 79 = .ok (.aload_n 0, 1) := by decide +kernel
theorem dX12_makes_80 : decode cX12_makes 80 = .ok (.iload_n 1, 1) := by decide +kernel
theorem dX12_makes_81 : decode cX12_makes 81 = .ok (.iload 4, 2) := by decide +kernel
theorem dX12_makes_83 : decode cX12_makes 83 = .ok (.iload 6, 2) := by decide +kernel
theorem dX12_makes_85 : decode cX12_makes 85 = .ok (.invokevirtual 282, 3) := by decide +kernel
theorem dX12_makes_88 : decode cX12_makes 88 = .ok (.goto 132, 3) := by decide +kernel
theorem dX12_makes_91 : decode cX12_makes 91 = .ok (.aload_n 0, 1) := by decide +kernel
theorem dX12_makes_92 : decode cX12_makes 92 = .ok (.getfield 53, 3) := by decide +kernel
theorem dX12_makes_95 : decode cX12_makes 95 = .ok (.iload 4, 2) := by decide +kernel
theorem dX12_makes_97 : decode cX12_makes 97 = .ok (.iaload, 1) := by decide +kernel
theorem dX12_makes_98 : decode cX12_makes 98 = .ok (.iconst 1, 1) := by decide +kernel
theorem dX12_makes_99 : decode cX12_makes 99 = .ok (.if_icmp .ne 49, 3) := by decide +kernel
theorem dX12_makes_102 : decode cX12_makes 102 = .ok (.aload_n 0, 1) := by decide +kernel
theorem dX12_makes_103 : decode cX12_makes 103 = .ok (.iload_n 1, 1) := by decide +kernel
theorem dX12_makes_104 : decode cX12_makes 104 = .ok (.iconst 2, 1) := by decide +kernel
theorem dX12_makes_105 : decode cX12_makes 105 = .ok (.aload_n 0, 1) := by decide +kernel
theorem dX12_makes_106 : decode cX12_makes 106 = .ok (.getfield 13, 3) := by decide +kernel
theorem dX12_makes_109 : decode cX12_makes 109 = .ok (.iload 5, 2) := by decide +kernel
theorem dX12_makes_111 : decode cX12_makes 111 = .ok (.iaload, 1) := by decide +kernel
theorem dX12_makes_112 : decode cX12_makes 112 = .ok (.bipush (-2), 2) := by decide +kernel
theorem dX12_makes_114 : decode cX12_makes 114 = .ok (.aload_n 0, 1) := by decide +kernel
theorem dX12_makes_115 : decode cX12_makes 115 = .ok (.iload 5, 2) := by decide +kernel
theorem dX12_makes_117 : decode cX12_makes 117 = .ok (.invokevirtual 235, 3) := by decide +kernel
theorem dX12_makes_120 : decode cX12_makes 120 = .ok (.aload_n 0, 1) := by decide +kernel
theorem dX12_makes_121 : decode cX12_makes 121 = .ok (.getfield 59, 3) := by decide +kernel
theorem dX12_makes_124 : decode cX12_makes 124 = .ok (.iload 4, 2) := by decide +kernel
theorem dX12_makes_126 : decode cX12_makes 126 = .ok (.iaload, 1) := by decide +kernel
theorem dX12_makes_127 : decode cX12_makes 127 = .ok (.aload_n 0, 1) := by decide +kernel
theorem dX12_makes_128 : decode cX12_makes 128 = .ok (.getfield 17, 3) := by decide +kernel
theorem dX12_makes_131 : decode cX12_makes 131 = .ok (.iload 5, 2) := by decide +kernel
theorem dX12_makes_133 : decode cX12_makes 133 = .ok (.iaload, 1) := by decide +kernel
theorem dX12_makes_134 : decode cX12_makes 134 = .ok (.ishl, 1) := by decide +kernel
theorem dX12_makes_135 : decode cX12_makes 135 = .ok (.aload_n 0, 1) := by decide +kernel
theorem dX12_makes_136 : decode cX12_makes 136 = .ok (.getfield 62, 3) := by decide +kernel
theorem dX12_makes_139 : decode cX12_makes 139 = .ok (.iload 4, 2) := by decide +kernel
theorem dX12_makes_141 : decode cX12_makes 141 = .ok (.iaload, 1) := by decide +kernel
theorem dX12_makes_142 : decode cX12_makes 142 = .ok (.invokevirtual 271, 3) := by decide +kernel
theorem dX12_makes_145 : decode cX12_makes 145 = .ok (.goto 75, 3) := by decide +kernel
theorem dX12_makes_148 : decode cX12_makes 148 = .ok (.aload_n 0, 1) := by decide +kernel
theorem dX12_makes_149 : decode cX12_makes 149 = .ok (.getfield 53, 3) := by decide +kernel
theorem dX12_makes_152 : decode cX12_makes 152 = .ok (.iload 4, 2) := by decide +kernel
theorem dX12_makes_154 : decode cX12_makes 154 = .ok (.iaload, 1) := by decide +kernel
theorem dX12_makes_155 : decode cX12_makes 155 = .ok (.iconst 2, 1) := by decide +kernel
theorem dX12_makes_156 : decode cX12_makes 156 = .ok (.if_icmp .ne 43, 3) := by decide +kernel
theorem dX12_makes_159 : decode cX12_makes 159 = .ok (.aload_n 0, 1) := by decide +kernel
theorem dX12_makes_160 : decode cX12_makes 160 = .ok (.iload_n 1, 1) := by decide +kernel
theorem dX12_makes_161 : decode cX12_makes 161 = .ok (.iconst 0, 1) := by decide +kernel
theorem dX12_makes_162 : decode cX12_makes 162 = .ok (.aload_n 0, 1) := by decide +kernel
theorem dX12_makes_163 : decode cX12_makes 163 = .ok (.getfield 13, 3) := by decide +kernel
theorem dX12_makes_166 : decode cX12_makes 166 = .ok (.iload 5, 2) := by decide +kernel
theorem dX12_makes_168 : decode cX12_makes 168 = .ok (.iaload, 1) := by decide +kernel
theorem dX12_makes_169 : decode cX12_makes 169 = .ok (.bipush (-2), 2) := by decide +kernel
theorem dX12_makes_171 : decode cX12_makes 171 = .ok (.bipush (-2), 2) := by decide +kernel
theorem dX12_makes_173 : decode cX12_makes 173 = .ok (.bipush (-2), 2) := by decide +kernel
theorem dX12_makes_175 : decode cX12_makes 175 = .ok (.bipush (-2), 2) := by decide +kernel
theorem dX12_makes_177 : decode cX12_makes 177 = .ok (.invokevirtual 271, 3) := by decide +kernel
theorem dX12_makes_180 : decode cX12_makes 180 = .ok (.aload_n 0, 1) := by decide +kernel
theorem dX12_makes_181 : decode cX12_makes 181 = .ok (.iload_n 1, 1) := by decide +kernel
theorem dX12_makes_182 : decode cX12_makes 182 = .ok (.iconst 4, 1) := by decide +kernel
theorem dX12_makes_183 : decode cX12_makes 183 = .ok (.iload 5, 2) := by decide +kernel
theorem dX12_makes_185 : decode cX12_makes 185 = .ok (.bipush (-2), 2) := by decide +kernel
theorem dX12_makes_187 : decode cX12_makes 187 = .ok (.bipush (-2), 2) := by decide +kernel
theorem dX12_makes_189 : decode cX12_makes 189 = .ok (.bipush (-2), 2) := by decide +kernel
theorem dX12_makes_191 : decode cX12_makes 191 = .ok (.bipush (-2), 2) := by decide +kernel
theorem dX12_makes_193 : decode cX12_makes 193 = .ok (.invokevirtual 271, 3) := by decide +kernel
theorem dX12_makes_196 : decode cX12_makes 196 = .ok (.goto 24, 3) := by decide +kernel
theorem dX12_makes_199 : decode cX12_makes 199 = .ok (.aload_n 0, 1) := by decide +kernel
theorem dX12_makes_200 : decode cX12_makes 200 = .ok (.iload_n 1, 1) := by decide +kernel
theorem dX12_makes_201 : decode cX12_makes 201 = .ok (.iconst 3, 1) := by decide +kernel
theorem dX12_makes_202 : decode cX12_makes 202 = .ok (.aload_n 0, 1) := by decide +kernel
theorem dX12_makes_203 : decode cX12_makes 203 = .ok (.getfield 59, 3) := by decide +kernel
theorem dX12_makes_206 : decode cX12_makes 206 = .ok (.iload 4, 2) := by decide +kernel
theorem dX12_makes_208 : decode cX12_makes 208 = .ok (.iaload, 1) := by decide +kernel
theorem dX12_makes_209 : decode cX12_makes 209 = .ok (.bipush (-2), 2) := by decide +kernel
theorem dX12_makes_211 : decode cX12_makes 211 = .ok (.bipush (-2), 2) := by decide +kernel
theorem dX12_makes_213 : decode cX12_makes 213 = .ok (.bipush (-2), 2) := by decide +kernel
theorem dX12_makes_215 : decode cX12_makes 215 = .ok (.bipush (-2), 2) := by decide +kernel
theorem dX12_makes_217 : decode cX12_makes 217 = .ok (.invokevirtual 271, 3) := by decide +kernel
theorem dX12_makes_220 : decode cX12_makes 220 = .ok (.iload 6, 2) := by decide +kernel
theorem dX12_makes_222 : decode cX12_makes 222 = .ok (.istore 4, 2) := by decide +kernel
theorem dX12_makes_224 : decode cX12_makes 224 = .ok (.goto (-199), 3) := by decide +kernel
theorem dX12_makes_227 : decode cX12_makes 227 = .ok (.return_, 1) := by decide +kernel
theorem dX12_code_0 : decode cX12_code 0 = .ok (.aload_n 0, 1) := by decide +kernel
theorem dX12_code_1 : decode cX12_code 1 = .ok (.iload_n 1, 1) := by decide +kernel
theorem dX12_code_2 : decode cX12_code 2 = .ok (.invokevirtual 241, 3) := by decide +kernel
theorem dX12_code_5 : decode cX12_code 5 = .ok (.ifCond .ne 5, 3) := by decide +kernel
theorem dX12_code_8 : decode cX12_code 8 = .ok (.iconst (-1), 1) := by decide +kernel
theorem dX12_code_9 : decode cX12_code 9 = .ok (.ireturn, 1) := by decide +kernel
theorem dX12_code_10 : decode cX12_code 10 = .ok (.aload_n 0, 1) := by decide +kernel
theorem dX12_code_11 : decode cX12_code 11 = .ok (.iconst 0, 1) := by decide +kernel
theorem dX12_code_12 : decode cX12_code 12 = .ok (.iload_n 1, 1) := by decide +kernel
theorem dX12_code_13 : decode cX12_code 13 = .ok (.invokevirtual 286, 3) := by decide +kernel
theorem dX12_code_16 : decode cX12_code 16 = .ok (.aload_n 0, 1) := by decide +kernel
theorem dX12_code_17 : decode cX12_code 17 = .ok (.getfield 166, 3) := by decide +kernel
theorem dX12_code_20 : decode cX12_code 20 = .ok (.iconst 0, 1) := by decide +kernel
theorem dX12_code_21 : decode cX12_code 21 = .ok (.iaload, 1) := by decide +kernel
theorem dX12_code_22 : decode cX12_code 22 = .ok (.ireturn, 1) := by decide +kernel
theorem dX12_op_0 : decode cX12_op 0 = .ok (.aload_n 0, 1) := by decide +kernel
theorem dX12_op_1 : decode cX12_op 1 = .ok (.iload_n 1, 1) := by decide +kernel
theorem dX12_op_2 : decode cX12_op 2 = .ok (.invokevirtual 241, 3) := by decide +kernel
theorem dX12_op_5 : decode cX12_op 5 = .ok (.ifCond .eq 12, 3) := by decide +kernel
theorem dX12_op_8 : decode cX12_op 8 = .ok (.iload_n 3, 1) := by decide +kernel
theorem dX12_op_9 : decode cX12_op 9 = .ok (.iconst 0, 1) := by decide +kernel
theorem dX12_op_10 : decode cX12_op 10 = .ok (.iconst 5, 1) := by decide +kernel
theorem dX12_op_11 : decode cX12_op 11 = .ok (.invokestatic 184, 3) := by decide +kernel
theorem dX12_op_14 : decode cX12_op 14 = .ok (.ifCond .ne 5, 3) := by decide +kernel
theorem dX12_op_17 : decode cX12_op 17 = .ok (.iconst (-1), 1) := by decide +kernel
theorem dX12_op_18 : decode cX12_op 18 = .ok (.ireturn, 1) := by decide +kernel
theorem dX12_op_19 : decode cX12_op 19 = .ok (.aload_n 0, 1) := by decide +kernel
theorem dX12_op_20 : decode cX12_op 20 = .ok (.iconst 0, 1) := by decide +kernel
theorem dX12_op_21 : decode cX12_op 21 = .ok (.iload_n 1, 1) := by decide +kernel
theorem dX12_op_22 : decode cX12_op 22 = .ok (.invokevirtual 286, 3) := by decide +kernel
theorem dX12_op_25 : decode cX12_op 25 = .ok (.iload_n 2, 1) := by decide +kernel
theorem dX12_op_26 : decode cX12_op 26 = .ok (.iconst 0, 1) := by decide +kernel
theorem dX12_op_27 : decode cX12_op 27 = .ok (.aload_n 0, 1) := by decide +kernel
theorem dX12_op_28 : decode cX12_op 28 = .ok (.getfield 166, 3) := by decide +kernel
theorem dX12_op_31 : decode cX12_op 31 = .ok (.iconst 0, 1) := by decide +kernel
theorem dX12_op_32 : decode cX12_op 32 = .ok (.iaload, 1) := by decide +kernel
theorem dX12_op_33 : decode cX12_op 33 = .ok (.iconst 1, 1) := by decide +kernel
theorem dX12_op_34 : decode cX12_op 34 = .ok (.isub, 1) := by decide +kernel
theorem dX12_op_35 : decode cX12_op 35 = .ok (.invokestatic 184, 3) := by decide +kernel
theorem dX12_op_38 : decode cX12_op 38 = .ok (.ifCond .eq 17, 3) := by decide +kernel
theorem dX12_op_41 : decode cX12_op 41 = .ok (.aload_n 0, 1) := by decide +kernel
theorem dX12_op_42 : decode cX12_op 42 = .ok (.getfield 169, 3) := by decide +kernel
theorem dX12_op_45 : decode cX12_op 45 = .ok (.bipush 6, 2) := by decide +kernel
theorem dX12_op_47 : decode cX12_op 47 = .ok (.iload_n 2, 1) := by decide +kernel
theorem dX12_op_48 : decode cX12_op 48 = .ok (.imul, 1) := by decide +kernel
theorem dX12_op_49 : decode cX12_op 49 = .ok (.iload_n 3, 1) := by decide +kernel
theorem dX12_op_50 : decode cX12_op 50 = .ok (.iadd, 1) := by decide +kernel
theorem dX12_op_51 : decode cX12_op 51 = .ok (.iaload, 1) := by decide +kernel
theorem dX12_op_52 : decode cX12_op 52 = .ok (.goto 4, 3) := by decide +kernel
theorem dX12_op_55 : decode cX12_op 55 = .ok (.iconst (-1), 1) := by decide +kernel
theorem dX12_op_56 : decode cX12_op 56 = .ok (.ireturn, 1) := by decide +kernel
theorem dX12_same_0 : decode cX12_same 0 = .ok (.aload_n 0, 1) := by decide +kernel
theorem dX12_same_1 : decode cX12_same 1 = .ok (.iload_n 1, 1) := by decide +kernel
theorem dX12_same_2 : decode cX12_same 2 = .ok (.invokevirtual 241, 3) := by decide +kernel
theorem dX12_same_5 : decode cX12_same 5 = .ok (.ifCond .eq 11, 3) := by decide +kernel
theorem dX12_same_8 : decode cX12_same 8 = .ok (.aload_n 0, 1) := by decide +kernel
theorem dX12_same_9 : decode cX12_same 9 = .ok (.iload_n 2, 1) := by decide +kernel
theorem dX12_same_10 : decode cX12_same 10 = .ok (.invokevirtual 241, 3) := by decide +kernel
theorem dX12_same_13 : decode cX12_same 13 = .ok (.ifCond .ne 5, 3) := by decide +kernel
theorem dX12_same_16 : decode cX12_same 16 = .ok (.iconst (-1), 1) := by decide +kernel
theorem dX12_same_17 : decode cX12_same 17 = .ok (.ireturn, 1) := by decide +kernel
theorem dX12_same_18 : decode cX12_same 18 = .ok (.aload_n 0, 1) := by decide +kernel
theorem dX12_same_19 : decode cX12_same 19 = .ok (.iconst 0, 1) := by decide +kernel
theorem dX12_same_20 : decode cX12_same 20 = .ok (.iload_n 1, 1) := by decide +kernel
theorem dX12_same_21 : decode cX12_same 21 = .ok (.invokevirtual 286, 3) := by decide +kernel
theorem dX12_same_24 : decode cX12_same 24 = .ok (.aload_n 0, 1) := by decide +kernel
theorem dX12_same_25 : decode cX12_same 25 = .ok (.iconst 1, 1) := by decide +kernel
theorem dX12_same_26 : decode cX12_same 26 = .ok (.iload_n 2, 1) := by decide +kernel
theorem dX12_same_27 : decode cX12_same 27 = .ok (.invokevirtual 286, 3) := by decide +kernel
theorem dX12_same_30 : decode cX12_same 30 = .ok (.aload_n 0, 1) := by decide +kernel
theorem dX12_same_31 : decode cX12_same 31 = .ok (.getfield 166, 3) := by decide +kernel
theorem dX12_same_34 : decode cX12_same 34 = .ok (.iconst 0, 1) := by decide +kernel
theorem dX12_same_35 : decode cX12_same 35 = .ok (.iaload, 1) := by decide +kernel
theorem dX12_same_36 : decode cX12_same 36 = .ok (.aload_n 0, 1) := by decide +kernel
theorem dX12_same_37 : decode cX12_same 37 = .ok (.getfield 166, 3) := by decide +kernel
theorem dX12_same_40 : decode cX12_same 40 = .ok (.iconst 1, 1) := by decide +kernel
theorem dX12_same_41 : decode cX12_same 41 = .ok (.iaload, 1) := by decide +kernel
theorem dX12_same_42 : decode cX12_same 42 = .ok (.if_icmp .ne 7, 3) := by decide +kernel
theorem dX12_same_45 : decode cX12_same 45 = .ok (.iconst 1, 1) := by decide +kernel
theorem dX12_same_46 : decode cX12_same 46 = .ok (.goto 4, 3) := by decide +kernel
theorem dX12_same_49 : decode cX12_same 49 = .ok (.iconst 0, 1) := by decide +kernel
theorem dX12_same_50 : decode cX12_same 50 = .ok (.istore_n 3, 1) := by decide +kernel
theorem dX12_same_51 : decode cX12_same 51 = .ok (.iconst 0, 1) := by decide +kernel
theorem dX12_same_52 : decode cX12_same 52 = .ok (.istore 4, 2) := by decide +kernel
theorem dX12_same_54 : decode cX12_same 54 = .ok (.iload 4, 2) := by decide +kernel
theorem dX12_same_56 : decode cX12_same 56 = .ok (.bipush 6, 2) := by decide +kernel
theorem dX12_same_58 : decode cX12_same 58 = .ok (.aload_n 0, 1) := by decide +kernel
theorem dX12_same_59 : decode cX12_same 59 = .ok (.getfield 166, 3) := by decide +kernel
theorem dX12_same_62 : decode cX12_same 62 = .ok (.iconst 0, 1) := by decide +kernel
theorem dX12_same_63 : decode cX12_same 63 = .ok (.iaload, 1) := by decide +kernel
theorem dX12_same_64 : decode cX12_same 64 = .ok (.imul, 1) := by decide +kernel
theorem dX12_same_65 : decode cX12_same 65 = .ok (.if_icmp .ge 40, 3) := by decide +kernel
theorem dX12_same_68 : decode cX12_same 68 = .ok (.iload_n 3, 1) := by decide +kernel
theorem dX12_same_69 : decode cX12_same 69 = .ok (.ifCond .eq 36, 3) := by decide +kernel
theorem dX12_same_72 : decode cX12_same 72 = .ok (.aload_n 0, 1) := by decide +kernel
theorem dX12_same_73 : decode cX12_same 73 = .ok (.getfield 169, 3) := by decide +kernel
theorem dX12_same_76 : decode cX12_same 76 = .ok (.iload 4, 2) := by decide +kernel
theorem dX12_same_78 : decode cX12_same 78 = .ok (.iaload, 1) := by decide +kernel
theorem dX12_same_79 : decode cX12_same 79 = .ok (.aload_n 0, 1) := by decide +kernel
theorem dX12_same_80 : decode cX12_same 80 = .ok (.getfield 169, 3) := by decide +kernel
theorem dX12_same_83 : decode cX12_same 83 = .ok (.sipush 300, 3) := by decide +kernel
theorem dX12_same_86 : decode cX12_same 86 = .ok (.iload 4, 2) := by decide +kernel
theorem dX12_same_88 : decode cX12_same 88 = .ok (.iadd, 1) := by decide +kernel
theorem dX12_same_89 : decode cX12_same 89 = .ok (.iaload, 1) := by decide +kernel
theorem dX12_same_90 : decode cX12_same 90 = .ok (.if_icmp .ne 7, 3) := by decide +kernel
theorem dX12_same_93 : decode cX12_same 93 = .ok (.iconst 1, 1) := by decide +kernel
theorem dX12_same_94 : decode cX12_same 94 = .ok (.goto 4, 3) := by decide +kernel
theorem dX12_same_97 : decode cX12_same 97 = .ok (.iconst 0, 1) := by decide +kernel
theorem dX12_same_98 : decode cX12_same 98 = .ok (.istore_n 3, 1) := by decide +kernel
theorem dX12_same_99 : decode cX12_same 99 = .ok (.iinc 4 1, 3) := by decide +kernel
theorem dX12_same_102 : decode cX12_same 102 = .ok (.goto (-48), 3) := by decide +kernel
theorem dX12_same_105 : decode cX12_same 105 = .ok (.iload_n 3, 1) := by decide +kernel
theorem dX12_same_106 : decode cX12_same 106 = .ok (.ifCond .eq 7, 3) := by decide +kernel
theorem dX12_same_109 : decode cX12_same 109 = .ok (.iconst 1, 1) := by decide +kernel
theorem dX12_same_110 : decode cX12_same 110 = .ok (.goto 4, 3) := by decide +kernel
theorem dX12_same_113 : decode cX12_same 113 = .ok (.iconst 0, 1) := by decide +kernel
theorem dX12_same_114 : decode cX12_same 114 = .ok (.ireturn, 1) := by decide +kernel
theorem dX12_power_0 : decode cX12_power 0 = .ok (.aload_n 0, 1) := by decide +kernel
theorem dX12_power_1 : decode cX12_power 1 = .ok (.invokevirtual 222, 3) := by decide +kernel
theorem dX12_power_4 : decode cX12_power 4 = .ok (.aload_n 0, 1) := by decide +kernel
theorem dX12_power_5 : decode cX12_power 5 = .ok (.getfield 181, 3) := by decide +kernel
theorem dX12_power_8 : decode cX12_power 8 = .ok (.ireturn, 1) := by decide +kernel
theorem dX12_comes_0 : decode cX12_comes 0 = .ok (.aload_n 0, 1) := by decide +kernel
theorem dX12_comes_1 : decode cX12_comes 1 = .ok (.getfield 86, 3) := by decide +kernel
theorem dX12_comes_4 : decode cX12_comes 4 = .ok (.aload_n 0, 1) := by decide +kernel
theorem dX12_comes_5 : decode cX12_comes 5 = .ok (.getfield 201, 3) := by decide +kernel
theorem dX12_comes_8 : decode cX12_comes 8 = .ok (.iload_n 1, 1) := by decide +kernel
theorem dX12_comes_9 : decode cX12_comes 9 = .ok (.iastore, 1) := by decide +kernel
theorem dX12_comes_10 : decode cX12_comes 10 = .ok (.aload_n 0, 1) := by decide +kernel
theorem dX12_comes_11 : decode cX12_comes 11 = .ok (.getfield 89, 3) := by decide +kernel
theorem dX12_comes_14 : decode cX12_comes 14 = .ok (.aload_n 0, 1) := by decide +kernel
theorem dX12_comes_15 : decode cX12_comes 15 = .ok (.getfield 201, 3) := by decide +kernel
theorem dX12_comes_18 : decode cX12_comes 18 = .ok (.iload_n 2, 1) := by decide +kernel
theorem dX12_comes_19 : decode cX12_comes 19 = .ok (.iastore, 1) := by decide +kernel
theorem dX12_comes_20 : decode cX12_comes 20 = .ok (.aload_n 0, 1) := by decide +kernel
theorem dX12_comes_21 : decode cX12_comes 21 = .ok (.getfield 92, 3) := by decide +kernel
theorem dX12_comes_24 : decode cX12_comes 24 = .ok (.aload_n 0, 1) := by decide +kernel
theorem dX12_comes_25 : decode cX12_comes 25 = .ok (.getfield 201, 3) := by decide +kernel
theorem dX12_comes_28 : decode cX12_comes 28 = .ok (.iload_n 3, 1) := by decide +kernel
theorem dX12_comes_29 : decode cX12_comes 29 = .ok (.iastore, 1) := by decide +kernel
theorem dX12_comes_30 : decode cX12_comes 30 = .ok (.aload_n 0, 1) := by decide +kernel
theorem dX12_comes_31 : decode cX12_comes 31 = .ok (.dup, 1) := by decide +kernel
theorem dX12_comes_32 : decode cX12_comes 32 = .ok (.getfield 201, 3) := by decide +kernel
theorem dX12_comes_35 : decode cX12_comes 35 = .ok (.iconst 1, 1) := by decide +kernel
theorem dX12_comes_36 : decode cX12_comes 36 = .ok (.iadd, 1) := by decide +kernel
theorem dX12_comes_37 : decode cX12_comes 37 = .ok (.putfield 201, 3) := by decide +kernel
theorem dX12_comes_40 : decode cX12_comes 40 = .ok (.return_, 1) := by decide +kernel
theorem dX12_event_0 : decode cX12_event 0 = .ok (.aload_n 0, 1) := by decide +kernel
theorem dX12_event_1 : decode cX12_event 1 = .ok (.iload_n 1, 1) := by decide +kernel
theorem dX12_event_2 : decode cX12_event 2 = .ok (.invokevirtual 238, 3) := by decide +kernel
theorem dX12_event_5 : decode cX12_event 5 = .ok (.ifCond .eq 23, 3) := by decide +kernel
theorem dX12_event_8 : decode cX12_event 8 = .ok (.iload_n 2, 1) := by decide +kernel
theorem dX12_event_9 : decode cX12_event 9 = .ok (.iconst 0, 1) := by decide +kernel
theorem dX12_event_10 : decode cX12_event 10 = .ok (.aload_n 0, 1) := by decide +kernel
theorem dX12_event_11 : decode cX12_event 11 = .ok (.iload_n 1, 1) := by decide +kernel
theorem dX12_event_12 : decode cX12_event 12 = .ok (.invokevirtual 191, 3) := by decide +kernel
theorem dX12_event_15 : decode cX12_event 15 = .ok (.invokestatic 184, 3) := by decide +kernel
theorem dX12_event_18 : decode cX12_event 18 = .ok (.ifCond .eq 10, 3) := by decide +kernel
theorem dX12_event_21 : decode cX12_event 21 = .ok (.iload_n 3, 1) := by decide +kernel
theorem dX12_event_22 : decode cX12_event 22 = .ok (.sipush 9999, 3) := by decide +kernel
theorem dX12_event_25 : decode cX12_event 25 = .ok (.if_icmp .le 5, 3) := by decide +kernel
theorem dX12_event_28 : decode cX12_event 28 = .ok (.iconst (-1), 1) := by decide +kernel
theorem dX12_event_29 : decode cX12_event 29 = .ok (.ireturn, 1) := by decide +kernel
theorem dX12_event_30 : decode cX12_event 30 = .ok (.aload_n 0, 1) := by decide +kernel
theorem dX12_event_31 : decode cX12_event 31 = .ok (.getfield 23, 3) := by decide +kernel
theorem dX12_event_34 : decode cX12_event 34 = .ok (.iload_n 1, 1) := by decide +kernel
theorem dX12_event_35 : decode cX12_event 35 = .ok (.iaload, 1) := by decide +kernel
theorem dX12_event_36 : decode cX12_event 36 = .ok (.iconst 1, 1) := by decide +kernel
theorem dX12_event_37 : decode cX12_event 37 = .ok (.iconst 3, 1) := by decide +kernel
theorem dX12_event_38 : decode cX12_event 38 = .ok (.invokestatic 184, 3) := by decide +kernel
theorem dX12_event_41 : decode cX12_event 41 = .ok (.ifCond .ne 6, 3) := by decide +kernel
theorem dX12_event_44 : decode cX12_event 44 = .ok (.bipush (-4), 2) := by decide +kernel
theorem dX12_event_46 : decode cX12_event 46 = .ok (.ireturn, 1) := by decide +kernel
theorem dX12_event_47 : decode cX12_event 47 = .ok (.iload_n 3, 1) := by decide +kernel
theorem dX12_event_48 : decode cX12_event 48 = .ok (.aload_n 0, 1) := by decide +kernel
theorem dX12_event_49 : decode cX12_event 49 = .ok (.getfield 198, 3) := by decide +kernel
theorem dX12_event_52 : decode cX12_event 52 = .ok (.if_icmp .gt 6, 3) := by decide +kernel
theorem dX12_event_55 : decode cX12_event 55 = .ok (.bipush (-6), 2) := by decide +kernel
theorem dX12_event_57 : decode cX12_event 57 = .ok (.ireturn, 1) := by decide +kernel
theorem dX12_event_58 : decode cX12_event 58 = .ok (.aload_n 0, 1) := by decide +kernel
theorem dX12_event_59 : decode cX12_event 59 = .ok (.getfield 201, 3) := by decide +kernel
theorem dX12_event_62 : decode cX12_event 62 = .ok (.bipush 16, 2) := by decide +kernel
theorem dX12_event_64 : decode cX12_event 64 = .ok (.if_icmp .ne 6, 3) := by decide +kernel
theorem dX12_event_67 : decode cX12_event 67 = .ok (.bipush (-3), 2) := by decide +kernel
theorem dX12_event_69 : decode cX12_event 69 = .ok (.ireturn, 1) := by decide +kernel
theorem dX12_event_70 : decode cX12_event 70 = .ok (.aload_n 0, 1) := by decide +kernel
theorem dX12_event_71 : decode cX12_event 71 = .ok (.iload_n 1, 1) := by decide +kernel
theorem dX12_event_72 : decode cX12_event 72 = .ok (.iload_n 2, 1) := by decide +kernel
theorem dX12_event_73 : decode cX12_event 73 = .ok (.iload_n 3, 1) := by decide +kernel
theorem dX12_event_74 : decode cX12_event 74 = .ok (.invokevirtual 289, 3) := by decide +kernel
theorem dX12_event_77 : decode cX12_event 77 = .ok (.aload_n 0, 1) := by decide +kernel
theorem dX12_event_78 : decode cX12_event 78 = .ok (.getfield 201, 3) := by decide +kernel
theorem dX12_event_81 : decode cX12_event 81 = .ok (.ireturn, 1) := by decide +kernel
theorem dX12_flagUp_0 : decode cX12_flagUp 0 = .ok (.iconst 0, 1) := by decide +kernel
theorem dX12_flagUp_1 : decode cX12_flagUp 1 = .ok (.istore_n 1, 1) := by decide +kernel
theorem dX12_flagUp_2 : decode cX12_flagUp 2 = .ok (.iload_n 1, 1) := by decide +kernel
theorem dX12_flagUp_3 : decode cX12_flagUp 3 = .ok (.aload_n 0, 1) := by decide +kernel
theorem dX12_flagUp_4 : decode cX12_flagUp 4 = .ok (.getfield 181, 3) := by decide +kernel
theorem dX12_flagUp_7 : decode cX12_flagUp 7 = .ok (.if_icmp .ge 40, 3) := by decide +kernel
theorem dX12_flagUp_10 : decode cX12_flagUp 10 = .ok (.aload_n 0, 1) := by decide +kernel
theorem dX12_flagUp_11 : decode cX12_flagUp 11 = .ok (.getfield 23, 3) := by decide +kernel
theorem dX12_flagUp_14 : decode cX12_flagUp 14 = .ok (.iload_n 1, 1) := by decide +kernel
theorem dX12_flagUp_15 : decode cX12_flagUp 15 = .ok (.iaload, 1) := by decide +kernel
theorem dX12_flagUp_16 : decode cX12_flagUp 16 = .ok (.iconst 2, 1) := by decide +kernel
theorem dX12_flagUp_17 : decode cX12_flagUp 17 = .ok (.if_icmp .ne 24, 3) := by decide +kernel
theorem dX12_flagUp_20 : decode cX12_flagUp 20 = .ok (.aload_n 0, 1) := by decide +kernel
theorem dX12_flagUp_21 : decode cX12_flagUp 21 = .ok (.getfield 35, 3) := by decide +kernel
theorem dX12_flagUp_24 : decode cX12_flagUp 24 = .ok (.iload_n 1, 1) := by decide +kernel
theorem dX12_flagUp_25 : decode cX12_flagUp 25 = .ok (.iaload, 1) := by decide +kernel
theorem dX12_flagUp_26 : decode cX12_flagUp 26 = .ok (.iconst (-1), 1) := by decide +kernel
theorem dX12_flagUp_27 : decode cX12_flagUp 27 = .ok (.if_icmp .eq 14, 3) := by decide +kernel
theorem dX12_flagUp_30 : decode cX12_flagUp 30 = .ok (.aload_n 0, 1) := by decide +kernel
theorem dX12_flagUp_31 : decode cX12_flagUp 31 = .ok (.getfield 68, 3) := by decide +kernel
theorem dX12_flagUp_34 : decode cX12_flagUp 34 = .ok (.iload_n 1, 1) := by decide +kernel
theorem dX12_flagUp_35 : decode cX12_flagUp 35 = .ok (.iaload, 1) := by decide +kernel
theorem dX12_flagUp_36 : decode cX12_flagUp 36 = .ok (.ifCond .eq 5, 3) := by decide +kernel
theorem dX12_flagUp_39 : decode cX12_flagUp 39 = .ok (.iload_n 1, 1) := by decide +kernel
theorem dX12_flagUp_40 : decode cX12_flagUp 40 = .ok (.ireturn, 1) := by decide +kernel
theorem dX12_flagUp_41 : decode cX12_flagUp 41 = .ok (.iinc 1 1, 3) := by decide +kernel
theorem dX12_flagUp_44 : decode cX12_flagUp 44 = .ok (.goto (-42), 3) := by decide +kernel
theorem dX12_flagUp_47 : decode cX12_flagUp 47 = .ok (.iconst (-1), 1) := by decide +kernel
theorem dX12_flagUp_48 : decode cX12_flagUp 48 = .ok (.ireturn, 1) := by decide +kernel
theorem dX12_puts_0 : decode cX12_puts 0 = .ok (.aload_n 0, 1) := by decide +kernel
theorem dX12_puts_1 : decode cX12_puts 1 = .ok (.getfield 169, 3) := by decide +kernel
theorem dX12_puts_4 : decode cX12_puts 4 = .ok (.iload_n 2, 1) := by decide +kernel
theorem dX12_puts_5 : decode cX12_puts 5 = .ok (.iconst 1, 1) := by decide +kernel
theorem dX12_puts_6 : decode cX12_puts 6 = .ok (.iadd, 1) := by decide +kernel
theorem dX12_puts_7 : decode cX12_puts 7 = .ok (.iaload, 1) := by decide +kernel
theorem dX12_puts_8 : decode cX12_puts 8 = .ok (.istore_n 3, 1) := by decide +kernel
theorem dX12_puts_9 : decode cX12_puts 9 = .ok (.aload_n 0, 1) := by decide +kernel
theorem dX12_puts_10 : decode cX12_puts 10 = .ok (.getfield 169, 3) := by decide +kernel
theorem dX12_puts_13 : decode cX12_puts 13 = .ok (.iload_n 2, 1) := by decide +kernel
theorem dX12_puts_14 : decode cX12_puts 14 = .ok (.iconst 2, 1) := by decide +kernel
theorem dX12_puts_15 : decode cX12_puts 15 = .ok (.iadd, 1) := by decide +kernel
theorem dX12_puts_16 : decode cX12_puts 16 = .ok (.iaload, 1) := by decide +kernel
theorem dX12_puts_17 : decode cX12_puts 17 = .ok (.iconst 1, 1) := by decide +kernel
theorem dX12_puts_18 : decode cX12_puts 18 = .ok (.if_icmp .ne 12, 3) := by decide +kernel
theorem dX12_puts_21 : decode cX12_puts 21 = .ok (.aload_n 0, 1) := by decide +kernel
theorem dX12_puts_22 : decode cX12_puts 22 = .ok (.getfield 172, 3) := by decide +kernel
theorem dX12_puts_25 : decode cX12_puts 25 = .ok (.iload_n 1, 1) := by decide +kernel
theorem dX12_puts_26 : decode cX12_puts 26 = .ok (.iaload, 1) := by decide +kernel
theorem dX12_puts_27 : decode cX12_puts 27 = .ok (.goto 25, 3) := by decide +kernel
theorem dX12_puts_30 : decode cX12_puts 30 = .ok (.aload_n 0, 1) := by decide +kernel
theorem dX12_puts_31 : decode cX12_puts 31 = .ok (.getfield 169, 3) := by decide +kernel
theorem dX12_puts_34 : decode cX12_puts 34 = .ok (.iload_n 2, 1) := by decide +kernel
theorem dX12_puts_35 : decode cX12_puts 35 = .ok (.iconst 2, 1) := by decide +kernel
theorem dX12_puts_36 : decode cX12_puts 36 = .ok (.iadd, 1) := by decide +kernel
theorem dX12_puts_37 : decode cX12_puts 37 = .ok (.iaload, 1) := by decide +kernel
theorem dX12_puts_38 : decode cX12_puts 38 = .ok (.iconst 2, 1) := by decide +kernel
theorem dX12_puts_39 : decode cX12_puts 39 = .ok (.if_icmp .ne 12, 3) := by decide +kernel
theorem dX12_puts_42 : decode cX12_puts 42 = .ok (.aload_n 0, 1) := by decide +kernel
theorem dX12_puts_43 : decode cX12_puts 43 = .ok (.getfield 83, 3) := by decide +kernel
theorem dX12_puts_46 : decode cX12_puts 46 = .ok (.iload_n 3, 1) := by decide +kernel
theorem dX12_puts_47 : decode cX12_puts 47 = .ok (.iaload, 1) := by decide +kernel
theorem dX12_puts_48 : decode cX12_puts 48 = .ok (.goto 4, 3) := by decide +kernel
theorem dX12_puts_51 : decode cX12_puts 51 = .ok (.iconst 0, 1) := by decide +kernel
theorem dX12_puts_52 : decode cX12_puts 52 = .ok (.istore 4, 2) := by decide +kernel
theorem dX12_puts_54 : decode cX12_puts 54 = .ok (.aload_n 0, 1) := by decide +kernel
theorem dX12_puts_55 : decode cX12_puts 55 = .ok (.getfield 169, 3) := by decide +kernel
theorem dX12_puts_58 : decode cX12_puts 58 = .ok (.iload_n 2, 1) := by decide +kernel
theorem dX12_puts_59 : decode cX12_puts 59 = .ok (.iconst 4, 1) := by decide +kernel
theorem dX12_puts_60 : decode cX12_puts 60 = .ok (.iadd, 1) := by decide +kernel
theorem dX12_puts_61 : decode cX12_puts 61 = .ok (.iaload, 1) := by decide +kernel
theorem dX12_puts_62 : decode cX12_puts 62 = .ok (.iload 4, 2) := by decide +kernel
theorem dX12_puts_64 : decode cX12_puts 64 = .ok (.aload_n 0, 1) := by decide +kernel
theorem dX12_puts_65 : decode cX12_puts 65 = .ok (.getfield 169, 3) := by decide +kernel
theorem dX12_puts_68 : decode cX12_puts 68 = .ok (.iload_n 2, 1) := by decide +kernel
theorem dX12_puts_69 : decode cX12_puts 69 = .ok (.iconst 3, 1) := by decide +kernel
theorem dX12_puts_70 : decode cX12_puts 70 = .ok (.iadd, 1) := by decide +kernel
theorem dX12_puts_71 : decode cX12_puts 71 = .ok (.iaload, 1) := by decide +kernel
theorem dX12_puts_72 : decode cX12_puts 72 = .ok (.iand, 1) := by decide +kernel
theorem dX12_puts_73 : decode cX12_puts 73 = .ok (.ior, 1) := by decide +kernel
theorem dX12_puts_74 : decode cX12_puts 74 = .ok (.istore 5, 2) := by decide +kernel
theorem dX12_puts_76 : decode cX12_puts 76 = .ok (.iconst 0, 1) := by decide +kernel
theorem dX12_puts_77 : decode cX12_puts 77 = .ok (.istore 6, 2) := by decide +kernel
theorem dX12_puts_79 : decode cX12_puts 79 = .ok (.iconst 0, 1) := by decide +kernel
theorem dX12_puts_80 : decode cX12_puts 80 = .ok (.istore 7, 2) := by decide +kernel
theorem dX12_puts_82 : decode cX12_puts 82 = .ok (.iload 7, 2) := by decide +kernel
theorem dX12_puts_84 : decode cX12_puts 84 = .ok (.aload_n 0, 1) := by decide +kernel
theorem dX12_puts_85 : decode cX12_puts 85 = .ok (.getfield 181, 3) := by decide +kernel
theorem dX12_puts_88 : decode cX12_puts 88 = .ok (.if_icmp .ge 56, 3) := by decide +kernel
theorem dX12_puts_91 : decode cX12_puts 91 = .ok (.iload 6, 2) := by decide +kernel
theorem dX12_puts_93 : decode cX12_puts 93 = .ok (.aload_n 0, 1) := by decide +kernel
theorem dX12_puts_94 : decode cX12_puts 94 = .ok (.getfield 13, 3) := by decide +kernel
theorem dX12_puts_97 : decode cX12_puts 97 = .ok (.iload 7, 2) := by decide +kernel
theorem dX12_puts_99 : decode cX12_puts 99 = .ok (.iaload, 1) := by decide +kernel
theorem dX12_puts_100 : decode cX12_puts 100 = .ok (.iload_n 3, 1) := by decide +kernel
theorem dX12_puts_101 : decode cX12_puts 101 = .ok (.if_icmp .ne 33, 3) := by decide +kernel
theorem dX12_puts_104 : decode cX12_puts 104 = .ok (.aload_n 0, 1) := by decide +kernel
theorem dX12_puts_105 : decode cX12_puts 105 = .ok (.getfield 23, 3) := by decide +kernel
theorem dX12_puts_108 : decode cX12_puts 108 = .ok (.iload 7, 2) := by decide +kernel
theorem dX12_puts_110 : decode cX12_puts 110 = .ok (.iaload, 1) := by decide +kernel
theorem dX12_puts_111 : decode cX12_puts 111 = .ok (.ifCond .eq 14, 3) := by decide +kernel
theorem dX12_puts_114 : decode cX12_puts 114 = .ok (.aload_n 0, 1) := by decide +kernel
theorem dX12_puts_115 : decode cX12_puts 115 = .ok (.getfield 23, 3) := by decide +kernel
theorem dX12_puts_118 : decode cX12_puts 118 = .ok (.iload 7, 2) := by decide +kernel
theorem dX12_puts_120 : decode cX12_puts 120 = .ok (.iaload, 1) := by decide +kernel
theorem dX12_puts_121 : decode cX12_puts 121 = .ok (.iconst 5, 1) := by decide +kernel
theorem dX12_puts_122 : decode cX12_puts 122 = .ok (.if_icmp .ne 12, 3) := by decide +kernel
theorem dX12_puts_125 : decode cX12_puts 125 = .ok (.aload_n 0, 1) := by decide +kernel
theorem dX12_puts_126 : decode cX12_puts 126 = .ok (.iload 7, 2) := by decide +kernel
theorem dX12_puts_128 : decode cX12_puts 128 = .ok (.invokevirtual 235, 3) := by decide +kernel
theorem dX12_puts_131 : decode cX12_puts 131 = .ok (.goto 4, 3) := by decide +kernel
theorem dX12_puts_134 : decode cX12_puts 134 = .ok (.iconst 0, 1) := by decide +kernel
theorem dX12_puts_135 : decode cX12_puts 135 = .ok (.ior, 1) := by decide +kernel
theorem dX12_puts_136 : decode cX12_puts 136 = .ok (.istore 6, 2) := by decide +kernel
theorem dX12_puts_138 : decode cX12_puts 138 = .ok (.iinc 7 1, 3) := by decide +kernel
theorem dX12_puts_141 : decode cX12_puts 141 = .ok (.goto (-59), 3) := by decide +kernel
theorem dX12_puts_144 : decode cX12_puts 144 = .ok (.aload_n 0, 1) := by decide +kernel
theorem dX12_puts_145 : decode cX12_puts 145 = .ok (.iload_n 3, 1) := by decide +kernel
theorem dX12_puts_146 : decode cX12_puts 146 = .ok (.iload 5, 2) := by decide +kernel
theorem dX12_puts_148 : decode cX12_puts 148 = .ok (.invokevirtual 311, 3) := by decide +kernel
theorem dX12_puts_151 : decode cX12_puts 151 = .ok (.aload_n 0, 1) := by decide +kernel
theorem dX12_puts_152 : decode cX12_puts 152 = .ok (.getfield 83, 3) := by decide +kernel
theorem dX12_puts_155 : decode cX12_puts 155 = .ok (.iload_n 3, 1) := by decide +kernel
theorem dX12_puts_156 : decode cX12_puts 156 = .ok (.iload 5, 2) := by decide +kernel
theorem dX12_puts_158 : decode cX12_puts 158 = .ok (.iload 6, 2) := by decide +kernel
theorem dX12_puts_160 : decode cX12_puts 160 = .ok (.iand, 1) := by decide +kernel
theorem dX12_puts_161 : decode cX12_puts 161 = .ok (.iastore, 1) := by decide +kernel
theorem dX12_puts_162 : decode cX12_puts 162 = .ok (.aload_n 0, 1) := by decide +kernel
theorem dX12_puts_163 : decode cX12_puts 163 = .ok (.invokevirtual 244, 3) := by decide +kernel
theorem dX12_puts_166 : decode cX12_puts 166 = .ok (.return_, 1) := by decide +kernel
theorem dX12_picks_0 : decode cX12_picks 0 = .ok (.aload_n 0, 1) := by decide +kernel
theorem dX12_picks_1 : decode cX12_picks 1 = .ok (.getfield 23, 3) := by decide +kernel
theorem dX12_picks_4 : decode cX12_picks 4 = .ok (.iload_n 2, 1) := by decide +kernel
theorem dX12_picks_5 : decode cX12_picks 5 = .ok (.iaload, 1) := by decide +kernel
theorem dX12_picks_6 : decode cX12_picks 6 = .ok (.iconst 3, 1) := by decide +kernel
theorem dX12_picks_7 : decode cX12_picks 7 = .ok (.if_icmp .ne 23, 3) := by decide +kernel
theorem dX12_picks_10 : decode cX12_picks 10 = .ok (.aload_n 0, 1) := by decide +kernel
theorem dX12_picks_11 : decode cX12_picks 11 = .ok (.aload_n 0, 1) := by decide +kernel
theorem dX12_picks_12 : decode cX12_picks 12 = .ok (.getfield 77, 3) := by decide +kernel
theorem dX12_picks_15 : decode cX12_picks 15 = .ok (.iload_n 2, 1) := by decide +kernel
theorem dX12_picks_16 : decode cX12_picks 16 = .ok (.iaload, 1) := by decide +kernel
theorem dX12_picks_17 : decode cX12_picks 17 = .ok (.putfield 216, 3) := by decide +kernel
theorem dX12_picks_20 : decode cX12_picks 20 = .ok (.aload_n 0, 1) := by decide +kernel
theorem dX12_picks_21 : decode cX12_picks 21 = .ok (.getfield 77, 3) := by decide +kernel
theorem dX12_picks_24 : decode cX12_picks 24 = .ok (.iload_n 2, 1) := by decide +kernel
theorem dX12_picks_25 : decode cX12_picks 25 = .ok (.iconst 0, 1) := by decide +kernel
theorem dX12_picks_26 : decode cX12_picks 26 = .ok (.iastore, 1) := by decide +kernel
theorem dX12_picks_27 : decode cX12_picks 27 = .ok (.goto 18, 3) := by decide +kernel
theorem dX12_picks_30 : decode cX12_picks 30 = .ok (.aload_n 0, 1) := by decide +kernel
theorem dX12_picks_31 : decode cX12_picks 31 = .ok (.aload_n 0, 1) := by decide +kernel
theorem dX12_picks_32 : decode cX12_picks 32 = .ok (.iload_n 2, 1) := by decide +kernel
theorem dX12_picks_33 : decode cX12_picks 33 = .ok (.aload_n 0, 1) := by decide +kernel
theorem dX12_picks_34 : decode cX12_picks 34 = .ok (.getfield 172, 3) := by decide +kernel
theorem dX12_picks_37 : decode cX12_picks 37 = .ok (.iload_n 1, 1) := by decide +kernel
theorem dX12_picks_38 : decode cX12_picks 38 = .ok (.iaload, 1) := by decide +kernel
theorem dX12_picks_39 : decode cX12_picks 39 = .ok (.invokevirtual 247, 3) := by decide +kernel
theorem dX12_picks_42 : decode cX12_picks 42 = .ok (.putfield 216, 3) := by decide +kernel
theorem dX12_picks_45 : decode cX12_picks 45 = .ok (.return_, 1) := by decide +kernel
theorem dX12_handles_0 : decode cX12_handles 0 = .ok (.iconst 0, 1) := by decide +kernel
theorem dX12_handles_1 : decode cX12_handles 1 = .ok (.istore_n 2, 1) := by decide +kernel
theorem dX12_handles_2 : decode cX12_handles 2 = .ok (.iload_n 1, 1) := by decide +kernel
theorem dX12_handles_3 : decode cX12_handles 3 = .ok (.ifCond .ne 75, 3) := by decide +kernel
theorem dX12_handles_6 : decode cX12_handles 6 = .ok (.aload_n 0, 1) := by decide +kernel
theorem dX12_handles_7 : decode cX12_handles 7 = .ok (.getfield 292, 3) := by decide +kernel
theorem dX12_handles_10 : decode cX12_handles 10 = .ok (.ifCond .ne 68, 3) := by decide +kernel
theorem dX12_handles_13 : decode cX12_handles 13 = .ok (.iload_n 2, 1) := by decide +kernel
theorem dX12_handles_14 : decode cX12_handles 14 = .ok (.bipush 8, 2) := by decide +kernel
theorem dX12_handles_16 : decode cX12_handles 16 = .ok (.if_icmp .ge 62, 3) := by decide +kernel
theorem dX12_handles_19 : decode cX12_handles 19 = .ok (.aload_n 0, 1) := by decide +kernel
theorem dX12_handles_20 : decode cX12_handles 20 = .ok (.invokevirtual 296, 3) := by decide +kernel
theorem dX12_handles_23 : decode cX12_handles 23 = .ok (.iconst (-1), 1) := by decide +kernel
theorem dX12_handles_24 : decode cX12_handles 24 = .ok (.if_icmp .eq 54, 3) := by decide +kernel
theorem dX12_handles_27 : decode cX12_handles 27 = .ok (.aload_n 0, 1) := by decide +kernel
theorem dX12_handles_28 : decode cX12_handles 28 = .ok (.invokevirtual 296, 3) := by decide +kernel
theorem dX12_handles_31 : decode cX12_handles 31 = .ok (.istore_n 3, 1) := by decide +kernel
theorem dX12_handles_32 : decode cX12_handles 32 = .ok (.aload_n 0, 1) := by decide +kernel
theorem dX12_handles_33 : decode cX12_handles 33 = .ok (.getfield 216, 3) := by decide +kernel
theorem dX12_handles_36 : decode cX12_handles 36 = .ok (.istore 4, 2) := by decide +kernel
theorem dX12_handles_38 : decode cX12_handles 38 = .ok (.aload_n 0, 1) := by decide +kernel
theorem dX12_handles_39 : decode cX12_handles 39 = .ok (.iconst 1, 1) := by decide +kernel
theorem dX12_handles_40 : decode cX12_handles 40 = .ok (.aload_n 0, 1) := by decide +kernel
theorem dX12_handles_41 : decode cX12_handles 41 = .ok (.getfield 35, 3) := by decide +kernel
theorem dX12_handles_44 : decode cX12_handles 44 = .ok (.iload_n 3, 1) := by decide +kernel
theorem dX12_handles_45 : decode cX12_handles 45 = .ok (.iaload, 1) := by decide +kernel
theorem dX12_handles_46 : decode cX12_handles 46 = .ok (.invokevirtual 300, 3) := by decide +kernel
theorem dX12_handles_49 : decode cX12_handles 49 = .ok (.istore 5, 2) := by decide +kernel
theorem dX12_handles_51 : decode cX12_handles 51 = .ok (.aload_n 0, 1) := by decide +kernel
theorem dX12_handles_52 : decode cX12_handles 52 = .ok (.iload 4, 2) := by decide +kernel
theorem dX12_handles_54 : decode cX12_handles 54 = .ok (.putfield 216, 3) := by decide +kernel
theorem dX12_handles_57 : decode cX12_handles 57 = .ok (.aload_n 0, 1) := by decide +kernel
theorem dX12_handles_58 : decode cX12_handles 58 = .ok (.iconst 0, 1) := by decide +kernel
theorem dX12_handles_59 : decode cX12_handles 59 = .ok (.putfield 292, 3) := by decide +kernel
theorem dX12_handles_62 : decode cX12_handles 62 = .ok (.aload_n 0, 1) := by decide +kernel
theorem dX12_handles_63 : decode cX12_handles 63 = .ok (.dup, 1) := by decide +kernel
theorem dX12_handles_64 : decode cX12_handles 64 = .ok (.getfield 213, 3) := by decide +kernel
theorem dX12_handles_67 : decode cX12_handles 67 = .ok (.iconst 1, 1) := by decide +kernel
theorem dX12_handles_68 : decode cX12_handles 68 = .ok (.iadd, 1) := by decide +kernel
theorem dX12_handles_69 : decode cX12_handles 69 = .ok (.putfield 213, 3) := by decide +kernel
theorem dX12_handles_72 : decode cX12_handles 72 = .ok (.iinc 2 1, 3) := by decide +kernel
theorem dX12_handles_75 : decode cX12_handles 75 = .ok (.goto (-73), 3) := by decide +kernel
theorem dX12_handles_78 : decode cX12_handles 78 = .ok (.return_, 1) := by decide +kernel
theorem dX12_polls_0 : decode cX12_polls 0 = .ok (.iconst 0, 1) := by decide +kernel
theorem dX12_polls_1 : decode cX12_polls 1 = .ok (.istore_n 3, 1) := by decide +kernel
theorem dX12_polls_2 : decode cX12_polls 2 = .ok (.iload_n 3, 1) := by decide +kernel
theorem dX12_polls_3 : decode cX12_polls 3 = .ok (.aload_n 0, 1) := by decide +kernel
theorem dX12_polls_4 : decode cX12_polls 4 = .ok (.getfield 169, 3) := by decide +kernel
theorem dX12_polls_7 : decode cX12_polls 7 = .ok (.iload_n 2, 1) := by decide +kernel
theorem dX12_polls_8 : decode cX12_polls 8 = .ok (.iconst 5, 1) := by decide +kernel
theorem dX12_polls_9 : decode cX12_polls 9 = .ok (.iadd, 1) := by decide +kernel
theorem dX12_polls_10 : decode cX12_polls 10 = .ok (.iaload, 1) := by decide +kernel
theorem dX12_polls_11 : decode cX12_polls 11 = .ok (.if_icmp .gt 65, 3) := by decide +kernel
theorem dX12_polls_14 : decode cX12_polls 14 = .ok (.iload_n 3, 1) := by decide +kernel
theorem dX12_polls_15 : decode cX12_polls 15 = .ok (.ifCond .le 8, 3) := by decide +kernel
theorem dX12_polls_18 : decode cX12_polls 18 = .ok (.aload_n 0, 1) := by decide +kernel
theorem dX12_polls_19 : decode cX12_polls 19 = .ok (.iload_n 1, 1) := by decide +kernel
theorem dX12_polls_20 : decode cX12_polls 20 = .ok (.invokevirtual 303, 3) := by decide +kernel
theorem dX12_polls_23 : decode cX12_polls 23 = .ok (.aload_n 0, 1) := by decide +kernel
theorem dX12_polls_24 : decode cX12_polls 24 = .ok (.getfield 172, 3) := by decide +kernel
theorem dX12_polls_27 : decode cX12_polls 27 = .ok (.iload_n 1, 1) := by decide +kernel
theorem dX12_polls_28 : decode cX12_polls 28 = .ok (.aload_n 0, 1) := by decide +kernel
theorem dX12_polls_29 : decode cX12_polls 29 = .ok (.aload_n 0, 1) := by decide +kernel
theorem dX12_polls_30 : decode cX12_polls 30 = .ok (.getfield 169, 3) := by decide +kernel
theorem dX12_polls_33 : decode cX12_polls 33 = .ok (.iload_n 2, 1) := by decide +kernel
theorem dX12_polls_34 : decode cX12_polls 34 = .ok (.iconst 1, 1) := by decide +kernel
theorem dX12_polls_35 : decode cX12_polls 35 = .ok (.iadd, 1) := by decide +kernel
theorem dX12_polls_36 : decode cX12_polls 36 = .ok (.iaload, 1) := by decide +kernel
theorem dX12_polls_37 : decode cX12_polls 37 = .ok (.iconst 1, 1) := by decide +kernel
theorem dX12_polls_38 : decode cX12_polls 38 = .ok (.invokevirtual 307, 3) := by decide +kernel
theorem dX12_polls_41 : decode cX12_polls 41 = .ok (.iastore, 1) := by decide +kernel
theorem dX12_polls_42 : decode cX12_polls 42 = .ok (.aload_n 0, 1) := by decide +kernel
theorem dX12_polls_43 : decode cX12_polls 43 = .ok (.getfield 172, 3) := by decide +kernel
theorem dX12_polls_46 : decode cX12_polls 46 = .ok (.iload_n 1, 1) := by decide +kernel
theorem dX12_polls_47 : decode cX12_polls 47 = .ok (.iaload, 1) := by decide +kernel
theorem dX12_polls_48 : decode cX12_polls 48 = .ok (.aload_n 0, 1) := by decide +kernel
theorem dX12_polls_49 : decode cX12_polls 49 = .ok (.getfield 169, 3) := by decide +kernel
theorem dX12_polls_52 : decode cX12_polls 52 = .ok (.iload_n 2, 1) := by decide +kernel
theorem dX12_polls_53 : decode cX12_polls 53 = .ok (.iconst 3, 1) := by decide +kernel
theorem dX12_polls_54 : decode cX12_polls 54 = .ok (.iadd, 1) := by decide +kernel
theorem dX12_polls_55 : decode cX12_polls 55 = .ok (.iaload, 1) := by decide +kernel
theorem dX12_polls_56 : decode cX12_polls 56 = .ok (.iand, 1) := by decide +kernel
theorem dX12_polls_57 : decode cX12_polls 57 = .ok (.aload_n 0, 1) := by decide +kernel
theorem dX12_polls_58 : decode cX12_polls 58 = .ok (.getfield 169, 3) := by decide +kernel
theorem dX12_polls_61 : decode cX12_polls 61 = .ok (.iload_n 2, 1) := by decide +kernel
theorem dX12_polls_62 : decode cX12_polls 62 = .ok (.iconst 4, 1) := by decide +kernel
theorem dX12_polls_63 : decode cX12_polls 63 = .ok (.iadd, 1) := by decide +kernel
theorem dX12_polls_64 : decode cX12_polls 64 = .ok (.iaload, 1) := by decide +kernel
theorem dX12_polls_65 : decode cX12_polls 65 = .ok (.if_icmp .ne 5, 3) := by decide +kernel
theorem dX12_polls_68 : decode cX12_polls 68 = .ok (.iconst 0, 1) := by decide +kernel
theorem dX12_polls_69 : decode cX12_polls 69 = .ok (.ireturn, 1) := by decide +kernel
theorem dX12_polls_70 : decode cX12_polls 70 = .ok (.iinc 3 1, 3) := by decide +kernel
theorem dX12_polls_73 : decode cX12_polls 73 = .ok (.goto (-71), 3) := by decide +kernel
theorem dX12_polls_76 : decode cX12_polls 76 = .ok (.iconst 1, 1) := by decide +kernel
theorem dX12_polls_77 : decode cX12_polls 77 = .ok (.ireturn, 1) := by decide +kernel
theorem dX12_pauses_0 : decode cX12_pauses 0 = .ok (.iconst 0, 1) := by decide +kernel
theorem dX12_pauses_1 : decode cX12_pauses 1 = .ok (.istore_n 3, 1) := by decide +kernel
theorem dX12_pauses_2 : decode cX12_pauses 2 = .ok (.iload_n 3, 1) := by decide +kernel
theorem dX12_pauses_3 : decode cX12_pauses 3 = .ok (.iload_n 2, 1) := by decide +kernel
theorem dX12_pauses_4 : decode cX12_pauses 4 = .ok (.if_icmp .ge 22, 3) := by decide +kernel
theorem dX12_pauses_7 : decode cX12_pauses 7 = .ok (.iload_n 3, 1) := by decide +kernel
theorem dX12_pauses_8 : decode cX12_pauses 8 = .ok (.ifCond .le 8, 3) := by decide +kernel
theorem dX12_pauses_11 : decode cX12_pauses 11 = .ok (.aload_n 0, 1) := by decide +kernel
theorem dX12_pauses_12 : decode cX12_pauses 12 = .ok (.iload_n 1, 1) := by decide +kernel
theorem dX12_pauses_13 : decode cX12_pauses 13 = .ok (.invokevirtual 303, 3) := by decide +kernel
theorem dX12_pauses_16 : decode cX12_pauses 16 = .ok (.aload_n 0, 1) := by decide +kernel
theorem dX12_pauses_17 : decode cX12_pauses 17 = .ok (.invokevirtual 244, 3) := by decide +kernel
theorem dX12_pauses_20 : decode cX12_pauses 20 = .ok (.iinc 3 1, 3) := by decide +kernel
theorem dX12_pauses_23 : decode cX12_pauses 23 = .ok (.goto (-21), 3) := by decide +kernel
theorem dX12_pauses_26 : decode cX12_pauses 26 = .ok (.return_, 1) := by decide +kernel
theorem dX12_runs_0 : decode cX12_runs 0 = .ok (.aload_n 0, 1) := by decide +kernel
theorem dX12_runs_1 : decode cX12_runs 1 = .ok (.iload_n 1, 1) := by decide +kernel
theorem dX12_runs_2 : decode cX12_runs 2 = .ok (.iload_n 2, 1) := by decide +kernel
theorem dX12_runs_3 : decode cX12_runs 3 = .ok (.invokevirtual 286, 3) := by decide +kernel
theorem dX12_runs_6 : decode cX12_runs 6 = .ok (.aload_n 0, 1) := by decide +kernel
theorem dX12_runs_7 : decode cX12_runs 7 = .ok (.getfield 172, 3) := by decide +kernel
theorem dX12_runs_10 : decode cX12_runs 10 = .ok (.iload_n 1, 1) := by decide +kernel
theorem dX12_runs_11 : decode cX12_runs 11 = .ok (.iconst 0, 1) := by decide +kernel
theorem dX12_runs_12 : decode cX12_runs 12 = .ok (.iastore, 1) := by decide +kernel
theorem dX12_runs_13 : decode cX12_runs 13 = .ok (.aload_n 0, 1) := by decide +kernel
theorem dX12_runs_14 : decode cX12_runs 14 = .ok (.iconst 0, 1) := by decide +kernel
theorem dX12_runs_15 : decode cX12_runs 15 = .ok (.putfield 292, 3) := by decide +kernel
theorem dX12_runs_18 : decode cX12_runs 18 = .ok (.iconst 0, 1) := by decide +kernel
theorem dX12_runs_19 : decode cX12_runs 19 = .ok (.istore_n 3, 1) := by decide +kernel
theorem dX12_runs_20 : decode cX12_runs 20 = .ok (.iconst 0, 1) := by decide +kernel
theorem dX12_runs_21 : decode cX12_runs 21 = .ok (.istore 4, 2) := by decide +kernel
theorem dX12_runs_23 : decode cX12_runs 23 = .ok (.iload 4, 2) := by decide +kernel
theorem dX12_runs_25 : decode cX12_runs 25 = .ok (.aload_n 0, 1) := by decide +kernel
theorem dX12_runs_26 : decode cX12_runs 26 = .ok (.getfield 166, 3) := by decide +kernel
theorem dX12_runs_29 : decode cX12_runs 29 = .ok (.iload_n 1, 1) := by decide +kernel
theorem dX12_runs_30 : decode cX12_runs 30 = .ok (.iaload, 1) := by decide +kernel
theorem dX12_runs_31 : decode cX12_runs 31 = .ok (.if_icmp .ge 166, 3) := by decide +kernel
theorem dX12_runs_34 : decode cX12_runs 34 = .ok (.iload_n 3, 1) := by decide +kernel
theorem dX12_runs_35 : decode cX12_runs 35 = .ok (.ifCond .ne 162, 3) := by decide +kernel
theorem dX12_runs_38 : decode cX12_runs 38 = .ok (.bipush 6, 2) := by decide +kernel
theorem dX12_runs_40 : decode cX12_runs 40 = .ok (.bipush 50, 2) := by decide +kernel
theorem dX12_runs_42 : decode cX12_runs 42 = .ok (.iload_n 1, 1) := by decide +kernel
theorem dX12_runs_43 : decode cX12_runs 43 = .ok (.imul, 1) := by decide +kernel
theorem dX12_runs_44 : decode cX12_runs 44 = .ok (.iload 4, 2) := by decide +kernel
theorem dX12_runs_46 : decode cX12_runs 46 = .ok (.iadd, 1) := by decide +kernel
theorem dX12_runs_47 : decode cX12_runs 47 = .ok (.imul, 1) := by decide +kernel
theorem dX12_runs_48 : decode cX12_runs 48 = .ok (.istore 5, 2) := by decide +kernel
theorem dX12_runs_50 : decode cX12_runs 50 = .ok (.aload_n 0, 1) := by decide +kernel
theorem dX12_runs_51 : decode cX12_runs 51 = .ok (.iload_n 1, 1) := by decide +kernel
theorem dX12_runs_52 : decode cX12_runs 52 = .ok (.invokevirtual 303, 3) := by decide +kernel
theorem dX12_runs_55 : decode cX12_runs 55 = .ok (.aload_n 0, 1) := by decide +kernel
theorem dX12_runs_56 : decode cX12_runs 56 = .ok (.getfield 169, 3) := by decide +kernel
theorem dX12_runs_59 : decode cX12_runs 59 = .ok (.iload 5, 2) := by decide +kernel
theorem dX12_runs_61 : decode cX12_runs 61 = .ok (.iaload, 1) := by decide +kernel
theorem dX12_runs_62 : decode cX12_runs 62 = .ok (.tableswitch 124 0 5 #[38, 61, 71, 82, 99, 116], 38) := by decide +kernel
theorem dX12_runs_100 : decode cX12_runs 100 = .ok (.aload_n 0, 1) := by decide +kernel
theorem dX12_runs_101 : decode cX12_runs 101 = .ok (.getfield 172, 3) := by decide +kernel
theorem dX12_runs_104 : decode cX12_runs 104 = .ok (.iload_n 1, 1) := by decide +kernel
theorem dX12_runs_105 : decode cX12_runs 105 = .ok (.aload_n 0, 1) := by decide +kernel
theorem dX12_runs_106 : decode cX12_runs 106 = .ok (.aload_n 0, 1) := by decide +kernel
theorem dX12_runs_107 : decode cX12_runs 107 = .ok (.getfield 169, 3) := by decide +kernel
theorem dX12_runs_110 : decode cX12_runs 110 = .ok (.iload 5, 2) := by decide +kernel
theorem dX12_runs_112 : decode cX12_runs 112 = .ok (.iconst 1, 1) := by decide +kernel
theorem dX12_runs_113 : decode cX12_runs 113 = .ok (.iadd, 1) := by decide +kernel
theorem dX12_runs_114 : decode cX12_runs 114 = .ok (.iaload, 1) := by decide +kernel
theorem dX12_runs_115 : decode cX12_runs 115 = .ok (.iconst 1, 1) := by decide +kernel
theorem dX12_runs_116 : decode cX12_runs 116 = .ok (.invokevirtual 307, 3) := by decide +kernel
theorem dX12_runs_119 : decode cX12_runs 119 = .ok (.iastore, 1) := by decide +kernel
theorem dX12_runs_120 : decode cX12_runs 120 = .ok (.goto 71, 3) := by decide +kernel
theorem dX12_runs_123 : decode cX12_runs 123 = .ok (.aload_n 0, 1) := by decide +kernel
theorem dX12_runs_124 : decode cX12_runs 124 = .ok (.iload_n 1, 1) := by decide +kernel
theorem dX12_runs_125 : decode cX12_runs 125 = .ok (.iload 5, 2) := by decide +kernel
theorem dX12_runs_127 : decode cX12_runs 127 = .ok (.invokevirtual 314, 3) := by decide +kernel
theorem dX12_runs_130 : decode cX12_runs 130 = .ok (.goto 61, 3) := by decide +kernel
theorem dX12_runs_133 : decode cX12_runs 133 = .ok (.aload_n 0, 1) := by decide +kernel
theorem dX12_runs_134 : decode cX12_runs 134 = .ok (.iload_n 1, 1) := by decide +kernel
theorem dX12_runs_135 : decode cX12_runs 135 = .ok (.iload 5, 2) := by decide +kernel
theorem dX12_runs_137 : decode cX12_runs 137 = .ok (.invokevirtual 317, 3) := by decide +kernel
theorem dX12_runs_140 : decode cX12_runs 140 = .ok (.istore_n 3, 1) := by decide +kernel
theorem dX12_runs_141 : decode cX12_runs 141 = .ok (.goto 50, 3) := by decide +kernel
theorem dX12_runs_144 : decode cX12_runs 144 = .ok (.aload_n 0, 1) := by decide +kernel
theorem dX12_runs_145 : decode cX12_runs 145 = .ok (.iload_n 1, 1) := by decide +kernel
theorem dX12_runs_146 : decode cX12_runs 146 = .ok (.aload_n 0, 1) := by decide +kernel
theorem dX12_runs_147 : decode cX12_runs 147 = .ok (.getfield 169, 3) := by decide +kernel
theorem dX12_runs_150 : decode cX12_runs 150 = .ok (.iload 5, 2) := by decide +kernel
theorem dX12_runs_152 : decode cX12_runs 152 = .ok (.iconst 1, 1) := by decide +kernel
theorem dX12_runs_153 : decode cX12_runs 153 = .ok (.iadd, 1) := by decide +kernel
theorem dX12_runs_154 : decode cX12_runs 154 = .ok (.iaload, 1) := by decide +kernel
theorem dX12_runs_155 : decode cX12_runs 155 = .ok (.invokevirtual 320, 3) := by decide +kernel
theorem dX12_runs_158 : decode cX12_runs 158 = .ok (.goto 33, 3) := by decide +kernel
theorem dX12_runs_161 : decode cX12_runs 161 = .ok (.aload_n 0, 1) := by decide +kernel
theorem dX12_runs_162 : decode cX12_runs 162 = .ok (.iload_n 1, 1) := by decide +kernel
theorem dX12_runs_163 : decode cX12_runs 163 = .ok (.aload_n 0, 1) := by decide +kernel
theorem dX12_runs_164 : decode cX12_runs 164 = .ok (.getfield 169, 3) := by decide +kernel
theorem dX12_runs_167 : decode cX12_runs 167 = .ok (.iload 5, 2) := by decide +kernel
theorem dX12_runs_169 : decode cX12_runs 169 = .ok (.iconst 1, 1) := by decide +kernel
theorem dX12_runs_170 : decode cX12_runs 170 = .ok (.iadd, 1) := by decide +kernel
theorem dX12_runs_171 : decode cX12_runs 171 = .ok (.iaload, 1) := by decide +kernel
theorem dX12_runs_172 : decode cX12_runs 172 = .ok (.invokevirtual 323, 3) := by decide +kernel
theorem dX12_runs_175 : decode cX12_runs 175 = .ok (.goto 16, 3) := by decide +kernel
theorem dX12_runs_178 : decode cX12_runs 178 = .ok (.aload_n 0, 1) := by decide +kernel
theorem dX12_runs_179 : decode cX12_runs 179 = .ok (.iconst 1, 1) := by decide +kernel
theorem dX12_runs_180 : decode cX12_runs 180 = .ok (.putfield 292, 3) := by decide +kernel
theorem dX12_runs_183 : decode cX12_runs 183 = .ok (.goto 8, 3) := by decide +kernel
theorem dX12_runs_186 : decode cX12_runs 186 = .ok (.aload_n 0, 1) := by decide +kernel
theorem dX12_runs_187 : decode cX12_runs 187 = .ok (.iconst 0, 1) := by decide +kernel
theorem dX12_runs_188 : decode cX12_runs 188 = .ok (.putfield 292, 3) := by decide +kernel
theorem dX12_runs_191 : decode cX12_runs 191 = .ok (.iinc 4 1, 3) := by decide +kernel
theorem dX12_runs_194 : decode cX12_runs 194 = .ok (.goto (-171), 3) := by decide +kernel
theorem dX12_runs_197 : decode cX12_runs 197 = .ok (.aload_n 0, 1) := by decide +kernel
theorem dX12_runs_198 : decode cX12_runs 198 = .ok (.iconst 0, 1) := by decide +kernel
theorem dX12_runs_199 : decode cX12_runs 199 = .ok (.putfield 292, 3) := by decide +kernel
theorem dX12_runs_202 : decode cX12_runs 202 = .ok (.aload_n 0, 1) := by decide +kernel
theorem dX12_runs_203 : decode cX12_runs 203 = .ok (.iload_n 1, 1) := by decide +kernel
theorem dX12_runs_204 : decode cX12_runs 204 = .ok (.invokevirtual 303, 3) := by decide +kernel
theorem dX12_runs_207 : decode cX12_runs 207 = .ok (.iload_n 3, 1) := by decide +kernel
theorem dX12_runs_208 : decode cX12_runs 208 = .ok (.ireturn, 1) := by decide +kernel
theorem dX12_run_0 : decode cX12_run 0 = .ok (.aload_n 0, 1) := by decide +kernel
theorem dX12_run_1 : decode cX12_run 1 = .ok (.iload_n 1, 1) := by decide +kernel
theorem dX12_run_2 : decode cX12_run 2 = .ok (.invokevirtual 241, 3) := by decide +kernel
theorem dX12_run_5 : decode cX12_run 5 = .ok (.ifCond .ne 5, 3) := by decide +kernel
theorem dX12_run_8 : decode cX12_run 8 = .ok (.iconst (-1), 1) := by decide +kernel
theorem dX12_run_9 : decode cX12_run 9 = .ok (.ireturn, 1) := by decide +kernel
theorem dX12_run_10 : decode cX12_run 10 = .ok (.aload_n 0, 1) := by decide +kernel
theorem dX12_run_11 : decode cX12_run 11 = .ok (.getfield 198, 3) := by decide +kernel
theorem dX12_run_14 : decode cX12_run 14 = .ok (.istore_n 2, 1) := by decide +kernel
theorem dX12_run_15 : decode cX12_run 15 = .ok (.aload_n 0, 1) := by decide +kernel
theorem dX12_run_16 : decode cX12_run 16 = .ok (.iconst 0, 1) := by decide +kernel
theorem dX12_run_17 : decode cX12_run 17 = .ok (.iload_n 1, 1) := by decide +kernel
theorem dX12_run_18 : decode cX12_run 18 = .ok (.invokevirtual 300, 3) := by decide +kernel
theorem dX12_run_21 : decode cX12_run 21 = .ok (.istore_n 3, 1) := by decide +kernel
theorem dX12_run_22 : decode cX12_run 22 = .ok (.iload_n 3, 1) := by decide +kernel
theorem dX12_run_23 : decode cX12_run 23 = .ok (.ifCond .eq 8, 3) := by decide +kernel
theorem dX12_run_26 : decode cX12_run 26 = .ok (.bipush (-5), 2) := by decide +kernel
theorem dX12_run_28 : decode cX12_run 28 = .ok (.goto 9, 3) := by decide +kernel
theorem dX12_run_31 : decode cX12_run 31 = .ok (.aload_n 0, 1) := by decide +kernel
theorem dX12_run_32 : decode cX12_run 32 = .ok (.getfield 198, 3) := by decide +kernel
theorem dX12_run_35 : decode cX12_run 35 = .ok (.iload_n 2, 1) := by decide +kernel
theorem dX12_run_36 : decode cX12_run 36 = .ok (.isub, 1) := by decide +kernel
theorem dX12_run_37 : decode cX12_run 37 = .ok (.ireturn, 1) := by decide +kernel
theorem dX12_read_0 : decode cX12_read 0 = .ok (.aload_n 0, 1) := by decide +kernel
theorem dX12_read_1 : decode cX12_read 1 = .ok (.iload_n 1, 1) := by decide +kernel
theorem dX12_read_2 : decode cX12_read 2 = .ok (.invokevirtual 231, 3) := by decide +kernel
theorem dX12_read_5 : decode cX12_read 5 = .ok (.ifCond .eq 12, 3) := by decide +kernel
theorem dX12_read_8 : decode cX12_read 8 = .ok (.aload_n 0, 1) := by decide +kernel
theorem dX12_read_9 : decode cX12_read 9 = .ok (.iload_n 1, 1) := by decide +kernel
theorem dX12_read_10 : decode cX12_read 10 = .ok (.iconst 0, 1) := by decide +kernel
theorem dX12_read_11 : decode cX12_read 11 = .ok (.invokevirtual 307, 3) := by decide +kernel
theorem dX12_read_14 : decode cX12_read 14 = .ok (.goto 4, 3) := by decide +kernel
theorem dX12_read_17 : decode cX12_read 17 = .ok (.iconst (-1), 1) := by decide +kernel
theorem dX12_read_18 : decode cX12_read 18 = .ok (.ireturn, 1) := by decide +kernel
theorem dX12_write_0 : decode cX12_write 0 = .ok (.aload_n 0, 1) := by decide +kernel
theorem dX12_write_1 : decode cX12_write 1 = .ok (.iload_n 1, 1) := by decide +kernel
theorem dX12_write_2 : decode cX12_write 2 = .ok (.invokevirtual 231, 3) := by decide +kernel
theorem dX12_write_5 : decode cX12_write 5 = .ok (.ifCond .eq 14, 3) := by decide +kernel
theorem dX12_write_8 : decode cX12_write 8 = .ok (.iload_n 2, 1) := by decide +kernel
theorem dX12_write_9 : decode cX12_write 9 = .ok (.iconst 0, 1) := by decide +kernel
theorem dX12_write_10 : decode cX12_write 10 = .ok (.ldc_w 326, 3) := by decide +kernel
theorem dX12_write_13 : decode cX12_write 13 = .ok (.invokestatic 184, 3) := by decide +kernel
theorem dX12_write_16 : decode cX12_write 16 = .ok (.ifCond .ne 5, 3) := by decide +kernel
theorem dX12_write_19 : decode cX12_write 19 = .ok (.iconst (-1), 1) := by decide +kernel
theorem dX12_write_20 : decode cX12_write 20 = .ok (.ireturn, 1) := by decide +kernel
theorem dX12_write_21 : decode cX12_write 21 = .ok (.aload_n 0, 1) := by decide +kernel
theorem dX12_write_22 : decode cX12_write 22 = .ok (.iload_n 1, 1) := by decide +kernel
theorem dX12_write_23 : decode cX12_write 23 = .ok (.iload_n 2, 1) := by decide +kernel
theorem dX12_write_24 : decode cX12_write 24 = .ok (.invokevirtual 311, 3) := by decide +kernel
theorem dX12_write_27 : decode cX12_write 27 = .ok (.aload_n 0, 1) := by decide +kernel
theorem dX12_write_28 : decode cX12_write 28 = .ok (.invokevirtual 244, 3) := by decide +kernel
theorem dX12_write_31 : decode cX12_write 31 = .ok (.aload_n 0, 1) := by decide +kernel
theorem dX12_write_32 : decode cX12_write 32 = .ok (.getfield 198, 3) := by decide +kernel
theorem dX12_write_35 : decode cX12_write 35 = .ok (.ireturn, 1) := by decide +kernel
theorem dX12_wait_0 : decode cX12_wait 0 = .ok (.iload_n 1, 1) := by decide +kernel
theorem dX12_wait_1 : decode cX12_wait 1 = .ok (.iconst 0, 1) := by decide +kernel
theorem dX12_wait_2 : decode cX12_wait 2 = .ok (.bipush 50, 2) := by decide +kernel
theorem dX12_wait_4 : decode cX12_wait 4 = .ok (.invokestatic 184, 3) := by decide +kernel
theorem dX12_wait_7 : decode cX12_wait 7 = .ok (.ifCond .ne 5, 3) := by decide +kernel
theorem dX12_wait_10 : decode cX12_wait 10 = .ok (.iconst (-1), 1) := by decide +kernel
theorem dX12_wait_11 : decode cX12_wait 11 = .ok (.ireturn, 1) := by decide +kernel
theorem dX12_wait_12 : decode cX12_wait 12 = .ok (.iconst 0, 1) := by decide +kernel
theorem dX12_wait_13 : decode cX12_wait 13 = .ok (.istore_n 2, 1) := by decide +kernel
theorem dX12_wait_14 : decode cX12_wait 14 = .ok (.iload_n 2, 1) := by decide +kernel
theorem dX12_wait_15 : decode cX12_wait 15 = .ok (.iload_n 1, 1) := by decide +kernel
theorem dX12_wait_16 : decode cX12_wait 16 = .ok (.if_icmp .ge 13, 3) := by decide +kernel
theorem dX12_wait_19 : decode cX12_wait 19 = .ok (.aload_n 0, 1) := by decide +kernel
theorem dX12_wait_20 : decode cX12_wait 20 = .ok (.invokevirtual 244, 3) := by decide +kernel
theorem dX12_wait_23 : decode cX12_wait 23 = .ok (.iinc 2 1, 3) := by decide +kernel
theorem dX12_wait_26 : decode cX12_wait 26 = .ok (.goto (-12), 3) := by decide +kernel
theorem dX12_wait_29 : decode cX12_wait 29 = .ok (.aload_n 0, 1) := by decide +kernel
theorem dX12_wait_30 : decode cX12_wait 30 = .ok (.getfield 198, 3) := by decide +kernel
theorem dX12_wait_33 : decode cX12_wait 33 = .ok (.ireturn, 1) := by decide +kernel
theorem dX12_peek_0 : decode cX12_peek 0 = .ok (.aload_n 0, 1) := by decide +kernel
theorem dX12_peek_1 : decode cX12_peek 1 = .ok (.iload_n 1, 1) := by decide +kernel
theorem dX12_peek_2 : decode cX12_peek 2 = .ok (.invokevirtual 238, 3) := by decide +kernel
theorem dX12_peek_5 : decode cX12_peek 5 = .ok (.ifCond .eq 12, 3) := by decide +kernel
theorem dX12_peek_8 : decode cX12_peek 8 = .ok (.iload_n 2, 1) := by decide +kernel
theorem dX12_peek_9 : decode cX12_peek 9 = .ok (.iconst 0, 1) := by decide +kernel
theorem dX12_peek_10 : decode cX12_peek 10 = .ok (.iconst 3, 1) := by decide +kernel
theorem dX12_peek_11 : decode cX12_peek 11 = .ok (.invokestatic 184, 3) := by decide +kernel
theorem dX12_peek_14 : decode cX12_peek 14 = .ok (.ifCond .ne 5, 3) := by decide +kernel
theorem dX12_peek_17 : decode cX12_peek 17 = .ok (.iconst (-1), 1) := by decide +kernel
theorem dX12_peek_18 : decode cX12_peek 18 = .ok (.ireturn, 1) := by decide +kernel
theorem dX12_peek_19 : decode cX12_peek 19 = .ok (.aload_n 0, 1) := by decide +kernel
theorem dX12_peek_20 : decode cX12_peek 20 = .ok (.getfield 23, 3) := by decide +kernel
theorem dX12_peek_23 : decode cX12_peek 23 = .ok (.iload_n 1, 1) := by decide +kernel
theorem dX12_peek_24 : decode cX12_peek 24 = .ok (.iaload, 1) := by decide +kernel
theorem dX12_peek_25 : decode cX12_peek 25 = .ok (.istore_n 3, 1) := by decide +kernel
theorem dX12_peek_26 : decode cX12_peek 26 = .ok (.iload_n 2, 1) := by decide +kernel
theorem dX12_peek_27 : decode cX12_peek 27 = .ok (.tableswitch 66 0 2 #[25, 32, 49], 25) := by decide +kernel
theorem dX12_peek_52 : decode cX12_peek 52 = .ok (.aload_n 0, 1) := by decide +kernel
theorem dX12_peek_53 : decode cX12_peek 53 = .ok (.getfield 68, 3) := by decide +kernel
theorem dX12_peek_56 : decode cX12_peek 56 = .ok (.iload_n 1, 1) := by decide +kernel
theorem dX12_peek_57 : decode cX12_peek 57 = .ok (.iaload, 1) := by decide +kernel
theorem dX12_peek_58 : decode cX12_peek 58 = .ok (.ireturn, 1) := by decide +kernel
theorem dX12_peek_59 : decode cX12_peek 59 = .ok (.iload_n 3, 1) := by decide +kernel
theorem dX12_peek_60 : decode cX12_peek 60 = .ok (.iconst 5, 1) := by decide +kernel
theorem dX12_peek_61 : decode cX12_peek 61 = .ok (.if_icmp .ne 12, 3) := by decide +kernel
theorem dX12_peek_64 : decode cX12_peek 64 = .ok (.aload_n 0, 1) := by decide +kernel
theorem dX12_peek_65 : decode cX12_peek 65 = .ok (.getfield 71, 3) := by decide +kernel
theorem dX12_peek_68 : decode cX12_peek 68 = .ok (.iload_n 1, 1) := by decide +kernel
theorem dX12_peek_69 : decode cX12_peek 69 = .ok (.iaload, 1) := by decide +kernel
theorem dX12_peek_70 : decode cX12_peek 70 = .ok (.goto 5, 3) := by decide +kernel
theorem dX12_peek_73 : decode cX12_peek 73 = .ok (.bipush (-4), 2) := by decide +kernel
theorem dX12_peek_75 : decode cX12_peek 75 = .ok (.ireturn, 1) := by decide +kernel
theorem dX12_peek_76 : decode cX12_peek 76 = .ok (.iload_n 3, 1) := by decide +kernel
theorem dX12_peek_77 : decode cX12_peek 77 = .ok (.iconst 4, 1) := by decide +kernel
theorem dX12_peek_78 : decode cX12_peek 78 = .ok (.if_icmp .ne 12, 3) := by decide +kernel
theorem dX12_peek_81 : decode cX12_peek 81 = .ok (.aload_n 0, 1) := by decide +kernel
theorem dX12_peek_82 : decode cX12_peek 82 = .ok (.getfield 74, 3) := by decide +kernel
theorem dX12_peek_85 : decode cX12_peek 85 = .ok (.iload_n 1, 1) := by decide +kernel
theorem dX12_peek_86 : decode cX12_peek 86 = .ok (.iaload, 1) := by decide +kernel
theorem dX12_peek_87 : decode cX12_peek 87 = .ok (.goto 5, 3) := by decide +kernel
theorem dX12_peek_90 : decode cX12_peek 90 = .ok (.bipush (-4), 2) := by decide +kernel
theorem dX12_peek_92 : decode cX12_peek 92 = .ok (.ireturn, 1) := by decide +kernel
theorem dX12_peek_93 : decode cX12_peek 93 = .ok (.iload_n 3, 1) := by decide +kernel
theorem dX12_peek_94 : decode cX12_peek 94 = .ok (.iconst 3, 1) := by decide +kernel
theorem dX12_peek_95 : decode cX12_peek 95 = .ok (.if_icmp .ne 12, 3) := by decide +kernel
theorem dX12_peek_98 : decode cX12_peek 98 = .ok (.aload_n 0, 1) := by decide +kernel
theorem dX12_peek_99 : decode cX12_peek 99 = .ok (.getfield 77, 3) := by decide +kernel
theorem dX12_peek_102 : decode cX12_peek 102 = .ok (.iload_n 1, 1) := by decide +kernel
theorem dX12_peek_103 : decode cX12_peek 103 = .ok (.iaload, 1) := by decide +kernel
theorem dX12_peek_104 : decode cX12_peek 104 = .ok (.goto 5, 3) := by decide +kernel
theorem dX12_peek_107 : decode cX12_peek 107 = .ok (.bipush (-4), 2) := by decide +kernel
theorem dX12_peek_109 : decode cX12_peek 109 = .ok (.ireturn, 1) := by decide +kernel
theorem dX12_shadow_0 : decode cX12_shadow 0 = .ok (.aload_n 0, 1) := by decide +kernel
theorem dX12_shadow_1 : decode cX12_shadow 1 = .ok (.iload_n 1, 1) := by decide +kernel
theorem dX12_shadow_2 : decode cX12_shadow 2 = .ok (.invokevirtual 231, 3) := by decide +kernel
theorem dX12_shadow_5 : decode cX12_shadow 5 = .ok (.ifCond .eq 12, 3) := by decide +kernel
theorem dX12_shadow_8 : decode cX12_shadow 8 = .ok (.aload_n 0, 1) := by decide +kernel
theorem dX12_shadow_9 : decode cX12_shadow 9 = .ok (.getfield 83, 3) := by decide +kernel
theorem dX12_shadow_12 : decode cX12_shadow 12 = .ok (.iload_n 1, 1) := by decide +kernel
theorem dX12_shadow_13 : decode cX12_shadow 13 = .ok (.iaload, 1) := by decide +kernel
theorem dX12_shadow_14 : decode cX12_shadow 14 = .ok (.goto 4, 3) := by decide +kernel
theorem dX12_shadow_17 : decode cX12_shadow 17 = .ok (.iconst (-1), 1) := by decide +kernel
theorem dX12_shadow_18 : decode cX12_shadow 18 = .ok (.ireturn, 1) := by decide +kernel
theorem dX12_result_0 : decode cX12_result 0 = .ok (.aload_n 0, 1) := by decide +kernel
theorem dX12_result_1 : decode cX12_result 1 = .ok (.getfield 216, 3) := by decide +kernel
theorem dX12_result_4 : decode cX12_result 4 = .ok (.ireturn, 1) := by decide +kernel
theorem dX12_breaks_0 : decode cX12_breaks 0 = .ok (.iload_n 1, 1) := by decide +kernel
theorem dX12_breaks_1 : decode cX12_breaks 1 = .ok (.ifCond .ne 8, 3) := by decide +kernel
theorem dX12_breaks_4 : decode cX12_breaks 4 = .ok (.aload_n 0, 1) := by decide +kernel
theorem dX12_breaks_5 : decode cX12_breaks 5 = .ok (.getfield 204, 3) := by decide +kernel
theorem dX12_breaks_8 : decode cX12_breaks 8 = .ok (.ireturn, 1) := by decide +kernel
theorem dX12_breaks_9 : decode cX12_breaks 9 = .ok (.aload_n 0, 1) := by decide +kernel
theorem dX12_breaks_10 : decode cX12_breaks 10 = .ok (.getfield 204, 3) := by decide +kernel
theorem dX12_breaks_13 : decode cX12_breaks 13 = .ok (.ifCond .ne 7, 3) := by decide +kernel
theorem dX12_breaks_16 : decode cX12_breaks 16 = .ok (.iconst (-1), 1) := by decide +kernel
theorem dX12_breaks_17 : decode cX12_breaks 17 = .ok (.goto 28, 3) := by decide +kernel
theorem dX12_breaks_20 : decode cX12_breaks 20 = .ok (.iload_n 1, 1) := by decide +kernel
theorem dX12_breaks_21 : decode cX12_breaks 21 = .ok (.iconst 1, 1) := by decide +kernel
theorem dX12_breaks_22 : decode cX12_breaks 22 = .ok (.if_icmp .ne 10, 3) := by decide +kernel
theorem dX12_breaks_25 : decode cX12_breaks 25 = .ok (.aload_n 0, 1) := by decide +kernel
theorem dX12_breaks_26 : decode cX12_breaks 26 = .ok (.getfield 207, 3) := by decide +kernel
theorem dX12_breaks_29 : decode cX12_breaks 29 = .ok (.goto 16, 3) := by decide +kernel
theorem dX12_breaks_32 : decode cX12_breaks 32 = .ok (.iload_n 1, 1) := by decide +kernel
theorem dX12_breaks_33 : decode cX12_breaks 33 = .ok (.iconst 2, 1) := by decide +kernel
theorem dX12_breaks_34 : decode cX12_breaks 34 = .ok (.if_icmp .ne 10, 3) := by decide +kernel
theorem dX12_breaks_37 : decode cX12_breaks 37 = .ok (.aload_n 0, 1) := by decide +kernel
theorem dX12_breaks_38 : decode cX12_breaks 38 = .ok (.getfield 210, 3) := by decide +kernel
theorem dX12_breaks_41 : decode cX12_breaks 41 = .ok (.goto 4, 3) := by decide +kernel
theorem dX12_breaks_44 : decode cX12_breaks 44 = .ok (.iconst (-1), 1) := by decide +kernel
theorem dX12_breaks_45 : decode cX12_breaks 45 = .ok (.ireturn, 1) := by decide +kernel
theorem dX12_stores_0 : decode cX12_stores 0 = .ok (.aload_n 0, 1) := by decide +kernel
theorem dX12_stores_1 : decode cX12_stores 1 = .ok (.getfield 95, 3) := by decide +kernel
theorem dX12_stores_4 : decode cX12_stores 4 = .ok (.iload_n 1, 1) := by decide +kernel
theorem dX12_stores_5 : decode cX12_stores 5 = .ok (.aload_n 0, 1) := by decide +kernel
theorem dX12_stores_6 : decode cX12_stores 6 = .ok (.getfield 198, 3) := by decide +kernel
theorem dX12_stores_9 : decode cX12_stores 9 = .ok (.iastore, 1) := by decide +kernel
theorem dX12_stores_10 : decode cX12_stores 10 = .ok (.aload_n 0, 1) := by decide +kernel
theorem dX12_stores_11 : decode cX12_stores 11 = .ok (.getfield 116, 3) := by decide +kernel
theorem dX12_stores_14 : decode cX12_stores 14 = .ok (.iload_n 1, 1) := by decide +kernel
theorem dX12_stores_15 : decode cX12_stores 15 = .ok (.aload_n 0, 1) := by decide +kernel
theorem dX12_stores_16 : decode cX12_stores 16 = .ok (.getfield 201, 3) := by decide +kernel
theorem dX12_stores_19 : decode cX12_stores 19 = .ok (.iastore, 1) := by decide +kernel
theorem dX12_stores_20 : decode cX12_stores 20 = .ok (.aload_n 0, 1) := by decide +kernel
theorem dX12_stores_21 : decode cX12_stores 21 = .ok (.getfield 128, 3) := by decide +kernel
theorem dX12_stores_24 : decode cX12_stores 24 = .ok (.iload_n 1, 1) := by decide +kernel
theorem dX12_stores_25 : decode cX12_stores 25 = .ok (.aload_n 0, 1) := by decide +kernel
theorem dX12_stores_26 : decode cX12_stores 26 = .ok (.getfield 204, 3) := by decide +kernel
theorem dX12_stores_29 : decode cX12_stores 29 = .ok (.iastore, 1) := by decide +kernel
theorem dX12_stores_30 : decode cX12_stores 30 = .ok (.aload_n 0, 1) := by decide +kernel
theorem dX12_stores_31 : decode cX12_stores 31 = .ok (.getfield 131, 3) := by decide +kernel
theorem dX12_stores_34 : decode cX12_stores 34 = .ok (.iload_n 1, 1) := by decide +kernel
theorem dX12_stores_35 : decode cX12_stores 35 = .ok (.aload_n 0, 1) := by decide +kernel
theorem dX12_stores_36 : decode cX12_stores 36 = .ok (.getfield 207, 3) := by decide +kernel
theorem dX12_stores_39 : decode cX12_stores 39 = .ok (.iastore, 1) := by decide +kernel
theorem dX12_stores_40 : decode cX12_stores 40 = .ok (.aload_n 0, 1) := by decide +kernel
theorem dX12_stores_41 : decode cX12_stores 41 = .ok (.getfield 134, 3) := by decide +kernel
theorem dX12_stores_44 : decode cX12_stores 44 = .ok (.iload_n 1, 1) := by decide +kernel
theorem dX12_stores_45 : decode cX12_stores 45 = .ok (.aload_n 0, 1) := by decide +kernel
theorem dX12_stores_46 : decode cX12_stores 46 = .ok (.getfield 210, 3) := by decide +kernel
theorem dX12_stores_49 : decode cX12_stores 49 = .ok (.iastore, 1) := by decide +kernel
theorem dX12_stores_50 : decode cX12_stores 50 = .ok (.aload_n 0, 1) := by decide +kernel
theorem dX12_stores_51 : decode cX12_stores 51 = .ok (.getfield 137, 3) := by decide +kernel
theorem dX12_stores_54 : decode cX12_stores 54 = .ok (.iload_n 1, 1) := by decide +kernel
theorem dX12_stores_55 : decode cX12_stores 55 = .ok (.aload_n 0, 1) := by decide +kernel
theorem dX12_stores_56 : decode cX12_stores 56 = .ok (.getfield 213, 3) := by decide +kernel
theorem dX12_stores_59 : decode cX12_stores 59 = .ok (.iastore, 1) := by decide +kernel
theorem dX12_stores_60 : decode cX12_stores 60 = .ok (.aload_n 0, 1) := by decide +kernel
theorem dX12_stores_61 : decode cX12_stores 61 = .ok (.getfield 140, 3) := by decide +kernel
theorem dX12_stores_64 : decode cX12_stores 64 = .ok (.iload_n 1, 1) := by decide +kernel
theorem dX12_stores_65 : decode cX12_stores 65 = .ok (.aload_n 0, 1) := by decide +kernel
theorem dX12_stores_66 : decode cX12_stores 66 = .ok (.getfield 216, 3) := by decide +kernel
theorem dX12_stores_69 : decode cX12_stores 69 = .ok (.iastore, 1) := by decide +kernel
theorem dX12_stores_70 : decode cX12_stores 70 = .ok (.aload_n 0, 1) := by decide +kernel
theorem dX12_stores_71 : decode cX12_stores 71 = .ok (.getfield 143, 3) := by decide +kernel
theorem dX12_stores_74 : decode cX12_stores 74 = .ok (.iload_n 1, 1) := by decide +kernel
theorem dX12_stores_75 : decode cX12_stores 75 = .ok (.aload_n 0, 1) := by decide +kernel
theorem dX12_stores_76 : decode cX12_stores 76 = .ok (.getfield 219, 3) := by decide +kernel
theorem dX12_stores_79 : decode cX12_stores 79 = .ok (.iastore, 1) := by decide +kernel
theorem dX12_stores_80 : decode cX12_stores 80 = .ok (.iconst 0, 1) := by decide +kernel
theorem dX12_stores_81 : decode cX12_stores 81 = .ok (.istore_n 2, 1) := by decide +kernel
theorem dX12_stores_82 : decode cX12_stores 82 = .ok (.iload_n 2, 1) := by decide +kernel
theorem dX12_stores_83 : decode cX12_stores 83 = .ok (.bipush 24, 2) := by decide +kernel
theorem dX12_stores_85 : decode cX12_stores 85 = .ok (.if_icmp .ge 94, 3) := by decide +kernel
theorem dX12_stores_88 : decode cX12_stores 88 = .ok (.aload_n 0, 1) := by decide +kernel
theorem dX12_stores_89 : decode cX12_stores 89 = .ok (.getfield 98, 3) := by decide +kernel
theorem dX12_stores_92 : decode cX12_stores 92 = .ok (.bipush 24, 2) := by decide +kernel
theorem dX12_stores_94 : decode cX12_stores 94 = .ok (.iload_n 1, 1) := by decide +kernel
theorem dX12_stores_95 : decode cX12_stores 95 = .ok (.imul, 1) := by decide +kernel
theorem dX12_stores_96 : decode cX12_stores 96 = .ok (.iload_n 2, 1) := by decide +kernel
theorem dX12_stores_97 : decode cX12_stores 97 = .ok (.iadd, 1) := by decide +kernel
theorem dX12_stores_98 : decode cX12_stores 98 = .ok (.aload_n 0, 1) := by decide +kernel
theorem dX12_stores_99 : decode cX12_stores 99 = .ok (.getfield 68, 3) := by decide +kernel
theorem dX12_stores_102 : decode cX12_stores 102 = .ok (.iload_n 2, 1) := by decide +kernel
theorem dX12_stores_103 : decode cX12_stores 103 = .ok (.iaload, 1) := by decide +kernel
theorem dX12_stores_104 : decode cX12_stores 104 = .ok (.iastore, 1) := by decide +kernel
theorem dX12_stores_105 : decode cX12_stores 105 = .ok (.aload_n 0, 1) := by decide +kernel
theorem dX12_stores_106 : decode cX12_stores 106 = .ok (.getfield 101, 3) := by decide +kernel
theorem dX12_stores_109 : decode cX12_stores 109 = .ok (.bipush 24, 2) := by decide +kernel
theorem dX12_stores_111 : decode cX12_stores 111 = .ok (.iload_n 1, 1) := by decide +kernel
theorem dX12_stores_112 : decode cX12_stores 112 = .ok (.imul, 1) := by decide +kernel
theorem dX12_stores_113 : decode cX12_stores 113 = .ok (.iload_n 2, 1) := by decide +kernel
theorem dX12_stores_114 : decode cX12_stores 114 = .ok (.iadd, 1) := by decide +kernel
theorem dX12_stores_115 : decode cX12_stores 115 = .ok (.aload_n 0, 1) := by decide +kernel
theorem dX12_stores_116 : decode cX12_stores 116 = .ok (.getfield 71, 3) := by decide +kernel
theorem dX12_stores_119 : decode cX12_stores 119 = .ok (.iload_n 2, 1) := by decide +kernel
theorem dX12_stores_120 : decode cX12_stores 120 = .ok (.iaload, 1) := by decide +kernel
theorem dX12_stores_121 : decode cX12_stores 121 = .ok (.iastore, 1) := by decide +kernel
theorem dX12_stores_122 : decode cX12_stores 122 = .ok (.aload_n 0, 1) := by decide +kernel
theorem dX12_stores_123 : decode cX12_stores 123 = .ok (.getfield 104, 3) := by decide +kernel
theorem dX12_stores_126 : decode cX12_stores 126 = .ok (.bipush 24, 2) := by decide +kernel
theorem dX12_stores_128 : decode cX12_stores 128 = .ok (.iload_n 1, 1) := by decide +kernel
theorem dX12_stores_129 : decode cX12_stores 129 = .ok (.imul, 1) := by decide +kernel
theorem dX12_stores_130 : decode cX12_stores 130 = .ok (.iload_n 2, 1) := by decide +kernel
theorem dX12_stores_131 : decode cX12_stores 131 = .ok (.iadd, 1) := by decide +kernel
theorem dX12_stores_132 : decode cX12_stores 132 = .ok (.aload_n 0, 1) := by decide +kernel
theorem dX12_stores_133 : decode cX12_stores 133 = .ok (.getfield 74, 3) := by decide +kernel
theorem dX12_stores_136 : decode cX12_stores 136 = .ok (.iload_n 2, 1) := by decide +kernel
theorem dX12_stores_137 : decode cX12_stores 137 = .ok (.iaload, 1) := by decide +kernel
theorem dX12_stores_138 : decode cX12_stores 138 = .ok (.iastore, 1) := by decide +kernel
theorem dX12_stores_139 : decode cX12_stores 139 = .ok (.aload_n 0, 1) := by decide +kernel
theorem dX12_stores_140 : decode cX12_stores 140 = .ok (.getfield 107, 3) := by decide +kernel
theorem dX12_stores_143 : decode cX12_stores 143 = .ok (.bipush 24, 2) := by decide +kernel
theorem dX12_stores_145 : decode cX12_stores 145 = .ok (.iload_n 1, 1) := by decide +kernel
theorem dX12_stores_146 : decode cX12_stores 146 = .ok (.imul, 1) := by decide +kernel
theorem dX12_stores_147 : decode cX12_stores 147 = .ok (.iload_n 2, 1) := by decide +kernel
theorem dX12_stores_148 : decode cX12_stores 148 = .ok (.iadd, 1) := by decide +kernel
theorem dX12_stores_149 : decode cX12_stores 149 = .ok (.aload_n 0, 1) := by decide +kernel
theorem dX12_stores_150 : decode cX12_stores 150 = .ok (.getfield 77, 3) := by decide +kernel
theorem dX12_stores_153 : decode cX12_stores 153 = .ok (.iload_n 2, 1) := by decide +kernel
theorem dX12_stores_154 : decode cX12_stores 154 = .ok (.iaload, 1) := by decide +kernel
theorem dX12_stores_155 : decode cX12_stores 155 = .ok (.iastore, 1) := by decide +kernel
theorem dX12_stores_156 : decode cX12_stores 156 = .ok (.aload_n 0, 1) := by decide +kernel
theorem dX12_stores_157 : decode cX12_stores 157 = .ok (.getfield 110, 3) := by decide +kernel
theorem dX12_stores_160 : decode cX12_stores 160 = .ok (.bipush 24, 2) := by decide +kernel
theorem dX12_stores_162 : decode cX12_stores 162 = .ok (.iload_n 1, 1) := by decide +kernel
theorem dX12_stores_163 : decode cX12_stores 163 = .ok (.imul, 1) := by decide +kernel
theorem dX12_stores_164 : decode cX12_stores 164 = .ok (.iload_n 2, 1) := by decide +kernel
theorem dX12_stores_165 : decode cX12_stores 165 = .ok (.iadd, 1) := by decide +kernel
theorem dX12_stores_166 : decode cX12_stores 166 = .ok (.aload_n 0, 1) := by decide +kernel
theorem dX12_stores_167 : decode cX12_stores 167 = .ok (.getfield 80, 3) := by decide +kernel
theorem dX12_stores_170 : decode cX12_stores 170 = .ok (.iload_n 2, 1) := by decide +kernel
theorem dX12_stores_171 : decode cX12_stores 171 = .ok (.iaload, 1) := by decide +kernel
theorem dX12_stores_172 : decode cX12_stores 172 = .ok (.iastore, 1) := by decide +kernel
theorem dX12_stores_173 : decode cX12_stores 173 = .ok (.iinc 2 1, 3) := by decide +kernel
theorem dX12_stores_176 : decode cX12_stores 176 = .ok (.goto (-94), 3) := by decide +kernel
theorem dX12_stores_179 : decode cX12_stores 179 = .ok (.iconst 0, 1) := by decide +kernel
theorem dX12_stores_180 : decode cX12_stores 180 = .ok (.istore_n 2, 1) := by decide +kernel
theorem dX12_stores_181 : decode cX12_stores 181 = .ok (.iload_n 2, 1) := by decide +kernel
theorem dX12_stores_182 : decode cX12_stores 182 = .ok (.bipush 8, 2) := by decide +kernel
theorem dX12_stores_184 : decode cX12_stores 184 = .ok (.if_icmp .ge 26, 3) := by decide +kernel
theorem dX12_stores_187 : decode cX12_stores 187 = .ok (.aload_n 0, 1) := by decide +kernel
theorem dX12_stores_188 : decode cX12_stores 188 = .ok (.getfield 113, 3) := by decide +kernel
theorem dX12_stores_191 : decode cX12_stores 191 = .ok (.bipush 8, 2) := by decide +kernel
theorem dX12_stores_193 : decode cX12_stores 193 = .ok (.iload_n 1, 1) := by decide +kernel
theorem dX12_stores_194 : decode cX12_stores 194 = .ok (.imul, 1) := by decide +kernel
theorem dX12_stores_195 : decode cX12_stores 195 = .ok (.iload_n 2, 1) := by decide +kernel
theorem dX12_stores_196 : decode cX12_stores 196 = .ok (.iadd, 1) := by decide +kernel
theorem dX12_stores_197 : decode cX12_stores 197 = .ok (.aload_n 0, 1) := by decide +kernel
theorem dX12_stores_198 : decode cX12_stores 198 = .ok (.getfield 83, 3) := by decide +kernel
theorem dX12_stores_201 : decode cX12_stores 201 = .ok (.iload_n 2, 1) := by decide +kernel
theorem dX12_stores_202 : decode cX12_stores 202 = .ok (.iaload, 1) := by decide +kernel
theorem dX12_stores_203 : decode cX12_stores 203 = .ok (.iastore, 1) := by decide +kernel
theorem dX12_stores_204 : decode cX12_stores 204 = .ok (.iinc 2 1, 3) := by decide +kernel
theorem dX12_stores_207 : decode cX12_stores 207 = .ok (.goto (-26), 3) := by decide +kernel
theorem dX12_stores_210 : decode cX12_stores 210 = .ok (.iconst 0, 1) := by decide +kernel
theorem dX12_stores_211 : decode cX12_stores 211 = .ok (.istore_n 2, 1) := by decide +kernel
theorem dX12_stores_212 : decode cX12_stores 212 = .ok (.iload_n 2, 1) := by decide +kernel
theorem dX12_stores_213 : decode cX12_stores 213 = .ok (.aload_n 0, 1) := by decide +kernel
theorem dX12_stores_214 : decode cX12_stores 214 = .ok (.getfield 201, 3) := by decide +kernel
theorem dX12_stores_217 : decode cX12_stores 217 = .ok (.if_icmp .ge 60, 3) := by decide +kernel
theorem dX12_stores_220 : decode cX12_stores 220 = .ok (.aload_n 0, 1) := by decide +kernel
theorem dX12_stores_221 : decode cX12_stores 221 = .ok (.getfield 119, 3) := by decide +kernel
theorem dX12_stores_224 : decode cX12_stores 224 = .ok (.bipush 17, 2) := by decide +kernel
theorem dX12_stores_226 : decode cX12_stores 226 = .ok (.iload_n 1, 1) := by decide +kernel
theorem dX12_stores_227 : decode cX12_stores 227 = .ok (.imul, 1) := by decide +kernel
theorem dX12_stores_228 : decode cX12_stores 228 = .ok (.iload_n 2, 1) := by decide +kernel
theorem dX12_stores_229 : decode cX12_stores 229 = .ok (.iadd, 1) := by decide +kernel
theorem dX12_stores_230 : decode cX12_stores 230 = .ok (.aload_n 0, 1) := by decide +kernel
theorem dX12_stores_231 : decode cX12_stores 231 = .ok (.getfield 86, 3) := by decide +kernel
theorem dX12_stores_234 : decode cX12_stores 234 = .ok (.iload_n 2, 1) := by decide +kernel
theorem dX12_stores_235 : decode cX12_stores 235 = .ok (.iaload, 1) := by decide +kernel
theorem dX12_stores_236 : decode cX12_stores 236 = .ok (.iastore, 1) := by decide +kernel
theorem dX12_stores_237 : decode cX12_stores 237 = .ok (.aload_n 0, 1) := by decide +kernel
theorem dX12_stores_238 : decode cX12_stores 238 = .ok (.getfield 122, 3) := by decide +kernel
theorem dX12_stores_241 : decode cX12_stores 241 = .ok (.bipush 17, 2) := by decide +kernel
theorem dX12_stores_243 : decode cX12_stores 243 = .ok (.iload_n 1, 1) := by decide +kernel
theorem dX12_stores_244 : decode cX12_stores 244 = .ok (.imul, 1) := by decide +kernel
theorem dX12_stores_245 : decode cX12_stores 245 = .ok (.iload_n 2, 1) := by decide +kernel
theorem dX12_stores_246 : decode cX12_stores 246 = .ok (.iadd, 1) := by decide +kernel
theorem dX12_stores_247 : decode cX12_stores 247 = .ok (.aload_n 0, 1) := by decide +kernel
theorem dX12_stores_248 : decode cX12_stores 248 = .ok (.getfield 89, 3) := by decide +kernel
theorem dX12_stores_251 : decode cX12_stores 251 = .ok (.iload_n 2, 1) := by decide +kernel
theorem dX12_stores_252 : decode cX12_stores 252 = .ok (.iaload, 1) := by decide +kernel
theorem dX12_stores_253 : decode cX12_stores 253 = .ok (.iastore, 1) := by decide +kernel
theorem dX12_stores_254 : decode cX12_stores 254 = .ok (.aload_n 0, 1) := by decide +kernel
theorem dX12_stores_255 : decode cX12_stores 255 = .ok (.getfield 125, 3) := by decide +kernel
theorem dX12_stores_258 : decode cX12_stores 258 = .ok (.bipush 17, 2) := by decide +kernel
theorem dX12_stores_260 : decode cX12_stores 260 = .ok (.iload_n 1, 1) := by decide +kernel
theorem dX12_stores_261 : decode cX12_stores 261 = .ok (.imul, 1) := by decide +kernel
theorem dX12_stores_262 : decode cX12_stores 262 = .ok (.iload_n 2, 1) := by decide +kernel
theorem dX12_stores_263 : decode cX12_stores 263 = .ok (.iadd, 1) := by decide +kernel
theorem dX12_stores_264 : decode cX12_stores 264 = .ok (.aload_n 0, 1) := by decide +kernel
theorem dX12_stores_265 : decode cX12_stores 265 = .ok (.getfield 92, 3) := by decide +kernel
theorem dX12_stores_268 : decode cX12_stores 268 = .ok (.iload_n 2, 1) := by decide +kernel
theorem dX12_stores_269 : decode cX12_stores 269 = .ok (.iaload, 1) := by decide +kernel
theorem dX12_stores_270 : decode cX12_stores 270 = .ok (.iastore, 1) := by decide +kernel
theorem dX12_stores_271 : decode cX12_stores 271 = .ok (.iinc 2 1, 3) := by decide +kernel
theorem dX12_stores_274 : decode cX12_stores 274 = .ok (.goto (-62), 3) := by decide +kernel
theorem dX12_stores_277 : decode cX12_stores 277 = .ok (.return_, 1) := by decide +kernel
theorem dX12_brings_0 : decode cX12_brings 0 = .ok (.aload_n 0, 1) := by decide +kernel
theorem dX12_brings_1 : decode cX12_brings 1 = .ok (.aload_n 0, 1) := by decide +kernel
theorem dX12_brings_2 : decode cX12_brings 2 = .ok (.getfield 95, 3) := by decide +kernel
theorem dX12_brings_5 : decode cX12_brings 5 = .ok (.iload_n 1, 1) := by decide +kernel
theorem dX12_brings_6 : decode cX12_brings 6 = .ok (.iaload, 1) := by decide +kernel
theorem dX12_brings_7 : decode cX12_brings 7 = .ok (.putfield 198, 3) := by decide +kernel
theorem dX12_brings_10 : decode cX12_brings 10 = .ok (.aload_n 0, 1) := by decide +kernel
theorem dX12_brings_11 : decode cX12_brings 11 = .ok (.aload_n 0, 1) := by decide +kernel
theorem dX12_brings_12 : decode cX12_brings 12 = .ok (.getfield 116, 3) := by decide +kernel
theorem dX12_brings_15 : decode cX12_brings 15 = .ok (.iload_n 1, 1) := by decide +kernel
theorem dX12_brings_16 : decode cX12_brings 16 = .ok (.iaload, 1) := by decide +kernel
theorem dX12_brings_17 : decode cX12_brings 17 = .ok (.putfield 201, 3) := by decide +kernel
theorem dX12_brings_20 : decode cX12_brings 20 = .ok (.aload_n 0, 1) := by decide +kernel
theorem dX12_brings_21 : decode cX12_brings 21 = .ok (.aload_n 0, 1) := by decide +kernel
theorem dX12_brings_22 : decode cX12_brings 22 = .ok (.getfield 128, 3) := by decide +kernel
theorem dX12_brings_25 : decode cX12_brings 25 = .ok (.iload_n 1, 1) := by decide +kernel
theorem dX12_brings_26 : decode cX12_brings 26 = .ok (.iaload, 1) := by decide +kernel
theorem dX12_brings_27 : decode cX12_brings 27 = .ok (.putfield 204, 3) := by decide +kernel
theorem dX12_brings_30 : decode cX12_brings 30 = .ok (.aload_n 0, 1) := by decide +kernel
theorem dX12_brings_31 : decode cX12_brings 31 = .ok (.aload_n 0, 1) := by decide +kernel
theorem dX12_brings_32 : decode cX12_brings 32 = .ok (.getfield 131, 3) := by decide +kernel
theorem dX12_brings_35 : decode cX12_brings 35 = .ok (.iload_n 1, 1) := by decide +kernel
theorem dX12_brings_36 : decode cX12_brings 36 = .ok (.iaload, 1) := by decide +kernel
theorem dX12_brings_37 : decode cX12_brings 37 = .ok (.putfield 207, 3) := by decide +kernel
theorem dX12_brings_40 : decode cX12_brings 40 = .ok (.aload_n 0, 1) := by decide +kernel
theorem dX12_brings_41 : decode cX12_brings 41 = .ok (.aload_n 0, 1) := by decide +kernel
theorem dX12_brings_42 : decode cX12_brings 42 = .ok (.getfield 134, 3) := by decide +kernel
theorem dX12_brings_45 : decode cX12_brings 45 = .ok (.iload_n 1, 1) := by decide +kernel
theorem dX12_brings_46 : decode cX12_brings 46 = .ok (.iaload, 1) := by decide +kernel
theorem dX12_brings_47 : decode cX12_brings 47 = .ok (.putfield 210, 3) := by decide +kernel
theorem dX12_brings_50 : decode cX12_brings 50 = .ok (.aload_n 0, 1) := by decide +kernel
theorem dX12_brings_51 : decode cX12_brings 51 = .ok (.aload_n 0, 1) := by decide +kernel
theorem dX12_brings_52 : decode cX12_brings 52 = .ok (.getfield 137, 3) := by decide +kernel
theorem dX12_brings_55 : decode cX12_brings 55 = .ok (.iload_n 1, 1) := by decide +kernel
theorem dX12_brings_56 : decode cX12_brings 56 = .ok (.iaload, 1) := by decide +kernel
theorem dX12_brings_57 : decode cX12_brings 57 = .ok (.putfield 213, 3) := by decide +kernel
theorem dX12_brings_60 : decode cX12_brings 60 = .ok (.aload_n 0, 1) := by decide +kernel
theorem dX12_brings_61 : decode cX12_brings 61 = .ok (.aload_n 0, 1) := by decide +kernel
theorem dX12_brings_62 : decode cX12_brings 62 = .ok (.getfield 140, 3) := by decide +kernel
theorem dX12_brings_65 : decode cX12_brings 65 = .ok (.iload_n 1, 1) := by decide +kernel
theorem dX12_brings_66 : decode cX12_brings 66 = .ok (.iaload, 1) := by decide +kernel
theorem dX12_brings_67 : decode cX12_brings 67 = .ok (.putfield 216, 3) := by decide +kernel
theorem dX12_brings_70 : decode cX12_brings 70 = .ok (.iconst 0, 1) := by decide +kernel
theorem dX12_brings_71 : decode cX12_brings 71 = .ok (.istore_n 2, 1) := by decide +kernel
theorem dX12_brings_72 : decode cX12_brings 72 = .ok (.iload_n 2, 1) := by decide +kernel
theorem dX12_brings_73 : decode cX12_brings 73 = .ok (.bipush 24, 2) := by decide +kernel
theorem dX12_brings_75 : decode cX12_brings 75 = .ok (.if_icmp .ge 94, 3) := by decide +kernel
theorem dX12_brings_78 : decode cX12_brings 78 = .ok (.aload_n 0, 1) := by decide +kernel
theorem dX12_brings_79 : decode cX12_brings 79 = .ok (.getfield 68, 3) := by decide +kernel
theorem dX12_brings_82 : decode cX12_brings 82 = .ok (.iload_n 2, 1) := by decide +kernel
theorem dX12_brings_83 : decode cX12_brings 83 = .ok (.aload_n 0, 1) := by decide +kernel
theorem dX12_brings_84 : decode cX12_brings 84 = .ok (.getfield 98, 3) := by decide +kernel
theorem dX12_brings_87 : decode cX12_brings 87 = .ok (.bipush 24, 2) := by decide +kernel
theorem dX12_brings_89 : decode cX12_brings 89 = .ok (.iload_n 1, 1) := by decide +kernel
theorem dX12_brings_90 : decode cX12_brings 90 = .ok (.imul, 1) := by decide +kernel
theorem dX12_brings_91 : decode cX12_brings 91 = .ok (.iload_n 2, 1) := by decide +kernel
theorem dX12_brings_92 : decode cX12_brings 92 = .ok (.iadd, 1) := by decide +kernel
theorem dX12_brings_93 : decode cX12_brings 93 = .ok (.iaload, 1) := by decide +kernel
theorem dX12_brings_94 : decode cX12_brings 94 = .ok (.iastore, 1) := by decide +kernel
theorem dX12_brings_95 : decode cX12_brings 95 = .ok (.aload_n 0, 1) := by decide +kernel
theorem dX12_brings_96 : decode cX12_brings 96 = .ok (.getfield 71, 3) := by decide +kernel
theorem dX12_brings_99 : decode cX12_brings 99 = .ok (.iload_n 2, 1) := by decide +kernel
theorem dX12_brings_100 : decode cX12_brings 100 = .ok (.aload_n 0, 1) := by decide +kernel
theorem dX12_brings_101 : decode cX12_brings 101 = .ok (.getfield 101, 3) := by decide +kernel
theorem dX12_brings_104 : decode cX12_brings 104 = .ok (.bipush 24, 2) := by decide +kernel
theorem dX12_brings_106 : decode cX12_brings 106 = .ok (.iload_n 1, 1) := by decide +kernel
theorem dX12_brings_107 : decode cX12_brings 107 = .ok (.imul, 1) := by decide +kernel
theorem dX12_brings_108 : decode cX12_brings 108 = .ok (.iload_n 2, 1) := by decide +kernel
theorem dX12_brings_109 : decode cX12_brings 109 = .ok (.iadd, 1) := by decide +kernel
theorem dX12_brings_110 : decode cX12_brings 110 = .ok (.iaload, 1) := by decide +kernel
theorem dX12_brings_111 : decode cX12_brings 111 = .ok (.iastore, 1) := by decide +kernel
theorem dX12_brings_112 : decode cX12_brings 112 = .ok (.aload_n 0, 1) := by decide +kernel
theorem dX12_brings_113 : decode cX12_brings 113 = .ok (.getfield 74, 3) := by decide +kernel
theorem dX12_brings_116 : decode cX12_brings 116 = .ok (.iload_n 2, 1) := by decide +kernel
theorem dX12_brings_117 : decode cX12_brings 117 = .ok (.aload_n 0, 1) := by decide +kernel
theorem dX12_brings_118 : decode cX12_brings 118 = .ok (.getfield 104, 3) := by decide +kernel
theorem dX12_brings_121 : decode cX12_brings 121 = .ok (.bipush 24, 2) := by decide +kernel
theorem dX12_brings_123 : decode cX12_brings 123 = .ok (.iload_n 1, 1) := by decide +kernel
theorem dX12_brings_124 : decode cX12_brings 124 = .ok (.imul, 1) := by decide +kernel
theorem dX12_brings_125 : decode cX12_brings 125 = .ok (.iload_n 2, 1) := by decide +kernel
theorem dX12_brings_126 : decode cX12_brings 126 = .ok (.iadd, 1) := by decide +kernel
theorem dX12_brings_127 : decode cX12_brings 127 = .ok (.iaload, 1) := by decide +kernel
theorem dX12_brings_128 : decode cX12_brings 128 = .ok (.iastore, 1) := by decide +kernel
theorem dX12_brings_129 : decode cX12_brings 129 = .ok (.aload_n 0, 1) := by decide +kernel
theorem dX12_brings_130 : decode cX12_brings 130 = .ok (.getfield 77, 3) := by decide +kernel
theorem dX12_brings_133 : decode cX12_brings 133 = .ok (.iload_n 2, 1) := by decide +kernel
theorem dX12_brings_134 : decode cX12_brings 134 = .ok (.aload_n 0, 1) := by decide +kernel
theorem dX12_brings_135 : decode cX12_brings 135 = .ok (.getfield 107, 3) := by decide +kernel
theorem dX12_brings_138 : decode cX12_brings 138 = .ok (.bipush 24, 2) := by decide +kernel
theorem dX12_brings_140 : decode cX12_brings 140 = .ok (.iload_n 1, 1) := by decide +kernel
theorem dX12_brings_141 : decode cX12_brings 141 = .ok (.imul, 1) := by decide +kernel
theorem dX12_brings_142 : decode cX12_brings 142 = .ok (.iload_n 2, 1) := by decide +kernel
theorem dX12_brings_143 : decode cX12_brings 143 = .ok (.iadd, 1) := by decide +kernel
theorem dX12_brings_144 : decode cX12_brings 144 = .ok (.iaload, 1) := by decide +kernel
theorem dX12_brings_145 : decode cX12_brings 145 = .ok (.iastore, 1) := by decide +kernel
theorem dX12_brings_146 : decode cX12_brings 146 = .ok (.aload_n 0, 1) := by decide +kernel
theorem dX12_brings_147 : decode cX12_brings 147 = .ok (.getfield 80, 3) := by decide +kernel
theorem dX12_brings_150 : decode cX12_brings 150 = .ok (.iload_n 2, 1) := by decide +kernel
theorem dX12_brings_151 : decode cX12_brings 151 = .ok (.aload_n 0, 1) := by decide +kernel
theorem dX12_brings_152 : decode cX12_brings 152 = .ok (.getfield 110, 3) := by decide +kernel
theorem dX12_brings_155 : decode cX12_brings 155 = .ok (.bipush 24, 2) := by decide +kernel
theorem dX12_brings_157 : decode cX12_brings 157 = .ok (.iload_n 1, 1) := by decide +kernel
theorem dX12_brings_158 : decode cX12_brings 158 = .ok (.imul, 1) := by decide +kernel
theorem dX12_brings_159 : decode cX12_brings 159 = .ok (.iload_n 2, 1) := by decide +kernel
theorem dX12_brings_160 : decode cX12_brings 160 = .ok (.iadd, 1) := by decide +kernel
theorem dX12_brings_161 : decode cX12_brings 161 = .ok (.iaload, 1) := by decide +kernel
theorem dX12_brings_162 : decode cX12_brings 162 = .ok (.iastore, 1) := by decide +kernel
theorem dX12_brings_163 : decode cX12_brings 163 = .ok (.iinc 2 1, 3) := by decide +kernel
theorem dX12_brings_166 : decode cX12_brings 166 = .ok (.goto (-94), 3) := by decide +kernel
theorem dX12_brings_169 : decode cX12_brings 169 = .ok (.iconst 0, 1) := by decide +kernel
theorem dX12_brings_170 : decode cX12_brings 170 = .ok (.istore_n 2, 1) := by decide +kernel
theorem dX12_brings_171 : decode cX12_brings 171 = .ok (.iload_n 2, 1) := by decide +kernel
theorem dX12_brings_172 : decode cX12_brings 172 = .ok (.bipush 8, 2) := by decide +kernel
theorem dX12_brings_174 : decode cX12_brings 174 = .ok (.if_icmp .ge 26, 3) := by decide +kernel
theorem dX12_brings_177 : decode cX12_brings 177 = .ok (.aload_n 0, 1) := by decide +kernel
theorem dX12_brings_178 : decode cX12_brings 178 = .ok (.getfield 83, 3) := by decide +kernel
theorem dX12_brings_181 : decode cX12_brings 181 = .ok (.iload_n 2, 1) := by decide +kernel
theorem dX12_brings_182 : decode cX12_brings 182 = .ok (.aload_n 0, 1) := by decide +kernel
theorem dX12_brings_183 : decode cX12_brings 183 = .ok (.getfield 113, 3) := by decide +kernel
theorem dX12_brings_186 : decode cX12_brings 186 = .ok (.bipush 8, 2) := by decide +kernel
theorem dX12_brings_188 : decode cX12_brings 188 = .ok (.iload_n 1, 1) := by decide +kernel
theorem dX12_brings_189 : decode cX12_brings 189 = .ok (.imul, 1) := by decide +kernel
theorem dX12_brings_190 : decode cX12_brings 190 = .ok (.iload_n 2, 1) := by decide +kernel
theorem dX12_brings_191 : decode cX12_brings 191 = .ok (.iadd, 1) := by decide +kernel
theorem dX12_brings_192 : decode cX12_brings 192 = .ok (.iaload, 1) := by decide +kernel
theorem dX12_brings_193 : decode cX12_brings 193 = .ok (.iastore, 1) := by decide +kernel
theorem dX12_brings_194 : decode cX12_brings 194 = .ok (.iinc 2 1, 3) := by decide +kernel
theorem dX12_brings_197 : decode cX12_brings 197 = .ok (.goto (-26), 3) := by decide +kernel
theorem dX12_brings_200 : decode cX12_brings 200 = .ok (.iconst 0, 1) := by decide +kernel
theorem dX12_brings_201 : decode cX12_brings 201 = .ok (.istore_n 2, 1) := by decide +kernel
theorem dX12_brings_202 : decode cX12_brings 202 = .ok (.iload_n 2, 1) := by decide +kernel
theorem dX12_brings_203 : decode cX12_brings 203 = .ok (.aload_n 0, 1) := by decide +kernel
theorem dX12_brings_204 : decode cX12_brings 204 = .ok (.getfield 201, 3) := by decide +kernel
theorem dX12_brings_207 : decode cX12_brings 207 = .ok (.if_icmp .ge 60, 3) := by decide +kernel
theorem dX12_brings_210 : decode cX12_brings 210 = .ok (.aload_n 0, 1) := by decide +kernel
theorem dX12_brings_211 : decode cX12_brings 211 = .ok (.getfield 86, 3) := by decide +kernel
theorem dX12_brings_214 : decode cX12_brings 214 = .ok (.iload_n 2, 1) := by decide +kernel
theorem dX12_brings_215 : decode cX12_brings 215 = .ok (.aload_n 0, 1) := by decide +kernel
theorem dX12_brings_216 : decode cX12_brings 216 = .ok (.getfield 119, 3) := by decide +kernel
theorem dX12_brings_219 : decode cX12_brings 219 = .ok (.bipush 17, 2) := by decide +kernel
theorem dX12_brings_221 : decode cX12_brings 221 = .ok (.iload_n 1, 1) := by decide +kernel
theorem dX12_brings_222 : decode cX12_brings 222 = .ok (.imul, 1) := by decide +kernel
theorem dX12_brings_223 : decode cX12_brings 223 = .ok (.iload_n 2, 1) := by decide +kernel
theorem dX12_brings_224 : decode cX12_brings 224 = .ok (.iadd, 1) := by decide +kernel
theorem dX12_brings_225 : decode cX12_brings 225 = .ok (.iaload, 1) := by decide +kernel
theorem dX12_brings_226 : decode cX12_brings 226 = .ok (.iastore, 1) := by decide +kernel
theorem dX12_brings_227 : decode cX12_brings 227 = .ok (.aload_n 0, 1) := by decide +kernel
theorem dX12_brings_228 : decode cX12_brings 228 = .ok (.getfield 89, 3) := by decide +kernel
theorem dX12_brings_231 : decode cX12_brings 231 = .ok (.iload_n 2, 1) := by decide +kernel
theorem dX12_brings_232 : decode cX12_brings 232 = .ok (.aload_n 0, 1) := by decide +kernel
theorem dX12_brings_233 : decode cX12_brings 233 = .ok (.getfield 122, 3) := by decide +kernel
theorem dX12_brings_236 : decode cX12_brings 236 = .ok (.bipush 17, 2) := by decide +kernel
theorem dX12_brings_238 : decode cX12_brings 238 = .ok (.iload_n 1, 1) := by decide +kernel
theorem dX12_brings_239 : decode cX12_brings 239 = .ok (.imul, 1) := by decide +kernel
theorem dX12_brings_240 : decode cX12_brings 240 = .ok (.iload_n 2, 1) := by decide +kernel
theorem dX12_brings_241 : decode cX12_brings 241 = .ok (.iadd, 1) := by decide +kernel
theorem dX12_brings_242 : decode cX12_brings 242 = .ok (.iaload, 1) := by decide +kernel
theorem dX12_brings_243 : decode cX12_brings 243 = .ok (.iastore, 1) := by decide +kernel
theorem dX12_brings_244 : decode cX12_brings 244 = .ok (.aload_n 0, 1) := by decide +kernel
theorem dX12_brings_245 : decode cX12_brings 245 = .ok (.getfield 92, 3) := by decide +kernel
theorem dX12_brings_248 : decode cX12_brings 248 = .ok (.iload_n 2, 1) := by decide +kernel
theorem dX12_brings_249 : decode cX12_brings 249 = .ok (.aload_n 0, 1) := by decide +kernel
theorem dX12_brings_250 : decode cX12_brings 250 = .ok (.getfield 125, 3) := by decide +kernel
theorem dX12_brings_253 : decode cX12_brings 253 = .ok (.bipush 17, 2) := by decide +kernel
theorem dX12_brings_255 : decode cX12_brings 255 = .ok (.iload_n 1, 1) := by decide +kernel
theorem dX12_brings_256 : decode cX12_brings 256 = .ok (.imul, 1) := by decide +kernel
theorem dX12_brings_257 : decode cX12_brings 257 = .ok (.iload_n 2, 1) := by decide +kernel
theorem dX12_brings_258 : decode cX12_brings 258 = .ok (.iadd, 1) := by decide +kernel
theorem dX12_brings_259 : decode cX12_brings 259 = .ok (.iaload, 1) := by decide +kernel
theorem dX12_brings_260 : decode cX12_brings 260 = .ok (.iastore, 1) := by decide +kernel
theorem dX12_brings_261 : decode cX12_brings 261 = .ok (.iinc 2 1, 3) := by decide +kernel
theorem dX12_brings_264 : decode cX12_brings 264 = .ok (.goto (-62), 3) := by decide +kernel
theorem dX12_brings_267 : decode cX12_brings 267 = .ok (.return_, 1) := by decide +kernel
theorem dX12_setTo_0 : decode cX12_setTo 0 = .ok (.iconst (-1), 1) := by decide +kernel
theorem dX12_setTo_1 : decode cX12_setTo 1 = .ok (.istore_n 3, 1) := by decide +kernel
theorem dX12_setTo_2 : decode cX12_setTo 2 = .ok (.bipush 12, 2) := by decide +kernel
theorem dX12_setTo_4 : decode cX12_setTo 4 = .ok (.iload_n 1, 1) := by decide +kernel
theorem dX12_setTo_5 : decode cX12_setTo 5 = .ok (.imul, 1) := by decide +kernel
theorem dX12_setTo_6 : decode cX12_setTo 6 = .ok (.istore 4, 2) := by decide +kernel
theorem dX12_setTo_8 : decode cX12_setTo 8 = .ok (.iload 4, 2) := by decide +kernel
theorem dX12_setTo_10 : decode cX12_setTo 10 = .ok (.bipush 12, 2) := by decide +kernel
theorem dX12_setTo_12 : decode cX12_setTo 12 = .ok (.iload_n 1, 1) := by decide +kernel
theorem dX12_setTo_13 : decode cX12_setTo 13 = .ok (.imul, 1) := by decide +kernel
theorem dX12_setTo_14 : decode cX12_setTo 14 = .ok (.aload_n 0, 1) := by decide +kernel
theorem dX12_setTo_15 : decode cX12_setTo 15 = .ok (.getfield 50, 3) := by decide +kernel
theorem dX12_setTo_18 : decode cX12_setTo 18 = .ok (.iload_n 1, 1) := by decide +kernel
theorem dX12_setTo_19 : decode cX12_setTo 19 = .ok (.iaload, 1) := by decide +kernel
theorem dX12_setTo_20 : decode cX12_setTo 20 = .ok (.iadd, 1) := by decide +kernel
theorem dX12_setTo_21 : decode cX12_setTo 21 = .ok (.if_icmp .ge 42, 3) := by decide +kernel
theorem dX12_setTo_24 : decode cX12_setTo 24 = .ok (.aload_n 0, 1) := by decide +kernel
theorem dX12_setTo_25 : decode cX12_setTo 25 = .ok (.getfield 53, 3) := by decide +kernel
theorem dX12_setTo_28 : decode cX12_setTo 28 = .ok (.iload 4, 2) := by decide +kernel
theorem dX12_setTo_30 : decode cX12_setTo 30 = .ok (.iaload, 1) := by decide +kernel
theorem dX12_setTo_31 : decode cX12_setTo 31 = .ok (.ifCond .ne 24, 3) := by decide +kernel
theorem dX12_setTo_34 : decode cX12_setTo 34 = .ok (.aload_n 0, 1) := by decide +kernel
theorem dX12_setTo_35 : decode cX12_setTo 35 = .ok (.getfield 56, 3) := by decide +kernel
theorem dX12_setTo_38 : decode cX12_setTo 38 = .ok (.iload 4, 2) := by decide +kernel
theorem dX12_setTo_40 : decode cX12_setTo 40 = .ok (.iaload, 1) := by decide +kernel
theorem dX12_setTo_41 : decode cX12_setTo 41 = .ok (.iload_n 2, 1) := by decide +kernel
theorem dX12_setTo_42 : decode cX12_setTo 42 = .ok (.if_icmp .ne 13, 3) := by decide +kernel
theorem dX12_setTo_45 : decode cX12_setTo 45 = .ok (.aload_n 0, 1) := by decide +kernel
theorem dX12_setTo_46 : decode cX12_setTo 46 = .ok (.getfield 59, 3) := by decide +kernel
theorem dX12_setTo_49 : decode cX12_setTo 49 = .ok (.iload 4, 2) := by decide +kernel
theorem dX12_setTo_51 : decode cX12_setTo 51 = .ok (.iaload, 1) := by decide +kernel
theorem dX12_setTo_52 : decode cX12_setTo 52 = .ok (.goto 4, 3) := by decide +kernel
theorem dX12_setTo_55 : decode cX12_setTo 55 = .ok (.iload_n 3, 1) := by decide +kernel
theorem dX12_setTo_56 : decode cX12_setTo 56 = .ok (.istore_n 3, 1) := by decide +kernel
theorem dX12_setTo_57 : decode cX12_setTo 57 = .ok (.iinc 4 1, 3) := by decide +kernel
theorem dX12_setTo_60 : decode cX12_setTo 60 = .ok (.goto (-52), 3) := by decide +kernel
theorem dX12_setTo_63 : decode cX12_setTo 63 = .ok (.iload_n 3, 1) := by decide +kernel
theorem dX12_setTo_64 : decode cX12_setTo 64 = .ok (.ireturn, 1) := by decide +kernel
theorem dX12_astray_0 : decode cX12_astray 0 = .ok (.iconst 0, 1) := by decide +kernel
theorem dX12_astray_1 : decode cX12_astray 1 = .ok (.istore_n 3, 1) := by decide +kernel
theorem dX12_astray_2 : decode cX12_astray 2 = .ok (.iload_n 3, 1) := by decide +kernel
theorem dX12_astray_3 : decode cX12_astray 3 = .ok (.aload_n 0, 1) := by decide +kernel
theorem dX12_astray_4 : decode cX12_astray 4 = .ok (.getfield 181, 3) := by decide +kernel
theorem dX12_astray_7 : decode cX12_astray 7 = .ok (.if_icmp .ge 175, 3) := by decide +kernel
theorem dX12_astray_10 : decode cX12_astray 10 = .ok (.aload_n 0, 1) := by decide +kernel
theorem dX12_astray_11 : decode cX12_astray 11 = .ok (.getfield 23, 3) := by decide +kernel
theorem dX12_astray_14 : decode cX12_astray 14 = .ok (.iload_n 3, 1) := by decide +kernel
theorem dX12_astray_15 : decode cX12_astray 15 = .ok (.iaload, 1) := by decide +kernel
theorem dX12_astray_16 : decode cX12_astray 16 = .ok (.iconst 5, 1) := by decide +kernel
theorem dX12_astray_17 : decode cX12_astray 17 = .ok (.if_icmp .ne 7, 3) := by decide +kernel
theorem dX12_astray_20 : decode cX12_astray 20 = .ok (.iconst 1, 1) := by decide +kernel
theorem dX12_astray_21 : decode cX12_astray 21 = .ok (.goto 4, 3) := by decide +kernel
theorem dX12_astray_24 : decode cX12_astray 24 = .ok (.iconst 0, 1) := by decide +kernel
theorem dX12_astray_25 : decode cX12_astray 25 = .ok (.istore 4, 2) := by decide +kernel
theorem dX12_astray_27 : decode cX12_astray 27 = .ok (.iload 4, 2) := by decide +kernel
theorem dX12_astray_29 : decode cX12_astray 29 = .ok (.ifCond .eq 12, 3) := by decide +kernel
theorem dX12_astray_32 : decode cX12_astray 32 = .ok (.aload_n 0, 1) := by decide +kernel
theorem dX12_astray_33 : decode cX12_astray 33 = .ok (.getfield 71, 3) := by decide +kernel
theorem dX12_astray_36 : decode cX12_astray 36 = .ok (.iload_n 3, 1) := by decide +kernel
theorem dX12_astray_37 : decode cX12_astray 37 = .ok (.iaload, 1) := by decide +kernel
theorem dX12_astray_38 : decode cX12_astray 38 = .ok (.goto 9, 3) := by decide +kernel
theorem dX12_astray_41 : decode cX12_astray 41 = .ok (.aload_n 0, 1) := by decide +kernel
theorem dX12_astray_42 : decode cX12_astray 42 = .ok (.getfield 68, 3) := by decide +kernel
theorem dX12_astray_45 : decode cX12_astray 45 = .ok (.iload_n 3, 1) := by decide +kernel
theorem dX12_astray_46 : decode cX12_astray 46 = .ok (.iaload, 1) := by decide +kernel
theorem dX12_astray_47 : decode cX12_astray 47 = .ok (.istore 5, 2) := by decide +kernel
theorem dX12_astray_49 : decode cX12_astray 49 = .ok (.iload 4, 2) := by decide +kernel
theorem dX12_astray_51 : decode cX12_astray 51 = .ok (.ifCond .eq 16, 3) := by decide +kernel
theorem dX12_astray_54 : decode cX12_astray 54 = .ok (.aload_n 0, 1) := by decide +kernel
theorem dX12_astray_55 : decode cX12_astray 55 = .ok (.getfield 101, 3) := by decide +kernel
theorem dX12_astray_58 : decode cX12_astray 58 = .ok (.sipush 144, 3) := by decide +kernel
theorem dX12_astray_61 : decode cX12_astray 61 = .ok (.iload_n 3, 1) := by decide +kernel
theorem dX12_astray_62 : decode cX12_astray 62 = .ok (.iadd, 1) := by decide +kernel
theorem dX12_astray_63 : decode cX12_astray 63 = .ok (.iaload, 1) := by decide +kernel
theorem dX12_astray_64 : decode cX12_astray 64 = .ok (.goto 13, 3) := by decide +kernel
theorem dX12_astray_67 : decode cX12_astray 67 = .ok (.aload_n 0, 1) := by decide +kernel
theorem dX12_astray_68 : decode cX12_astray 68 = .ok (.getfield 98, 3) := by decide +kernel
theorem dX12_astray_71 : decode cX12_astray 71 = .ok (.sipush 144, 3) := by decide +kernel
theorem dX12_astray_74 : decode cX12_astray 74 = .ok (.iload_n 3, 1) := by decide +kernel
theorem dX12_astray_75 : decode cX12_astray 75 = .ok (.iadd, 1) := by decide +kernel
theorem dX12_astray_76 : decode cX12_astray 76 = .ok (.iaload, 1) := by decide +kernel
theorem dX12_astray_77 : decode cX12_astray 77 = .ok (.istore 6, 2) := by decide +kernel
theorem dX12_astray_79 : decode cX12_astray 79 = .ok (.aload_n 0, 1) := by decide +kernel
theorem dX12_astray_80 : decode cX12_astray 80 = .ok (.iload_n 1, 1) := by decide +kernel
theorem dX12_astray_81 : decode cX12_astray 81 = .ok (.iload_n 3, 1) := by decide +kernel
theorem dX12_astray_82 : decode cX12_astray 82 = .ok (.invokevirtual 327, 3) := by decide +kernel
theorem dX12_astray_85 : decode cX12_astray 85 = .ok (.istore 7, 2) := by decide +kernel
theorem dX12_astray_87 : decode cX12_astray 87 = .ok (.aload_n 0, 1) := by decide +kernel
theorem dX12_astray_88 : decode cX12_astray 88 = .ok (.iload_n 2, 1) := by decide +kernel
theorem dX12_astray_89 : decode cX12_astray 89 = .ok (.iload_n 3, 1) := by decide +kernel
theorem dX12_astray_90 : decode cX12_astray 90 = .ok (.invokevirtual 327, 3) := by decide +kernel
theorem dX12_astray_93 : decode cX12_astray 93 = .ok (.istore 8, 2) := by decide +kernel
theorem dX12_astray_95 : decode cX12_astray 95 = .ok (.iload 7, 2) := by decide +kernel
theorem dX12_astray_97 : decode cX12_astray 97 = .ok (.iconst (-1), 1) := by decide +kernel
theorem dX12_astray_98 : decode cX12_astray 98 = .ok (.if_icmp .ne 24, 3) := by decide +kernel
theorem dX12_astray_101 : decode cX12_astray 101 = .ok (.iload 8, 2) := by decide +kernel
theorem dX12_astray_103 : decode cX12_astray 103 = .ok (.iconst (-1), 1) := by decide +kernel
theorem dX12_astray_104 : decode cX12_astray 104 = .ok (.if_icmp .ne 18, 3) := by decide +kernel
theorem dX12_astray_107 : decode cX12_astray 107 = .ok (.iload 5, 2) := by decide +kernel
theorem dX12_astray_109 : decode cX12_astray 109 = .ok (.iload 6, 2) := by decide +kernel
theorem dX12_astray_111 : decode cX12_astray 111 = .ok (.if_icmp .ne 7, 3) := by decide +kernel
theorem dX12_astray_114 : decode cX12_astray 114 = .ok (.iconst 1, 1) := by decide +kernel
theorem dX12_astray_115 : decode cX12_astray 115 = .ok (.goto 38, 3) := by decide +kernel
theorem dX12_astray_118 : decode cX12_astray 118 = .ok (.iconst 0, 1) := by decide +kernel
theorem dX12_astray_119 : decode cX12_astray 119 = .ok (.goto 34, 3) := by decide +kernel
theorem dX12_astray_122 : decode cX12_astray 122 = .ok (.iload 7, 2) := by decide +kernel
theorem dX12_astray_124 : decode cX12_astray 124 = .ok (.iconst (-1), 1) := by decide +kernel
theorem dX12_astray_125 : decode cX12_astray 125 = .ok (.if_icmp .eq 10, 3) := by decide +kernel
theorem dX12_astray_128 : decode cX12_astray 128 = .ok (.iload 5, 2) := by decide +kernel
theorem dX12_astray_130 : decode cX12_astray 130 = .ok (.iload 7, 2) := by decide +kernel
theorem dX12_astray_132 : decode cX12_astray 132 = .ok (.if_icmp .eq 16, 3) := by decide +kernel
theorem dX12_astray_135 : decode cX12_astray 135 = .ok (.iload 8, 2) := by decide +kernel
theorem dX12_astray_137 : decode cX12_astray 137 = .ok (.iconst (-1), 1) := by decide +kernel
theorem dX12_astray_138 : decode cX12_astray 138 = .ok (.if_icmp .eq 14, 3) := by decide +kernel
theorem dX12_astray_141 : decode cX12_astray 141 = .ok (.iload 5, 2) := by decide +kernel
theorem dX12_astray_143 : decode cX12_astray 143 = .ok (.iload 8, 2) := by decide +kernel
theorem dX12_astray_145 : decode cX12_astray 145 = .ok (.if_icmp .ne 7, 3) := by decide +kernel
theorem dX12_astray_148 : decode cX12_astray 148 = .ok (.iconst 1, 1) := by decide +kernel
theorem dX12_astray_149 : decode cX12_astray 149 = .ok (.goto 4, 3) := by decide +kernel
theorem dX12_astray_152 : decode cX12_astray 152 = .ok (.iconst 0, 1) := by decide +kernel
theorem dX12_astray_153 : decode cX12_astray 153 = .ok (.istore 9, 2) := by decide +kernel
theorem dX12_astray_155 : decode cX12_astray 155 = .ok (.iload 4, 2) := by decide +kernel
theorem dX12_astray_157 : decode cX12_astray 157 = .ok (.ifCond .ne 12, 3) := by decide +kernel
theorem dX12_astray_160 : decode cX12_astray 160 = .ok (.aload_n 0, 1) := by decide +kernel
theorem dX12_astray_161 : decode cX12_astray 161 = .ok (.getfield 23, 3) := by decide +kernel
theorem dX12_astray_164 : decode cX12_astray 164 = .ok (.iload_n 3, 1) := by decide +kernel
theorem dX12_astray_165 : decode cX12_astray 165 = .ok (.iaload, 1) := by decide +kernel
theorem dX12_astray_166 : decode cX12_astray 166 = .ok (.ifCond .ne 10, 3) := by decide +kernel
theorem dX12_astray_169 : decode cX12_astray 169 = .ok (.iload 9, 2) := by decide +kernel
theorem dX12_astray_171 : decode cX12_astray 171 = .ok (.ifCond .ne 5, 3) := by decide +kernel
theorem dX12_astray_174 : decode cX12_astray 174 = .ok (.iload_n 3, 1) := by decide +kernel
theorem dX12_astray_175 : decode cX12_astray 175 = .ok (.ireturn, 1) := by decide +kernel
theorem dX12_astray_176 : decode cX12_astray 176 = .ok (.iinc 3 1, 3) := by decide +kernel
theorem dX12_astray_179 : decode cX12_astray 179 = .ok (.goto (-177), 3) := by decide +kernel
theorem dX12_astray_182 : decode cX12_astray 182 = .ok (.iconst (-1), 1) := by decide +kernel
theorem dX12_astray_183 : decode cX12_astray 183 = .ok (.ireturn, 1) := by decide +kernel
theorem dX12_fails_0 : decode cX12_fails 0 = .ok (.iload_n 3, 1) := by decide +kernel
theorem dX12_fails_1 : decode cX12_fails 1 = .ok (.ifCond .eq 5, 3) := by decide +kernel
theorem dX12_fails_4 : decode cX12_fails 4 = .ok (.iconst 1, 1) := by decide +kernel
theorem dX12_fails_5 : decode cX12_fails 5 = .ok (.ireturn, 1) := by decide +kernel
theorem dX12_fails_6 : decode cX12_fails 6 = .ok (.aload_n 0, 1) := by decide +kernel
theorem dX12_fails_7 : decode cX12_fails 7 = .ok (.getfield 204, 3) := by decide +kernel
theorem dX12_fails_10 : decode cX12_fails 10 = .ok (.aload_n 0, 1) := by decide +kernel
theorem dX12_fails_11 : decode cX12_fails 11 = .ok (.getfield 128, 3) := by decide +kernel
theorem dX12_fails_14 : decode cX12_fails 14 = .ok (.bipush 6, 2) := by decide +kernel
theorem dX12_fails_16 : decode cX12_fails 16 = .ok (.iaload, 1) := by decide +kernel
theorem dX12_fails_17 : decode cX12_fails 17 = .ok (.if_icmp .le 5, 3) := by decide +kernel
theorem dX12_fails_20 : decode cX12_fails 20 = .ok (.iconst 2, 1) := by decide +kernel
theorem dX12_fails_21 : decode cX12_fails 21 = .ok (.ireturn, 1) := by decide +kernel
theorem dX12_fails_22 : decode cX12_fails 22 = .ok (.aload_n 0, 1) := by decide +kernel
theorem dX12_fails_23 : decode cX12_fails 23 = .ok (.iload_n 1, 1) := by decide +kernel
theorem dX12_fails_24 : decode cX12_fails 24 = .ok (.aload_n 0, 1) := by decide +kernel
theorem dX12_fails_25 : decode cX12_fails 25 = .ok (.getfield 35, 3) := by decide +kernel
theorem dX12_fails_28 : decode cX12_fails 28 = .ok (.iload_n 2, 1) := by decide +kernel
theorem dX12_fails_29 : decode cX12_fails 29 = .ok (.iaload, 1) := by decide +kernel
theorem dX12_fails_30 : decode cX12_fails 30 = .ok (.invokevirtual 330, 3) := by decide +kernel
theorem dX12_fails_33 : decode cX12_fails 33 = .ok (.iconst (-1), 1) := by decide +kernel
theorem dX12_fails_34 : decode cX12_fails 34 = .ok (.if_icmp .eq 5, 3) := by decide +kernel
theorem dX12_fails_37 : decode cX12_fails 37 = .ok (.iconst 3, 1) := by decide +kernel
theorem dX12_fails_38 : decode cX12_fails 38 = .ok (.ireturn, 1) := by decide +kernel
theorem dX12_fails_39 : decode cX12_fails 39 = .ok (.aload_n 0, 1) := by decide +kernel
theorem dX12_fails_40 : decode cX12_fails 40 = .ok (.getfield 213, 3) := by decide +kernel
theorem dX12_fails_43 : decode cX12_fails 43 = .ok (.iload 4, 2) := by decide +kernel
theorem dX12_fails_45 : decode cX12_fails 45 = .ok (.if_icmp .eq 7, 3) := by decide +kernel
theorem dX12_fails_48 : decode cX12_fails 48 = .ok (.iconst 4, 1) := by decide +kernel
theorem dX12_fails_49 : decode cX12_fails 49 = .ok (.goto 4, 3) := by decide +kernel
theorem dX12_fails_52 : decode cX12_fails 52 = .ok (.iconst 0, 1) := by decide +kernel
theorem dX12_fails_53 : decode cX12_fails 53 = .ok (.ireturn, 1) := by decide +kernel
theorem dX12_walk_0 : decode cX12_walk 0 = .ok (.aload_n 0, 1) := by decide +kernel
theorem dX12_walk_1 : decode cX12_walk 1 = .ok (.iload_n 1, 1) := by decide +kernel
theorem dX12_walk_2 : decode cX12_walk 2 = .ok (.invokevirtual 241, 3) := by decide +kernel
theorem dX12_walk_5 : decode cX12_walk 5 = .ok (.ifCond .eq 11, 3) := by decide +kernel
theorem dX12_walk_8 : decode cX12_walk 8 = .ok (.aload_n 0, 1) := by decide +kernel
theorem dX12_walk_9 : decode cX12_walk 9 = .ok (.iload_n 2, 1) := by decide +kernel
theorem dX12_walk_10 : decode cX12_walk 10 = .ok (.invokevirtual 238, 3) := by decide +kernel
theorem dX12_walk_13 : decode cX12_walk 13 = .ok (.ifCond .ne 5, 3) := by decide +kernel
theorem dX12_walk_16 : decode cX12_walk 16 = .ok (.iconst (-1), 1) := by decide +kernel
theorem dX12_walk_17 : decode cX12_walk 17 = .ok (.ireturn, 1) := by decide +kernel
theorem dX12_walk_18 : decode cX12_walk 18 = .ok (.aload_n 0, 1) := by decide +kernel
theorem dX12_walk_19 : decode cX12_walk 19 = .ok (.getfield 23, 3) := by decide +kernel
theorem dX12_walk_22 : decode cX12_walk 22 = .ok (.iload_n 2, 1) := by decide +kernel
theorem dX12_walk_23 : decode cX12_walk 23 = .ok (.iaload, 1) := by decide +kernel
theorem dX12_walk_24 : decode cX12_walk 24 = .ok (.iconst 2, 1) := by decide +kernel
theorem dX12_walk_25 : decode cX12_walk 25 = .ok (.if_icmp .ne 13, 3) := by decide +kernel
theorem dX12_walk_28 : decode cX12_walk 28 = .ok (.aload_n 0, 1) := by decide +kernel
theorem dX12_walk_29 : decode cX12_walk 29 = .ok (.getfield 35, 3) := by decide +kernel
theorem dX12_walk_32 : decode cX12_walk 32 = .ok (.iload_n 2, 1) := by decide +kernel
theorem dX12_walk_33 : decode cX12_walk 33 = .ok (.iaload, 1) := by decide +kernel
theorem dX12_walk_34 : decode cX12_walk 34 = .ok (.iconst (-1), 1) := by decide +kernel
theorem dX12_walk_35 : decode cX12_walk 35 = .ok (.if_icmp .ne 6, 3) := by decide +kernel
theorem dX12_walk_38 : decode cX12_walk 38 = .ok (.bipush (-4), 2) := by decide +kernel
theorem dX12_walk_40 : decode cX12_walk 40 = .ok (.ireturn, 1) := by decide +kernel
theorem dX12_walk_41 : decode cX12_walk 41 = .ok (.aload_n 0, 1) := by decide +kernel
theorem dX12_walk_42 : decode cX12_walk 42 = .ok (.bipush 6, 2) := by decide +kernel
theorem dX12_walk_44 : decode cX12_walk 44 = .ok (.invokevirtual 333, 3) := by decide +kernel
theorem dX12_walk_47 : decode cX12_walk 47 = .ok (.aload_n 0, 1) := by decide +kernel
theorem dX12_walk_48 : decode cX12_walk 48 = .ok (.iconst 0, 1) := by decide +kernel
theorem dX12_walk_49 : decode cX12_walk 49 = .ok (.iload_n 1, 1) := by decide +kernel
theorem dX12_walk_50 : decode cX12_walk 50 = .ok (.invokevirtual 300, 3) := by decide +kernel
theorem dX12_walk_53 : decode cX12_walk 53 = .ok (.istore_n 3, 1) := by decide +kernel
theorem dX12_walk_54 : decode cX12_walk 54 = .ok (.aload_n 0, 1) := by decide +kernel
theorem dX12_walk_55 : decode cX12_walk 55 = .ok (.getfield 198, 3) := by decide +kernel
theorem dX12_walk_58 : decode cX12_walk 58 = .ok (.aload_n 0, 1) := by decide +kernel
theorem dX12_walk_59 : decode cX12_walk 59 = .ok (.getfield 95, 3) := by decide +kernel
theorem dX12_walk_62 : decode cX12_walk 62 = .ok (.bipush 6, 2) := by decide +kernel
theorem dX12_walk_64 : decode cX12_walk 64 = .ok (.iaload, 1) := by decide +kernel
theorem dX12_walk_65 : decode cX12_walk 65 = .ok (.isub, 1) := by decide +kernel
theorem dX12_walk_66 : decode cX12_walk 66 = .ok (.istore 4, 2) := by decide +kernel
theorem dX12_walk_68 : decode cX12_walk 68 = .ok (.aload_n 0, 1) := by decide +kernel
theorem dX12_walk_69 : decode cX12_walk 69 = .ok (.getfield 213, 3) := by decide +kernel
theorem dX12_walk_72 : decode cX12_walk 72 = .ok (.iconst 1, 1) := by decide +kernel
theorem dX12_walk_73 : decode cX12_walk 73 = .ok (.iadd, 1) := by decide +kernel
theorem dX12_walk_74 : decode cX12_walk 74 = .ok (.istore 5, 2) := by decide +kernel
theorem dX12_walk_76 : decode cX12_walk 76 = .ok (.aload_n 0, 1) := by decide +kernel
theorem dX12_walk_77 : decode cX12_walk 77 = .ok (.bipush 6, 2) := by decide +kernel
theorem dX12_walk_79 : decode cX12_walk 79 = .ok (.invokevirtual 336, 3) := by decide +kernel
theorem dX12_walk_82 : decode cX12_walk 82 = .ok (.iload_n 3, 1) := by decide +kernel
theorem dX12_walk_83 : decode cX12_walk 83 = .ok (.ifCond .eq 6, 3) := by decide +kernel
theorem dX12_walk_86 : decode cX12_walk 86 = .ok (.bipush (-5), 2) := by decide +kernel
theorem dX12_walk_88 : decode cX12_walk 88 = .ok (.ireturn, 1) := by decide +kernel
theorem dX12_walk_89 : decode cX12_walk 89 = .ok (.aload_n 0, 1) := by decide +kernel
theorem dX12_walk_90 : decode cX12_walk 90 = .ok (.getfield 201, 3) := by decide +kernel
theorem dX12_walk_93 : decode cX12_walk 93 = .ok (.bipush 16, 2) := by decide +kernel
theorem dX12_walk_95 : decode cX12_walk 95 = .ok (.if_icmp .ne 6, 3) := by decide +kernel
theorem dX12_walk_98 : decode cX12_walk 98 = .ok (.bipush (-3), 2) := by decide +kernel
theorem dX12_walk_100 : decode cX12_walk 100 = .ok (.ireturn, 1) := by decide +kernel
theorem dX12_walk_101 : decode cX12_walk 101 = .ok (.iconst 0, 1) := by decide +kernel
theorem dX12_walk_102 : decode cX12_walk 102 = .ok (.istore 6, 2) := by decide +kernel
theorem dX12_walk_104 : decode cX12_walk 104 = .ok (.iconst 1, 1) := by decide +kernel
theorem dX12_walk_105 : decode cX12_walk 105 = .ok (.istore 7, 2) := by decide +kernel
theorem dX12_walk_107 : decode cX12_walk 107 = .ok (.iload 7, 2) := by decide +kernel
theorem dX12_walk_109 : decode cX12_walk 109 = .ok (.iload 4, 2) := by decide +kernel
theorem dX12_walk_111 : decode cX12_walk 111 = .ok (.if_icmp .gt 94, 3) := by decide +kernel
theorem dX12_walk_114 : decode cX12_walk 114 = .ok (.iload 6, 2) := by decide +kernel
theorem dX12_walk_116 : decode cX12_walk 116 = .ok (.ifCond .ne 89, 3) := by decide +kernel
theorem dX12_walk_119 : decode cX12_walk 119 = .ok (.aload_n 0, 1) := by decide +kernel
theorem dX12_walk_120 : decode cX12_walk 120 = .ok (.iload_n 2, 1) := by decide +kernel
theorem dX12_walk_121 : decode cX12_walk 121 = .ok (.iconst 1, 1) := by decide +kernel
theorem dX12_walk_122 : decode cX12_walk 122 = .ok (.aload_n 0, 1) := by decide +kernel
theorem dX12_walk_123 : decode cX12_walk 123 = .ok (.getfield 198, 3) := by decide +kernel
theorem dX12_walk_126 : decode cX12_walk 126 = .ok (.iload 7, 2) := by decide +kernel
theorem dX12_walk_128 : decode cX12_walk 128 = .ok (.iadd, 1) := by decide +kernel
theorem dX12_walk_129 : decode cX12_walk 129 = .ok (.invokevirtual 289, 3) := by decide +kernel
theorem dX12_walk_132 : decode cX12_walk 132 = .ok (.aload_n 0, 1) := by decide +kernel
theorem dX12_walk_133 : decode cX12_walk 133 = .ok (.iconst 0, 1) := by decide +kernel
theorem dX12_walk_134 : decode cX12_walk 134 = .ok (.iload_n 1, 1) := by decide +kernel
theorem dX12_walk_135 : decode cX12_walk 135 = .ok (.invokevirtual 300, 3) := by decide +kernel
theorem dX12_walk_138 : decode cX12_walk 138 = .ok (.istore 8, 2) := by decide +kernel
theorem dX12_walk_140 : decode cX12_walk 140 = .ok (.aload_n 0, 1) := by decide +kernel
theorem dX12_walk_141 : decode cX12_walk 141 = .ok (.iload_n 1, 1) := by decide +kernel
theorem dX12_walk_142 : decode cX12_walk 142 = .ok (.iload_n 2, 1) := by decide +kernel
theorem dX12_walk_143 : decode cX12_walk 143 = .ok (.iload 8, 2) := by decide +kernel
theorem dX12_walk_145 : decode cX12_walk 145 = .ok (.iload 5, 2) := by decide +kernel
theorem dX12_walk_147 : decode cX12_walk 147 = .ok (.invokevirtual 339, 3) := by decide +kernel
theorem dX12_walk_150 : decode cX12_walk 150 = .ok (.istore 9, 2) := by decide +kernel
theorem dX12_walk_152 : decode cX12_walk 152 = .ok (.iload 9, 2) := by decide +kernel
theorem dX12_walk_154 : decode cX12_walk 154 = .ok (.ifCond .eq 39, 3) := by decide +kernel
theorem dX12_walk_157 : decode cX12_walk 157 = .ok (.iload 7, 2) := by decide +kernel
theorem dX12_walk_159 : decode cX12_walk 159 = .ok (.istore 6, 2) := by decide +kernel
theorem dX12_walk_161 : decode cX12_walk 161 = .ok (.aload_n 0, 1) := by decide +kernel
theorem dX12_walk_162 : decode cX12_walk 162 = .ok (.iload 9, 2) := by decide +kernel
theorem dX12_walk_164 : decode cX12_walk 164 = .ok (.putfield 146, 3) := by decide +kernel
theorem dX12_walk_167 : decode cX12_walk 167 = .ok (.aload_n 0, 1) := by decide +kernel
theorem dX12_walk_168 : decode cX12_walk 168 = .ok (.iload 9, 2) := by decide +kernel
theorem dX12_walk_170 : decode cX12_walk 170 = .ok (.iconst 3, 1) := by decide +kernel
theorem dX12_walk_171 : decode cX12_walk 171 = .ok (.if_icmp .ne 17, 3) := by decide +kernel
theorem dX12_walk_174 : decode cX12_walk 174 = .ok (.aload_n 0, 1) := by decide +kernel
theorem dX12_walk_175 : decode cX12_walk 175 = .ok (.iload_n 1, 1) := by decide +kernel
theorem dX12_walk_176 : decode cX12_walk 176 = .ok (.aload_n 0, 1) := by decide +kernel
theorem dX12_walk_177 : decode cX12_walk 177 = .ok (.getfield 35, 3) := by decide +kernel
theorem dX12_walk_180 : decode cX12_walk 180 = .ok (.iload_n 2, 1) := by decide +kernel
theorem dX12_walk_181 : decode cX12_walk 181 = .ok (.iaload, 1) := by decide +kernel
theorem dX12_walk_182 : decode cX12_walk 182 = .ok (.invokevirtual 330, 3) := by decide +kernel
theorem dX12_walk_185 : decode cX12_walk 185 = .ok (.goto 5, 3) := by decide +kernel
theorem dX12_walk_188 : decode cX12_walk 188 = .ok (.bipush (-2), 2) := by decide +kernel
theorem dX12_walk_190 : decode cX12_walk 190 = .ok (.putfield 149, 3) := by decide +kernel
theorem dX12_walk_193 : decode cX12_walk 193 = .ok (.aload_n 0, 1) := by decide +kernel
theorem dX12_walk_194 : decode cX12_walk 194 = .ok (.bipush 6, 2) := by decide +kernel
theorem dX12_walk_196 : decode cX12_walk 196 = .ok (.invokevirtual 336, 3) := by decide +kernel
theorem dX12_walk_199 : decode cX12_walk 199 = .ok (.iinc 7 1, 3) := by decide +kernel
theorem dX12_walk_202 : decode cX12_walk 202 = .ok (.goto (-95), 3) := by decide +kernel
theorem dX12_walk_205 : decode cX12_walk 205 = .ok (.iload 6, 2) := by decide +kernel
theorem dX12_walk_207 : decode cX12_walk 207 = .ok (.ireturn, 1) := by decide +kernel
theorem dX12_why_0 : decode cX12_why 0 = .ok (.aload_n 0, 1) := by decide +kernel
theorem dX12_why_1 : decode cX12_why 1 = .ok (.getfield 146, 3) := by decide +kernel
theorem dX12_why_4 : decode cX12_why 4 = .ok (.iconst (-1), 1) := by decide +kernel
theorem dX12_why_5 : decode cX12_why 5 = .ok (.if_icmp .ne 7, 3) := by decide +kernel
theorem dX12_why_8 : decode cX12_why 8 = .ok (.iconst (-1), 1) := by decide +kernel
theorem dX12_why_9 : decode cX12_why 9 = .ok (.goto 27, 3) := by decide +kernel
theorem dX12_why_12 : decode cX12_why 12 = .ok (.iload_n 1, 1) := by decide +kernel
theorem dX12_why_13 : decode cX12_why 13 = .ok (.ifCond .ne 10, 3) := by decide +kernel
theorem dX12_why_16 : decode cX12_why 16 = .ok (.aload_n 0, 1) := by decide +kernel
theorem dX12_why_17 : decode cX12_why 17 = .ok (.getfield 146, 3) := by decide +kernel
theorem dX12_why_20 : decode cX12_why 20 = .ok (.goto 16, 3) := by decide +kernel
theorem dX12_why_23 : decode cX12_why 23 = .ok (.iload_n 1, 1) := by decide +kernel
theorem dX12_why_24 : decode cX12_why 24 = .ok (.iconst 1, 1) := by decide +kernel
theorem dX12_why_25 : decode cX12_why 25 = .ok (.if_icmp .ne 10, 3) := by decide +kernel
theorem dX12_why_28 : decode cX12_why 28 = .ok (.aload_n 0, 1) := by decide +kernel
theorem dX12_why_29 : decode cX12_why 29 = .ok (.getfield 149, 3) := by decide +kernel
theorem dX12_why_32 : decode cX12_why 32 = .ok (.goto 4, 3) := by decide +kernel
theorem dX12_why_35 : decode cX12_why 35 = .ok (.iconst (-1), 1) := by decide +kernel
theorem dX12_why_36 : decode cX12_why 36 = .ok (.ireturn, 1) := by decide +kernel
theorem dX12_isTape_0 : decode cX12_isTape 0 = .ok (.iload_n 0, 1) := by decide +kernel
theorem dX12_isTape_1 : decode cX12_isTape 1 = .ok (.iconst 0, 1) := by decide +kernel
theorem dX12_isTape_2 : decode cX12_isTape 2 = .ok (.iconst 5, 1) := by decide +kernel
theorem dX12_isTape_3 : decode cX12_isTape 3 = .ok (.invokestatic 184, 3) := by decide +kernel
theorem dX12_isTape_6 : decode cX12_isTape 6 = .ok (.ireturn, 1) := by decide +kernel
theorem dX12_tape_0 : decode cX12_tape 0 = .ok (.iload_n 1, 1) := by decide +kernel
theorem dX12_tape_1 : decode cX12_tape 1 = .ok (.invokestatic 343, 3) := by decide +kernel
theorem dX12_tape_4 : decode cX12_tape 4 = .ok (.ifCond .eq 18, 3) := by decide +kernel
theorem dX12_tape_7 : decode cX12_tape 7 = .ok (.iload_n 2, 1) := by decide +kernel
theorem dX12_tape_8 : decode cX12_tape 8 = .ok (.iconst 1, 1) := by decide +kernel
theorem dX12_tape_9 : decode cX12_tape 9 = .ok (.iconst 4, 1) := by decide +kernel
theorem dX12_tape_10 : decode cX12_tape 10 = .ok (.invokestatic 184, 3) := by decide +kernel
theorem dX12_tape_13 : decode cX12_tape 13 = .ok (.ifCond .eq 9, 3) := by decide +kernel
theorem dX12_tape_16 : decode cX12_tape 16 = .ok (.iload_n 3, 1) := by decide +kernel
theorem dX12_tape_17 : decode cX12_tape 17 = .ok (.bipush 64, 2) := by decide +kernel
theorem dX12_tape_19 : decode cX12_tape 19 = .ok (.if_icmp .le 5, 3) := by decide +kernel
theorem dX12_tape_22 : decode cX12_tape 22 = .ok (.iconst (-1), 1) := by decide +kernel
theorem dX12_tape_23 : decode cX12_tape 23 = .ok (.ireturn, 1) := by decide +kernel
theorem dX12_tape_24 : decode cX12_tape 24 = .ok (.iload_n 3, 1) := by decide +kernel
theorem dX12_tape_25 : decode cX12_tape 25 = .ok (.ifCond .ge 10, 3) := by decide +kernel
theorem dX12_tape_28 : decode cX12_tape 28 = .ok (.aload_n 0, 1) := by decide +kernel
theorem dX12_tape_29 : decode cX12_tape 29 = .ok (.bipush (-14), 2) := by decide +kernel
theorem dX12_tape_31 : decode cX12_tape 31 = .ok (.invokevirtual 346, 3) := by decide +kernel
theorem dX12_tape_34 : decode cX12_tape 34 = .ok (.ireturn, 1) := by decide +kernel
theorem dX12_tape_35 : decode cX12_tape 35 = .ok (.aload_n 0, 1) := by decide +kernel
theorem dX12_tape_36 : decode cX12_tape 36 = .ok (.getfield 152, 3) := by decide +kernel
theorem dX12_tape_39 : decode cX12_tape 39 = .ok (.iload_n 1, 1) := by decide +kernel
theorem dX12_tape_40 : decode cX12_tape 40 = .ok (.iload_n 2, 1) := by decide +kernel
theorem dX12_tape_41 : decode cX12_tape 41 = .ok (.iastore, 1) := by decide +kernel
theorem dX12_tape_42 : decode cX12_tape 42 = .ok (.aload_n 0, 1) := by decide +kernel
theorem dX12_tape_43 : decode cX12_tape 43 = .ok (.getfield 155, 3) := by decide +kernel
theorem dX12_tape_46 : decode cX12_tape 46 = .ok (.iload_n 1, 1) := by decide +kernel
theorem dX12_tape_47 : decode cX12_tape 47 = .ok (.iload_n 3, 1) := by decide +kernel
theorem dX12_tape_48 : decode cX12_tape 48 = .ok (.iastore, 1) := by decide +kernel
theorem dX12_tape_49 : decode cX12_tape 49 = .ok (.iconst 0, 1) := by decide +kernel
theorem dX12_tape_50 : decode cX12_tape 50 = .ok (.istore 4, 2) := by decide +kernel
theorem dX12_tape_52 : decode cX12_tape 52 = .ok (.iload 4, 2) := by decide +kernel
theorem dX12_tape_54 : decode cX12_tape 54 = .ok (.bipush 64, 2) := by decide +kernel
theorem dX12_tape_56 : decode cX12_tape 56 = .ok (.if_icmp .ge 22, 3) := by decide +kernel
theorem dX12_tape_59 : decode cX12_tape 59 = .ok (.aload_n 0, 1) := by decide +kernel
theorem dX12_tape_60 : decode cX12_tape 60 = .ok (.getfield 158, 3) := by decide +kernel
theorem dX12_tape_63 : decode cX12_tape 63 = .ok (.bipush 64, 2) := by decide +kernel
theorem dX12_tape_65 : decode cX12_tape 65 = .ok (.iload_n 1, 1) := by decide +kernel
theorem dX12_tape_66 : decode cX12_tape 66 = .ok (.imul, 1) := by decide +kernel
theorem dX12_tape_67 : decode cX12_tape 67 = .ok (.iload 4, 2) := by decide +kernel
theorem dX12_tape_69 : decode cX12_tape 69 = .ok (.iadd, 1) := by decide +kernel
theorem dX12_tape_70 : decode cX12_tape 70 = .ok (.lconst 0, 1) := by decide +kernel
theorem dX12_tape_71 : decode cX12_tape 71 = .ok (.lastore, 1) := by decide +kernel
theorem dX12_tape_72 : decode cX12_tape 72 = .ok (.iinc 4 1, 3) := by decide +kernel
theorem dX12_tape_75 : decode cX12_tape 75 = .ok (.goto (-23), 3) := by decide +kernel
theorem dX12_tape_78 : decode cX12_tape 78 = .ok (.iload_n 3, 1) := by decide +kernel
theorem dX12_tape_79 : decode cX12_tape 79 = .ok (.ireturn, 1) := by decide +kernel
theorem dX12_image_0 : decode cX12_image 0 = .ok (.iload_n 1, 1) := by decide +kernel
theorem dX12_image_1 : decode cX12_image 1 = .ok (.invokestatic 343, 3) := by decide +kernel
theorem dX12_image_4 : decode cX12_image 4 = .ok (.ifCond .ne 5, 3) := by decide +kernel
theorem dX12_image_7 : decode cX12_image 7 = .ok (.iconst (-1), 1) := by decide +kernel
theorem dX12_image_8 : decode cX12_image 8 = .ok (.ireturn, 1) := by decide +kernel
theorem dX12_image_9 : decode cX12_image 9 = .ok (.aload_n 0, 1) := by decide +kernel
theorem dX12_image_10 : decode cX12_image 10 = .ok (.getfield 152, 3) := by decide +kernel
theorem dX12_image_13 : decode cX12_image 13 = .ok (.iload_n 1, 1) := by decide +kernel
theorem dX12_image_14 : decode cX12_image 14 = .ok (.iconst 5, 1) := by decide +kernel
theorem dX12_image_15 : decode cX12_image 15 = .ok (.iastore, 1) := by decide +kernel
theorem dX12_image_16 : decode cX12_image 16 = .ok (.aload_n 0, 1) := by decide +kernel
theorem dX12_image_17 : decode cX12_image 17 = .ok (.getfield 155, 3) := by decide +kernel
theorem dX12_image_20 : decode cX12_image 20 = .ok (.iload_n 1, 1) := by decide +kernel
theorem dX12_image_21 : decode cX12_image 21 = .ok (.iconst 0, 1) := by decide +kernel
theorem dX12_image_22 : decode cX12_image 22 = .ok (.iastore, 1) := by decide +kernel
theorem dX12_image_23 : decode cX12_image 23 = .ok (.aload_n 0, 1) := by decide +kernel
theorem dX12_image_24 : decode cX12_image 24 = .ok (.iload_n 1, 1) := by decide +kernel
theorem dX12_image_25 : decode cX12_image 25 = .ok (.invokevirtual 333, 3) := by decide +kernel
theorem dX12_image_28 : decode cX12_image 28 = .ok (.aload_n 0, 1) := by decide +kernel
theorem dX12_image_29 : decode cX12_image 29 = .ok (.getfield 198, 3) := by decide +kernel
theorem dX12_image_32 : decode cX12_image 32 = .ok (.ireturn, 1) := by decide +kernel
theorem dX12_lacks_0 : decode cX12_lacks 0 = .ok (.iload_n 1, 1) := by decide +kernel
theorem dX12_lacks_1 : decode cX12_lacks 1 = .ok (.invokestatic 343, 3) := by decide +kernel
theorem dX12_lacks_4 : decode cX12_lacks 4 = .ok (.ifCond .ne 7, 3) := by decide +kernel
theorem dX12_lacks_7 : decode cX12_lacks 7 = .ok (.iconst (-1), 1) := by decide +kernel
theorem dX12_lacks_8 : decode cX12_lacks 8 = .ok (.goto 41, 3) := by decide +kernel
theorem dX12_lacks_11 : decode cX12_lacks 11 = .ok (.aload_n 0, 1) := by decide +kernel
theorem dX12_lacks_12 : decode cX12_lacks 12 = .ok (.getfield 152, 3) := by decide +kernel
theorem dX12_lacks_15 : decode cX12_lacks 15 = .ok (.iload_n 1, 1) := by decide +kernel
theorem dX12_lacks_16 : decode cX12_lacks 16 = .ok (.iaload, 1) := by decide +kernel
theorem dX12_lacks_17 : decode cX12_lacks 17 = .ok (.ifCond .ne 12, 3) := by decide +kernel
theorem dX12_lacks_20 : decode cX12_lacks 20 = .ok (.aload_n 0, 1) := by decide +kernel
theorem dX12_lacks_21 : decode cX12_lacks 21 = .ok (.bipush (-11), 2) := by decide +kernel
theorem dX12_lacks_23 : decode cX12_lacks 23 = .ok (.invokevirtual 346, 3) := by decide +kernel
theorem dX12_lacks_26 : decode cX12_lacks 26 = .ok (.goto 23, 3) := by decide +kernel
theorem dX12_lacks_29 : decode cX12_lacks 29 = .ok (.aload_n 0, 1) := by decide +kernel
theorem dX12_lacks_30 : decode cX12_lacks 30 = .ok (.getfield 152, 3) := by decide +kernel
theorem dX12_lacks_33 : decode cX12_lacks 33 = .ok (.iload_n 1, 1) := by decide +kernel
theorem dX12_lacks_34 : decode cX12_lacks 34 = .ok (.iaload, 1) := by decide +kernel
theorem dX12_lacks_35 : decode cX12_lacks 35 = .ok (.iconst 5, 1) := by decide +kernel
theorem dX12_lacks_36 : decode cX12_lacks 36 = .ok (.if_icmp .eq 12, 3) := by decide +kernel
theorem dX12_lacks_39 : decode cX12_lacks 39 = .ok (.aload_n 0, 1) := by decide +kernel
theorem dX12_lacks_40 : decode cX12_lacks 40 = .ok (.bipush (-12), 2) := by decide +kernel
theorem dX12_lacks_42 : decode cX12_lacks 42 = .ok (.invokevirtual 346, 3) := by decide +kernel
theorem dX12_lacks_45 : decode cX12_lacks 45 = .ok (.goto 4, 3) := by decide +kernel
theorem dX12_lacks_48 : decode cX12_lacks 48 = .ok (.iconst 0, 1) := by decide +kernel
theorem dX12_lacks_49 : decode cX12_lacks 49 = .ok (.ireturn, 1) := by decide +kernel
theorem dX12_back_0 : decode cX12_back 0 = .ok (.aload_n 0, 1) := by decide +kernel
theorem dX12_back_1 : decode cX12_back 1 = .ok (.iload_n 1, 1) := by decide +kernel
theorem dX12_back_2 : decode cX12_back 2 = .ok (.invokevirtual 349, 3) := by decide +kernel
theorem dX12_back_5 : decode cX12_back 5 = .ok (.istore_n 2, 1) := by decide +kernel
theorem dX12_back_6 : decode cX12_back 6 = .ok (.iload_n 2, 1) := by decide +kernel
theorem dX12_back_7 : decode cX12_back 7 = .ok (.ifCond .eq 5, 3) := by decide +kernel
theorem dX12_back_10 : decode cX12_back 10 = .ok (.iload_n 2, 1) := by decide +kernel
theorem dX12_back_11 : decode cX12_back 11 = .ok (.ireturn, 1) := by decide +kernel
theorem dX12_back_12 : decode cX12_back 12 = .ok (.aload_n 0, 1) := by decide +kernel
theorem dX12_back_13 : decode cX12_back 13 = .ok (.getfield 143, 3) := by decide +kernel
theorem dX12_back_16 : decode cX12_back 16 = .ok (.iload_n 1, 1) := by decide +kernel
theorem dX12_back_17 : decode cX12_back 17 = .ok (.iaload, 1) := by decide +kernel
theorem dX12_back_18 : decode cX12_back 18 = .ok (.aload_n 0, 1) := by decide +kernel
theorem dX12_back_19 : decode cX12_back 19 = .ok (.getfield 219, 3) := by decide +kernel
theorem dX12_back_22 : decode cX12_back 22 = .ok (.if_icmp .eq 6, 3) := by decide +kernel
theorem dX12_back_25 : decode cX12_back 25 = .ok (.bipush (-7), 2) := by decide +kernel
theorem dX12_back_27 : decode cX12_back 27 = .ok (.ireturn, 1) := by decide +kernel
theorem dX12_back_28 : decode cX12_back 28 = .ok (.aload_n 0, 1) := by decide +kernel
theorem dX12_back_29 : decode cX12_back 29 = .ok (.iload_n 1, 1) := by decide +kernel
theorem dX12_back_30 : decode cX12_back 30 = .ok (.invokevirtual 336, 3) := by decide +kernel
theorem dX12_back_33 : decode cX12_back 33 = .ok (.aload_n 0, 1) := by decide +kernel
theorem dX12_back_34 : decode cX12_back 34 = .ok (.getfield 198, 3) := by decide +kernel
theorem dX12_back_37 : decode cX12_back 37 = .ok (.ireturn, 1) := by decide +kernel
theorem dX12_toss_0 : decode cX12_toss 0 = .ok (.aload_n 0, 1) := by decide +kernel
theorem dX12_toss_1 : decode cX12_toss 1 = .ok (.iload_n 1, 1) := by decide +kernel
theorem dX12_toss_2 : decode cX12_toss 2 = .ok (.invokevirtual 349, 3) := by decide +kernel
theorem dX12_toss_5 : decode cX12_toss 5 = .ok (.istore_n 2, 1) := by decide +kernel
theorem dX12_toss_6 : decode cX12_toss 6 = .ok (.iload_n 2, 1) := by decide +kernel
theorem dX12_toss_7 : decode cX12_toss 7 = .ok (.ifCond .eq 5, 3) := by decide +kernel
theorem dX12_toss_10 : decode cX12_toss 10 = .ok (.iload_n 2, 1) := by decide +kernel
theorem dX12_toss_11 : decode cX12_toss 11 = .ok (.ireturn, 1) := by decide +kernel
theorem dX12_toss_12 : decode cX12_toss 12 = .ok (.aload_n 0, 1) := by decide +kernel
theorem dX12_toss_13 : decode cX12_toss 13 = .ok (.getfield 128, 3) := by decide +kernel
theorem dX12_toss_16 : decode cX12_toss 16 = .ok (.iload_n 1, 1) := by decide +kernel
theorem dX12_toss_17 : decode cX12_toss 17 = .ok (.iaload, 1) := by decide +kernel
theorem dX12_toss_18 : decode cX12_toss 18 = .ok (.ifCond .ne 12, 3) := by decide +kernel
theorem dX12_toss_21 : decode cX12_toss 21 = .ok (.aload_n 0, 1) := by decide +kernel
theorem dX12_toss_22 : decode cX12_toss 22 = .ok (.bipush (-15), 2) := by decide +kernel
theorem dX12_toss_24 : decode cX12_toss 24 = .ok (.invokevirtual 346, 3) := by decide +kernel
theorem dX12_toss_27 : decode cX12_toss 27 = .ok (.goto 9, 3) := by decide +kernel
theorem dX12_toss_30 : decode cX12_toss 30 = .ok (.aload_n 0, 1) := by decide +kernel
theorem dX12_toss_31 : decode cX12_toss 31 = .ok (.getfield 128, 3) := by decide +kernel
theorem dX12_toss_34 : decode cX12_toss 34 = .ok (.iload_n 1, 1) := by decide +kernel
theorem dX12_toss_35 : decode cX12_toss 35 = .ok (.iaload, 1) := by decide +kernel
theorem dX12_toss_36 : decode cX12_toss 36 = .ok (.ireturn, 1) := by decide +kernel
theorem dX12_play_0 : decode cX12_play 0 = .ok (.iload_n 1, 1) := by decide +kernel
theorem dX12_play_1 : decode cX12_play 1 = .ok (.invokestatic 343, 3) := by decide +kernel
theorem dX12_play_4 : decode cX12_play 4 = .ok (.ifCond .eq 13, 3) := by decide +kernel
theorem dX12_play_7 : decode cX12_play 7 = .ok (.iload_n 3, 1) := by decide +kernel
theorem dX12_play_8 : decode cX12_play 8 = .ok (.iconst 0, 1) := by decide +kernel
theorem dX12_play_9 : decode cX12_play 9 = .ok (.bipush 64, 2) := by decide +kernel
theorem dX12_play_11 : decode cX12_play 11 = .ok (.invokestatic 184, 3) := by decide +kernel
theorem dX12_play_14 : decode cX12_play 14 = .ok (.ifCond .ne 5, 3) := by decide +kernel
theorem dX12_play_17 : decode cX12_play 17 = .ok (.iconst (-1), 1) := by decide +kernel
theorem dX12_play_18 : decode cX12_play 18 = .ok (.ireturn, 1) := by decide +kernel
theorem dX12_play_19 : decode cX12_play 19 = .ok (.aload_n 0, 1) := by decide +kernel
theorem dX12_play_20 : decode cX12_play 20 = .ok (.getfield 152, 3) := by decide +kernel
theorem dX12_play_23 : decode cX12_play 23 = .ok (.iload_n 1, 1) := by decide +kernel
theorem dX12_play_24 : decode cX12_play 24 = .ok (.iaload, 1) := by decide +kernel
theorem dX12_play_25 : decode cX12_play 25 = .ok (.ifCond .ne 10, 3) := by decide +kernel
theorem dX12_play_28 : decode cX12_play 28 = .ok (.aload_n 0, 1) := by decide +kernel
theorem dX12_play_29 : decode cX12_play 29 = .ok (.bipush (-11), 2) := by decide +kernel
theorem dX12_play_31 : decode cX12_play 31 = .ok (.invokevirtual 346, 3) := by decide +kernel
theorem dX12_play_34 : decode cX12_play 34 = .ok (.ireturn, 1) := by decide +kernel
theorem dX12_play_35 : decode cX12_play 35 = .ok (.aload_n 0, 1) := by decide +kernel
theorem dX12_play_36 : decode cX12_play 36 = .ok (.getfield 152, 3) := by decide +kernel
theorem dX12_play_39 : decode cX12_play 39 = .ok (.iload_n 1, 1) := by decide +kernel
theorem dX12_play_40 : decode cX12_play 40 = .ok (.iaload, 1) := by decide +kernel
theorem dX12_play_41 : decode cX12_play 41 = .ok (.iconst 3, 1) := by decide +kernel
theorem dX12_play_42 : decode cX12_play 42 = .ok (.if_icmp .eq 10, 3) := by decide +kernel
theorem dX12_play_45 : decode cX12_play 45 = .ok (.aload_n 0, 1) := by decide +kernel
theorem dX12_play_46 : decode cX12_play 46 = .ok (.bipush (-12), 2) := by decide +kernel
theorem dX12_play_48 : decode cX12_play 48 = .ok (.invokevirtual 346, 3) := by decide +kernel
theorem dX12_play_51 : decode cX12_play 51 = .ok (.ireturn, 1) := by decide +kernel
theorem dX12_play_52 : decode cX12_play 52 = .ok (.iconst 0, 1) := by decide +kernel
theorem dX12_play_53 : decode cX12_play 53 = .ok (.istore 4, 2) := by decide +kernel
theorem dX12_play_55 : decode cX12_play 55 = .ok (.iload 4, 2) := by decide +kernel
theorem dX12_play_57 : decode cX12_play 57 = .ok (.iload_n 3, 1) := by decide +kernel
theorem dX12_play_58 : decode cX12_play 58 = .ok (.if_icmp .ge 76, 3) := by decide +kernel
theorem dX12_play_61 : decode cX12_play 61 = .ok (.iload_n 2, 1) := by decide +kernel
theorem dX12_play_62 : decode cX12_play 62 = .ok (.iload 4, 2) := by decide +kernel
theorem dX12_play_64 : decode cX12_play 64 = .ok (.iadd, 1) := by decide +kernel
theorem dX12_play_65 : decode cX12_play 65 = .ok (.istore 5, 2) := by decide +kernel
theorem dX12_play_67 : decode cX12_play 67 = .ok (.iload 5, 2) := by decide +kernel
theorem dX12_play_69 : decode cX12_play 69 = .ok (.iconst 0, 1) := by decide +kernel
theorem dX12_play_70 : decode cX12_play 70 = .ok (.aload_n 0, 1) := by decide +kernel
theorem dX12_play_71 : decode cX12_play 71 = .ok (.getfield 155, 3) := by decide +kernel
theorem dX12_play_74 : decode cX12_play 74 = .ok (.iload_n 1, 1) := by decide +kernel
theorem dX12_play_75 : decode cX12_play 75 = .ok (.iaload, 1) := by decide +kernel
theorem dX12_play_76 : decode cX12_play 76 = .ok (.iconst 1, 1) := by decide +kernel
theorem dX12_play_77 : decode cX12_play 77 = .ok (.isub, 1) := by decide +kernel
theorem dX12_play_78 : decode cX12_play 78 = .ok (.invokestatic 184, 3) := by decide +kernel
theorem dX12_play_81 : decode cX12_play 81 = .ok (.ifCond .ne 10, 3) := by decide +kernel
theorem dX12_play_84 : decode cX12_play 84 = .ok (.aload_n 0, 1) := by decide +kernel
theorem dX12_play_85 : decode cX12_play 85 = .ok (.bipush (-13), 2) := by decide +kernel
theorem dX12_play_87 : decode cX12_play 87 = .ok (.invokevirtual 346, 3) := by decide +kernel
theorem dX12_play_90 : decode cX12_play 90 = .ok (.ireturn, 1) := by decide +kernel
theorem dX12_play_91 : decode cX12_play 91 = .ok (.aload_n 0, 1) := by decide +kernel
theorem dX12_play_92 : decode cX12_play 92 = .ok (.getfield 158, 3) := by decide +kernel
theorem dX12_play_95 : decode cX12_play 95 = .ok (.bipush 64, 2) := by decide +kernel
theorem dX12_play_97 : decode cX12_play 97 = .ok (.iload_n 1, 1) := by decide +kernel
theorem dX12_play_98 : decode cX12_play 98 = .ok (.imul, 1) := by decide +kernel
theorem dX12_play_99 : decode cX12_play 99 = .ok (.iload 5, 2) := by decide +kernel
theorem dX12_play_101 : decode cX12_play 101 = .ok (.iadd, 1) := by decide +kernel
theorem dX12_play_102 : decode cX12_play 102 = .ok (.laload, 1) := by decide +kernel
theorem dX12_play_103 : decode cX12_play 103 = .ok (.l2i, 1) := by decide +kernel
theorem dX12_play_104 : decode cX12_play 104 = .ok (.istore 6, 2) := by decide +kernel
theorem dX12_play_106 : decode cX12_play 106 = .ok (.aload_n 0, 1) := by decide +kernel
theorem dX12_play_107 : decode cX12_play 107 = .ok (.iload 6, 2) := by decide +kernel
theorem dX12_play_109 : decode cX12_play 109 = .ok (.invokevirtual 241, 3) := by decide +kernel
theorem dX12_play_112 : decode cX12_play 112 = .ok (.ifCond .eq 13, 3) := by decide +kernel
theorem dX12_play_115 : decode cX12_play 115 = .ok (.aload_n 0, 1) := by decide +kernel
theorem dX12_play_116 : decode cX12_play 116 = .ok (.iconst 0, 1) := by decide +kernel
theorem dX12_play_117 : decode cX12_play 117 = .ok (.iload 6, 2) := by decide +kernel
theorem dX12_play_119 : decode cX12_play 119 = .ok (.invokevirtual 300, 3) := by decide +kernel
theorem dX12_play_122 : decode cX12_play 122 = .ok (.ifCond .eq 6, 3) := by decide +kernel
theorem dX12_play_125 : decode cX12_play 125 = .ok (.iload 4, 2) := by decide +kernel
theorem dX12_play_127 : decode cX12_play 127 = .ok (.ireturn, 1) := by decide +kernel
theorem dX12_play_128 : decode cX12_play 128 = .ok (.iinc 4 1, 3) := by decide +kernel
theorem dX12_play_131 : decode cX12_play 131 = .ok (.goto (-76), 3) := by decide +kernel
theorem dX12_play_134 : decode cX12_play 134 = .ok (.iload_n 3, 1) := by decide +kernel
theorem dX12_play_135 : decode cX12_play 135 = .ok (.ireturn, 1) := by decide +kernel
theorem dX12_clear_0 : decode cX12_clear 0 = .ok (.iload_n 1, 1) := by decide +kernel
theorem dX12_clear_1 : decode cX12_clear 1 = .ok (.invokestatic 343, 3) := by decide +kernel
theorem dX12_clear_4 : decode cX12_clear 4 = .ok (.ifCond .ne 5, 3) := by decide +kernel
theorem dX12_clear_7 : decode cX12_clear 7 = .ok (.iconst (-1), 1) := by decide +kernel
theorem dX12_clear_8 : decode cX12_clear 8 = .ok (.ireturn, 1) := by decide +kernel
theorem dX12_clear_9 : decode cX12_clear 9 = .ok (.aload_n 0, 1) := by decide +kernel
theorem dX12_clear_10 : decode cX12_clear 10 = .ok (.getfield 152, 3) := by decide +kernel
theorem dX12_clear_13 : decode cX12_clear 13 = .ok (.iload_n 1, 1) := by decide +kernel
theorem dX12_clear_14 : decode cX12_clear 14 = .ok (.iaload, 1) := by decide +kernel
theorem dX12_clear_15 : decode cX12_clear 15 = .ok (.istore_n 2, 1) := by decide +kernel
theorem dX12_clear_16 : decode cX12_clear 16 = .ok (.aload_n 0, 1) := by decide +kernel
theorem dX12_clear_17 : decode cX12_clear 17 = .ok (.getfield 152, 3) := by decide +kernel
theorem dX12_clear_20 : decode cX12_clear 20 = .ok (.iload_n 1, 1) := by decide +kernel
theorem dX12_clear_21 : decode cX12_clear 21 = .ok (.iconst 0, 1) := by decide +kernel
theorem dX12_clear_22 : decode cX12_clear 22 = .ok (.iastore, 1) := by decide +kernel
theorem dX12_clear_23 : decode cX12_clear 23 = .ok (.iload_n 2, 1) := by decide +kernel
theorem dX12_clear_24 : decode cX12_clear 24 = .ok (.ireturn, 1) := by decide +kernel
theorem dX12_narrowed_0 : decode cX12_narrowed 0 = .ok (.iload_n 0, 1) := by decide +kernel
theorem dX12_narrowed_1 : decode cX12_narrowed 1 = .ok (.iconst 1, 1) := by decide +kernel
theorem dX12_narrowed_2 : decode cX12_narrowed 2 = .ok (.if_icmp .ne 10, 3) := by decide +kernel
theorem dX12_narrowed_5 : decode cX12_narrowed 5 = .ok (.lload_n 1, 1) := by decide +kernel
theorem dX12_narrowed_6 : decode cX12_narrowed 6 = .ok (.l2i, 1) := by decide +kernel
theorem dX12_narrowed_7 : decode cX12_narrowed 7 = .ok (.i2b, 1) := by decide +kernel
theorem dX12_narrowed_8 : decode cX12_narrowed 8 = .ok (.i2l, 1) := by decide +kernel
theorem dX12_narrowed_9 : decode cX12_narrowed 9 = .ok (.goto 27, 3) := by decide +kernel
theorem dX12_narrowed_12 : decode cX12_narrowed 12 = .ok (.iload_n 0, 1) := by decide +kernel
theorem dX12_narrowed_13 : decode cX12_narrowed 13 = .ok (.iconst 2, 1) := by decide +kernel
theorem dX12_narrowed_14 : decode cX12_narrowed 14 = .ok (.if_icmp .ne 10, 3) := by decide +kernel
theorem dX12_narrowed_17 : decode cX12_narrowed 17 = .ok (.lload_n 1, 1) := by decide +kernel
theorem dX12_narrowed_18 : decode cX12_narrowed 18 = .ok (.l2i, 1) := by decide +kernel
theorem dX12_narrowed_19 : decode cX12_narrowed 19 = .ok (.i2s, 1) := by decide +kernel
theorem dX12_narrowed_20 : decode cX12_narrowed 20 = .ok (.i2l, 1) := by decide +kernel
theorem dX12_narrowed_21 : decode cX12_narrowed 21 = .ok (.goto 15, 3) := by decide +kernel
theorem dX12_narrowed_24 : decode cX12_narrowed 24 = .ok (.iload_n 0, 1) := by decide +kernel
theorem dX12_narrowed_25 : decode cX12_narrowed 25 = .ok (.iconst 3, 1) := by decide +kernel
theorem dX12_narrowed_26 : decode cX12_narrowed 26 = .ok (.if_icmp .ne 9, 3) := by decide +kernel
theorem dX12_narrowed_29 : decode cX12_narrowed 29 = .ok (.lload_n 1, 1) := by decide +kernel
theorem dX12_narrowed_30 : decode cX12_narrowed 30 = .ok (.l2i, 1) := by decide +kernel
theorem dX12_narrowed_31 : decode cX12_narrowed 31 = .ok (.i2l, 1) := by decide +kernel
theorem dX12_narrowed_32 : decode cX12_narrowed 32 = .ok (.goto 4, 3) := by decide +kernel
theorem dX12_narrowed_35 : decode cX12_narrowed 35 = .ok (.lload_n 1, 1) := by decide +kernel
theorem dX12_narrowed_36 : decode cX12_narrowed 36 = .ok (.lreturn, 1) := by decide +kernel
theorem dX12_put_0 : decode cX12_put 0 = .ok (.iload_n 1, 1) := by decide +kernel
theorem dX12_put_1 : decode cX12_put 1 = .ok (.invokestatic 343, 3) := by decide +kernel
theorem dX12_put_4 : decode cX12_put 4 = .ok (.ifCond .ne 5, 3) := by decide +kernel
theorem dX12_put_7 : decode cX12_put 7 = .ok (.iconst (-1), 1) := by decide +kernel
theorem dX12_put_8 : decode cX12_put 8 = .ok (.ireturn, 1) := by decide +kernel
theorem dX12_put_9 : decode cX12_put 9 = .ok (.aload_n 0, 1) := by decide +kernel
theorem dX12_put_10 : decode cX12_put 10 = .ok (.getfield 152, 3) := by decide +kernel
theorem dX12_put_13 : decode cX12_put 13 = .ok (.iload_n 1, 1) := by decide +kernel
theorem dX12_put_14 : decode cX12_put 14 = .ok (.iaload, 1) := by decide +kernel
theorem dX12_put_15 : decode cX12_put 15 = .ok (.ifCond .ne 10, 3) := by decide +kernel
theorem dX12_put_18 : decode cX12_put 18 = .ok (.aload_n 0, 1) := by decide +kernel
theorem dX12_put_19 : decode cX12_put 19 = .ok (.bipush (-11), 2) := by decide +kernel
theorem dX12_put_21 : decode cX12_put 21 = .ok (.invokevirtual 346, 3) := by decide +kernel
theorem dX12_put_24 : decode cX12_put 24 = .ok (.ireturn, 1) := by decide +kernel
theorem dX12_put_25 : decode cX12_put 25 = .ok (.aload_n 0, 1) := by decide +kernel
theorem dX12_put_26 : decode cX12_put 26 = .ok (.getfield 152, 3) := by decide +kernel
theorem dX12_put_29 : decode cX12_put 29 = .ok (.iload_n 1, 1) := by decide +kernel
theorem dX12_put_30 : decode cX12_put 30 = .ok (.iaload, 1) := by decide +kernel
theorem dX12_put_31 : decode cX12_put 31 = .ok (.iconst 5, 1) := by decide +kernel
theorem dX12_put_32 : decode cX12_put 32 = .ok (.if_icmp .ne 10, 3) := by decide +kernel
theorem dX12_put_35 : decode cX12_put 35 = .ok (.aload_n 0, 1) := by decide +kernel
theorem dX12_put_36 : decode cX12_put 36 = .ok (.bipush (-12), 2) := by decide +kernel
theorem dX12_put_38 : decode cX12_put 38 = .ok (.invokevirtual 346, 3) := by decide +kernel
theorem dX12_put_41 : decode cX12_put 41 = .ok (.ireturn, 1) := by decide +kernel
theorem dX12_put_42 : decode cX12_put 42 = .ok (.iload_n 2, 1) := by decide +kernel
theorem dX12_put_43 : decode cX12_put 43 = .ok (.iconst 0, 1) := by decide +kernel
theorem dX12_put_44 : decode cX12_put 44 = .ok (.aload_n 0, 1) := by decide +kernel
theorem dX12_put_45 : decode cX12_put 45 = .ok (.getfield 155, 3) := by decide +kernel
theorem dX12_put_48 : decode cX12_put 48 = .ok (.iload_n 1, 1) := by decide +kernel
theorem dX12_put_49 : decode cX12_put 49 = .ok (.iaload, 1) := by decide +kernel
theorem dX12_put_50 : decode cX12_put 50 = .ok (.iconst 1, 1) := by decide +kernel
theorem dX12_put_51 : decode cX12_put 51 = .ok (.isub, 1) := by decide +kernel
theorem dX12_put_52 : decode cX12_put 52 = .ok (.invokestatic 184, 3) := by decide +kernel
theorem dX12_put_55 : decode cX12_put 55 = .ok (.ifCond .ne 10, 3) := by decide +kernel
theorem dX12_put_58 : decode cX12_put 58 = .ok (.aload_n 0, 1) := by decide +kernel
theorem dX12_put_59 : decode cX12_put 59 = .ok (.bipush (-13), 2) := by decide +kernel
theorem dX12_put_61 : decode cX12_put 61 = .ok (.invokevirtual 346, 3) := by decide +kernel
theorem dX12_put_64 : decode cX12_put 64 = .ok (.ireturn, 1) := by decide +kernel
theorem dX12_put_65 : decode cX12_put 65 = .ok (.aload_n 0, 1) := by decide +kernel
theorem dX12_put_66 : decode cX12_put 66 = .ok (.getfield 158, 3) := by decide +kernel
theorem dX12_put_69 : decode cX12_put 69 = .ok (.bipush 64, 2) := by decide +kernel
theorem dX12_put_71 : decode cX12_put 71 = .ok (.iload_n 1, 1) := by decide +kernel
theorem dX12_put_72 : decode cX12_put 72 = .ok (.imul, 1) := by decide +kernel
theorem dX12_put_73 : decode cX12_put 73 = .ok (.iload_n 2, 1) := by decide +kernel
theorem dX12_put_74 : decode cX12_put 74 = .ok (.iadd, 1) := by decide +kernel
theorem dX12_put_75 : decode cX12_put 75 = .ok (.aload_n 0, 1) := by decide +kernel
theorem dX12_put_76 : decode cX12_put 76 = .ok (.getfield 152, 3) := by decide +kernel
theorem dX12_put_79 : decode cX12_put 79 = .ok (.iload_n 1, 1) := by decide +kernel
theorem dX12_put_80 : decode cX12_put 80 = .ok (.iaload, 1) := by decide +kernel
theorem dX12_put_81 : decode cX12_put 81 = .ok (.lload_n 3, 1) := by decide +kernel
theorem dX12_put_82 : decode cX12_put 82 = .ok (.invokestatic 352, 3) := by decide +kernel
theorem dX12_put_85 : decode cX12_put 85 = .ok (.lastore, 1) := by decide +kernel
theorem dX12_put_86 : decode cX12_put 86 = .ok (.iconst 1, 1) := by decide +kernel
theorem dX12_put_87 : decode cX12_put 87 = .ok (.ireturn, 1) := by decide +kernel
theorem dX12_at_0 : decode cX12_at 0 = .ok (.aload_n 0, 1) := by decide +kernel
theorem dX12_at_1 : decode cX12_at 1 = .ok (.iload_n 1, 1) := by decide +kernel
theorem dX12_at_2 : decode cX12_at 2 = .ok (.invokestatic 343, 3) := by decide +kernel
theorem dX12_at_5 : decode cX12_at 5 = .ok (.ifCond .ne 7, 3) := by decide +kernel
theorem dX12_at_8 : decode cX12_at 8 = .ok (.iconst 1, 1) := by decide +kernel
theorem dX12_at_9 : decode cX12_at 9 = .ok (.goto 43, 3) := by decide +kernel
theorem dX12_at_12 : decode cX12_at 12 = .ok (.aload_n 0, 1) := by decide +kernel
theorem dX12_at_13 : decode cX12_at 13 = .ok (.getfield 152, 3) := by decide +kernel
theorem dX12_at_16 : decode cX12_at 16 = .ok (.iload_n 1, 1) := by decide +kernel
theorem dX12_at_17 : decode cX12_at 17 = .ok (.iaload, 1) := by decide +kernel
theorem dX12_at_18 : decode cX12_at 18 = .ok (.ifCond .eq 29, 3) := by decide +kernel
theorem dX12_at_21 : decode cX12_at 21 = .ok (.aload_n 0, 1) := by decide +kernel
theorem dX12_at_22 : decode cX12_at 22 = .ok (.getfield 152, 3) := by decide +kernel
theorem dX12_at_25 : decode cX12_at 25 = .ok (.iload_n 1, 1) := by decide +kernel
theorem dX12_at_26 : decode cX12_at 26 = .ok (.iaload, 1) := by decide +kernel
theorem dX12_at_27 : decode cX12_at 27 = .ok (.iconst 5, 1) := by decide +kernel
theorem dX12_at_28 : decode cX12_at 28 = .ok (.if_icmp .eq 19, 3) := by decide +kernel
theorem dX12_at_31 : decode cX12_at 31 = .ok (.iload_n 2, 1) := by decide +kernel
theorem dX12_at_32 : decode cX12_at 32 = .ok (.iconst 0, 1) := by decide +kernel
theorem dX12_at_33 : decode cX12_at 33 = .ok (.aload_n 0, 1) := by decide +kernel
theorem dX12_at_34 : decode cX12_at 34 = .ok (.getfield 155, 3) := by decide +kernel
theorem dX12_at_37 : decode cX12_at 37 = .ok (.iload_n 1, 1) := by decide +kernel
theorem dX12_at_38 : decode cX12_at 38 = .ok (.iaload, 1) := by decide +kernel
theorem dX12_at_39 : decode cX12_at 39 = .ok (.iconst 1, 1) := by decide +kernel
theorem dX12_at_40 : decode cX12_at 40 = .ok (.isub, 1) := by decide +kernel
theorem dX12_at_41 : decode cX12_at 41 = .ok (.invokestatic 184, 3) := by decide +kernel
theorem dX12_at_44 : decode cX12_at 44 = .ok (.ifCond .ne 7, 3) := by decide +kernel
theorem dX12_at_47 : decode cX12_at 47 = .ok (.iconst 2, 1) := by decide +kernel
theorem dX12_at_48 : decode cX12_at 48 = .ok (.goto 4, 3) := by decide +kernel
theorem dX12_at_51 : decode cX12_at 51 = .ok (.iconst 0, 1) := by decide +kernel
theorem dX12_at_52 : decode cX12_at 52 = .ok (.putfield 178, 3) := by decide +kernel
theorem dX12_at_55 : decode cX12_at 55 = .ok (.aload_n 0, 1) := by decide +kernel
theorem dX12_at_56 : decode cX12_at 56 = .ok (.getfield 178, 3) := by decide +kernel
theorem dX12_at_59 : decode cX12_at 59 = .ok (.ifCond .ne 17, 3) := by decide +kernel
theorem dX12_at_62 : decode cX12_at 62 = .ok (.aload_n 0, 1) := by decide +kernel
theorem dX12_at_63 : decode cX12_at 63 = .ok (.getfield 158, 3) := by decide +kernel
theorem dX12_at_66 : decode cX12_at 66 = .ok (.bipush 64, 2) := by decide +kernel
theorem dX12_at_68 : decode cX12_at 68 = .ok (.iload_n 1, 1) := by decide +kernel
theorem dX12_at_69 : decode cX12_at 69 = .ok (.imul, 1) := by decide +kernel
theorem dX12_at_70 : decode cX12_at 70 = .ok (.iload_n 2, 1) := by decide +kernel
theorem dX12_at_71 : decode cX12_at 71 = .ok (.iadd, 1) := by decide +kernel
theorem dX12_at_72 : decode cX12_at 72 = .ok (.laload, 1) := by decide +kernel
theorem dX12_at_73 : decode cX12_at 73 = .ok (.goto 4, 3) := by decide +kernel
theorem dX12_at_76 : decode cX12_at 76 = .ok (.lconst 0, 1) := by decide +kernel
theorem dX12_at_77 : decode cX12_at 77 = .ok (.lreturn, 1) := by decide +kernel
theorem dX12_copy_0 : decode cX12_copy 0 = .ok (.iload_n 1, 1) := by decide +kernel
theorem dX12_copy_1 : decode cX12_copy 1 = .ok (.invokestatic 343, 3) := by decide +kernel
theorem dX12_copy_4 : decode cX12_copy 4 = .ok (.ifCond .eq 10, 3) := by decide +kernel
theorem dX12_copy_7 : decode cX12_copy 7 = .ok (.iload_n 3, 1) := by decide +kernel
theorem dX12_copy_8 : decode cX12_copy 8 = .ok (.invokestatic 343, 3) := by decide +kernel
theorem dX12_copy_11 : decode cX12_copy 11 = .ok (.ifCond .ne 5, 3) := by decide +kernel
theorem dX12_copy_14 : decode cX12_copy 14 = .ok (.iconst (-1), 1) := by decide +kernel
theorem dX12_copy_15 : decode cX12_copy 15 = .ok (.ireturn, 1) := by decide +kernel
theorem dX12_copy_16 : decode cX12_copy 16 = .ok (.aload_n 0, 1) := by decide +kernel
theorem dX12_copy_17 : decode cX12_copy 17 = .ok (.getfield 152, 3) := by decide +kernel
theorem dX12_copy_20 : decode cX12_copy 20 = .ok (.iload_n 1, 1) := by decide +kernel
theorem dX12_copy_21 : decode cX12_copy 21 = .ok (.iaload, 1) := by decide +kernel
theorem dX12_copy_22 : decode cX12_copy 22 = .ok (.ifCond .eq 12, 3) := by decide +kernel
theorem dX12_copy_25 : decode cX12_copy 25 = .ok (.aload_n 0, 1) := by decide +kernel
theorem dX12_copy_26 : decode cX12_copy 26 = .ok (.getfield 152, 3) := by decide +kernel
theorem dX12_copy_29 : decode cX12_copy 29 = .ok (.iload_n 3, 1) := by decide +kernel
theorem dX12_copy_30 : decode cX12_copy 30 = .ok (.iaload, 1) := by decide +kernel
theorem dX12_copy_31 : decode cX12_copy 31 = .ok (.ifCond .ne 10, 3) := by decide +kernel
theorem dX12_copy_34 : decode cX12_copy 34 = .ok (.aload_n 0, 1) := by decide +kernel
theorem dX12_copy_35 : decode cX12_copy 35 = .ok (.bipush (-11), 2) := by decide +kernel
theorem dX12_copy_37 : decode cX12_copy 37 = .ok (.invokevirtual 346, 3) := by decide +kernel
theorem dX12_copy_40 : decode cX12_copy 40 = .ok (.ireturn, 1) := by decide +kernel
theorem dX12_copy_41 : decode cX12_copy 41 = .ok (.aload_n 0, 1) := by decide +kernel
theorem dX12_copy_42 : decode cX12_copy 42 = .ok (.getfield 152, 3) := by decide +kernel
theorem dX12_copy_45 : decode cX12_copy 45 = .ok (.iload_n 1, 1) := by decide +kernel
theorem dX12_copy_46 : decode cX12_copy 46 = .ok (.iaload, 1) := by decide +kernel
theorem dX12_copy_47 : decode cX12_copy 47 = .ok (.iconst 5, 1) := by decide +kernel
theorem dX12_copy_48 : decode cX12_copy 48 = .ok (.if_icmp .eq 18, 3) := by decide +kernel
theorem dX12_copy_51 : decode cX12_copy 51 = .ok (.aload_n 0, 1) := by decide +kernel
theorem dX12_copy_52 : decode cX12_copy 52 = .ok (.getfield 152, 3) := by decide +kernel
theorem dX12_copy_55 : decode cX12_copy 55 = .ok (.iload_n 1, 1) := by decide +kernel
theorem dX12_copy_56 : decode cX12_copy 56 = .ok (.iaload, 1) := by decide +kernel
theorem dX12_copy_57 : decode cX12_copy 57 = .ok (.aload_n 0, 1) := by decide +kernel
theorem dX12_copy_58 : decode cX12_copy 58 = .ok (.getfield 152, 3) := by decide +kernel
theorem dX12_copy_61 : decode cX12_copy 61 = .ok (.iload_n 3, 1) := by decide +kernel
theorem dX12_copy_62 : decode cX12_copy 62 = .ok (.iaload, 1) := by decide +kernel
theorem dX12_copy_63 : decode cX12_copy 63 = .ok (.if_icmp .eq 10, 3) := by decide +kernel
theorem dX12_copy_66 : decode cX12_copy 66 = .ok (.aload_n 0, 1) := by decide +kernel
theorem dX12_copy_67 : decode cX12_copy 67 = .ok (.bipush (-12), 2) := by decide +kernel
theorem dX12_copy_69 : decode cX12_copy 69 = .ok (.invokevirtual 346, 3) := by decide +kernel
theorem dX12_copy_72 : decode cX12_copy 72 = .ok (.ireturn, 1) := by decide +kernel
theorem dX12_copy_73 : decode cX12_copy 73 = .ok (.iload 5, 2) := by decide +kernel
theorem dX12_copy_75 : decode cX12_copy 75 = .ok (.ifCond .lt 39, 3) := by decide +kernel
theorem dX12_copy_78 : decode cX12_copy 78 = .ok (.iload_n 2, 1) := by decide +kernel
theorem dX12_copy_79 : decode cX12_copy 79 = .ok (.ifCond .lt 35, 3) := by decide +kernel
theorem dX12_copy_82 : decode cX12_copy 82 = .ok (.iload 4, 2) := by decide +kernel
theorem dX12_copy_84 : decode cX12_copy 84 = .ok (.ifCond .lt 30, 3) := by decide +kernel
theorem dX12_copy_87 : decode cX12_copy 87 = .ok (.iload 5, 2) := by decide +kernel
theorem dX12_copy_89 : decode cX12_copy 89 = .ok (.aload_n 0, 1) := by decide +kernel
theorem dX12_copy_90 : decode cX12_copy 90 = .ok (.getfield 155, 3) := by decide +kernel
theorem dX12_copy_93 : decode cX12_copy 93 = .ok (.iload_n 1, 1) := by decide +kernel
theorem dX12_copy_94 : decode cX12_copy 94 = .ok (.iaload, 1) := by decide +kernel
theorem dX12_copy_95 : decode cX12_copy 95 = .ok (.iload_n 2, 1) := by decide +kernel
theorem dX12_copy_96 : decode cX12_copy 96 = .ok (.isub, 1) := by decide +kernel
theorem dX12_copy_97 : decode cX12_copy 97 = .ok (.if_icmp .gt 17, 3) := by decide +kernel
theorem dX12_copy_100 : decode cX12_copy 100 = .ok (.iload 5, 2) := by decide +kernel
theorem dX12_copy_102 : decode cX12_copy 102 = .ok (.aload_n 0, 1) := by decide +kernel
theorem dX12_copy_103 : decode cX12_copy 103 = .ok (.getfield 155, 3) := by decide +kernel
theorem dX12_copy_106 : decode cX12_copy 106 = .ok (.iload_n 3, 1) := by decide +kernel
theorem dX12_copy_107 : decode cX12_copy 107 = .ok (.iaload, 1) := by decide +kernel
theorem dX12_copy_108 : decode cX12_copy 108 = .ok (.iload 4, 2) := by decide +kernel
theorem dX12_copy_110 : decode cX12_copy 110 = .ok (.isub, 1) := by decide +kernel
theorem dX12_copy_111 : decode cX12_copy 111 = .ok (.if_icmp .le 10, 3) := by decide +kernel
theorem dX12_copy_114 : decode cX12_copy 114 = .ok (.aload_n 0, 1) := by decide +kernel
theorem dX12_copy_115 : decode cX12_copy 115 = .ok (.bipush (-13), 2) := by decide +kernel
theorem dX12_copy_117 : decode cX12_copy 117 = .ok (.invokevirtual 346, 3) := by decide +kernel
theorem dX12_copy_120 : decode cX12_copy 120 = .ok (.ireturn, 1) := by decide +kernel
theorem dX12_copy_121 : decode cX12_copy 121 = .ok (.iconst 0, 1) := by decide +kernel
theorem dX12_copy_122 : decode cX12_copy 122 = .ok (.istore 6, 2) := by decide +kernel
theorem dX12_copy_124 : decode cX12_copy 124 = .ok (.iload 6, 2) := by decide +kernel
theorem dX12_copy_126 : decode cX12_copy 126 = .ok (.iload 5, 2) := by decide +kernel
theorem dX12_copy_128 : decode cX12_copy 128 = .ok (.if_icmp .ge 30, 3) := by decide +kernel
theorem dX12_copy_131 : decode cX12_copy 131 = .ok (.aload_n 0, 1) := by decide +kernel
theorem dX12_copy_132 : decode cX12_copy 132 = .ok (.getfield 175, 3) := by decide +kernel
theorem dX12_copy_135 : decode cX12_copy 135 = .ok (.iload 6, 2) := by decide +kernel
theorem dX12_copy_137 : decode cX12_copy 137 = .ok (.aload_n 0, 1) := by decide +kernel
theorem dX12_copy_138 : decode cX12_copy 138 = .ok (.getfield 158, 3) := by decide +kernel
theorem dX12_copy_141 : decode cX12_copy 141 = .ok (.bipush 64, 2) := by decide +kernel
theorem dX12_copy_143 : decode cX12_copy 143 = .ok (.iload_n 1, 1) := by decide +kernel
theorem dX12_copy_144 : decode cX12_copy 144 = .ok (.imul, 1) := by decide +kernel
theorem dX12_copy_145 : decode cX12_copy 145 = .ok (.iload_n 2, 1) := by decide +kernel
theorem dX12_copy_146 : decode cX12_copy 146 = .ok (.iadd, 1) := by decide +kernel
theorem dX12_copy_147 : decode cX12_copy 147 = .ok (.iload 6, 2) := by decide +kernel
theorem dX12_copy_149 : decode cX12_copy 149 = .ok (.iadd, 1) := by decide +kernel
theorem dX12_copy_150 : decode cX12_copy 150 = .ok (.laload, 1) := by decide +kernel
theorem dX12_copy_151 : decode cX12_copy 151 = .ok (.lastore, 1) := by decide +kernel
theorem dX12_copy_152 : decode cX12_copy 152 = .ok (.iinc 6 1, 3) := by decide +kernel
theorem dX12_copy_155 : decode cX12_copy 155 = .ok (.goto (-31), 3) := by decide +kernel
theorem dX12_copy_158 : decode cX12_copy 158 = .ok (.iconst 0, 1) := by decide +kernel
theorem dX12_copy_159 : decode cX12_copy 159 = .ok (.istore 6, 2) := by decide +kernel
theorem dX12_copy_161 : decode cX12_copy 161 = .ok (.iload 6, 2) := by decide +kernel
theorem dX12_copy_163 : decode cX12_copy 163 = .ok (.iload 5, 2) := by decide +kernel
theorem dX12_copy_165 : decode cX12_copy 165 = .ok (.if_icmp .ge 31, 3) := by decide +kernel
theorem dX12_copy_168 : decode cX12_copy 168 = .ok (.aload_n 0, 1) := by decide +kernel
theorem dX12_copy_169 : decode cX12_copy 169 = .ok (.getfield 158, 3) := by decide +kernel
theorem dX12_copy_172 : decode cX12_copy 172 = .ok (.bipush 64, 2) := by decide +kernel
theorem dX12_copy_174 : decode cX12_copy 174 = .ok (.iload_n 3, 1) := by decide +kernel
theorem dX12_copy_175 : decode cX12_copy 175 = .ok (.imul, 1) := by decide +kernel
theorem dX12_copy_176 : decode cX12_copy 176 = .ok (.iload 4, 2) := by decide +kernel
theorem dX12_copy_178 : decode cX12_copy 178 = .ok (.iadd, 1) := by decide +kernel
theorem dX12_copy_179 : decode cX12_copy 179 = .ok (.iload 6, 2) := by decide +kernel
theorem dX12_copy_181 : decode cX12_copy 181 = .ok (.iadd, 1) := by decide +kernel
theorem dX12_copy_182 : decode cX12_copy 182 = .ok (.aload_n 0, 1) := by decide +kernel
theorem dX12_copy_183 : decode cX12_copy 183 = .ok (.getfield 175, 3) := by decide +kernel
theorem dX12_copy_186 : decode cX12_copy 186 = .ok (.iload 6, 2) := by decide +kernel
theorem dX12_copy_188 : decode cX12_copy 188 = .ok (.laload, 1) := by decide +kernel
theorem dX12_copy_189 : decode cX12_copy 189 = .ok (.lastore, 1) := by decide +kernel
theorem dX12_copy_190 : decode cX12_copy 190 = .ok (.iinc 6 1, 3) := by decide +kernel
theorem dX12_copy_193 : decode cX12_copy 193 = .ok (.goto (-32), 3) := by decide +kernel
theorem dX12_copy_196 : decode cX12_copy 196 = .ok (.iload 5, 2) := by decide +kernel
theorem dX12_copy_198 : decode cX12_copy 198 = .ok (.ireturn, 1) := by decide +kernel
theorem dX12_count_0 : decode cX12_count 0 = .ok (.iload_n 1, 1) := by decide +kernel
theorem dX12_count_1 : decode cX12_count 1 = .ok (.tableswitch 96 0 8 #[51, 56, 61, 66, 71, 76, 81, 86, 91], 51) := by decide +kernel
theorem dX12_count_52 : decode cX12_count 52 = .ok (.aload_n 0, 1) := by decide +kernel
theorem dX12_count_53 : decode cX12_count 53 = .ok (.getfield 7, 3) := by decide +kernel
theorem dX12_count_56 : decode cX12_count 56 = .ok (.ireturn, 1) := by decide +kernel
theorem dX12_count_57 : decode cX12_count 57 = .ok (.aload_n 0, 1) := by decide +kernel
theorem dX12_count_58 : decode cX12_count 58 = .ok (.getfield 181, 3) := by decide +kernel
theorem dX12_count_61 : decode cX12_count 61 = .ok (.ireturn, 1) := by decide +kernel
theorem dX12_count_62 : decode cX12_count 62 = .ok (.aload_n 0, 1) := by decide +kernel
theorem dX12_count_63 : decode cX12_count 63 = .ok (.getfield 225, 3) := by decide +kernel
theorem dX12_count_66 : decode cX12_count 66 = .ok (.ireturn, 1) := by decide +kernel
theorem dX12_count_67 : decode cX12_count 67 = .ok (.aload_n 0, 1) := by decide +kernel
theorem dX12_count_68 : decode cX12_count 68 = .ok (.getfield 188, 3) := by decide +kernel
theorem dX12_count_71 : decode cX12_count 71 = .ok (.ireturn, 1) := by decide +kernel
theorem dX12_count_72 : decode cX12_count 72 = .ok (.aload_n 0, 1) := by decide +kernel
theorem dX12_count_73 : decode cX12_count 73 = .ok (.getfield 198, 3) := by decide +kernel
theorem dX12_count_76 : decode cX12_count 76 = .ok (.ireturn, 1) := by decide +kernel
theorem dX12_count_77 : decode cX12_count 77 = .ok (.aload_n 0, 1) := by decide +kernel
theorem dX12_count_78 : decode cX12_count 78 = .ok (.getfield 213, 3) := by decide +kernel
theorem dX12_count_81 : decode cX12_count 81 = .ok (.ireturn, 1) := by decide +kernel
theorem dX12_count_82 : decode cX12_count 82 = .ok (.aload_n 0, 1) := by decide +kernel
theorem dX12_count_83 : decode cX12_count 83 = .ok (.getfield 201, 3) := by decide +kernel
theorem dX12_count_86 : decode cX12_count 86 = .ok (.ireturn, 1) := by decide +kernel
theorem dX12_count_87 : decode cX12_count 87 = .ok (.aload_n 0, 1) := by decide +kernel
theorem dX12_count_88 : decode cX12_count 88 = .ok (.getfield 65, 3) := by decide +kernel
theorem dX12_count_91 : decode cX12_count 91 = .ok (.ireturn, 1) := by decide +kernel
theorem dX12_count_92 : decode cX12_count 92 = .ok (.aload_n 0, 1) := by decide +kernel
theorem dX12_count_93 : decode cX12_count 93 = .ok (.getfield 195, 3) := by decide +kernel
theorem dX12_count_96 : decode cX12_count 96 = .ok (.ireturn, 1) := by decide +kernel
theorem dX12_count_97 : decode cX12_count 97 = .ok (.iconst (-1), 1) := by decide +kernel
theorem dX12_count_98 : decode cX12_count 98 = .ok (.ireturn, 1) := by decide +kernel
