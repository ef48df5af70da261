theorem dX6_init_0 : decode cX6_init 0 = .ok (.aload_n 0, 1) := by decide +kernel
theorem dX6_init_1 : decode cX6_init 1 = .ok (.invokespecial 1, 3) := by decide +kernel
theorem dX6_init_4 : decode cX6_init 4 = .ok (.aload_n 0, 1) := by decide +kernel
theorem dX6_init_5 : decode cX6_init 5 = .ok (.sipush 300, 3) := by decide +kernel
theorem dX6_init_8 : decode cX6_init 8 = .ok (.newarray .int, 2) := by decide +kernel
theorem dX6_init_10 : decode cX6_init 10 = .ok (.putfield 7, 3) := by decide +kernel
theorem dX6_init_13 : decode cX6_init 13 = .ok (.aload_n 0, 1) := by decide +kernel
theorem dX6_init_14 : decode cX6_init 14 = .ok (.iconst 3, 1) := by decide +kernel
theorem dX6_init_15 : decode cX6_init 15 = .ok (.newarray .int, 2) := by decide +kernel
theorem dX6_init_17 : decode cX6_init 17 = .ok (.putfield 13, 3) := by decide +kernel
theorem dX6_init_20 : decode cX6_init 20 = .ok (.aload_n 0, 1) := by decide +kernel
theorem dX6_init_21 : decode cX6_init 21 = .ok (.iconst 1, 1) := by decide +kernel
theorem dX6_init_22 : decode cX6_init 22 = .ok (.putfield 16, 3) := by decide +kernel
theorem dX6_init_25 : decode cX6_init 25 = .ok (.aload_n 0, 1) := by decide +kernel
theorem dX6_init_26 : decode cX6_init 26 = .ok (.bipush 8, 2) := by decide +kernel
theorem dX6_init_28 : decode cX6_init 28 = .ok (.newarray .int, 2) := by decide +kernel
theorem dX6_init_30 : decode cX6_init 30 = .ok (.putfield 20, 3) := by decide +kernel
theorem dX6_init_33 : decode cX6_init 33 = .ok (.aload_n 0, 1) := by decide +kernel
theorem dX6_init_34 : decode cX6_init 34 = .ok (.bipush 8, 2) := by decide +kernel
theorem dX6_init_36 : decode cX6_init 36 = .ok (.newarray .int, 2) := by decide +kernel
theorem dX6_init_38 : decode cX6_init 38 = .ok (.putfield 23, 3) := by decide +kernel
theorem dX6_init_41 : decode cX6_init 41 = .ok (.aload_n 0, 1) := by decide +kernel
theorem dX6_init_42 : decode cX6_init 42 = .ok (.bipush 12, 2) := by decide +kernel
theorem dX6_init_44 : decode cX6_init 44 = .ok (.newarray .int, 2) := by decide +kernel
theorem dX6_init_46 : decode cX6_init 46 = .ok (.putfield 26, 3) := by decide +kernel
theorem dX6_init_49 : decode cX6_init 49 = .ok (.aload_n 0, 1) := by decide +kernel
theorem dX6_init_50 : decode cX6_init 50 = .ok (.bipush 12, 2) := by decide +kernel
theorem dX6_init_52 : decode cX6_init 52 = .ok (.newarray .int, 2) := by decide +kernel
theorem dX6_init_54 : decode cX6_init 54 = .ok (.putfield 29, 3) := by decide +kernel
theorem dX6_init_57 : decode cX6_init 57 = .ok (.aload_n 0, 1) := by decide +kernel
theorem dX6_init_58 : decode cX6_init 58 = .ok (.bipush 12, 2) := by decide +kernel
theorem dX6_init_60 : decode cX6_init 60 = .ok (.newarray .boolean, 2) := by decide +kernel
theorem dX6_init_62 : decode cX6_init 62 = .ok (.putfield 32, 3) := by decide +kernel
theorem dX6_init_65 : decode cX6_init 65 = .ok (.aload_n 0, 1) := by decide +kernel
theorem dX6_init_66 : decode cX6_init 66 = .ok (.bipush 64, 2) := by decide +kernel
theorem dX6_init_68 : decode cX6_init 68 = .ok (.newarray .int, 2) := by decide +kernel
theorem dX6_init_70 : decode cX6_init 70 = .ok (.putfield 36, 3) := by decide +kernel
theorem dX6_init_73 : decode cX6_init 73 = .ok (.aload_n 0, 1) := by decide +kernel
theorem dX6_init_74 : decode cX6_init 74 = .ok (.bipush 64, 2) := by decide +kernel
theorem dX6_init_76 : decode cX6_init 76 = .ok (.newarray .int, 2) := by decide +kernel
theorem dX6_init_78 : decode cX6_init 78 = .ok (.putfield 39, 3) := by decide +kernel
theorem dX6_init_81 : decode cX6_init 81 = .ok (.aload_n 0, 1) := by decide +kernel
theorem dX6_init_82 : decode cX6_init 82 = .ok (.iconst 4, 1) := by decide +kernel
theorem dX6_init_83 : decode cX6_init 83 = .ok (.newarray .int, 2) := by decide +kernel
theorem dX6_init_85 : decode cX6_init 85 = .ok (.putfield 42, 3) := by decide +kernel
theorem dX6_init_88 : decode cX6_init 88 = .ok (.aload_n 0, 1) := by decide +kernel
theorem dX6_init_89 : decode cX6_init 89 = .ok (.iconst 4, 1) := by decide +kernel
theorem dX6_init_90 : decode cX6_init 90 = .ok (.newarray .int, 2) := by decide +kernel
theorem dX6_init_92 : decode cX6_init 92 = .ok (.putfield 45, 3) := by decide +kernel
theorem dX6_init_95 : decode cX6_init 95 = .ok (.aload_n 0, 1) := by decide +kernel
theorem dX6_init_96 : decode cX6_init 96 = .ok (.iconst 4, 1) := by decide +kernel
theorem dX6_init_97 : decode cX6_init 97 = .ok (.newarray .int, 2) := by decide +kernel
theorem dX6_init_99 : decode cX6_init 99 = .ok (.putfield 48, 3) := by decide +kernel
theorem dX6_init_102 : decode cX6_init 102 = .ok (.aload_n 0, 1) := by decide +kernel
theorem dX6_init_103 : decode cX6_init 103 = .ok (.iconst 4, 1) := by decide +kernel
theorem dX6_init_104 : decode cX6_init 104 = .ok (.newarray .boolean, 2) := by decide +kernel
theorem dX6_init_106 : decode cX6_init 106 = .ok (.putfield 51, 3) := by decide +kernel
theorem dX6_init_109 : decode cX6_init 109 = .ok (.aload_n 0, 1) := by decide +kernel
theorem dX6_init_110 : decode cX6_init 110 = .ok (.iconst 4, 1) := by decide +kernel
theorem dX6_init_111 : decode cX6_init 111 = .ok (.newarray .int, 2) := by decide +kernel
theorem dX6_init_113 : decode cX6_init 113 = .ok (.putfield 54, 3) := by decide +kernel
theorem dX6_init_116 : decode cX6_init 116 = .ok (.aload_n 0, 1) := by decide +kernel
theorem dX6_init_117 : decode cX6_init 117 = .ok (.iconst 4, 1) := by decide +kernel
theorem dX6_init_118 : decode cX6_init 118 = .ok (.newarray .int, 2) := by decide +kernel
theorem dX6_init_120 : decode cX6_init 120 = .ok (.putfield 57, 3) := by decide +kernel
theorem dX6_init_123 : decode cX6_init 123 = .ok (.iconst 0, 1) := by decide +kernel
theorem dX6_init_124 : decode cX6_init 124 = .ok (.istore_n 1, 1) := by decide +kernel
theorem dX6_init_125 : decode cX6_init 125 = .ok (.iload_n 1, 1) := by decide +kernel
theorem dX6_init_126 : decode cX6_init 126 = .ok (.bipush 64, 2) := by decide +kernel
theorem dX6_init_128 : decode cX6_init 128 = .ok (.if_icmp .ge 16, 3) := by decide +kernel
theorem dX6_init_131 : decode cX6_init 131 = .ok (.aload_n 0, 1) := by decide +kernel
theorem dX6_init_132 : decode cX6_init 132 = .ok (.getfield 36, 3) := by decide +kernel
theorem dX6_init_135 : decode cX6_init 135 = .ok (.iload_n 1, 1) := by decide +kernel
theorem dX6_init_136 : decode cX6_init 136 = .ok (.iconst (-1), 1) := by decide +kernel
theorem dX6_init_137 : decode cX6_init 137 = .ok (.iastore, 1) := by decide +kernel
theorem dX6_init_138 : decode cX6_init 138 = .ok (.iinc 1 1, 3) := by decide +kernel
theorem dX6_init_141 : decode cX6_init 141 = .ok (.goto (-16), 3) := by decide +kernel
theorem dX6_init_144 : decode cX6_init 144 = .ok (.iconst 0, 1) := by decide +kernel
theorem dX6_init_145 : decode cX6_init 145 = .ok (.istore_n 1, 1) := by decide +kernel
theorem dX6_init_146 : decode cX6_init 146 = .ok (.iload_n 1, 1) := by decide +kernel
theorem dX6_init_147 : decode cX6_init 147 = .ok (.iconst 4, 1) := by decide +kernel
theorem dX6_init_148 : decode cX6_init 148 = .ok (.if_icmp .ge 30, 3) := by decide +kernel
theorem dX6_init_151 : decode cX6_init 151 = .ok (.aload_n 0, 1) := by decide +kernel
theorem dX6_init_152 : decode cX6_init 152 = .ok (.getfield 45, 3) := by decide +kernel
theorem dX6_init_155 : decode cX6_init 155 = .ok (.iload_n 1, 1) := by decide +kernel
theorem dX6_init_156 : decode cX6_init 156 = .ok (.iconst (-1), 1) := by decide +kernel
theorem dX6_init_157 : decode cX6_init 157 = .ok (.iastore, 1) := by decide +kernel
theorem dX6_init_158 : decode cX6_init 158 = .ok (.aload_n 0, 1) := by decide +kernel
theorem dX6_init_159 : decode cX6_init 159 = .ok (.getfield 48, 3) := by decide +kernel
theorem dX6_init_162 : decode cX6_init 162 = .ok (.iload_n 1, 1) := by decide +kernel
theorem dX6_init_163 : decode cX6_init 163 = .ok (.iconst (-1), 1) := by decide +kernel
theorem dX6_init_164 : decode cX6_init 164 = .ok (.iastore, 1) := by decide +kernel
theorem dX6_init_165 : decode cX6_init 165 = .ok (.aload_n 0, 1) := by decide +kernel
theorem dX6_init_166 : decode cX6_init 166 = .ok (.getfield 54, 3) := by decide +kernel
theorem dX6_init_169 : decode cX6_init 169 = .ok (.iload_n 1, 1) := by decide +kernel
theorem dX6_init_170 : decode cX6_init 170 = .ok (.iconst (-1), 1) := by decide +kernel
theorem dX6_init_171 : decode cX6_init 171 = .ok (.iastore, 1) := by decide +kernel
theorem dX6_init_172 : decode cX6_init 172 = .ok (.iinc 1 1, 3) := by decide +kernel
theorem dX6_init_175 : decode cX6_init 175 = .ok (.goto (-29), 3) := by decide +kernel
theorem dX6_init_178 : decode cX6_init 178 = .ok (.return_, 1) := by decide +kernel
theorem dX6_thrown_0 : decode cX6_thrown 0 = .ok (.aload_n 0, 1) := by decide +kernel
theorem dX6_thrown_1 : decode cX6_thrown 1 = .ok (.getfield 60, 3) := by decide +kernel
theorem dX6_thrown_4 : decode cX6_thrown 4 = .ok (.ireturn, 1) := by decide +kernel
theorem dX6_goesWell_0 : decode cX6_goesWell 0 = .ok (.aload_n 0, 1) := by decide +kernel
theorem dX6_goesWell_1 : decode cX6_goesWell 1 = .ok (.iload_n 1, 1) := by decide +kernel
theorem dX6_goesWell_2 : decode cX6_goesWell 2 = .ok (.putfield 60, 3) := by decide +kernel
theorem dX6_goesWell_5 : decode cX6_goesWell 5 = .ok (.iload_n 1, 1) := by decide +kernel
theorem dX6_goesWell_6 : decode cX6_goesWell 6 = .ok (.ifCond .ne 7, 3) := by decide +kernel
theorem dX6_goesWell_9 : decode cX6_goesWell 9 = .ok (.iconst 1, 1) := by decide +kernel
theorem dX6_goesWell_10 : decode cX6_goesWell 10 = .ok (.goto 4, 3) := by decide +kernel
theorem dX6_goesWell_13 : decode cX6_goesWell 13 = .ok (.iconst 0, 1) := by decide +kernel
theorem dX6_goesWell_14 : decode cX6_goesWell 14 = .ok (.ireturn, 1) := by decide +kernel
theorem dX6_in_0 : decode cX6_in 0 = .ok (.iload_n 0, 1) := by decide +kernel
theorem dX6_in_1 : decode cX6_in 1 = .ok (.iload_n 1, 1) := by decide +kernel
theorem dX6_in_2 : decode cX6_in 2 = .ok (.if_icmp .lt 12, 3) := by decide +kernel
theorem dX6_in_5 : decode cX6_in 5 = .ok (.iload_n 0, 1) := by decide +kernel
theorem dX6_in_6 : decode cX6_in 6 = .ok (.iload_n 2, 1) := by decide +kernel
theorem dX6_in_7 : decode cX6_in 7 = .ok (.if_icmp .gt 7, 3) := by decide +kernel
theorem dX6_in_10 : decode cX6_in 10 = .ok (.iconst 1, 1) := by decide +kernel
theorem dX6_in_11 : decode cX6_in 11 = .ok (.goto 4, 3) := by decide +kernel
theorem dX6_in_14 : decode cX6_in 14 = .ok (.iconst 0, 1) := by decide +kernel
theorem dX6_in_15 : decode cX6_in 15 = .ok (.ireturn, 1) := by decide +kernel
theorem dX6_isValue_0 : decode cX6_isValue 0 = .ok (.iload_n 0, 1) := by decide +kernel
theorem dX6_isValue_1 : decode cX6_isValue 1 = .ok (.iconst 0, 1) := by decide +kernel
theorem dX6_isValue_2 : decode cX6_isValue 2 = .ok (.ldc 63, 2) := by decide +kernel
theorem dX6_isValue_4 : decode cX6_isValue 4 = .ok (.invokestatic 64, 3) := by decide +kernel
theorem dX6_isValue_7 : decode cX6_isValue 7 = .ok (.ireturn, 1) := by decide +kernel
theorem dX6_isView_0 : decode cX6_isView 0 = .ok (.iload_n 1, 1) := by decide +kernel
theorem dX6_isView_1 : decode cX6_isView 1 = .ok (.iconst 0, 1) := by decide +kernel
theorem dX6_isView_2 : decode cX6_isView 2 = .ok (.aload_n 0, 1) := by decide +kernel
theorem dX6_isView_3 : decode cX6_isView 3 = .ok (.getfield 16, 3) := by decide +kernel
theorem dX6_isView_6 : decode cX6_isView 6 = .ok (.iconst 1, 1) := by decide +kernel
theorem dX6_isView_7 : decode cX6_isView 7 = .ok (.isub, 1) := by decide +kernel
theorem dX6_isView_8 : decode cX6_isView 8 = .ok (.invokestatic 64, 3) := by decide +kernel
theorem dX6_isView_11 : decode cX6_isView 11 = .ok (.ireturn, 1) := by decide +kernel
theorem dX6_leafSum_0 : decode cX6_leafSum 0 = .ok (.ldc2_w 68, 3) := by decide +kernel
theorem dX6_leafSum_3 : decode cX6_leafSum 3 = .ok (.iload_n 0, 1) := by decide +kernel
theorem dX6_leafSum_4 : decode cX6_leafSum 4 = .ok (.i2l, 1) := by decide +kernel
theorem dX6_leafSum_5 : decode cX6_leafSum 5 = .ok (.lmul, 1) := by decide +kernel
theorem dX6_leafSum_6 : decode cX6_leafSum 6 = .ok (.ldc2_w 70, 3) := by decide +kernel
theorem dX6_leafSum_9 : decode cX6_leafSum 9 = .ok (.ladd, 1) := by decide +kernel
theorem dX6_leafSum_10 : decode cX6_leafSum 10 = .ok (.ldc2_w 72, 3) := by decide +kernel
theorem dX6_leafSum_13 : decode cX6_leafSum 13 = .ok (.lrem, 1) := by decide +kernel
theorem dX6_leafSum_14 : decode cX6_leafSum 14 = .ok (.l2i, 1) := by decide +kernel
theorem dX6_leafSum_15 : decode cX6_leafSum 15 = .ok (.ireturn, 1) := by decide +kernel
theorem dX6_mix_0 : decode cX6_mix 0 = .ok (.ldc2_w 74, 3) := by decide +kernel
theorem dX6_mix_3 : decode cX6_mix 3 = .ok (.iload_n 0, 1) := by decide +kernel
theorem dX6_mix_4 : decode cX6_mix 4 = .ok (.i2l, 1) := by decide +kernel
theorem dX6_mix_5 : decode cX6_mix 5 = .ok (.lmul, 1) := by decide +kernel
theorem dX6_mix_6 : decode cX6_mix 6 = .ok (.ldc2_w 76, 3) := by decide +kernel
theorem dX6_mix_9 : decode cX6_mix 9 = .ok (.iload_n 1, 1) := by decide +kernel
theorem dX6_mix_10 : decode cX6_mix 10 = .ok (.i2l, 1) := by decide +kernel
theorem dX6_mix_11 : decode cX6_mix 11 = .ok (.lmul, 1) := by decide +kernel
theorem dX6_mix_12 : decode cX6_mix 12 = .ok (.ladd, 1) := by decide +kernel
theorem dX6_mix_13 : decode cX6_mix 13 = .ok (.ldc2_w 78, 3) := by decide +kernel
theorem dX6_mix_16 : decode cX6_mix 16 = .ok (.ladd, 1) := by decide +kernel
theorem dX6_mix_17 : decode cX6_mix 17 = .ok (.ldc2_w 72, 3) := by decide +kernel
theorem dX6_mix_20 : decode cX6_mix 20 = .ok (.lrem, 1) := by decide +kernel
theorem dX6_mix_21 : decode cX6_mix 21 = .ok (.l2i, 1) := by decide +kernel
theorem dX6_mix_22 : decode cX6_mix 22 = .ok (.ireturn, 1) := by decide +kernel
theorem dX6_append_0 : decode cX6_append 0 = .ok (.aload_n 0, 1) := by decide +kernel
theorem dX6_append_1 : decode cX6_append 1 = .ok (.aload_n 0, 1) := by decide +kernel
theorem dX6_append_2 : decode cX6_append 2 = .ok (.iload_n 1, 1) := by decide +kernel
theorem dX6_append_3 : decode cX6_append 3 = .ok (.invokevirtual 80, 3) := by decide +kernel
theorem dX6_append_6 : decode cX6_append 6 = .ok (.ifCond .ne 7, 3) := by decide +kernel
theorem dX6_append_9 : decode cX6_append 9 = .ok (.iconst 1, 1) := by decide +kernel
theorem dX6_append_10 : decode cX6_append 10 = .ok (.goto 30, 3) := by decide +kernel
theorem dX6_append_13 : decode cX6_append 13 = .ok (.iload_n 2, 1) := by decide +kernel
theorem dX6_append_14 : decode cX6_append 14 = .ok (.invokestatic 84, 3) := by decide +kernel
theorem dX6_append_17 : decode cX6_append 17 = .ok (.ifCond .ne 7, 3) := by decide +kernel
theorem dX6_append_20 : decode cX6_append 20 = .ok (.iconst 2, 1) := by decide +kernel
theorem dX6_append_21 : decode cX6_append 21 = .ok (.goto 19, 3) := by decide +kernel
theorem dX6_append_24 : decode cX6_append 24 = .ok (.aload_n 0, 1) := by decide +kernel
theorem dX6_append_25 : decode cX6_append 25 = .ok (.getfield 13, 3) := by decide +kernel
theorem dX6_append_28 : decode cX6_append 28 = .ok (.iload_n 1, 1) := by decide +kernel
theorem dX6_append_29 : decode cX6_append 29 = .ok (.iaload, 1) := by decide +kernel
theorem dX6_append_30 : decode cX6_append 30 = .ok (.bipush 100, 2) := by decide +kernel
theorem dX6_append_32 : decode cX6_append 32 = .ok (.if_icmp .ne 7, 3) := by decide +kernel
theorem dX6_append_35 : decode cX6_append 35 = .ok (.iconst 3, 1) := by decide +kernel
theorem dX6_append_36 : decode cX6_append 36 = .ok (.goto 4, 3) := by decide +kernel
theorem dX6_append_39 : decode cX6_append 39 = .ok (.iconst 0, 1) := by decide +kernel
theorem dX6_append_40 : decode cX6_append 40 = .ok (.invokevirtual 87, 3) := by decide +kernel
theorem dX6_append_43 : decode cX6_append 43 = .ok (.ifCond .ne 5, 3) := by decide +kernel
theorem dX6_append_46 : decode cX6_append 46 = .ok (.iconst 0, 1) := by decide +kernel
theorem dX6_append_47 : decode cX6_append 47 = .ok (.ireturn, 1) := by decide +kernel
theorem dX6_append_48 : decode cX6_append 48 = .ok (.aload_n 0, 1) := by decide +kernel
theorem dX6_append_49 : decode cX6_append 49 = .ok (.getfield 7, 3) := by decide +kernel
theorem dX6_append_52 : decode cX6_append 52 = .ok (.bipush 100, 2) := by decide +kernel
theorem dX6_append_54 : decode cX6_append 54 = .ok (.iload_n 1, 1) := by decide +kernel
theorem dX6_append_55 : decode cX6_append 55 = .ok (.imul, 1) := by decide +kernel
theorem dX6_append_56 : decode cX6_append 56 = .ok (.aload_n 0, 1) := by decide +kernel
theorem dX6_append_57 : decode cX6_append 57 = .ok (.getfield 13, 3) := by decide +kernel
theorem dX6_append_60 : decode cX6_append 60 = .ok (.iload_n 1, 1) := by decide +kernel
theorem dX6_append_61 : decode cX6_append 61 = .ok (.iaload, 1) := by decide +kernel
theorem dX6_append_62 : decode cX6_append 62 = .ok (.iadd, 1) := by decide +kernel
theorem dX6_append_63 : decode cX6_append 63 = .ok (.iload_n 2, 1) := by decide +kernel
theorem dX6_append_64 : decode cX6_append 64 = .ok (.iastore, 1) := by decide +kernel
theorem dX6_append_65 : decode cX6_append 65 = .ok (.aload_n 0, 1) := by decide +kernel
theorem dX6_append_66 : decode cX6_append 66 = .ok (.getfield 13, 3) := by decide +kernel
theorem dX6_append_69 : decode cX6_append 69 = .ok (.iload_n 1, 1) := by decide +kernel
theorem dX6_append_70 : decode cX6_append 70 = .ok (.dup2, 1) := by decide +kernel
theorem dX6_append_71 : decode cX6_append 71 = .ok (.iaload, 1) := by decide +kernel
theorem dX6_append_72 : decode cX6_append 72 = .ok (.iconst 1, 1) := by decide +kernel
theorem dX6_append_73 : decode cX6_append 73 = .ok (.iadd, 1) := by decide +kernel
theorem dX6_append_74 : decode cX6_append 74 = .ok (.iastore, 1) := by decide +kernel
theorem dX6_append_75 : decode cX6_append 75 = .ok (.aload_n 0, 1) := by decide +kernel
theorem dX6_append_76 : decode cX6_append 76 = .ok (.getfield 13, 3) := by decide +kernel
theorem dX6_append_79 : decode cX6_append 79 = .ok (.iload_n 1, 1) := by decide +kernel
theorem dX6_append_80 : decode cX6_append 80 = .ok (.iaload, 1) := by decide +kernel
theorem dX6_append_81 : decode cX6_append 81 = .ok (.iconst 1, 1) := by decide +kernel
theorem dX6_append_82 : decode cX6_append 82 = .ok (.isub, 1) := by decide +kernel
theorem dX6_append_83 : decode cX6_append 83 = .ok (.ireturn, 1) := by decide +kernel
theorem dX6_appendRow_0 : decode cX6_appendRow 0 = .ok (.iload_n 2, 1) := by decide +kernel
theorem dX6_appendRow_1 : decode cX6_appendRow 1 = .ok (.invokestatic 84, 3) := by decide +kernel
theorem dX6_appendRow_4 : decode cX6_appendRow 4 = .ok (.ifCond .eq 28, 3) := by decide +kernel
theorem dX6_appendRow_7 : decode cX6_appendRow 7 = .ok (.iload_n 3, 1) := by decide +kernel
theorem dX6_appendRow_8 : decode cX6_appendRow 8 = .ok (.iconst 1, 1) := by decide +kernel
theorem dX6_appendRow_9 : decode cX6_appendRow 9 = .ok (.bipush 40, 2) := by decide +kernel
theorem dX6_appendRow_11 : decode cX6_appendRow 11 = .ok (.invokestatic 64, 3) := by decide +kernel
theorem dX6_appendRow_14 : decode cX6_appendRow 14 = .ok (.ifCond .eq 18, 3) := by decide +kernel
theorem dX6_appendRow_17 : decode cX6_appendRow 17 = .ok (.iload_n 2, 1) := by decide +kernel
theorem dX6_appendRow_18 : decode cX6_appendRow 18 = .ok (.iload_n 3, 1) := by decide +kernel
theorem dX6_appendRow_19 : decode cX6_appendRow 19 = .ok (.iadd, 1) := by decide +kernel
theorem dX6_appendRow_20 : decode cX6_appendRow 20 = .ok (.iconst 1, 1) := by decide +kernel
theorem dX6_appendRow_21 : decode cX6_appendRow 21 = .ok (.isub, 1) := by decide +kernel
theorem dX6_appendRow_22 : decode cX6_appendRow 22 = .ok (.invokestatic 84, 3) := by decide +kernel
theorem dX6_appendRow_25 : decode cX6_appendRow 25 = .ok (.ifCond .eq 7, 3) := by decide +kernel
theorem dX6_appendRow_28 : decode cX6_appendRow 28 = .ok (.iconst 1, 1) := by decide +kernel
theorem dX6_appendRow_29 : decode cX6_appendRow 29 = .ok (.goto 4, 3) := by decide +kernel
theorem dX6_appendRow_32 : decode cX6_appendRow 32 = .ok (.iconst 0, 1) := by decide +kernel
theorem dX6_appendRow_33 : decode cX6_appendRow 33 = .ok (.istore 4, 2) := by decide +kernel
theorem dX6_appendRow_35 : decode cX6_appendRow 35 = .ok (.aload_n 0, 1) := by decide +kernel
theorem dX6_appendRow_36 : decode cX6_appendRow 36 = .ok (.aload_n 0, 1) := by decide +kernel
theorem dX6_appendRow_37 : decode cX6_appendRow 37 = .ok (.iload_n 1, 1) := by decide +kernel
theorem dX6_appendRow_38 : decode cX6_appendRow 38 = .ok (.invokevirtual 80, 3) := by decide +kernel
theorem dX6_appendRow_41 : decode cX6_appendRow 41 = .ok (.ifCond .ne 7, 3) := by decide +kernel
theorem dX6_appendRow_44 : decode cX6_appendRow 44 = .ok (.iconst 1, 1) := by decide +kernel
theorem dX6_appendRow_45 : decode cX6_appendRow 45 = .ok (.goto 30, 3) := by decide +kernel
theorem dX6_appendRow_48 : decode cX6_appendRow 48 = .ok (.iload 4, 2) := by decide +kernel
theorem dX6_appendRow_50 : decode cX6_appendRow 50 = .ok (.ifCond .ne 7, 3) := by decide +kernel
theorem dX6_appendRow_53 : decode cX6_appendRow 53 = .ok (.iconst 2, 1) := by decide +kernel
theorem dX6_appendRow_54 : decode cX6_appendRow 54 = .ok (.goto 21, 3) := by decide +kernel
theorem dX6_appendRow_57 : decode cX6_appendRow 57 = .ok (.aload_n 0, 1) := by decide +kernel
theorem dX6_appendRow_58 : decode cX6_appendRow 58 = .ok (.getfield 13, 3) := by decide +kernel
theorem dX6_appendRow_61 : decode cX6_appendRow 61 = .ok (.iload_n 1, 1) := by decide +kernel
theorem dX6_appendRow_62 : decode cX6_appendRow 62 = .ok (.iaload, 1) := by decide +kernel
theorem dX6_appendRow_63 : decode cX6_appendRow 63 = .ok (.iload_n 3, 1) := by decide +kernel
theorem dX6_appendRow_64 : decode cX6_appendRow 64 = .ok (.iadd, 1) := by decide +kernel
theorem dX6_appendRow_65 : decode cX6_appendRow 65 = .ok (.bipush 100, 2) := by decide +kernel
theorem dX6_appendRow_67 : decode cX6_appendRow 67 = .ok (.if_icmp .le 7, 3) := by decide +kernel
theorem dX6_appendRow_70 : decode cX6_appendRow 70 = .ok (.iconst 3, 1) := by decide +kernel
theorem dX6_appendRow_71 : decode cX6_appendRow 71 = .ok (.goto 4, 3) := by decide +kernel
theorem dX6_appendRow_74 : decode cX6_appendRow 74 = .ok (.iconst 0, 1) := by decide +kernel
theorem dX6_appendRow_75 : decode cX6_appendRow 75 = .ok (.invokevirtual 87, 3) := by decide +kernel
theorem dX6_appendRow_78 : decode cX6_appendRow 78 = .ok (.ifCond .ne 5, 3) := by decide +kernel
theorem dX6_appendRow_81 : decode cX6_appendRow 81 = .ok (.iconst 0, 1) := by decide +kernel
theorem dX6_appendRow_82 : decode cX6_appendRow 82 = .ok (.ireturn, 1) := by decide +kernel
theorem dX6_appendRow_83 : decode cX6_appendRow 83 = .ok (.iconst 0, 1) := by decide +kernel
theorem dX6_appendRow_84 : decode cX6_appendRow 84 = .ok (.istore 5, 2) := by decide +kernel
theorem dX6_appendRow_86 : decode cX6_appendRow 86 = .ok (.iload 5, 2) := by decide +kernel
theorem dX6_appendRow_88 : decode cX6_appendRow 88 = .ok (.iload_n 3, 1) := by decide +kernel
theorem dX6_appendRow_89 : decode cX6_appendRow 89 = .ok (.if_icmp .ge 39, 3) := by decide +kernel
theorem dX6_appendRow_92 : decode cX6_appendRow 92 = .ok (.aload_n 0, 1) := by decide +kernel
theorem dX6_appendRow_93 : decode cX6_appendRow 93 = .ok (.getfield 7, 3) := by decide +kernel
theorem dX6_appendRow_96 : decode cX6_appendRow 96 = .ok (.bipush 100, 2) := by decide +kernel
theorem dX6_appendRow_98 : decode cX6_appendRow 98 = .ok (.iload_n 1, 1) := by decide +kernel
theorem dX6_appendRow_99 : decode cX6_appendRow 99 = .ok (.imul, 1) := by decide +kernel
theorem dX6_appendRow_100 : decode cX6_appendRow 100 = .ok (.aload_n 0, 1) := by decide +kernel
theorem dX6_appendRow_101 : decode cX6_appendRow 101 = .ok (.getfield 13, 3) := by decide +kernel
theorem dX6_appendRow_104 : decode cX6_appendRow 104 = .ok (.iload_n 1, 1) := by decide +kernel
theorem dX6_appendRow_105 : decode cX6_appendRow 105 = .ok (.iaload, 1) := by decide +kernel
theorem dX6_appendRow_106 : decode cX6_appendRow 106 = .ok (.iadd, 1) := by decide +kernel
theorem dX6_appendRow_107 : decode cX6_appendRow 107 = .ok (.iload_n 2, 1) := by decide +kernel
theorem dX6_appendRow_108 : decode cX6_appendRow 108 = .ok (.iload 5, 2) := by decide +kernel
theorem dX6_appendRow_110 : decode cX6_appendRow 110 = .ok (.iadd, 1) := by decide +kernel
theorem dX6_appendRow_111 : decode cX6_appendRow 111 = .ok (.iastore, 1) := by decide +kernel
theorem dX6_appendRow_112 : decode cX6_appendRow 112 = .ok (.aload_n 0, 1) := by decide +kernel
theorem dX6_appendRow_113 : decode cX6_appendRow 113 = .ok (.getfield 13, 3) := by decide +kernel
theorem dX6_appendRow_116 : decode cX6_appendRow 116 = .ok (.iload_n 1, 1) := by decide +kernel
theorem dX6_appendRow_117 : decode cX6_appendRow 117 = .ok (.dup2, 1) := by decide +kernel
theorem dX6_appendRow_118 : decode cX6_appendRow 118 = .ok (.iaload, 1) := by decide +kernel
theorem dX6_appendRow_119 : decode cX6_appendRow 119 = .ok (.iconst 1, 1) := by decide +kernel
theorem dX6_appendRow_120 : decode cX6_appendRow 120 = .ok (.iadd, 1) := by decide +kernel
theorem dX6_appendRow_121 : decode cX6_appendRow 121 = .ok (.iastore, 1) := by decide +kernel
theorem dX6_appendRow_122 : decode cX6_appendRow 122 = .ok (.iinc 5 1, 3) := by decide +kernel
theorem dX6_appendRow_125 : decode cX6_appendRow 125 = .ok (.goto (-39), 3) := by decide +kernel
theorem dX6_appendRow_128 : decode cX6_appendRow 128 = .ok (.aload_n 0, 1) := by decide +kernel
theorem dX6_appendRow_129 : decode cX6_appendRow 129 = .ok (.getfield 13, 3) := by decide +kernel
theorem dX6_appendRow_132 : decode cX6_appendRow 132 = .ok (.iload_n 1, 1) := by decide +kernel
theorem dX6_appendRow_133 : decode cX6_appendRow 133 = .ok (.iaload, 1) := by decide +kernel
theorem dX6_appendRow_134 : decode cX6_appendRow 134 = .ok (.ireturn, 1) := by decide +kernel
theorem dX6_fork_0 : decode cX6_fork 0 = .ok (.aload_n 0, 1) := by decide +kernel
theorem dX6_fork_1 : decode cX6_fork 1 = .ok (.aload_n 0, 1) := by decide +kernel
theorem dX6_fork_2 : decode cX6_fork 2 = .ok (.iload_n 1, 1) := by decide +kernel
theorem dX6_fork_3 : decode cX6_fork 3 = .ok (.invokevirtual 80, 3) := by decide +kernel
theorem dX6_fork_6 : decode cX6_fork 6 = .ok (.ifCond .ne 7, 3) := by decide +kernel
theorem dX6_fork_9 : decode cX6_fork 9 = .ok (.iconst 1, 1) := by decide +kernel
theorem dX6_fork_10 : decode cX6_fork 10 = .ok (.goto 34, 3) := by decide +kernel
theorem dX6_fork_13 : decode cX6_fork 13 = .ok (.iload_n 2, 1) := by decide +kernel
theorem dX6_fork_14 : decode cX6_fork 14 = .ok (.iconst 0, 1) := by decide +kernel
theorem dX6_fork_15 : decode cX6_fork 15 = .ok (.aload_n 0, 1) := by decide +kernel
theorem dX6_fork_16 : decode cX6_fork 16 = .ok (.getfield 13, 3) := by decide +kernel
theorem dX6_fork_19 : decode cX6_fork 19 = .ok (.iload_n 1, 1) := by decide +kernel
theorem dX6_fork_20 : decode cX6_fork 20 = .ok (.iaload, 1) := by decide +kernel
theorem dX6_fork_21 : decode cX6_fork 21 = .ok (.invokestatic 64, 3) := by decide +kernel
theorem dX6_fork_24 : decode cX6_fork 24 = .ok (.ifCond .ne 7, 3) := by decide +kernel
theorem dX6_fork_27 : decode cX6_fork 27 = .ok (.iconst 2, 1) := by decide +kernel
theorem dX6_fork_28 : decode cX6_fork 28 = .ok (.goto 16, 3) := by decide +kernel
theorem dX6_fork_31 : decode cX6_fork 31 = .ok (.aload_n 0, 1) := by decide +kernel
theorem dX6_fork_32 : decode cX6_fork 32 = .ok (.getfield 16, 3) := by decide +kernel
theorem dX6_fork_35 : decode cX6_fork 35 = .ok (.iconst 3, 1) := by decide +kernel
theorem dX6_fork_36 : decode cX6_fork 36 = .ok (.if_icmp .ne 7, 3) := by decide +kernel
theorem dX6_fork_39 : decode cX6_fork 39 = .ok (.iconst 3, 1) := by decide +kernel
theorem dX6_fork_40 : decode cX6_fork 40 = .ok (.goto 4, 3) := by decide +kernel
theorem dX6_fork_43 : decode cX6_fork 43 = .ok (.iconst 0, 1) := by decide +kernel
theorem dX6_fork_44 : decode cX6_fork 44 = .ok (.invokevirtual 87, 3) := by decide +kernel
theorem dX6_fork_47 : decode cX6_fork 47 = .ok (.ifCond .ne 5, 3) := by decide +kernel
theorem dX6_fork_50 : decode cX6_fork 50 = .ok (.iconst 0, 1) := by decide +kernel
theorem dX6_fork_51 : decode cX6_fork 51 = .ok (.ireturn, 1) := by decide +kernel
theorem dX6_fork_52 : decode cX6_fork 52 = .ok (.iconst 0, 1) := by decide +kernel
theorem dX6_fork_53 : decode cX6_fork 53 = .ok (.istore_n 3, 1) := by decide +kernel
theorem dX6_fork_54 : decode cX6_fork 54 = .ok (.iload_n 3, 1) := by decide +kernel
theorem dX6_fork_55 : decode cX6_fork 55 = .ok (.iload_n 2, 1) := by decide +kernel
theorem dX6_fork_56 : decode cX6_fork 56 = .ok (.if_icmp .ge 34, 3) := by decide +kernel
theorem dX6_fork_59 : decode cX6_fork 59 = .ok (.aload_n 0, 1) := by decide +kernel
theorem dX6_fork_60 : decode cX6_fork 60 = .ok (.getfield 7, 3) := by decide +kernel
theorem dX6_fork_63 : decode cX6_fork 63 = .ok (.bipush 100, 2) := by decide +kernel
theorem dX6_fork_65 : decode cX6_fork 65 = .ok (.aload_n 0, 1) := by decide +kernel
theorem dX6_fork_66 : decode cX6_fork 66 = .ok (.getfield 16, 3) := by decide +kernel
theorem dX6_fork_69 : decode cX6_fork 69 = .ok (.imul, 1) := by decide +kernel
theorem dX6_fork_70 : decode cX6_fork 70 = .ok (.iload_n 3, 1) := by decide +kernel
theorem dX6_fork_71 : decode cX6_fork 71 = .ok (.iadd, 1) := by decide +kernel
theorem dX6_fork_72 : decode cX6_fork 72 = .ok (.aload_n 0, 1) := by decide +kernel
theorem dX6_fork_73 : decode cX6_fork 73 = .ok (.getfield 7, 3) := by decide +kernel
theorem dX6_fork_76 : decode cX6_fork 76 = .ok (.bipush 100, 2) := by decide +kernel
theorem dX6_fork_78 : decode cX6_fork 78 = .ok (.iload_n 1, 1) := by decide +kernel
theorem dX6_fork_79 : decode cX6_fork 79 = .ok (.imul, 1) := by decide +kernel
theorem dX6_fork_80 : decode cX6_fork 80 = .ok (.iload_n 3, 1) := by decide +kernel
theorem dX6_fork_81 : decode cX6_fork 81 = .ok (.iadd, 1) := by decide +kernel
theorem dX6_fork_82 : decode cX6_fork 82 = .ok (.iaload, 1) := by decide +kernel
theorem dX6_fork_83 : decode cX6_fork 83 = .ok (.iastore, 1) := by decide +kernel
theorem dX6_fork_84 : decode cX6_fork 84 = .ok (.iinc 3 1, 3) := by decide +kernel
theorem dX6_fork_87 : decode cX6_fork 87 = .ok (.goto (-33), 3) := by decide +kernel
theorem dX6_fork_90 : decode cX6_fork 90 = .ok (.aload_n 0, 1) := by decide +kernel
theorem dX6_fork_91 : decode cX6_fork 91 = .ok (.getfield 13, 3) := by decide +kernel
theorem dX6_fork_94 : decode cX6_fork 94 = .ok (.aload_n 0, 1) := by decide +kernel
theorem dX6_fork_95 : decode cX6_fork 95 = .ok (.getfield 16, 3) := by decide +kernel
theorem dX6_fork_98 : decode cX6_fork 98 = .ok (.iload_n 2, 1) := by decide +kernel
theorem dX6_fork_99 : decode cX6_fork 99 = .ok (.iastore, 1) := by decide +kernel
theorem dX6_fork_100 : decode cX6_fork 100 = .ok (.aload_n 0, 1) := by decide +kernel
theorem dX6_fork_101 : decode cX6_fork 101 = .ok (.dup, 1) := by decide +kernel
theorem dX6_fork_102 : decode cX6_fork 102 = .ok (.getfield 16, 3) := by decide +kernel
theorem dX6_fork_105 : decode cX6_fork 105 = .ok (.iconst 1, 1) := by decide +kernel
theorem dX6_fork_106 : decode cX6_fork 106 = .ok (.iadd, 1) := by decide +kernel
theorem dX6_fork_107 : decode cX6_fork 107 = .ok (.putfield 16, 3) := by decide +kernel
theorem dX6_fork_110 : decode cX6_fork 110 = .ok (.aload_n 0, 1) := by decide +kernel
theorem dX6_fork_111 : decode cX6_fork 111 = .ok (.getfield 16, 3) := by decide +kernel
theorem dX6_fork_114 : decode cX6_fork 114 = .ok (.iconst 1, 1) := by decide +kernel
theorem dX6_fork_115 : decode cX6_fork 115 = .ok (.isub, 1) := by decide +kernel
theorem dX6_fork_116 : decode cX6_fork 116 = .ok (.ireturn, 1) := by decide +kernel
theorem dX6_views_0 : decode cX6_views 0 = .ok (.aload_n 0, 1) := by decide +kernel
theorem dX6_views_1 : decode cX6_views 1 = .ok (.iconst 0, 1) := by decide +kernel
theorem dX6_views_2 : decode cX6_views 2 = .ok (.putfield 60, 3) := by decide +kernel
theorem dX6_views_5 : decode cX6_views 5 = .ok (.aload_n 0, 1) := by decide +kernel
theorem dX6_views_6 : decode cX6_views 6 = .ok (.getfield 16, 3) := by decide +kernel
theorem dX6_views_9 : decode cX6_views 9 = .ok (.ireturn, 1) := by decide +kernel
theorem dX6_size_0 : decode cX6_size 0 = .ok (.aload_n 0, 1) := by decide +kernel
theorem dX6_size_1 : decode cX6_size 1 = .ok (.aload_n 0, 1) := by decide +kernel
theorem dX6_size_2 : decode cX6_size 2 = .ok (.iload_n 1, 1) := by decide +kernel
theorem dX6_size_3 : decode cX6_size 3 = .ok (.invokevirtual 80, 3) := by decide +kernel
theorem dX6_size_6 : decode cX6_size 6 = .ok (.ifCond .eq 7, 3) := by decide +kernel
theorem dX6_size_9 : decode cX6_size 9 = .ok (.iconst 0, 1) := by decide +kernel
theorem dX6_size_10 : decode cX6_size 10 = .ok (.goto 4, 3) := by decide +kernel
theorem dX6_size_13 : decode cX6_size 13 = .ok (.iconst 1, 1) := by decide +kernel
theorem dX6_size_14 : decode cX6_size 14 = .ok (.invokevirtual 87, 3) := by decide +kernel
theorem dX6_size_17 : decode cX6_size 17 = .ok (.ifCond .eq 12, 3) := by decide +kernel
theorem dX6_size_20 : decode cX6_size 20 = .ok (.aload_n 0, 1) := by decide +kernel
theorem dX6_size_21 : decode cX6_size 21 = .ok (.getfield 13, 3) := by decide +kernel
theorem dX6_size_24 : decode cX6_size 24 = .ok (.iload_n 1, 1) := by decide +kernel
theorem dX6_size_25 : decode cX6_size 25 = .ok (.iaload, 1) := by decide +kernel
theorem dX6_size_26 : decode cX6_size 26 = .ok (.goto 4, 3) := by decide +kernel
theorem dX6_size_29 : decode cX6_size 29 = .ok (.iconst 0, 1) := by decide +kernel
theorem dX6_size_30 : decode cX6_size 30 = .ok (.ireturn, 1) := by decide +kernel
theorem dX6_leaf_0 : decode cX6_leaf 0 = .ok (.aload_n 0, 1) := by decide +kernel
theorem dX6_leaf_1 : decode cX6_leaf 1 = .ok (.iload_n 1, 1) := by decide +kernel
theorem dX6_leaf_2 : decode cX6_leaf 2 = .ok (.invokevirtual 80, 3) := by decide +kernel
theorem dX6_leaf_5 : decode cX6_leaf 5 = .ok (.ifCond .eq 23, 3) := by decide +kernel
theorem dX6_leaf_8 : decode cX6_leaf 8 = .ok (.iload_n 2, 1) := by decide +kernel
theorem dX6_leaf_9 : decode cX6_leaf 9 = .ok (.iconst 0, 1) := by decide +kernel
theorem dX6_leaf_10 : decode cX6_leaf 10 = .ok (.aload_n 0, 1) := by decide +kernel
theorem dX6_leaf_11 : decode cX6_leaf 11 = .ok (.getfield 13, 3) := by decide +kernel
theorem dX6_leaf_14 : decode cX6_leaf 14 = .ok (.iload_n 1, 1) := by decide +kernel
theorem dX6_leaf_15 : decode cX6_leaf 15 = .ok (.iaload, 1) := by decide +kernel
theorem dX6_leaf_16 : decode cX6_leaf 16 = .ok (.iconst 1, 1) := by decide +kernel
theorem dX6_leaf_17 : decode cX6_leaf 17 = .ok (.isub, 1) := by decide +kernel
theorem dX6_leaf_18 : decode cX6_leaf 18 = .ok (.invokestatic 64, 3) := by decide +kernel
theorem dX6_leaf_21 : decode cX6_leaf 21 = .ok (.ifCond .eq 7, 3) := by decide +kernel
theorem dX6_leaf_24 : decode cX6_leaf 24 = .ok (.iconst 1, 1) := by decide +kernel
theorem dX6_leaf_25 : decode cX6_leaf 25 = .ok (.goto 4, 3) := by decide +kernel
theorem dX6_leaf_28 : decode cX6_leaf 28 = .ok (.iconst 0, 1) := by decide +kernel
theorem dX6_leaf_29 : decode cX6_leaf 29 = .ok (.istore_n 3, 1) := by decide +kernel
theorem dX6_leaf_30 : decode cX6_leaf 30 = .ok (.aload_n 0, 1) := by decide +kernel
theorem dX6_leaf_31 : decode cX6_leaf 31 = .ok (.iload_n 3, 1) := by decide +kernel
theorem dX6_leaf_32 : decode cX6_leaf 32 = .ok (.ifCond .eq 7, 3) := by decide +kernel
theorem dX6_leaf_35 : decode cX6_leaf 35 = .ok (.iconst 0, 1) := by decide +kernel
theorem dX6_leaf_36 : decode cX6_leaf 36 = .ok (.goto 4, 3) := by decide +kernel
theorem dX6_leaf_39 : decode cX6_leaf 39 = .ok (.iconst 1, 1) := by decide +kernel
theorem dX6_leaf_40 : decode cX6_leaf 40 = .ok (.invokevirtual 87, 3) := by decide +kernel
theorem dX6_leaf_43 : decode cX6_leaf 43 = .ok (.ifCond .eq 17, 3) := by decide +kernel
theorem dX6_leaf_46 : decode cX6_leaf 46 = .ok (.aload_n 0, 1) := by decide +kernel
theorem dX6_leaf_47 : decode cX6_leaf 47 = .ok (.getfield 7, 3) := by decide +kernel
theorem dX6_leaf_50 : decode cX6_leaf 50 = .ok (.bipush 100, 2) := by decide +kernel
theorem dX6_leaf_52 : decode cX6_leaf 52 = .ok (.iload_n 1, 1) := by decide +kernel
theorem dX6_leaf_53 : decode cX6_leaf 53 = .ok (.imul, 1) := by decide +kernel
theorem dX6_leaf_54 : decode cX6_leaf 54 = .ok (.iload_n 2, 1) := by decide +kernel
theorem dX6_leaf_55 : decode cX6_leaf 55 = .ok (.iadd, 1) := by decide +kernel
theorem dX6_leaf_56 : decode cX6_leaf 56 = .ok (.iaload, 1) := by decide +kernel
theorem dX6_leaf_57 : decode cX6_leaf 57 = .ok (.goto 4, 3) := by decide +kernel
theorem dX6_leaf_60 : decode cX6_leaf 60 = .ok (.iconst 0, 1) := by decide +kernel
theorem dX6_leaf_61 : decode cX6_leaf 61 = .ok (.ireturn, 1) := by decide +kernel
theorem dX6_rootOf_0 : decode cX6_rootOf 0 = .ok (.iconst 0, 1) := by decide +kernel
theorem dX6_rootOf_1 : decode cX6_rootOf 1 = .ok (.istore 4, 2) := by decide +kernel
theorem dX6_rootOf_3 : decode cX6_rootOf 3 = .ok (.iconst 0, 1) := by decide +kernel
theorem dX6_rootOf_4 : decode cX6_rootOf 4 = .ok (.istore 5, 2) := by decide +kernel
theorem dX6_rootOf_6 : decode cX6_rootOf 6 = .ok (.iload 5, 2) := by decide +kernel
theorem dX6_rootOf_8 : decode cX6_rootOf 8 = .ok (.iload_n 3, 1) := by decide +kernel
theorem dX6_rootOf_9 : decode cX6_rootOf 9 = .ok (.if_icmp .ge 118, 3) := by decide +kernel
theorem dX6_rootOf_12 : decode cX6_rootOf 12 = .ok (.aload_n 0, 1) := by decide +kernel
theorem dX6_rootOf_13 : decode cX6_rootOf 13 = .ok (.getfield 20, 3) := by decide +kernel
theorem dX6_rootOf_16 : decode cX6_rootOf 16 = .ok (.iload 4, 2) := by decide +kernel
theorem dX6_rootOf_18 : decode cX6_rootOf 18 = .ok (.aload_n 0, 1) := by decide +kernel
theorem dX6_rootOf_19 : decode cX6_rootOf 19 = .ok (.getfield 7, 3) := by decide +kernel
theorem dX6_rootOf_22 : decode cX6_rootOf 22 = .ok (.bipush 100, 2) := by decide +kernel
theorem dX6_rootOf_24 : decode cX6_rootOf 24 = .ok (.iload_n 1, 1) := by decide +kernel
theorem dX6_rootOf_25 : decode cX6_rootOf 25 = .ok (.imul, 1) := by decide +kernel
theorem dX6_rootOf_26 : decode cX6_rootOf 26 = .ok (.iload_n 2, 1) := by decide +kernel
theorem dX6_rootOf_27 : decode cX6_rootOf 27 = .ok (.iadd, 1) := by decide +kernel
theorem dX6_rootOf_28 : decode cX6_rootOf 28 = .ok (.iload 5, 2) := by decide +kernel
theorem dX6_rootOf_30 : decode cX6_rootOf 30 = .ok (.iadd, 1) := by decide +kernel
theorem dX6_rootOf_31 : decode cX6_rootOf 31 = .ok (.iaload, 1) := by decide +kernel
theorem dX6_rootOf_32 : decode cX6_rootOf 32 = .ok (.invokestatic 90, 3) := by decide +kernel
theorem dX6_rootOf_35 : decode cX6_rootOf 35 = .ok (.iastore, 1) := by decide +kernel
theorem dX6_rootOf_36 : decode cX6_rootOf 36 = .ok (.aload_n 0, 1) := by decide +kernel
theorem dX6_rootOf_37 : decode cX6_rootOf 37 = .ok (.getfield 23, 3) := by decide +kernel
theorem dX6_rootOf_40 : decode cX6_rootOf 40 = .ok (.iload 4, 2) := by decide +kernel
theorem dX6_rootOf_42 : decode cX6_rootOf 42 = .ok (.iconst 1, 1) := by decide +kernel
theorem dX6_rootOf_43 : decode cX6_rootOf 43 = .ok (.iastore, 1) := by decide +kernel
theorem dX6_rootOf_44 : decode cX6_rootOf 44 = .ok (.iinc 4 1, 3) := by decide +kernel
theorem dX6_rootOf_47 : decode cX6_rootOf 47 = .ok (.iload 4, 2) := by decide +kernel
theorem dX6_rootOf_49 : decode cX6_rootOf 49 = .ok (.iconst 1, 1) := by decide +kernel
theorem dX6_rootOf_50 : decode cX6_rootOf 50 = .ok (.if_icmp .le 71, 3) := by decide +kernel
theorem dX6_rootOf_53 : decode cX6_rootOf 53 = .ok (.aload_n 0, 1) := by decide +kernel
theorem dX6_rootOf_54 : decode cX6_rootOf 54 = .ok (.getfield 23, 3) := by decide +kernel
theorem dX6_rootOf_57 : decode cX6_rootOf 57 = .ok (.iload 4, 2) := by decide +kernel
theorem dX6_rootOf_59 : decode cX6_rootOf 59 = .ok (.iconst 1, 1) := by decide +kernel
theorem dX6_rootOf_60 : decode cX6_rootOf 60 = .ok (.isub, 1) := by decide +kernel
theorem dX6_rootOf_61 : decode cX6_rootOf 61 = .ok (.iaload, 1) := by decide +kernel
theorem dX6_rootOf_62 : decode cX6_rootOf 62 = .ok (.aload_n 0, 1) := by decide +kernel
theorem dX6_rootOf_63 : decode cX6_rootOf 63 = .ok (.getfield 23, 3) := by decide +kernel
theorem dX6_rootOf_66 : decode cX6_rootOf 66 = .ok (.iload 4, 2) := by decide +kernel
theorem dX6_rootOf_68 : decode cX6_rootOf 68 = .ok (.iconst 2, 1) := by decide +kernel
theorem dX6_rootOf_69 : decode cX6_rootOf 69 = .ok (.isub, 1) := by decide +kernel
theorem dX6_rootOf_70 : decode cX6_rootOf 70 = .ok (.iaload, 1) := by decide +kernel
theorem dX6_rootOf_71 : decode cX6_rootOf 71 = .ok (.if_icmp .ne 50, 3) := by decide +kernel
theorem dX6_rootOf_74 : decode cX6_rootOf 74 = .ok (.iinc 4 (-1), 3) := by decide +kernel
theorem dX6_rootOf_77 : decode cX6_rootOf 77 = .ok (.aload_n 0, 1) := by decide +kernel
theorem dX6_rootOf_78 : decode cX6_rootOf 78 = .ok (.getfield 20, 3) := by decide +kernel
theorem dX6_rootOf_81 : decode cX6_rootOf 81 = .ok (.iload 4, 2) := by decide +kernel
theorem dX6_rootOf_83 : decode cX6_rootOf 83 = .ok (.iconst 1, 1) := by decide +kernel
theorem dX6_rootOf_84 : decode cX6_rootOf 84 = .ok (.isub, 1) := by decide +kernel
theorem dX6_rootOf_85 : decode cX6_rootOf 85 = .ok (.aload_n 0, 1) := by decide +kernel
theorem dX6_rootOf_86 : decode cX6_rootOf 86 = .ok (.getfield 20, 3) := by decide +kernel
theorem dX6_rootOf_89 : decode cX6_rootOf 89 = .ok (.iload 4, 2) := by decide +kernel
theorem dX6_rootOf_91 : decode cX6_rootOf 91 = .ok (.iconst 1, 1) := by decide +kernel
theorem dX6_rootOf_92 : decode cX6_rootOf 92 = .ok (.isub, 1) := by decide +kernel
theorem dX6_rootOf_93 : decode cX6_rootOf 93 = .ok (.iaload, 1) := by decide +kernel
theorem dX6_rootOf_94 : decode cX6_rootOf 94 = .ok (.aload_n 0, 1) := by decide +kernel
theorem dX6_rootOf_95 : decode cX6_rootOf 95 = .ok (.getfield 20, 3) := by decide +kernel
theorem dX6_rootOf_98 : decode cX6_rootOf 98 = .ok (.iload 4, 2) := by decide +kernel
theorem dX6_rootOf_100 : decode cX6_rootOf 100 = .ok (.iaload, 1) := by decide +kernel
theorem dX6_rootOf_101 : decode cX6_rootOf 101 = .ok (.invokestatic 94, 3) := by decide +kernel
theorem dX6_rootOf_104 : decode cX6_rootOf 104 = .ok (.iastore, 1) := by decide +kernel
theorem dX6_rootOf_105 : decode cX6_rootOf 105 = .ok (.aload_n 0, 1) := by decide +kernel
theorem dX6_rootOf_106 : decode cX6_rootOf 106 = .ok (.getfield 23, 3) := by decide +kernel
theorem dX6_rootOf_109 : decode cX6_rootOf 109 = .ok (.iload 4, 2) := by decide +kernel
theorem dX6_rootOf_111 : decode cX6_rootOf 111 = .ok (.iconst 1, 1) := by decide +kernel
theorem dX6_rootOf_112 : decode cX6_rootOf 112 = .ok (.isub, 1) := by decide +kernel
theorem dX6_rootOf_113 : decode cX6_rootOf 113 = .ok (.dup2, 1) := by decide +kernel
theorem dX6_rootOf_114 : decode cX6_rootOf 114 = .ok (.iaload, 1) := by decide +kernel
theorem dX6_rootOf_115 : decode cX6_rootOf 115 = .ok (.iconst 2, 1) := by decide +kernel
theorem dX6_rootOf_116 : decode cX6_rootOf 116 = .ok (.imul, 1) := by decide +kernel
theorem dX6_rootOf_117 : decode cX6_rootOf 117 = .ok (.iastore, 1) := by decide +kernel
theorem dX6_rootOf_118 : decode cX6_rootOf 118 = .ok (.goto (-71), 3) := by decide +kernel
theorem dX6_rootOf_121 : decode cX6_rootOf 121 = .ok (.iinc 5 1, 3) := by decide +kernel
theorem dX6_rootOf_124 : decode cX6_rootOf 124 = .ok (.goto (-118), 3) := by decide +kernel
theorem dX6_rootOf_127 : decode cX6_rootOf 127 = .ok (.iload 4, 2) := by decide +kernel
theorem dX6_rootOf_129 : decode cX6_rootOf 129 = .ok (.ifCond .ne 7, 3) := by decide +kernel
theorem dX6_rootOf_132 : decode cX6_rootOf 132 = .ok (.iconst 0, 1) := by decide +kernel
theorem dX6_rootOf_133 : decode cX6_rootOf 133 = .ok (.goto 12, 3) := by decide +kernel
theorem dX6_rootOf_136 : decode cX6_rootOf 136 = .ok (.aload_n 0, 1) := by decide +kernel
theorem dX6_rootOf_137 : decode cX6_rootOf 137 = .ok (.getfield 20, 3) := by decide +kernel
theorem dX6_rootOf_140 : decode cX6_rootOf 140 = .ok (.iload 4, 2) := by decide +kernel
theorem dX6_rootOf_142 : decode cX6_rootOf 142 = .ok (.iconst 1, 1) := by decide +kernel
theorem dX6_rootOf_143 : decode cX6_rootOf 143 = .ok (.isub, 1) := by decide +kernel
theorem dX6_rootOf_144 : decode cX6_rootOf 144 = .ok (.iaload, 1) := by decide +kernel
theorem dX6_rootOf_145 : decode cX6_rootOf 145 = .ok (.istore 5, 2) := by decide +kernel
theorem dX6_rootOf_147 : decode cX6_rootOf 147 = .ok (.iload 4, 2) := by decide +kernel
theorem dX6_rootOf_149 : decode cX6_rootOf 149 = .ok (.iconst 2, 1) := by decide +kernel
theorem dX6_rootOf_150 : decode cX6_rootOf 150 = .ok (.isub, 1) := by decide +kernel
theorem dX6_rootOf_151 : decode cX6_rootOf 151 = .ok (.istore 6, 2) := by decide +kernel
theorem dX6_rootOf_153 : decode cX6_rootOf 153 = .ok (.iload 6, 2) := by decide +kernel
theorem dX6_rootOf_155 : decode cX6_rootOf 155 = .ok (.ifCond .lt 23, 3) := by decide +kernel
theorem dX6_rootOf_158 : decode cX6_rootOf 158 = .ok (.aload_n 0, 1) := by decide +kernel
theorem dX6_rootOf_159 : decode cX6_rootOf 159 = .ok (.getfield 20, 3) := by decide +kernel
theorem dX6_rootOf_162 : decode cX6_rootOf 162 = .ok (.iload 6, 2) := by decide +kernel
theorem dX6_rootOf_164 : decode cX6_rootOf 164 = .ok (.iaload, 1) := by decide +kernel
theorem dX6_rootOf_165 : decode cX6_rootOf 165 = .ok (.iload 5, 2) := by decide +kernel
theorem dX6_rootOf_167 : decode cX6_rootOf 167 = .ok (.invokestatic 94, 3) := by decide +kernel
theorem dX6_rootOf_170 : decode cX6_rootOf 170 = .ok (.istore 5, 2) := by decide +kernel
theorem dX6_rootOf_172 : decode cX6_rootOf 172 = .ok (.iinc 6 (-1), 3) := by decide +kernel
theorem dX6_rootOf_175 : decode cX6_rootOf 175 = .ok (.goto (-22), 3) := by decide +kernel
theorem dX6_rootOf_178 : decode cX6_rootOf 178 = .ok (.iload 5, 2) := by decide +kernel
theorem dX6_rootOf_180 : decode cX6_rootOf 180 = .ok (.ireturn, 1) := by decide +kernel
theorem dX6_root_0 : decode cX6_root 0 = .ok (.aload_n 0, 1) := by decide +kernel
theorem dX6_root_1 : decode cX6_root 1 = .ok (.iload_n 1, 1) := by decide +kernel
theorem dX6_root_2 : decode cX6_root 2 = .ok (.iload_n 2, 1) := by decide +kernel
theorem dX6_root_3 : decode cX6_root 3 = .ok (.invokevirtual 98, 3) := by decide +kernel
theorem dX6_root_6 : decode cX6_root 6 = .ok (.ireturn, 1) := by decide +kernel
theorem dX6_rootAnew_0 : decode cX6_rootAnew 0 = .ok (.aload_n 0, 1) := by decide +kernel
theorem dX6_rootAnew_1 : decode cX6_rootAnew 1 = .ok (.iload_n 1, 1) := by decide +kernel
theorem dX6_rootAnew_2 : decode cX6_rootAnew 2 = .ok (.invokevirtual 80, 3) := by decide +kernel
theorem dX6_rootAnew_5 : decode cX6_rootAnew 5 = .ok (.ifCond .eq 21, 3) := by decide +kernel
theorem dX6_rootAnew_8 : decode cX6_rootAnew 8 = .ok (.iload_n 2, 1) := by decide +kernel
theorem dX6_rootAnew_9 : decode cX6_rootAnew 9 = .ok (.iconst 0, 1) := by decide +kernel
theorem dX6_rootAnew_10 : decode cX6_rootAnew 10 = .ok (.aload_n 0, 1) := by decide +kernel
theorem dX6_rootAnew_11 : decode cX6_rootAnew 11 = .ok (.getfield 13, 3) := by decide +kernel
theorem dX6_rootAnew_14 : decode cX6_rootAnew 14 = .ok (.iload_n 1, 1) := by decide +kernel
theorem dX6_rootAnew_15 : decode cX6_rootAnew 15 = .ok (.iaload, 1) := by decide +kernel
theorem dX6_rootAnew_16 : decode cX6_rootAnew 16 = .ok (.invokestatic 64, 3) := by decide +kernel
theorem dX6_rootAnew_19 : decode cX6_rootAnew 19 = .ok (.ifCond .eq 7, 3) := by decide +kernel
theorem dX6_rootAnew_22 : decode cX6_rootAnew 22 = .ok (.iconst 1, 1) := by decide +kernel
theorem dX6_rootAnew_23 : decode cX6_rootAnew 23 = .ok (.goto 4, 3) := by decide +kernel
theorem dX6_rootAnew_26 : decode cX6_rootAnew 26 = .ok (.iconst 0, 1) := by decide +kernel
theorem dX6_rootAnew_27 : decode cX6_rootAnew 27 = .ok (.istore_n 3, 1) := by decide +kernel
theorem dX6_rootAnew_28 : decode cX6_rootAnew 28 = .ok (.aload_n 0, 1) := by decide +kernel
theorem dX6_rootAnew_29 : decode cX6_rootAnew 29 = .ok (.aload_n 0, 1) := by decide +kernel
theorem dX6_rootAnew_30 : decode cX6_rootAnew 30 = .ok (.iload_n 1, 1) := by decide +kernel
theorem dX6_rootAnew_31 : decode cX6_rootAnew 31 = .ok (.invokevirtual 80, 3) := by decide +kernel
theorem dX6_rootAnew_34 : decode cX6_rootAnew 34 = .ok (.ifCond .ne 7, 3) := by decide +kernel
theorem dX6_rootAnew_37 : decode cX6_rootAnew 37 = .ok (.iconst 1, 1) := by decide +kernel
theorem dX6_rootAnew_38 : decode cX6_rootAnew 38 = .ok (.goto 12, 3) := by decide +kernel
theorem dX6_rootAnew_41 : decode cX6_rootAnew 41 = .ok (.iload_n 3, 1) := by decide +kernel
theorem dX6_rootAnew_42 : decode cX6_rootAnew 42 = .ok (.ifCond .eq 7, 3) := by decide +kernel
theorem dX6_rootAnew_45 : decode cX6_rootAnew 45 = .ok (.iconst 0, 1) := by decide +kernel
theorem dX6_rootAnew_46 : decode cX6_rootAnew 46 = .ok (.goto 4, 3) := by decide +kernel
theorem dX6_rootAnew_49 : decode cX6_rootAnew 49 = .ok (.iconst 2, 1) := by decide +kernel
theorem dX6_rootAnew_50 : decode cX6_rootAnew 50 = .ok (.invokevirtual 87, 3) := by decide +kernel
theorem dX6_rootAnew_53 : decode cX6_rootAnew 53 = .ok (.ifCond .eq 13, 3) := by decide +kernel
theorem dX6_rootAnew_56 : decode cX6_rootAnew 56 = .ok (.aload_n 0, 1) := by decide +kernel
theorem dX6_rootAnew_57 : decode cX6_rootAnew 57 = .ok (.iload_n 1, 1) := by decide +kernel
theorem dX6_rootAnew_58 : decode cX6_rootAnew 58 = .ok (.iconst 0, 1) := by decide +kernel
theorem dX6_rootAnew_59 : decode cX6_rootAnew 59 = .ok (.iload_n 2, 1) := by decide +kernel
theorem dX6_rootAnew_60 : decode cX6_rootAnew 60 = .ok (.invokevirtual 101, 3) := by decide +kernel
theorem dX6_rootAnew_63 : decode cX6_rootAnew 63 = .ok (.goto 4, 3) := by decide +kernel
theorem dX6_rootAnew_66 : decode cX6_rootAnew 66 = .ok (.iconst 0, 1) := by decide +kernel
theorem dX6_rootAnew_67 : decode cX6_rootAnew 67 = .ok (.ireturn, 1) := by decide +kernel
theorem dX6_split_0 : decode cX6_split 0 = .ok (.iconst 1, 1) := by decide +kernel
theorem dX6_split_1 : decode cX6_split 1 = .ok (.istore_n 1, 1) := by decide +kernel
theorem dX6_split_2 : decode cX6_split 2 = .ok (.iconst 2, 1) := by decide +kernel
theorem dX6_split_3 : decode cX6_split 3 = .ok (.iload_n 1, 1) := by decide +kernel
theorem dX6_split_4 : decode cX6_split 4 = .ok (.imul, 1) := by decide +kernel
theorem dX6_split_5 : decode cX6_split 5 = .ok (.iload_n 0, 1) := by decide +kernel
theorem dX6_split_6 : decode cX6_split 6 = .ok (.if_icmp .ge 10, 3) := by decide +kernel
theorem dX6_split_9 : decode cX6_split 9 = .ok (.iload_n 1, 1) := by decide +kernel
theorem dX6_split_10 : decode cX6_split 10 = .ok (.iconst 2, 1) := by decide +kernel
theorem dX6_split_11 : decode cX6_split 11 = .ok (.imul, 1) := by decide +kernel
theorem dX6_split_12 : decode cX6_split 12 = .ok (.istore_n 1, 1) := by decide +kernel
theorem dX6_split_13 : decode cX6_split 13 = .ok (.goto (-11), 3) := by decide +kernel
theorem dX6_split_16 : decode cX6_split 16 = .ok (.iload_n 1, 1) := by decide +kernel
theorem dX6_split_17 : decode cX6_split 17 = .ok (.ireturn, 1) := by decide +kernel
theorem dX6_step_0 : decode cX6_step 0 = .ok (.iload_n 3, 1) := by decide +kernel
theorem dX6_step_1 : decode cX6_step 1 = .ok (.invokestatic 105, 3) := by decide +kernel
theorem dX6_step_4 : decode cX6_step 4 = .ok (.istore 5, 2) := by decide +kernel
theorem dX6_step_6 : decode cX6_step 6 = .ok (.aload_n 0, 1) := by decide +kernel
theorem dX6_step_7 : decode cX6_step 7 = .ok (.getfield 29, 3) := by decide +kernel
theorem dX6_step_10 : decode cX6_step 10 = .ok (.aload_n 0, 1) := by decide +kernel
theorem dX6_step_11 : decode cX6_step 11 = .ok (.getfield 108, 3) := by decide +kernel
theorem dX6_step_14 : decode cX6_step 14 = .ok (.iload 4, 2) := by decide +kernel
theorem dX6_step_16 : decode cX6_step 16 = .ok (.ifCond .eq 19, 3) := by decide +kernel
theorem dX6_step_19 : decode cX6_step 19 = .ok (.aload_n 0, 1) := by decide +kernel
theorem dX6_step_20 : decode cX6_step 20 = .ok (.iload_n 1, 1) := by decide +kernel
theorem dX6_step_21 : decode cX6_step 21 = .ok (.iload_n 2, 1) := by decide +kernel
theorem dX6_step_22 : decode cX6_step 22 = .ok (.iload 5, 2) := by decide +kernel
theorem dX6_step_24 : decode cX6_step 24 = .ok (.iadd, 1) := by decide +kernel
theorem dX6_step_25 : decode cX6_step 25 = .ok (.iload_n 3, 1) := by decide +kernel
theorem dX6_step_26 : decode cX6_step 26 = .ok (.iload 5, 2) := by decide +kernel
theorem dX6_step_28 : decode cX6_step 28 = .ok (.isub, 1) := by decide +kernel
theorem dX6_step_29 : decode cX6_step 29 = .ok (.invokevirtual 101, 3) := by decide +kernel
theorem dX6_step_32 : decode cX6_step 32 = .ok (.goto 11, 3) := by decide +kernel
theorem dX6_step_35 : decode cX6_step 35 = .ok (.aload_n 0, 1) := by decide +kernel
theorem dX6_step_36 : decode cX6_step 36 = .ok (.iload_n 1, 1) := by decide +kernel
theorem dX6_step_37 : decode cX6_step 37 = .ok (.iload_n 2, 1) := by decide +kernel
theorem dX6_step_38 : decode cX6_step 38 = .ok (.iload 5, 2) := by decide +kernel
theorem dX6_step_40 : decode cX6_step 40 = .ok (.invokevirtual 101, 3) := by decide +kernel
theorem dX6_step_43 : decode cX6_step 43 = .ok (.iastore, 1) := by decide +kernel
theorem dX6_step_44 : decode cX6_step 44 = .ok (.aload_n 0, 1) := by decide +kernel
theorem dX6_step_45 : decode cX6_step 45 = .ok (.getfield 32, 3) := by decide +kernel
theorem dX6_step_48 : decode cX6_step 48 = .ok (.aload_n 0, 1) := by decide +kernel
theorem dX6_step_49 : decode cX6_step 49 = .ok (.getfield 108, 3) := by decide +kernel
theorem dX6_step_52 : decode cX6_step 52 = .ok (.iload 4, 2) := by decide +kernel
theorem dX6_step_54 : decode cX6_step 54 = .ok (.bastore, 1) := by decide +kernel
theorem dX6_step_55 : decode cX6_step 55 = .ok (.aload_n 0, 1) := by decide +kernel
theorem dX6_step_56 : decode cX6_step 56 = .ok (.dup, 1) := by decide +kernel
theorem dX6_step_57 : decode cX6_step 57 = .ok (.getfield 108, 3) := by decide +kernel
theorem dX6_step_60 : decode cX6_step 60 = .ok (.iconst 1, 1) := by decide +kernel
theorem dX6_step_61 : decode cX6_step 61 = .ok (.iadd, 1) := by decide +kernel
theorem dX6_step_62 : decode cX6_step 62 = .ok (.putfield 108, 3) := by decide +kernel
theorem dX6_step_65 : decode cX6_step 65 = .ok (.return_, 1) := by decide +kernel
theorem dX6_goToLeaf_0 : decode cX6_goToLeaf 0 = .ok (.aload_n 0, 1) := by decide +kernel
theorem dX6_goToLeaf_1 : decode cX6_goToLeaf 1 = .ok (.iconst 0, 1) := by decide +kernel
theorem dX6_goToLeaf_2 : decode cX6_goToLeaf 2 = .ok (.putfield 108, 3) := by decide +kernel
theorem dX6_goToLeaf_5 : decode cX6_goToLeaf 5 = .ok (.iconst 0, 1) := by decide +kernel
theorem dX6_goToLeaf_6 : decode cX6_goToLeaf 6 = .ok (.istore 4, 2) := by decide +kernel
theorem dX6_goToLeaf_8 : decode cX6_goToLeaf 8 = .ok (.iload_n 3, 1) := by decide +kernel
theorem dX6_goToLeaf_9 : decode cX6_goToLeaf 9 = .ok (.istore 5, 2) := by decide +kernel
theorem dX6_goToLeaf_11 : decode cX6_goToLeaf 11 = .ok (.iload 5, 2) := by decide +kernel
theorem dX6_goToLeaf_13 : decode cX6_goToLeaf 13 = .ok (.iconst 1, 1) := by decide +kernel
theorem dX6_goToLeaf_14 : decode cX6_goToLeaf 14 = .ok (.if_icmp .le 73, 3) := by decide +kernel
theorem dX6_goToLeaf_17 : decode cX6_goToLeaf 17 = .ok (.iload 5, 2) := by decide +kernel
theorem dX6_goToLeaf_19 : decode cX6_goToLeaf 19 = .ok (.invokestatic 105, 3) := by decide +kernel
theorem dX6_goToLeaf_22 : decode cX6_goToLeaf 22 = .ok (.istore 6, 2) := by decide +kernel
theorem dX6_goToLeaf_24 : decode cX6_goToLeaf 24 = .ok (.iload_n 2, 1) := by decide +kernel
theorem dX6_goToLeaf_25 : decode cX6_goToLeaf 25 = .ok (.iload 4, 2) := by decide +kernel
theorem dX6_goToLeaf_27 : decode cX6_goToLeaf 27 = .ok (.iload 6, 2) := by decide +kernel
theorem dX6_goToLeaf_29 : decode cX6_goToLeaf 29 = .ok (.iadd, 1) := by decide +kernel
theorem dX6_goToLeaf_30 : decode cX6_goToLeaf 30 = .ok (.if_icmp .ge 7, 3) := by decide +kernel
theorem dX6_goToLeaf_33 : decode cX6_goToLeaf 33 = .ok (.iconst 1, 1) := by decide +kernel
theorem dX6_goToLeaf_34 : decode cX6_goToLeaf 34 = .ok (.goto 4, 3) := by decide +kernel
theorem dX6_goToLeaf_37 : decode cX6_goToLeaf 37 = .ok (.iconst 0, 1) := by decide +kernel
theorem dX6_goToLeaf_38 : decode cX6_goToLeaf 38 = .ok (.istore 7, 2) := by decide +kernel
theorem dX6_goToLeaf_40 : decode cX6_goToLeaf 40 = .ok (.aload_n 0, 1) := by decide +kernel
theorem dX6_goToLeaf_41 : decode cX6_goToLeaf 41 = .ok (.iload_n 1, 1) := by decide +kernel
theorem dX6_goToLeaf_42 : decode cX6_goToLeaf 42 = .ok (.iload 4, 2) := by decide +kernel
theorem dX6_goToLeaf_44 : decode cX6_goToLeaf 44 = .ok (.iload 5, 2) := by decide +kernel
theorem dX6_goToLeaf_46 : decode cX6_goToLeaf 46 = .ok (.iload 7, 2) := by decide +kernel
theorem dX6_goToLeaf_48 : decode cX6_goToLeaf 48 = .ok (.invokevirtual 111, 3) := by decide +kernel
theorem dX6_goToLeaf_51 : decode cX6_goToLeaf 51 = .ok (.iload 4, 2) := by decide +kernel
theorem dX6_goToLeaf_53 : decode cX6_goToLeaf 53 = .ok (.iload 7, 2) := by decide +kernel
theorem dX6_goToLeaf_55 : decode cX6_goToLeaf 55 = .ok (.ifCond .eq 7, 3) := by decide +kernel
theorem dX6_goToLeaf_58 : decode cX6_goToLeaf 58 = .ok (.iconst 0, 1) := by decide +kernel
theorem dX6_goToLeaf_59 : decode cX6_goToLeaf 59 = .ok (.goto 5, 3) := by decide +kernel
theorem dX6_goToLeaf_62 : decode cX6_goToLeaf 62 = .ok (.iload 6, 2) := by decide +kernel
theorem dX6_goToLeaf_64 : decode cX6_goToLeaf 64 = .ok (.iadd, 1) := by decide +kernel
theorem dX6_goToLeaf_65 : decode cX6_goToLeaf 65 = .ok (.istore 4, 2) := by decide +kernel
theorem dX6_goToLeaf_67 : decode cX6_goToLeaf 67 = .ok (.iload 7, 2) := by decide +kernel
theorem dX6_goToLeaf_69 : decode cX6_goToLeaf 69 = .ok (.ifCond .eq 8, 3) := by decide +kernel
theorem dX6_goToLeaf_72 : decode cX6_goToLeaf 72 = .ok (.iload 6, 2) := by decide +kernel
theorem dX6_goToLeaf_74 : decode cX6_goToLeaf 74 = .ok (.goto 8, 3) := by decide +kernel
theorem dX6_goToLeaf_77 : decode cX6_goToLeaf 77 = .ok (.iload 5, 2) := by decide +kernel
theorem dX6_goToLeaf_79 : decode cX6_goToLeaf 79 = .ok (.iload 6, 2) := by decide +kernel
theorem dX6_goToLeaf_81 : decode cX6_goToLeaf 81 = .ok (.isub, 1) := by decide +kernel
theorem dX6_goToLeaf_82 : decode cX6_goToLeaf 82 = .ok (.istore 5, 2) := by decide +kernel
theorem dX6_goToLeaf_84 : decode cX6_goToLeaf 84 = .ok (.goto (-73), 3) := by decide +kernel
theorem dX6_goToLeaf_87 : decode cX6_goToLeaf 87 = .ok (.return_, 1) := by decide +kernel
theorem dX6_goToPart_0 : decode cX6_goToPart 0 = .ok (.aload_n 0, 1) := by decide +kernel
theorem dX6_goToPart_1 : decode cX6_goToPart 1 = .ok (.iconst 0, 1) := by decide +kernel
theorem dX6_goToPart_2 : decode cX6_goToPart 2 = .ok (.putfield 108, 3) := by decide +kernel
theorem dX6_goToPart_5 : decode cX6_goToPart 5 = .ok (.aload_n 0, 1) := by decide +kernel
theorem dX6_goToPart_6 : decode cX6_goToPart 6 = .ok (.iconst 0, 1) := by decide +kernel
theorem dX6_goToPart_7 : decode cX6_goToPart 7 = .ok (.putfield 115, 3) := by decide +kernel
theorem dX6_goToPart_10 : decode cX6_goToPart 10 = .ok (.aload_n 0, 1) := by decide +kernel
theorem dX6_goToPart_11 : decode cX6_goToPart 11 = .ok (.iload_n 3, 1) := by decide +kernel
theorem dX6_goToPart_12 : decode cX6_goToPart 12 = .ok (.putfield 118, 3) := by decide +kernel
theorem dX6_goToPart_15 : decode cX6_goToPart 15 = .ok (.aload_n 0, 1) := by decide +kernel
theorem dX6_goToPart_16 : decode cX6_goToPart 16 = .ok (.iconst 1, 1) := by decide +kernel
theorem dX6_goToPart_17 : decode cX6_goToPart 17 = .ok (.putfield 121, 3) := by decide +kernel
theorem dX6_goToPart_20 : decode cX6_goToPart 20 = .ok (.iload_n 2, 1) := by decide +kernel
theorem dX6_goToPart_21 : decode cX6_goToPart 21 = .ok (.aload_n 0, 1) := by decide +kernel
theorem dX6_goToPart_22 : decode cX6_goToPart 22 = .ok (.getfield 115, 3) := by decide +kernel
theorem dX6_goToPart_25 : decode cX6_goToPart 25 = .ok (.aload_n 0, 1) := by decide +kernel
theorem dX6_goToPart_26 : decode cX6_goToPart 26 = .ok (.getfield 118, 3) := by decide +kernel
theorem dX6_goToPart_29 : decode cX6_goToPart 29 = .ok (.iadd, 1) := by decide +kernel
theorem dX6_goToPart_30 : decode cX6_goToPart 30 = .ok (.if_icmp .eq 110, 3) := by decide +kernel
theorem dX6_goToPart_33 : decode cX6_goToPart 33 = .ok (.aload_n 0, 1) := by decide +kernel
theorem dX6_goToPart_34 : decode cX6_goToPart 34 = .ok (.getfield 118, 3) := by decide +kernel
theorem dX6_goToPart_37 : decode cX6_goToPart 37 = .ok (.invokestatic 105, 3) := by decide +kernel
theorem dX6_goToPart_40 : decode cX6_goToPart 40 = .ok (.istore 4, 2) := by decide +kernel
theorem dX6_goToPart_42 : decode cX6_goToPart 42 = .ok (.iload_n 2, 1) := by decide +kernel
theorem dX6_goToPart_43 : decode cX6_goToPart 43 = .ok (.aload_n 0, 1) := by decide +kernel
theorem dX6_goToPart_44 : decode cX6_goToPart 44 = .ok (.getfield 115, 3) := by decide +kernel
theorem dX6_goToPart_47 : decode cX6_goToPart 47 = .ok (.iload 4, 2) := by decide +kernel
theorem dX6_goToPart_49 : decode cX6_goToPart 49 = .ok (.iadd, 1) := by decide +kernel
theorem dX6_goToPart_50 : decode cX6_goToPart 50 = .ok (.if_icmp .gt 7, 3) := by decide +kernel
theorem dX6_goToPart_53 : decode cX6_goToPart 53 = .ok (.iconst 1, 1) := by decide +kernel
theorem dX6_goToPart_54 : decode cX6_goToPart 54 = .ok (.goto 4, 3) := by decide +kernel
theorem dX6_goToPart_57 : decode cX6_goToPart 57 = .ok (.iconst 0, 1) := by decide +kernel
theorem dX6_goToPart_58 : decode cX6_goToPart 58 = .ok (.istore 5, 2) := by decide +kernel
theorem dX6_goToPart_60 : decode cX6_goToPart 60 = .ok (.aload_n 0, 1) := by decide +kernel
theorem dX6_goToPart_61 : decode cX6_goToPart 61 = .ok (.iload_n 1, 1) := by decide +kernel
theorem dX6_goToPart_62 : decode cX6_goToPart 62 = .ok (.aload_n 0, 1) := by decide +kernel
theorem dX6_goToPart_63 : decode cX6_goToPart 63 = .ok (.getfield 115, 3) := by decide +kernel
theorem dX6_goToPart_66 : decode cX6_goToPart 66 = .ok (.aload_n 0, 1) := by decide +kernel
theorem dX6_goToPart_67 : decode cX6_goToPart 67 = .ok (.getfield 118, 3) := by decide +kernel
theorem dX6_goToPart_70 : decode cX6_goToPart 70 = .ok (.iload 5, 2) := by decide +kernel
theorem dX6_goToPart_72 : decode cX6_goToPart 72 = .ok (.invokevirtual 111, 3) := by decide +kernel
theorem dX6_goToPart_75 : decode cX6_goToPart 75 = .ok (.aload_n 0, 1) := by decide +kernel
theorem dX6_goToPart_76 : decode cX6_goToPart 76 = .ok (.aload_n 0, 1) := by decide +kernel
theorem dX6_goToPart_77 : decode cX6_goToPart 77 = .ok (.getfield 121, 3) := by decide +kernel
theorem dX6_goToPart_80 : decode cX6_goToPart 80 = .ok (.ifCond .eq 12, 3) := by decide +kernel
theorem dX6_goToPart_83 : decode cX6_goToPart 83 = .ok (.iload 5, 2) := by decide +kernel
theorem dX6_goToPart_85 : decode cX6_goToPart 85 = .ok (.ifCond .eq 7, 3) := by decide +kernel
theorem dX6_goToPart_88 : decode cX6_goToPart 88 = .ok (.iconst 1, 1) := by decide +kernel
theorem dX6_goToPart_89 : decode cX6_goToPart 89 = .ok (.goto 4, 3) := by decide +kernel
theorem dX6_goToPart_92 : decode cX6_goToPart 92 = .ok (.iconst 0, 1) := by decide +kernel
theorem dX6_goToPart_93 : decode cX6_goToPart 93 = .ok (.putfield 121, 3) := by decide +kernel
theorem dX6_goToPart_96 : decode cX6_goToPart 96 = .ok (.aload_n 0, 1) := by decide +kernel
theorem dX6_goToPart_97 : decode cX6_goToPart 97 = .ok (.dup, 1) := by decide +kernel
theorem dX6_goToPart_98 : decode cX6_goToPart 98 = .ok (.getfield 115, 3) := by decide +kernel
theorem dX6_goToPart_101 : decode cX6_goToPart 101 = .ok (.iload 5, 2) := by decide +kernel
theorem dX6_goToPart_103 : decode cX6_goToPart 103 = .ok (.ifCond .eq 7, 3) := by decide +kernel
theorem dX6_goToPart_106 : decode cX6_goToPart 106 = .ok (.iconst 0, 1) := by decide +kernel
theorem dX6_goToPart_107 : decode cX6_goToPart 107 = .ok (.goto 5, 3) := by decide +kernel
theorem dX6_goToPart_110 : decode cX6_goToPart 110 = .ok (.iload 4, 2) := by decide +kernel
theorem dX6_goToPart_112 : decode cX6_goToPart 112 = .ok (.iadd, 1) := by decide +kernel
theorem dX6_goToPart_113 : decode cX6_goToPart 113 = .ok (.putfield 115, 3) := by decide +kernel
theorem dX6_goToPart_116 : decode cX6_goToPart 116 = .ok (.aload_n 0, 1) := by decide +kernel
theorem dX6_goToPart_117 : decode cX6_goToPart 117 = .ok (.iload 5, 2) := by decide +kernel
theorem dX6_goToPart_119 : decode cX6_goToPart 119 = .ok (.ifCond .eq 8, 3) := by decide +kernel
theorem dX6_goToPart_122 : decode cX6_goToPart 122 = .ok (.iload 4, 2) := by decide +kernel
theorem dX6_goToPart_124 : decode cX6_goToPart 124 = .ok (.goto 10, 3) := by decide +kernel
theorem dX6_goToPart_127 : decode cX6_goToPart 127 = .ok (.aload_n 0, 1) := by decide +kernel
theorem dX6_goToPart_128 : decode cX6_goToPart 128 = .ok (.getfield 118, 3) := by decide +kernel
theorem dX6_goToPart_131 : decode cX6_goToPart 131 = .ok (.iload 4, 2) := by decide +kernel
theorem dX6_goToPart_133 : decode cX6_goToPart 133 = .ok (.isub, 1) := by decide +kernel
theorem dX6_goToPart_134 : decode cX6_goToPart 134 = .ok (.putfield 118, 3) := by decide +kernel
theorem dX6_goToPart_137 : decode cX6_goToPart 137 = .ok (.goto (-117), 3) := by decide +kernel
theorem dX6_goToPart_140 : decode cX6_goToPart 140 = .ok (.return_, 1) := by decide +kernel
theorem dX6_load_0 : decode cX6_load 0 = .ok (.aload_n 0, 1) := by decide +kernel
theorem dX6_load_1 : decode cX6_load 1 = .ok (.getfield 108, 3) := by decide +kernel
theorem dX6_load_4 : decode cX6_load 4 = .ok (.iconst 1, 1) := by decide +kernel
theorem dX6_load_5 : decode cX6_load 5 = .ok (.isub, 1) := by decide +kernel
theorem dX6_load_6 : decode cX6_load 6 = .ok (.istore_n 1, 1) := by decide +kernel
theorem dX6_load_7 : decode cX6_load 7 = .ok (.iload_n 1, 1) := by decide +kernel
theorem dX6_load_8 : decode cX6_load 8 = .ok (.ifCond .lt 34, 3) := by decide +kernel
theorem dX6_load_11 : decode cX6_load 11 = .ok (.aload_n 0, 1) := by decide +kernel
theorem dX6_load_12 : decode cX6_load 12 = .ok (.getfield 26, 3) := by decide +kernel
theorem dX6_load_15 : decode cX6_load 15 = .ok (.aload_n 0, 1) := by decide +kernel
theorem dX6_load_16 : decode cX6_load 16 = .ok (.getfield 125, 3) := by decide +kernel
theorem dX6_load_19 : decode cX6_load 19 = .ok (.aload_n 0, 1) := by decide +kernel
theorem dX6_load_20 : decode cX6_load 20 = .ok (.getfield 29, 3) := by decide +kernel
theorem dX6_load_23 : decode cX6_load 23 = .ok (.iload_n 1, 1) := by decide +kernel
theorem dX6_load_24 : decode cX6_load 24 = .ok (.iaload, 1) := by decide +kernel
theorem dX6_load_25 : decode cX6_load 25 = .ok (.iastore, 1) := by decide +kernel
theorem dX6_load_26 : decode cX6_load 26 = .ok (.aload_n 0, 1) := by decide +kernel
theorem dX6_load_27 : decode cX6_load 27 = .ok (.dup, 1) := by decide +kernel
theorem dX6_load_28 : decode cX6_load 28 = .ok (.getfield 125, 3) := by decide +kernel
theorem dX6_load_31 : decode cX6_load 31 = .ok (.iconst 1, 1) := by decide +kernel
theorem dX6_load_32 : decode cX6_load 32 = .ok (.iadd, 1) := by decide +kernel
theorem dX6_load_33 : decode cX6_load 33 = .ok (.putfield 125, 3) := by decide +kernel
theorem dX6_load_36 : decode cX6_load 36 = .ok (.iinc 1 (-1), 3) := by decide +kernel
theorem dX6_load_39 : decode cX6_load 39 = .ok (.goto (-32), 3) := by decide +kernel
theorem dX6_load_42 : decode cX6_load 42 = .ok (.aload_n 0, 1) := by decide +kernel
theorem dX6_load_43 : decode cX6_load 43 = .ok (.getfield 125, 3) := by decide +kernel
theorem dX6_load_46 : decode cX6_load 46 = .ok (.ireturn, 1) := by decide +kernel
theorem dX6_isSize_0 : decode cX6_isSize 0 = .ok (.iload_n 2, 1) := by decide +kernel
theorem dX6_isSize_1 : decode cX6_isSize 1 = .ok (.iconst 1, 1) := by decide +kernel
theorem dX6_isSize_2 : decode cX6_isSize 2 = .ok (.aload_n 0, 1) := by decide +kernel
theorem dX6_isSize_3 : decode cX6_isSize 3 = .ok (.getfield 13, 3) := by decide +kernel
theorem dX6_isSize_6 : decode cX6_isSize 6 = .ok (.iload_n 1, 1) := by decide +kernel
theorem dX6_isSize_7 : decode cX6_isSize 7 = .ok (.iaload, 1) := by decide +kernel
theorem dX6_isSize_8 : decode cX6_isSize 8 = .ok (.invokestatic 64, 3) := by decide +kernel
theorem dX6_isSize_11 : decode cX6_isSize 11 = .ok (.ireturn, 1) := by decide +kernel
theorem dX6_loadLeaf_0 : decode cX6_loadLeaf 0 = .ok (.aload_n 0, 1) := by decide +kernel
theorem dX6_loadLeaf_1 : decode cX6_loadLeaf 1 = .ok (.iload_n 1, 1) := by decide +kernel
theorem dX6_loadLeaf_2 : decode cX6_loadLeaf 2 = .ok (.invokevirtual 80, 3) := by decide +kernel
theorem dX6_loadLeaf_5 : decode cX6_loadLeaf 5 = .ok (.ifCond .eq 27, 3) := by decide +kernel
theorem dX6_loadLeaf_8 : decode cX6_loadLeaf 8 = .ok (.aload_n 0, 1) := by decide +kernel
theorem dX6_loadLeaf_9 : decode cX6_loadLeaf 9 = .ok (.iload_n 1, 1) := by decide +kernel
theorem dX6_loadLeaf_10 : decode cX6_loadLeaf 10 = .ok (.iload_n 3, 1) := by decide +kernel
theorem dX6_loadLeaf_11 : decode cX6_loadLeaf 11 = .ok (.invokevirtual 128, 3) := by decide +kernel
theorem dX6_loadLeaf_14 : decode cX6_loadLeaf 14 = .ok (.ifCond .eq 18, 3) := by decide +kernel
theorem dX6_loadLeaf_17 : decode cX6_loadLeaf 17 = .ok (.iload_n 2, 1) := by decide +kernel
theorem dX6_loadLeaf_18 : decode cX6_loadLeaf 18 = .ok (.iconst 0, 1) := by decide +kernel
theorem dX6_loadLeaf_19 : decode cX6_loadLeaf 19 = .ok (.iload_n 3, 1) := by decide +kernel
theorem dX6_loadLeaf_20 : decode cX6_loadLeaf 20 = .ok (.iconst 1, 1) := by decide +kernel
theorem dX6_loadLeaf_21 : decode cX6_loadLeaf 21 = .ok (.isub, 1) := by decide +kernel
theorem dX6_loadLeaf_22 : decode cX6_loadLeaf 22 = .ok (.invokestatic 64, 3) := by decide +kernel
theorem dX6_loadLeaf_25 : decode cX6_loadLeaf 25 = .ok (.ifCond .eq 7, 3) := by decide +kernel
theorem dX6_loadLeaf_28 : decode cX6_loadLeaf 28 = .ok (.iconst 1, 1) := by decide +kernel
theorem dX6_loadLeaf_29 : decode cX6_loadLeaf 29 = .ok (.goto 4, 3) := by decide +kernel
theorem dX6_loadLeaf_32 : decode cX6_loadLeaf 32 = .ok (.iconst 0, 1) := by decide +kernel
theorem dX6_loadLeaf_33 : decode cX6_loadLeaf 33 = .ok (.istore 4, 2) := by decide +kernel
theorem dX6_loadLeaf_35 : decode cX6_loadLeaf 35 = .ok (.aload_n 0, 1) := by decide +kernel
theorem dX6_loadLeaf_36 : decode cX6_loadLeaf 36 = .ok (.aload_n 0, 1) := by decide +kernel
theorem dX6_loadLeaf_37 : decode cX6_loadLeaf 37 = .ok (.iload_n 1, 1) := by decide +kernel
theorem dX6_loadLeaf_38 : decode cX6_loadLeaf 38 = .ok (.invokevirtual 80, 3) := by decide +kernel
theorem dX6_loadLeaf_41 : decode cX6_loadLeaf 41 = .ok (.ifCond .ne 7, 3) := by decide +kernel
theorem dX6_loadLeaf_44 : decode cX6_loadLeaf 44 = .ok (.iconst 1, 1) := by decide +kernel
theorem dX6_loadLeaf_45 : decode cX6_loadLeaf 45 = .ok (.goto 13, 3) := by decide +kernel
theorem dX6_loadLeaf_48 : decode cX6_loadLeaf 48 = .ok (.iload 4, 2) := by decide +kernel
theorem dX6_loadLeaf_50 : decode cX6_loadLeaf 50 = .ok (.ifCond .eq 7, 3) := by decide +kernel
theorem dX6_loadLeaf_53 : decode cX6_loadLeaf 53 = .ok (.iconst 0, 1) := by decide +kernel
theorem dX6_loadLeaf_54 : decode cX6_loadLeaf 54 = .ok (.goto 4, 3) := by decide +kernel
theorem dX6_loadLeaf_57 : decode cX6_loadLeaf 57 = .ok (.iconst 2, 1) := by decide +kernel
theorem dX6_loadLeaf_58 : decode cX6_loadLeaf 58 = .ok (.invokevirtual 87, 3) := by decide +kernel
theorem dX6_loadLeaf_61 : decode cX6_loadLeaf 61 = .ok (.ifCond .ne 5, 3) := by decide +kernel
theorem dX6_loadLeaf_64 : decode cX6_loadLeaf 64 = .ok (.iconst 0, 1) := by decide +kernel
theorem dX6_loadLeaf_65 : decode cX6_loadLeaf 65 = .ok (.ireturn, 1) := by decide +kernel
theorem dX6_loadLeaf_66 : decode cX6_loadLeaf 66 = .ok (.aload_n 0, 1) := by decide +kernel
theorem dX6_loadLeaf_67 : decode cX6_loadLeaf 67 = .ok (.iload_n 1, 1) := by decide +kernel
theorem dX6_loadLeaf_68 : decode cX6_loadLeaf 68 = .ok (.iload_n 2, 1) := by decide +kernel
theorem dX6_loadLeaf_69 : decode cX6_loadLeaf 69 = .ok (.iload_n 3, 1) := by decide +kernel
theorem dX6_loadLeaf_70 : decode cX6_loadLeaf 70 = .ok (.invokevirtual 132, 3) := by decide +kernel
theorem dX6_loadLeaf_73 : decode cX6_loadLeaf 73 = .ok (.aload_n 0, 1) := by decide +kernel
theorem dX6_loadLeaf_74 : decode cX6_loadLeaf 74 = .ok (.iconst 0, 1) := by decide +kernel
theorem dX6_loadLeaf_75 : decode cX6_loadLeaf 75 = .ok (.putfield 125, 3) := by decide +kernel
theorem dX6_loadLeaf_78 : decode cX6_loadLeaf 78 = .ok (.aload_n 0, 1) := by decide +kernel
theorem dX6_loadLeaf_79 : decode cX6_loadLeaf 79 = .ok (.invokevirtual 136, 3) := by decide +kernel
theorem dX6_loadLeaf_82 : decode cX6_loadLeaf 82 = .ok (.ireturn, 1) := by decide +kernel
theorem dX6_loadGrowth_0 : decode cX6_loadGrowth 0 = .ok (.aload_n 0, 1) := by decide +kernel
theorem dX6_loadGrowth_1 : decode cX6_loadGrowth 1 = .ok (.iload_n 1, 1) := by decide +kernel
theorem dX6_loadGrowth_2 : decode cX6_loadGrowth 2 = .ok (.invokevirtual 80, 3) := by decide +kernel
theorem dX6_loadGrowth_5 : decode cX6_loadGrowth 5 = .ok (.ifCond .eq 25, 3) := by decide +kernel
theorem dX6_loadGrowth_8 : decode cX6_loadGrowth 8 = .ok (.aload_n 0, 1) := by decide +kernel
theorem dX6_loadGrowth_9 : decode cX6_loadGrowth 9 = .ok (.iload_n 1, 1) := by decide +kernel
theorem dX6_loadGrowth_10 : decode cX6_loadGrowth 10 = .ok (.iload_n 3, 1) := by decide +kernel
theorem dX6_loadGrowth_11 : decode cX6_loadGrowth 11 = .ok (.invokevirtual 128, 3) := by decide +kernel
theorem dX6_loadGrowth_14 : decode cX6_loadGrowth 14 = .ok (.ifCond .eq 16, 3) := by decide +kernel
theorem dX6_loadGrowth_17 : decode cX6_loadGrowth 17 = .ok (.iload_n 2, 1) := by decide +kernel
theorem dX6_loadGrowth_18 : decode cX6_loadGrowth 18 = .ok (.iconst 1, 1) := by decide +kernel
theorem dX6_loadGrowth_19 : decode cX6_loadGrowth 19 = .ok (.iload_n 3, 1) := by decide +kernel
theorem dX6_loadGrowth_20 : decode cX6_loadGrowth 20 = .ok (.invokestatic 64, 3) := by decide +kernel
theorem dX6_loadGrowth_23 : decode cX6_loadGrowth 23 = .ok (.ifCond .eq 7, 3) := by decide +kernel
theorem dX6_loadGrowth_26 : decode cX6_loadGrowth 26 = .ok (.iconst 1, 1) := by decide +kernel
theorem dX6_loadGrowth_27 : decode cX6_loadGrowth 27 = .ok (.goto 4, 3) := by decide +kernel
theorem dX6_loadGrowth_30 : decode cX6_loadGrowth 30 = .ok (.iconst 0, 1) := by decide +kernel
theorem dX6_loadGrowth_31 : decode cX6_loadGrowth 31 = .ok (.istore 4, 2) := by decide +kernel
theorem dX6_loadGrowth_33 : decode cX6_loadGrowth 33 = .ok (.aload_n 0, 1) := by decide +kernel
theorem dX6_loadGrowth_34 : decode cX6_loadGrowth 34 = .ok (.aload_n 0, 1) := by decide +kernel
theorem dX6_loadGrowth_35 : decode cX6_loadGrowth 35 = .ok (.iload_n 1, 1) := by decide +kernel
theorem dX6_loadGrowth_36 : decode cX6_loadGrowth 36 = .ok (.invokevirtual 80, 3) := by decide +kernel
theorem dX6_loadGrowth_39 : decode cX6_loadGrowth 39 = .ok (.ifCond .ne 7, 3) := by decide +kernel
theorem dX6_loadGrowth_42 : decode cX6_loadGrowth 42 = .ok (.iconst 1, 1) := by decide +kernel
theorem dX6_loadGrowth_43 : decode cX6_loadGrowth 43 = .ok (.goto 13, 3) := by decide +kernel
theorem dX6_loadGrowth_46 : decode cX6_loadGrowth 46 = .ok (.iload 4, 2) := by decide +kernel
theorem dX6_loadGrowth_48 : decode cX6_loadGrowth 48 = .ok (.ifCond .eq 7, 3) := by decide +kernel
theorem dX6_loadGrowth_51 : decode cX6_loadGrowth 51 = .ok (.iconst 0, 1) := by decide +kernel
theorem dX6_loadGrowth_52 : decode cX6_loadGrowth 52 = .ok (.goto 4, 3) := by decide +kernel
theorem dX6_loadGrowth_55 : decode cX6_loadGrowth 55 = .ok (.iconst 2, 1) := by decide +kernel
theorem dX6_loadGrowth_56 : decode cX6_loadGrowth 56 = .ok (.invokevirtual 87, 3) := by decide +kernel
theorem dX6_loadGrowth_59 : decode cX6_loadGrowth 59 = .ok (.ifCond .ne 5, 3) := by decide +kernel
theorem dX6_loadGrowth_62 : decode cX6_loadGrowth 62 = .ok (.iconst 0, 1) := by decide +kernel
theorem dX6_loadGrowth_63 : decode cX6_loadGrowth 63 = .ok (.ireturn, 1) := by decide +kernel
theorem dX6_loadGrowth_64 : decode cX6_loadGrowth 64 = .ok (.aload_n 0, 1) := by decide +kernel
theorem dX6_loadGrowth_65 : decode cX6_loadGrowth 65 = .ok (.iload_n 1, 1) := by decide +kernel
theorem dX6_loadGrowth_66 : decode cX6_loadGrowth 66 = .ok (.iload_n 2, 1) := by decide +kernel
theorem dX6_loadGrowth_67 : decode cX6_loadGrowth 67 = .ok (.iload_n 3, 1) := by decide +kernel
theorem dX6_loadGrowth_68 : decode cX6_loadGrowth 68 = .ok (.invokevirtual 140, 3) := by decide +kernel
theorem dX6_loadGrowth_71 : decode cX6_loadGrowth 71 = .ok (.aload_n 0, 1) := by decide +kernel
theorem dX6_loadGrowth_72 : decode cX6_loadGrowth 72 = .ok (.iconst 0, 1) := by decide +kernel
theorem dX6_loadGrowth_73 : decode cX6_loadGrowth 73 = .ok (.putfield 125, 3) := by decide +kernel
theorem dX6_loadGrowth_76 : decode cX6_loadGrowth 76 = .ok (.aload_n 0, 1) := by decide +kernel
theorem dX6_loadGrowth_77 : decode cX6_loadGrowth 77 = .ok (.getfield 121, 3) := by decide +kernel
theorem dX6_loadGrowth_80 : decode cX6_loadGrowth 80 = .ok (.ifCond .ne 27, 3) := by decide +kernel
theorem dX6_loadGrowth_83 : decode cX6_loadGrowth 83 = .ok (.aload_n 0, 1) := by decide +kernel
theorem dX6_loadGrowth_84 : decode cX6_loadGrowth 84 = .ok (.getfield 26, 3) := by decide +kernel
theorem dX6_loadGrowth_87 : decode cX6_loadGrowth 87 = .ok (.iconst 0, 1) := by decide +kernel
theorem dX6_loadGrowth_88 : decode cX6_loadGrowth 88 = .ok (.aload_n 0, 1) := by decide +kernel
theorem dX6_loadGrowth_89 : decode cX6_loadGrowth 89 = .ok (.iload_n 1, 1) := by decide +kernel
theorem dX6_loadGrowth_90 : decode cX6_loadGrowth 90 = .ok (.aload_n 0, 1) := by decide +kernel
theorem dX6_loadGrowth_91 : decode cX6_loadGrowth 91 = .ok (.getfield 115, 3) := by decide +kernel
theorem dX6_loadGrowth_94 : decode cX6_loadGrowth 94 = .ok (.aload_n 0, 1) := by decide +kernel
theorem dX6_loadGrowth_95 : decode cX6_loadGrowth 95 = .ok (.getfield 118, 3) := by decide +kernel
theorem dX6_loadGrowth_98 : decode cX6_loadGrowth 98 = .ok (.invokevirtual 101, 3) := by decide +kernel
theorem dX6_loadGrowth_101 : decode cX6_loadGrowth 101 = .ok (.iastore, 1) := by decide +kernel
theorem dX6_loadGrowth_102 : decode cX6_loadGrowth 102 = .ok (.aload_n 0, 1) := by decide +kernel
theorem dX6_loadGrowth_103 : decode cX6_loadGrowth 103 = .ok (.iconst 1, 1) := by decide +kernel
theorem dX6_loadGrowth_104 : decode cX6_loadGrowth 104 = .ok (.putfield 125, 3) := by decide +kernel
theorem dX6_loadGrowth_107 : decode cX6_loadGrowth 107 = .ok (.aload_n 0, 1) := by decide +kernel
theorem dX6_loadGrowth_108 : decode cX6_loadGrowth 108 = .ok (.invokevirtual 136, 3) := by decide +kernel
theorem dX6_loadGrowth_111 : decode cX6_loadGrowth 111 = .ok (.ireturn, 1) := by decide +kernel
theorem dX6_isKey_0 : decode cX6_isKey 0 = .ok (.iload_n 0, 1) := by decide +kernel
theorem dX6_isKey_1 : decode cX6_isKey 1 = .ok (.iconst 0, 1) := by decide +kernel
theorem dX6_isKey_2 : decode cX6_isKey 2 = .ok (.bipush 63, 2) := by decide +kernel
theorem dX6_isKey_4 : decode cX6_isKey 4 = .ok (.invokestatic 64, 3) := by decide +kernel
theorem dX6_isKey_7 : decode cX6_isKey 7 = .ok (.ireturn, 1) := by decide +kernel
theorem dX6_keySum_0 : decode cX6_keySum 0 = .ok (.iload_n 0, 1) := by decide +kernel
theorem dX6_keySum_1 : decode cX6_keySum 1 = .ok (.iconst (-1), 1) := by decide +kernel
theorem dX6_keySum_2 : decode cX6_keySum 2 = .ok (.if_icmp .ne 7, 3) := by decide +kernel
theorem dX6_keySum_5 : decode cX6_keySum 5 = .ok (.iconst 0, 1) := by decide +kernel
theorem dX6_keySum_6 : decode cX6_keySum 6 = .ok (.goto 9, 3) := by decide +kernel
theorem dX6_keySum_9 : decode cX6_keySum 9 = .ok (.iload_n 0, 1) := by decide +kernel
theorem dX6_keySum_10 : decode cX6_keySum 10 = .ok (.iconst 1, 1) := by decide +kernel
theorem dX6_keySum_11 : decode cX6_keySum 11 = .ok (.iadd, 1) := by decide +kernel
theorem dX6_keySum_12 : decode cX6_keySum 12 = .ok (.invokestatic 90, 3) := by decide +kernel
theorem dX6_keySum_15 : decode cX6_keySum 15 = .ok (.ireturn, 1) := by decide +kernel
theorem dX6_join_0 : decode cX6_join 0 = .ok (.iload_n 0, 1) := by decide +kernel
theorem dX6_join_1 : decode cX6_join 1 = .ok (.ifCond .ne 11, 3) := by decide +kernel
theorem dX6_join_4 : decode cX6_join 4 = .ok (.iload_n 1, 1) := by decide +kernel
theorem dX6_join_5 : decode cX6_join 5 = .ok (.ifCond .ne 7, 3) := by decide +kernel
theorem dX6_join_8 : decode cX6_join 8 = .ok (.iconst 0, 1) := by decide +kernel
theorem dX6_join_9 : decode cX6_join 9 = .ok (.goto 8, 3) := by decide +kernel
theorem dX6_join_12 : decode cX6_join 12 = .ok (.iload_n 0, 1) := by decide +kernel
theorem dX6_join_13 : decode cX6_join 13 = .ok (.iload_n 1, 1) := by decide +kernel
theorem dX6_join_14 : decode cX6_join 14 = .ok (.invokestatic 94, 3) := by decide +kernel
theorem dX6_join_17 : decode cX6_join 17 = .ok (.ireturn, 1) := by decide +kernel
theorem dX6_climb_0 : decode cX6_climb 0 = .ok (.iconst 0, 1) := by decide +kernel
theorem dX6_climb_1 : decode cX6_climb 1 = .ok (.istore_n 2, 1) := by decide +kernel
theorem dX6_climb_2 : decode cX6_climb 2 = .ok (.iload_n 2, 1) := by decide +kernel
theorem dX6_climb_3 : decode cX6_climb 3 = .ok (.bipush 64, 2) := by decide +kernel
theorem dX6_climb_5 : decode cX6_climb 5 = .ok (.if_icmp .ge 24, 3) := by decide +kernel
theorem dX6_climb_8 : decode cX6_climb 8 = .ok (.aload_n 0, 1) := by decide +kernel
theorem dX6_climb_9 : decode cX6_climb 9 = .ok (.getfield 39, 3) := by decide +kernel
theorem dX6_climb_12 : decode cX6_climb 12 = .ok (.iload_n 2, 1) := by decide +kernel
theorem dX6_climb_13 : decode cX6_climb 13 = .ok (.aload_n 0, 1) := by decide +kernel
theorem dX6_climb_14 : decode cX6_climb 14 = .ok (.getfield 36, 3) := by decide +kernel
theorem dX6_climb_17 : decode cX6_climb 17 = .ok (.iload_n 2, 1) := by decide +kernel
theorem dX6_climb_18 : decode cX6_climb 18 = .ok (.iaload, 1) := by decide +kernel
theorem dX6_climb_19 : decode cX6_climb 19 = .ok (.invokestatic 143, 3) := by decide +kernel
theorem dX6_climb_22 : decode cX6_climb 22 = .ok (.iastore, 1) := by decide +kernel
theorem dX6_climb_23 : decode cX6_climb 23 = .ok (.iinc 2 1, 3) := by decide +kernel
theorem dX6_climb_26 : decode cX6_climb 26 = .ok (.goto (-24), 3) := by decide +kernel
theorem dX6_climb_29 : decode cX6_climb 29 = .ok (.iload_n 1, 1) := by decide +kernel
theorem dX6_climb_30 : decode cX6_climb 30 = .ok (.istore_n 2, 1) := by decide +kernel
theorem dX6_climb_31 : decode cX6_climb 31 = .ok (.bipush 64, 2) := by decide +kernel
theorem dX6_climb_33 : decode cX6_climb 33 = .ok (.istore_n 3, 1) := by decide +kernel
theorem dX6_climb_34 : decode cX6_climb 34 = .ok (.iload_n 3, 1) := by decide +kernel
theorem dX6_climb_35 : decode cX6_climb 35 = .ok (.iconst 1, 1) := by decide +kernel
theorem dX6_climb_36 : decode cX6_climb 36 = .ok (.if_icmp .le 93, 3) := by decide +kernel
theorem dX6_climb_39 : decode cX6_climb 39 = .ok (.iload_n 1, 1) := by decide +kernel
theorem dX6_climb_40 : decode cX6_climb 40 = .ok (.iconst (-1), 1) := by decide +kernel
theorem dX6_climb_41 : decode cX6_climb 41 = .ok (.if_icmp .eq 34, 3) := by decide +kernel
theorem dX6_climb_44 : decode cX6_climb 44 = .ok (.aload_n 0, 1) := by decide +kernel
theorem dX6_climb_45 : decode cX6_climb 45 = .ok (.getfield 26, 3) := by decide +kernel
theorem dX6_climb_48 : decode cX6_climb 48 = .ok (.aload_n 0, 1) := by decide +kernel
theorem dX6_climb_49 : decode cX6_climb 49 = .ok (.getfield 125, 3) := by decide +kernel
theorem dX6_climb_52 : decode cX6_climb 52 = .ok (.aload_n 0, 1) := by decide +kernel
theorem dX6_climb_53 : decode cX6_climb 53 = .ok (.getfield 39, 3) := by decide +kernel
theorem dX6_climb_56 : decode cX6_climb 56 = .ok (.iload_n 2, 1) := by decide +kernel
theorem dX6_climb_57 : decode cX6_climb 57 = .ok (.iconst 1, 1) := by decide +kernel
theorem dX6_climb_58 : decode cX6_climb 58 = .ok (.ixor, 1) := by decide +kernel
theorem dX6_climb_59 : decode cX6_climb 59 = .ok (.iaload, 1) := by decide +kernel
theorem dX6_climb_60 : decode cX6_climb 60 = .ok (.iastore, 1) := by decide +kernel
theorem dX6_climb_61 : decode cX6_climb 61 = .ok (.aload_n 0, 1) := by decide +kernel
theorem dX6_climb_62 : decode cX6_climb 62 = .ok (.dup, 1) := by decide +kernel
theorem dX6_climb_63 : decode cX6_climb 63 = .ok (.getfield 125, 3) := by decide +kernel
theorem dX6_climb_66 : decode cX6_climb 66 = .ok (.iconst 1, 1) := by decide +kernel
theorem dX6_climb_67 : decode cX6_climb 67 = .ok (.iadd, 1) := by decide +kernel
theorem dX6_climb_68 : decode cX6_climb 68 = .ok (.putfield 125, 3) := by decide +kernel
theorem dX6_climb_71 : decode cX6_climb 71 = .ok (.iload_n 2, 1) := by decide +kernel
theorem dX6_climb_72 : decode cX6_climb 72 = .ok (.iconst 2, 1) := by decide +kernel
theorem dX6_climb_73 : decode cX6_climb 73 = .ok (.idiv, 1) := by decide +kernel
theorem dX6_climb_74 : decode cX6_climb 74 = .ok (.istore_n 2, 1) := by decide +kernel
theorem dX6_climb_75 : decode cX6_climb 75 = .ok (.iconst 0, 1) := by decide +kernel
theorem dX6_climb_76 : decode cX6_climb 76 = .ok (.istore 4, 2) := by decide +kernel
theorem dX6_climb_78 : decode cX6_climb 78 = .ok (.iload 4, 2) := by decide +kernel
theorem dX6_climb_80 : decode cX6_climb 80 = .ok (.iload_n 3, 1) := by decide +kernel
theorem dX6_climb_81 : decode cX6_climb 81 = .ok (.iconst 2, 1) := by decide +kernel
theorem dX6_climb_82 : decode cX6_climb 82 = .ok (.idiv, 1) := by decide +kernel
theorem dX6_climb_83 : decode cX6_climb 83 = .ok (.if_icmp .ge 39, 3) := by decide +kernel
theorem dX6_climb_86 : decode cX6_climb 86 = .ok (.aload_n 0, 1) := by decide +kernel
theorem dX6_climb_87 : decode cX6_climb 87 = .ok (.getfield 39, 3) := by decide +kernel
theorem dX6_climb_90 : decode cX6_climb 90 = .ok (.iload 4, 2) := by decide +kernel
theorem dX6_climb_92 : decode cX6_climb 92 = .ok (.aload_n 0, 1) := by decide +kernel
theorem dX6_climb_93 : decode cX6_climb 93 = .ok (.getfield 39, 3) := by decide +kernel
theorem dX6_climb_96 : decode cX6_climb 96 = .ok (.iconst 2, 1) := by decide +kernel
theorem dX6_climb_97 : decode cX6_climb 97 = .ok (.iload 4, 2) := by decide +kernel
theorem dX6_climb_99 : decode cX6_climb 99 = .ok (.imul, 1) := by decide +kernel
theorem dX6_climb_100 : decode cX6_climb 100 = .ok (.iaload, 1) := by decide +kernel
theorem dX6_climb_101 : decode cX6_climb 101 = .ok (.aload_n 0, 1) := by decide +kernel
theorem dX6_climb_102 : decode cX6_climb 102 = .ok (.getfield 39, 3) := by decide +kernel
theorem dX6_climb_105 : decode cX6_climb 105 = .ok (.iconst 2, 1) := by decide +kernel
theorem dX6_climb_106 : decode cX6_climb 106 = .ok (.iload 4, 2) := by decide +kernel
theorem dX6_climb_108 : decode cX6_climb 108 = .ok (.imul, 1) := by decide +kernel
theorem dX6_climb_109 : decode cX6_climb 109 = .ok (.iconst 1, 1) := by decide +kernel
theorem dX6_climb_110 : decode cX6_climb 110 = .ok (.iadd, 1) := by decide +kernel
theorem dX6_climb_111 : decode cX6_climb 111 = .ok (.iaload, 1) := by decide +kernel
theorem dX6_climb_112 : decode cX6_climb 112 = .ok (.invokestatic 146, 3) := by decide +kernel
theorem dX6_climb_115 : decode cX6_climb 115 = .ok (.iastore, 1) := by decide +kernel
theorem dX6_climb_116 : decode cX6_climb 116 = .ok (.iinc 4 1, 3) := by decide +kernel
theorem dX6_climb_119 : decode cX6_climb 119 = .ok (.goto (-41), 3) := by decide +kernel
theorem dX6_climb_122 : decode cX6_climb 122 = .ok (.iload_n 3, 1) := by decide +kernel
theorem dX6_climb_123 : decode cX6_climb 123 = .ok (.iconst 2, 1) := by decide +kernel
theorem dX6_climb_124 : decode cX6_climb 124 = .ok (.idiv, 1) := by decide +kernel
theorem dX6_climb_125 : decode cX6_climb 125 = .ok (.istore_n 3, 1) := by decide +kernel
theorem dX6_climb_126 : decode cX6_climb 126 = .ok (.goto (-92), 3) := by decide +kernel
theorem dX6_climb_129 : decode cX6_climb 129 = .ok (.aload_n 0, 1) := by decide +kernel
theorem dX6_climb_130 : decode cX6_climb 130 = .ok (.getfield 39, 3) := by decide +kernel
theorem dX6_climb_133 : decode cX6_climb 133 = .ok (.iconst 0, 1) := by decide +kernel
theorem dX6_climb_134 : decode cX6_climb 134 = .ok (.iaload, 1) := by decide +kernel
theorem dX6_climb_135 : decode cX6_climb 135 = .ok (.ireturn, 1) := by decide +kernel
theorem dX6_loadKey_0 : decode cX6_loadKey 0 = .ok (.aload_n 0, 1) := by decide +kernel
theorem dX6_loadKey_1 : decode cX6_loadKey 1 = .ok (.iload_n 1, 1) := by decide +kernel
theorem dX6_loadKey_2 : decode cX6_loadKey 2 = .ok (.invokestatic 149, 3) := by decide +kernel
theorem dX6_loadKey_5 : decode cX6_loadKey 5 = .ok (.ifCond .eq 7, 3) := by decide +kernel
theorem dX6_loadKey_8 : decode cX6_loadKey 8 = .ok (.iconst 0, 1) := by decide +kernel
theorem dX6_loadKey_9 : decode cX6_loadKey 9 = .ok (.goto 4, 3) := by decide +kernel
theorem dX6_loadKey_12 : decode cX6_loadKey 12 = .ok (.iconst 1, 1) := by decide +kernel
theorem dX6_loadKey_13 : decode cX6_loadKey 13 = .ok (.invokevirtual 87, 3) := by decide +kernel
theorem dX6_loadKey_16 : decode cX6_loadKey 16 = .ok (.ifCond .ne 5, 3) := by decide +kernel
theorem dX6_loadKey_19 : decode cX6_loadKey 19 = .ok (.iconst 0, 1) := by decide +kernel
theorem dX6_loadKey_20 : decode cX6_loadKey 20 = .ok (.ireturn, 1) := by decide +kernel
theorem dX6_loadKey_21 : decode cX6_loadKey 21 = .ok (.aload_n 0, 1) := by decide +kernel
theorem dX6_loadKey_22 : decode cX6_loadKey 22 = .ok (.iconst 0, 1) := by decide +kernel
theorem dX6_loadKey_23 : decode cX6_loadKey 23 = .ok (.putfield 125, 3) := by decide +kernel
theorem dX6_loadKey_26 : decode cX6_loadKey 26 = .ok (.aload_n 0, 1) := by decide +kernel
theorem dX6_loadKey_27 : decode cX6_loadKey 27 = .ok (.iload_n 1, 1) := by decide +kernel
theorem dX6_loadKey_28 : decode cX6_loadKey 28 = .ok (.invokevirtual 152, 3) := by decide +kernel
theorem dX6_loadKey_31 : decode cX6_loadKey 31 = .ok (.istore_n 2, 1) := by decide +kernel
theorem dX6_loadKey_32 : decode cX6_loadKey 32 = .ok (.aload_n 0, 1) := by decide +kernel
theorem dX6_loadKey_33 : decode cX6_loadKey 33 = .ok (.getfield 125, 3) := by decide +kernel
theorem dX6_loadKey_36 : decode cX6_loadKey 36 = .ok (.ireturn, 1) := by decide +kernel
theorem dX6_change_0 : decode cX6_change 0 = .ok (.aload_n 0, 1) := by decide +kernel
theorem dX6_change_1 : decode cX6_change 1 = .ok (.iload_n 1, 1) := by decide +kernel
theorem dX6_change_2 : decode cX6_change 2 = .ok (.iconst 0, 1) := by decide +kernel
theorem dX6_change_3 : decode cX6_change 3 = .ok (.aload_n 0, 1) := by decide +kernel
theorem dX6_change_4 : decode cX6_change 4 = .ok (.getfield 125, 3) := by decide +kernel
theorem dX6_change_7 : decode cX6_change 7 = .ok (.invokestatic 64, 3) := by decide +kernel
theorem dX6_change_10 : decode cX6_change 10 = .ok (.ifCond .ne 7, 3) := by decide +kernel
theorem dX6_change_13 : decode cX6_change 13 = .ok (.iconst 1, 1) := by decide +kernel
theorem dX6_change_14 : decode cX6_change 14 = .ok (.goto 28, 3) := by decide +kernel
theorem dX6_change_17 : decode cX6_change 17 = .ok (.iload_n 2, 1) := by decide +kernel
theorem dX6_change_18 : decode cX6_change 18 = .ok (.iconst 0, 1) := by decide +kernel
theorem dX6_change_19 : decode cX6_change 19 = .ok (.ldc 155, 2) := by decide +kernel
theorem dX6_change_21 : decode cX6_change 21 = .ok (.invokestatic 64, 3) := by decide +kernel
theorem dX6_change_24 : decode cX6_change 24 = .ok (.ifCond .ne 7, 3) := by decide +kernel
theorem dX6_change_27 : decode cX6_change 27 = .ok (.iconst 2, 1) := by decide +kernel
theorem dX6_change_28 : decode cX6_change 28 = .ok (.goto 14, 3) := by decide +kernel
theorem dX6_change_31 : decode cX6_change 31 = .ok (.iload_n 1, 1) := by decide +kernel
theorem dX6_change_32 : decode cX6_change 32 = .ok (.bipush 12, 2) := by decide +kernel
theorem dX6_change_34 : decode cX6_change 34 = .ok (.if_icmp .ne 7, 3) := by decide +kernel
theorem dX6_change_37 : decode cX6_change 37 = .ok (.iconst 3, 1) := by decide +kernel
theorem dX6_change_38 : decode cX6_change 38 = .ok (.goto 4, 3) := by decide +kernel
theorem dX6_change_41 : decode cX6_change 41 = .ok (.iconst 0, 1) := by decide +kernel
theorem dX6_change_42 : decode cX6_change 42 = .ok (.invokevirtual 87, 3) := by decide +kernel
theorem dX6_change_45 : decode cX6_change 45 = .ok (.ifCond .ne 5, 3) := by decide +kernel
theorem dX6_change_48 : decode cX6_change 48 = .ok (.iconst 0, 1) := by decide +kernel
theorem dX6_change_49 : decode cX6_change 49 = .ok (.ireturn, 1) := by decide +kernel
theorem dX6_change_50 : decode cX6_change 50 = .ok (.aload_n 0, 1) := by decide +kernel
theorem dX6_change_51 : decode cX6_change 51 = .ok (.getfield 26, 3) := by decide +kernel
theorem dX6_change_54 : decode cX6_change 54 = .ok (.iload_n 1, 1) := by decide +kernel
theorem dX6_change_55 : decode cX6_change 55 = .ok (.iload_n 2, 1) := by decide +kernel
theorem dX6_change_56 : decode cX6_change 56 = .ok (.iastore, 1) := by decide +kernel
theorem dX6_change_57 : decode cX6_change 57 = .ok (.aload_n 0, 1) := by decide +kernel
theorem dX6_change_58 : decode cX6_change 58 = .ok (.iload_n 1, 1) := by decide +kernel
theorem dX6_change_59 : decode cX6_change 59 = .ok (.aload_n 0, 1) := by decide +kernel
theorem dX6_change_60 : decode cX6_change 60 = .ok (.getfield 125, 3) := by decide +kernel
theorem dX6_change_63 : decode cX6_change 63 = .ok (.if_icmp .ne 12, 3) := by decide +kernel
theorem dX6_change_66 : decode cX6_change 66 = .ok (.aload_n 0, 1) := by decide +kernel
theorem dX6_change_67 : decode cX6_change 67 = .ok (.getfield 125, 3) := by decide +kernel
theorem dX6_change_70 : decode cX6_change 70 = .ok (.iconst 1, 1) := by decide +kernel
theorem dX6_change_71 : decode cX6_change 71 = .ok (.iadd, 1) := by decide +kernel
theorem dX6_change_72 : decode cX6_change 72 = .ok (.goto 7, 3) := by decide +kernel
theorem dX6_change_75 : decode cX6_change 75 = .ok (.aload_n 0, 1) := by decide +kernel
theorem dX6_change_76 : decode cX6_change 76 = .ok (.getfield 125, 3) := by decide +kernel
theorem dX6_change_79 : decode cX6_change 79 = .ok (.putfield 125, 3) := by decide +kernel
theorem dX6_change_82 : decode cX6_change 82 = .ok (.aload_n 0, 1) := by decide +kernel
theorem dX6_change_83 : decode cX6_change 83 = .ok (.getfield 125, 3) := by decide +kernel
theorem dX6_change_86 : decode cX6_change 86 = .ok (.ireturn, 1) := by decide +kernel
theorem dX6_shorten_0 : decode cX6_shorten 0 = .ok (.aload_n 0, 1) := by decide +kernel
theorem dX6_shorten_1 : decode cX6_shorten 1 = .ok (.aload_n 0, 1) := by decide +kernel
theorem dX6_shorten_2 : decode cX6_shorten 2 = .ok (.getfield 125, 3) := by decide +kernel
theorem dX6_shorten_5 : decode cX6_shorten 5 = .ok (.ifCond .ne 7, 3) := by decide +kernel
theorem dX6_shorten_8 : decode cX6_shorten 8 = .ok (.iconst 1, 1) := by decide +kernel
theorem dX6_shorten_9 : decode cX6_shorten 9 = .ok (.goto 4, 3) := by decide +kernel
theorem dX6_shorten_12 : decode cX6_shorten 12 = .ok (.iconst 0, 1) := by decide +kernel
theorem dX6_shorten_13 : decode cX6_shorten 13 = .ok (.invokevirtual 87, 3) := by decide +kernel
theorem dX6_shorten_16 : decode cX6_shorten 16 = .ok (.ifCond .ne 5, 3) := by decide +kernel
theorem dX6_shorten_19 : decode cX6_shorten 19 = .ok (.iconst 0, 1) := by decide +kernel
theorem dX6_shorten_20 : decode cX6_shorten 20 = .ok (.ireturn, 1) := by decide +kernel
theorem dX6_shorten_21 : decode cX6_shorten 21 = .ok (.aload_n 0, 1) := by decide +kernel
theorem dX6_shorten_22 : decode cX6_shorten 22 = .ok (.dup, 1) := by decide +kernel
theorem dX6_shorten_23 : decode cX6_shorten 23 = .ok (.getfield 125, 3) := by decide +kernel
theorem dX6_shorten_26 : decode cX6_shorten 26 = .ok (.iconst 1, 1) := by decide +kernel
theorem dX6_shorten_27 : decode cX6_shorten 27 = .ok (.isub, 1) := by decide +kernel
theorem dX6_shorten_28 : decode cX6_shorten 28 = .ok (.putfield 125, 3) := by decide +kernel
theorem dX6_shorten_31 : decode cX6_shorten 31 = .ok (.aload_n 0, 1) := by decide +kernel
theorem dX6_shorten_32 : decode cX6_shorten 32 = .ok (.getfield 26, 3) := by decide +kernel
theorem dX6_shorten_35 : decode cX6_shorten 35 = .ok (.aload_n 0, 1) := by decide +kernel
theorem dX6_shorten_36 : decode cX6_shorten 36 = .ok (.getfield 125, 3) := by decide +kernel
theorem dX6_shorten_39 : decode cX6_shorten 39 = .ok (.iaload, 1) := by decide +kernel
theorem dX6_shorten_40 : decode cX6_shorten 40 = .ok (.ireturn, 1) := by decide +kernel
theorem dX6_sums_0 : decode cX6_sums 0 = .ok (.aload_n 0, 1) := by decide +kernel
theorem dX6_sums_1 : decode cX6_sums 1 = .ok (.iconst 0, 1) := by decide +kernel
theorem dX6_sums_2 : decode cX6_sums 2 = .ok (.putfield 60, 3) := by decide +kernel
theorem dX6_sums_5 : decode cX6_sums 5 = .ok (.aload_n 0, 1) := by decide +kernel
theorem dX6_sums_6 : decode cX6_sums 6 = .ok (.getfield 125, 3) := by decide +kernel
theorem dX6_sums_9 : decode cX6_sums 9 = .ok (.ireturn, 1) := by decide +kernel
theorem dX6_sumAt_0 : decode cX6_sumAt 0 = .ok (.aload_n 0, 1) := by decide +kernel
theorem dX6_sumAt_1 : decode cX6_sumAt 1 = .ok (.iload_n 1, 1) := by decide +kernel
theorem dX6_sumAt_2 : decode cX6_sumAt 2 = .ok (.iconst 0, 1) := by decide +kernel
theorem dX6_sumAt_3 : decode cX6_sumAt 3 = .ok (.aload_n 0, 1) := by decide +kernel
theorem dX6_sumAt_4 : decode cX6_sumAt 4 = .ok (.getfield 125, 3) := by decide +kernel
theorem dX6_sumAt_7 : decode cX6_sumAt 7 = .ok (.iconst 1, 1) := by decide +kernel
theorem dX6_sumAt_8 : decode cX6_sumAt 8 = .ok (.isub, 1) := by decide +kernel
theorem dX6_sumAt_9 : decode cX6_sumAt 9 = .ok (.invokestatic 64, 3) := by decide +kernel
theorem dX6_sumAt_12 : decode cX6_sumAt 12 = .ok (.ifCond .eq 7, 3) := by decide +kernel
theorem dX6_sumAt_15 : decode cX6_sumAt 15 = .ok (.iconst 0, 1) := by decide +kernel
theorem dX6_sumAt_16 : decode cX6_sumAt 16 = .ok (.goto 4, 3) := by decide +kernel
theorem dX6_sumAt_19 : decode cX6_sumAt 19 = .ok (.iconst 1, 1) := by decide +kernel
theorem dX6_sumAt_20 : decode cX6_sumAt 20 = .ok (.invokevirtual 87, 3) := by decide +kernel
theorem dX6_sumAt_23 : decode cX6_sumAt 23 = .ok (.ifCond .eq 12, 3) := by decide +kernel
theorem dX6_sumAt_26 : decode cX6_sumAt 26 = .ok (.aload_n 0, 1) := by decide +kernel
theorem dX6_sumAt_27 : decode cX6_sumAt 27 = .ok (.getfield 26, 3) := by decide +kernel
theorem dX6_sumAt_30 : decode cX6_sumAt 30 = .ok (.iload_n 1, 1) := by decide +kernel
theorem dX6_sumAt_31 : decode cX6_sumAt 31 = .ok (.iaload, 1) := by decide +kernel
theorem dX6_sumAt_32 : decode cX6_sumAt 32 = .ok (.goto 4, 3) := by decide +kernel
theorem dX6_sumAt_35 : decode cX6_sumAt 35 = .ok (.iconst 0, 1) := by decide +kernel
theorem dX6_sumAt_36 : decode cX6_sumAt 36 = .ok (.ireturn, 1) := by decide +kernel
theorem dX6_testLeaf_0 : decode cX6_testLeaf 0 = .ok (.aload_n 0, 1) := by decide +kernel
theorem dX6_testLeaf_1 : decode cX6_testLeaf 1 = .ok (.iload_n 1, 1) := by decide +kernel
theorem dX6_testLeaf_2 : decode cX6_testLeaf 2 = .ok (.invokevirtual 80, 3) := by decide +kernel
theorem dX6_testLeaf_5 : decode cX6_testLeaf 5 = .ok (.ifCond .eq 36, 3) := by decide +kernel
theorem dX6_testLeaf_8 : decode cX6_testLeaf 8 = .ok (.iload_n 2, 1) := by decide +kernel
theorem dX6_testLeaf_9 : decode cX6_testLeaf 9 = .ok (.invokestatic 84, 3) := by decide +kernel
theorem dX6_testLeaf_12 : decode cX6_testLeaf 12 = .ok (.ifCond .eq 29, 3) := by decide +kernel
theorem dX6_testLeaf_15 : decode cX6_testLeaf 15 = .ok (.aload_n 0, 1) := by decide +kernel
theorem dX6_testLeaf_16 : decode cX6_testLeaf 16 = .ok (.iload_n 1, 1) := by decide +kernel
theorem dX6_testLeaf_17 : decode cX6_testLeaf 17 = .ok (.iload 4, 2) := by decide +kernel
theorem dX6_testLeaf_19 : decode cX6_testLeaf 19 = .ok (.invokevirtual 128, 3) := by decide +kernel
theorem dX6_testLeaf_22 : decode cX6_testLeaf 22 = .ok (.ifCond .eq 19, 3) := by decide +kernel
theorem dX6_testLeaf_25 : decode cX6_testLeaf 25 = .ok (.iload_n 3, 1) := by decide +kernel
theorem dX6_testLeaf_26 : decode cX6_testLeaf 26 = .ok (.iconst 0, 1) := by decide +kernel
theorem dX6_testLeaf_27 : decode cX6_testLeaf 27 = .ok (.iload 4, 2) := by decide +kernel
theorem dX6_testLeaf_29 : decode cX6_testLeaf 29 = .ok (.iconst 1, 1) := by decide +kernel
theorem dX6_testLeaf_30 : decode cX6_testLeaf 30 = .ok (.isub, 1) := by decide +kernel
theorem dX6_testLeaf_31 : decode cX6_testLeaf 31 = .ok (.invokestatic 64, 3) := by decide +kernel
theorem dX6_testLeaf_34 : decode cX6_testLeaf 34 = .ok (.ifCond .eq 7, 3) := by decide +kernel
theorem dX6_testLeaf_37 : decode cX6_testLeaf 37 = .ok (.iconst 1, 1) := by decide +kernel
theorem dX6_testLeaf_38 : decode cX6_testLeaf 38 = .ok (.goto 4, 3) := by decide +kernel
theorem dX6_testLeaf_41 : decode cX6_testLeaf 41 = .ok (.iconst 0, 1) := by decide +kernel
theorem dX6_testLeaf_42 : decode cX6_testLeaf 42 = .ok (.istore 5, 2) := by decide +kernel
theorem dX6_testLeaf_44 : decode cX6_testLeaf 44 = .ok (.aload_n 0, 1) := by decide +kernel
theorem dX6_testLeaf_45 : decode cX6_testLeaf 45 = .ok (.aload_n 0, 1) := by decide +kernel
theorem dX6_testLeaf_46 : decode cX6_testLeaf 46 = .ok (.iload_n 1, 1) := by decide +kernel
theorem dX6_testLeaf_47 : decode cX6_testLeaf 47 = .ok (.invokevirtual 80, 3) := by decide +kernel
theorem dX6_testLeaf_50 : decode cX6_testLeaf 50 = .ok (.ifCond .ne 7, 3) := by decide +kernel
theorem dX6_testLeaf_53 : decode cX6_testLeaf 53 = .ok (.iconst 1, 1) := by decide +kernel
theorem dX6_testLeaf_54 : decode cX6_testLeaf 54 = .ok (.goto 13, 3) := by decide +kernel
theorem dX6_testLeaf_57 : decode cX6_testLeaf 57 = .ok (.iload 5, 2) := by decide +kernel
theorem dX6_testLeaf_59 : decode cX6_testLeaf 59 = .ok (.ifCond .eq 7, 3) := by decide +kernel
theorem dX6_testLeaf_62 : decode cX6_testLeaf 62 = .ok (.iconst 0, 1) := by decide +kernel
theorem dX6_testLeaf_63 : decode cX6_testLeaf 63 = .ok (.goto 4, 3) := by decide +kernel
theorem dX6_testLeaf_66 : decode cX6_testLeaf 66 = .ok (.iconst 2, 1) := by decide +kernel
theorem dX6_testLeaf_67 : decode cX6_testLeaf 67 = .ok (.invokevirtual 87, 3) := by decide +kernel
theorem dX6_testLeaf_70 : decode cX6_testLeaf 70 = .ok (.ifCond .ne 5, 3) := by decide +kernel
theorem dX6_testLeaf_73 : decode cX6_testLeaf 73 = .ok (.iconst 0, 1) := by decide +kernel
theorem dX6_testLeaf_74 : decode cX6_testLeaf 74 = .ok (.ireturn, 1) := by decide +kernel
theorem dX6_testLeaf_75 : decode cX6_testLeaf 75 = .ok (.aload_n 0, 1) := by decide +kernel
theorem dX6_testLeaf_76 : decode cX6_testLeaf 76 = .ok (.iload_n 1, 1) := by decide +kernel
theorem dX6_testLeaf_77 : decode cX6_testLeaf 77 = .ok (.iload_n 3, 1) := by decide +kernel
theorem dX6_testLeaf_78 : decode cX6_testLeaf 78 = .ok (.iload 4, 2) := by decide +kernel
theorem dX6_testLeaf_80 : decode cX6_testLeaf 80 = .ok (.invokevirtual 132, 3) := by decide +kernel
theorem dX6_testLeaf_83 : decode cX6_testLeaf 83 = .ok (.iload_n 2, 1) := by decide +kernel
theorem dX6_testLeaf_84 : decode cX6_testLeaf 84 = .ok (.invokestatic 90, 3) := by decide +kernel
theorem dX6_testLeaf_87 : decode cX6_testLeaf 87 = .ok (.istore 6, 2) := by decide +kernel
theorem dX6_testLeaf_89 : decode cX6_testLeaf 89 = .ok (.iconst 0, 1) := by decide +kernel
theorem dX6_testLeaf_90 : decode cX6_testLeaf 90 = .ok (.istore 7, 2) := by decide +kernel
theorem dX6_testLeaf_92 : decode cX6_testLeaf 92 = .ok (.iload 7, 2) := by decide +kernel
theorem dX6_testLeaf_94 : decode cX6_testLeaf 94 = .ok (.aload_n 0, 1) := by decide +kernel
theorem dX6_testLeaf_95 : decode cX6_testLeaf 95 = .ok (.getfield 108, 3) := by decide +kernel
theorem dX6_testLeaf_98 : decode cX6_testLeaf 98 = .ok (.if_icmp .ge 66, 3) := by decide +kernel
theorem dX6_testLeaf_101 : decode cX6_testLeaf 101 = .ok (.aload_n 0, 1) := by decide +kernel
theorem dX6_testLeaf_102 : decode cX6_testLeaf 102 = .ok (.getfield 108, 3) := by decide +kernel
theorem dX6_testLeaf_105 : decode cX6_testLeaf 105 = .ok (.aload_n 0, 1) := by decide +kernel
theorem dX6_testLeaf_106 : decode cX6_testLeaf 106 = .ok (.getfield 125, 3) := by decide +kernel
theorem dX6_testLeaf_109 : decode cX6_testLeaf 109 = .ok (.if_icmp .ne 55, 3) := by decide +kernel
theorem dX6_testLeaf_112 : decode cX6_testLeaf 112 = .ok (.aload_n 0, 1) := by decide +kernel
theorem dX6_testLeaf_113 : decode cX6_testLeaf 113 = .ok (.getfield 32, 3) := by decide +kernel
theorem dX6_testLeaf_116 : decode cX6_testLeaf 116 = .ok (.aload_n 0, 1) := by decide +kernel
theorem dX6_testLeaf_117 : decode cX6_testLeaf 117 = .ok (.getfield 108, 3) := by decide +kernel
theorem dX6_testLeaf_120 : decode cX6_testLeaf 120 = .ok (.iconst 1, 1) := by decide +kernel
theorem dX6_testLeaf_121 : decode cX6_testLeaf 121 = .ok (.isub, 1) := by decide +kernel
theorem dX6_testLeaf_122 : decode cX6_testLeaf 122 = .ok (.iload 7, 2) := by decide +kernel
theorem dX6_testLeaf_124 : decode cX6_testLeaf 124 = .ok (.isub, 1) := by decide +kernel
theorem dX6_testLeaf_125 : decode cX6_testLeaf 125 = .ok (.baload, 1) := by decide +kernel
theorem dX6_testLeaf_126 : decode cX6_testLeaf 126 = .ok (.ifCond .eq 18, 3) := by decide +kernel
theorem dX6_testLeaf_129 : decode cX6_testLeaf 129 = .ok (.iload 6, 2) := by decide +kernel
theorem dX6_testLeaf_131 : decode cX6_testLeaf 131 = .ok (.aload_n 0, 1) := by decide +kernel
theorem dX6_testLeaf_132 : decode cX6_testLeaf 132 = .ok (.getfield 26, 3) := by decide +kernel
theorem dX6_testLeaf_135 : decode cX6_testLeaf 135 = .ok (.iload 7, 2) := by decide +kernel
theorem dX6_testLeaf_137 : decode cX6_testLeaf 137 = .ok (.iaload, 1) := by decide +kernel
theorem dX6_testLeaf_138 : decode cX6_testLeaf 138 = .ok (.invokestatic 94, 3) := by decide +kernel
theorem dX6_testLeaf_141 : decode cX6_testLeaf 141 = .ok (.goto 15, 3) := by decide +kernel
theorem dX6_testLeaf_144 : decode cX6_testLeaf 144 = .ok (.aload_n 0, 1) := by decide +kernel
theorem dX6_testLeaf_145 : decode cX6_testLeaf 145 = .ok (.getfield 26, 3) := by decide +kernel
theorem dX6_testLeaf_148 : decode cX6_testLeaf 148 = .ok (.iload 7, 2) := by decide +kernel
theorem dX6_testLeaf_150 : decode cX6_testLeaf 150 = .ok (.iaload, 1) := by decide +kernel
theorem dX6_testLeaf_151 : decode cX6_testLeaf 151 = .ok (.iload 6, 2) := by decide +kernel
theorem dX6_testLeaf_153 : decode cX6_testLeaf 153 = .ok (.invokestatic 94, 3) := by decide +kernel
theorem dX6_testLeaf_156 : decode cX6_testLeaf 156 = .ok (.istore 6, 2) := by decide +kernel
theorem dX6_testLeaf_158 : decode cX6_testLeaf 158 = .ok (.iinc 7 1, 3) := by decide +kernel
theorem dX6_testLeaf_161 : decode cX6_testLeaf 161 = .ok (.goto (-69), 3) := by decide +kernel
theorem dX6_testLeaf_164 : decode cX6_testLeaf 164 = .ok (.aload_n 0, 1) := by decide +kernel
theorem dX6_testLeaf_165 : decode cX6_testLeaf 165 = .ok (.getfield 108, 3) := by decide +kernel
theorem dX6_testLeaf_168 : decode cX6_testLeaf 168 = .ok (.aload_n 0, 1) := by decide +kernel
theorem dX6_testLeaf_169 : decode cX6_testLeaf 169 = .ok (.getfield 125, 3) := by decide +kernel
theorem dX6_testLeaf_172 : decode cX6_testLeaf 172 = .ok (.if_icmp .ne 20, 3) := by decide +kernel
theorem dX6_testLeaf_175 : decode cX6_testLeaf 175 = .ok (.iload 6, 2) := by decide +kernel
theorem dX6_testLeaf_177 : decode cX6_testLeaf 177 = .ok (.aload_n 0, 1) := by decide +kernel
theorem dX6_testLeaf_178 : decode cX6_testLeaf 178 = .ok (.iload_n 1, 1) := by decide +kernel
theorem dX6_testLeaf_179 : decode cX6_testLeaf 179 = .ok (.iconst 0, 1) := by decide +kernel
theorem dX6_testLeaf_180 : decode cX6_testLeaf 180 = .ok (.iload 4, 2) := by decide +kernel
theorem dX6_testLeaf_182 : decode cX6_testLeaf 182 = .ok (.invokevirtual 101, 3) := by decide +kernel
theorem dX6_testLeaf_185 : decode cX6_testLeaf 185 = .ok (.if_icmp .ne 7, 3) := by decide +kernel
theorem dX6_testLeaf_188 : decode cX6_testLeaf 188 = .ok (.iconst 1, 1) := by decide +kernel
theorem dX6_testLeaf_189 : decode cX6_testLeaf 189 = .ok (.goto 4, 3) := by decide +kernel
theorem dX6_testLeaf_192 : decode cX6_testLeaf 192 = .ok (.iconst 0, 1) := by decide +kernel
theorem dX6_testLeaf_193 : decode cX6_testLeaf 193 = .ok (.ireturn, 1) := by decide +kernel
theorem dX6_testGrowth_0 : decode cX6_testGrowth 0 = .ok (.aload_n 0, 1) := by decide +kernel
theorem dX6_testGrowth_1 : decode cX6_testGrowth 1 = .ok (.iload_n 1, 1) := by decide +kernel
theorem dX6_testGrowth_2 : decode cX6_testGrowth 2 = .ok (.invokevirtual 80, 3) := by decide +kernel
theorem dX6_testGrowth_5 : decode cX6_testGrowth 5 = .ok (.ifCond .eq 15, 3) := by decide +kernel
theorem dX6_testGrowth_8 : decode cX6_testGrowth 8 = .ok (.aload_n 0, 1) := by decide +kernel
theorem dX6_testGrowth_9 : decode cX6_testGrowth 9 = .ok (.iload_n 3, 1) := by decide +kernel
theorem dX6_testGrowth_10 : decode cX6_testGrowth 10 = .ok (.invokevirtual 80, 3) := by decide +kernel
theorem dX6_testGrowth_13 : decode cX6_testGrowth 13 = .ok (.ifCond .eq 7, 3) := by decide +kernel
theorem dX6_testGrowth_16 : decode cX6_testGrowth 16 = .ok (.iconst 1, 1) := by decide +kernel
theorem dX6_testGrowth_17 : decode cX6_testGrowth 17 = .ok (.goto 4, 3) := by decide +kernel
theorem dX6_testGrowth_20 : decode cX6_testGrowth 20 = .ok (.iconst 0, 1) := by decide +kernel
theorem dX6_testGrowth_21 : decode cX6_testGrowth 21 = .ok (.istore 5, 2) := by decide +kernel
theorem dX6_testGrowth_23 : decode cX6_testGrowth 23 = .ok (.iload 5, 2) := by decide +kernel
theorem dX6_testGrowth_25 : decode cX6_testGrowth 25 = .ok (.ifCond .eq 37, 3) := by decide +kernel
theorem dX6_testGrowth_28 : decode cX6_testGrowth 28 = .ok (.aload_n 0, 1) := by decide +kernel
theorem dX6_testGrowth_29 : decode cX6_testGrowth 29 = .ok (.iload_n 3, 1) := by decide +kernel
theorem dX6_testGrowth_30 : decode cX6_testGrowth 30 = .ok (.iload 4, 2) := by decide +kernel
theorem dX6_testGrowth_32 : decode cX6_testGrowth 32 = .ok (.invokevirtual 128, 3) := by decide +kernel
theorem dX6_testGrowth_35 : decode cX6_testGrowth 35 = .ok (.ifCond .eq 27, 3) := by decide +kernel
theorem dX6_testGrowth_38 : decode cX6_testGrowth 38 = .ok (.iload_n 2, 1) := by decide +kernel
theorem dX6_testGrowth_39 : decode cX6_testGrowth 39 = .ok (.iconst 1, 1) := by decide +kernel
theorem dX6_testGrowth_40 : decode cX6_testGrowth 40 = .ok (.iload 4, 2) := by decide +kernel
theorem dX6_testGrowth_42 : decode cX6_testGrowth 42 = .ok (.invokestatic 64, 3) := by decide +kernel
theorem dX6_testGrowth_45 : decode cX6_testGrowth 45 = .ok (.ifCond .eq 17, 3) := by decide +kernel
theorem dX6_testGrowth_48 : decode cX6_testGrowth 48 = .ok (.iload_n 2, 1) := by decide +kernel
theorem dX6_testGrowth_49 : decode cX6_testGrowth 49 = .ok (.aload_n 0, 1) := by decide +kernel
theorem dX6_testGrowth_50 : decode cX6_testGrowth 50 = .ok (.getfield 13, 3) := by decide +kernel
theorem dX6_testGrowth_53 : decode cX6_testGrowth 53 = .ok (.iload_n 1, 1) := by decide +kernel
theorem dX6_testGrowth_54 : decode cX6_testGrowth 54 = .ok (.iaload, 1) := by decide +kernel
theorem dX6_testGrowth_55 : decode cX6_testGrowth 55 = .ok (.if_icmp .gt 7, 3) := by decide +kernel
theorem dX6_testGrowth_58 : decode cX6_testGrowth 58 = .ok (.iconst 1, 1) := by decide +kernel
theorem dX6_testGrowth_59 : decode cX6_testGrowth 59 = .ok (.goto 4, 3) := by decide +kernel
theorem dX6_testGrowth_62 : decode cX6_testGrowth 62 = .ok (.iconst 0, 1) := by decide +kernel
theorem dX6_testGrowth_63 : decode cX6_testGrowth 63 = .ok (.istore 6, 2) := by decide +kernel
theorem dX6_testGrowth_65 : decode cX6_testGrowth 65 = .ok (.aload_n 0, 1) := by decide +kernel
theorem dX6_testGrowth_66 : decode cX6_testGrowth 66 = .ok (.iload 5, 2) := by decide +kernel
theorem dX6_testGrowth_68 : decode cX6_testGrowth 68 = .ok (.ifCond .ne 7, 3) := by decide +kernel
theorem dX6_testGrowth_71 : decode cX6_testGrowth 71 = .ok (.iconst 1, 1) := by decide +kernel
theorem dX6_testGrowth_72 : decode cX6_testGrowth 72 = .ok (.goto 13, 3) := by decide +kernel
theorem dX6_testGrowth_75 : decode cX6_testGrowth 75 = .ok (.iload 6, 2) := by decide +kernel
theorem dX6_testGrowth_77 : decode cX6_testGrowth 77 = .ok (.ifCond .eq 7, 3) := by decide +kernel
theorem dX6_testGrowth_80 : decode cX6_testGrowth 80 = .ok (.iconst 0, 1) := by decide +kernel
theorem dX6_testGrowth_81 : decode cX6_testGrowth 81 = .ok (.goto 4, 3) := by decide +kernel
theorem dX6_testGrowth_84 : decode cX6_testGrowth 84 = .ok (.iconst 2, 1) := by decide +kernel
theorem dX6_testGrowth_85 : decode cX6_testGrowth 85 = .ok (.invokevirtual 87, 3) := by decide +kernel
theorem dX6_testGrowth_88 : decode cX6_testGrowth 88 = .ok (.ifCond .ne 5, 3) := by decide +kernel
theorem dX6_testGrowth_91 : decode cX6_testGrowth 91 = .ok (.iconst 0, 1) := by decide +kernel
theorem dX6_testGrowth_92 : decode cX6_testGrowth 92 = .ok (.ireturn, 1) := by decide +kernel
theorem dX6_testGrowth_93 : decode cX6_testGrowth 93 = .ok (.aload_n 0, 1) := by decide +kernel
theorem dX6_testGrowth_94 : decode cX6_testGrowth 94 = .ok (.iload_n 3, 1) := by decide +kernel
theorem dX6_testGrowth_95 : decode cX6_testGrowth 95 = .ok (.iload_n 2, 1) := by decide +kernel
theorem dX6_testGrowth_96 : decode cX6_testGrowth 96 = .ok (.iload 4, 2) := by decide +kernel
theorem dX6_testGrowth_98 : decode cX6_testGrowth 98 = .ok (.invokevirtual 140, 3) := by decide +kernel
theorem dX6_testGrowth_101 : decode cX6_testGrowth 101 = .ok (.aload_n 0, 1) := by decide +kernel
theorem dX6_testGrowth_102 : decode cX6_testGrowth 102 = .ok (.getfield 121, 3) := by decide +kernel
theorem dX6_testGrowth_105 : decode cX6_testGrowth 105 = .ok (.ifCond .eq 7, 3) := by decide +kernel
theorem dX6_testGrowth_108 : decode cX6_testGrowth 108 = .ok (.iconst 0, 1) := by decide +kernel
theorem dX6_testGrowth_109 : decode cX6_testGrowth 109 = .ok (.goto 4, 3) := by decide +kernel
theorem dX6_testGrowth_112 : decode cX6_testGrowth 112 = .ok (.iconst 1, 1) := by decide +kernel
theorem dX6_testGrowth_113 : decode cX6_testGrowth 113 = .ok (.istore 7, 2) := by decide +kernel
theorem dX6_testGrowth_115 : decode cX6_testGrowth 115 = .ok (.aload_n 0, 1) := by decide +kernel
theorem dX6_testGrowth_116 : decode cX6_testGrowth 116 = .ok (.getfield 125, 3) := by decide +kernel
theorem dX6_testGrowth_119 : decode cX6_testGrowth 119 = .ok (.aload_n 0, 1) := by decide +kernel
theorem dX6_testGrowth_120 : decode cX6_testGrowth 120 = .ok (.getfield 108, 3) := by decide +kernel
theorem dX6_testGrowth_123 : decode cX6_testGrowth 123 = .ok (.iload 7, 2) := by decide +kernel
theorem dX6_testGrowth_125 : decode cX6_testGrowth 125 = .ok (.iadd, 1) := by decide +kernel
theorem dX6_testGrowth_126 : decode cX6_testGrowth 126 = .ok (.if_icmp .eq 5, 3) := by decide +kernel
theorem dX6_testGrowth_129 : decode cX6_testGrowth 129 = .ok (.iconst 0, 1) := by decide +kernel
theorem dX6_testGrowth_130 : decode cX6_testGrowth 130 = .ok (.ireturn, 1) := by decide +kernel
theorem dX6_testGrowth_131 : decode cX6_testGrowth 131 = .ok (.aload_n 0, 1) := by decide +kernel
theorem dX6_testGrowth_132 : decode cX6_testGrowth 132 = .ok (.getfield 121, 3) := by decide +kernel
theorem dX6_testGrowth_135 : decode cX6_testGrowth 135 = .ok (.ifCond .eq 13, 3) := by decide +kernel
theorem dX6_testGrowth_138 : decode cX6_testGrowth 138 = .ok (.aload_n 0, 1) := by decide +kernel
theorem dX6_testGrowth_139 : decode cX6_testGrowth 139 = .ok (.iload_n 1, 1) := by decide +kernel
theorem dX6_testGrowth_140 : decode cX6_testGrowth 140 = .ok (.iconst 0, 1) := by decide +kernel
theorem dX6_testGrowth_141 : decode cX6_testGrowth 141 = .ok (.iload_n 2, 1) := by decide +kernel
theorem dX6_testGrowth_142 : decode cX6_testGrowth 142 = .ok (.invokevirtual 101, 3) := by decide +kernel
theorem dX6_testGrowth_145 : decode cX6_testGrowth 145 = .ok (.goto 9, 3) := by decide +kernel
theorem dX6_testGrowth_148 : decode cX6_testGrowth 148 = .ok (.aload_n 0, 1) := by decide +kernel
theorem dX6_testGrowth_149 : decode cX6_testGrowth 149 = .ok (.getfield 26, 3) := by decide +kernel
theorem dX6_testGrowth_152 : decode cX6_testGrowth 152 = .ok (.iconst 0, 1) := by decide +kernel
theorem dX6_testGrowth_153 : decode cX6_testGrowth 153 = .ok (.iaload, 1) := by decide +kernel
theorem dX6_testGrowth_154 : decode cX6_testGrowth 154 = .ok (.istore 8, 2) := by decide +kernel
theorem dX6_testGrowth_156 : decode cX6_testGrowth 156 = .ok (.iload 8, 2) := by decide +kernel
theorem dX6_testGrowth_158 : decode cX6_testGrowth 158 = .ok (.istore 9, 2) := by decide +kernel
theorem dX6_testGrowth_160 : decode cX6_testGrowth 160 = .ok (.iconst 0, 1) := by decide +kernel
theorem dX6_testGrowth_161 : decode cX6_testGrowth 161 = .ok (.istore 10, 2) := by decide +kernel
theorem dX6_testGrowth_163 : decode cX6_testGrowth 163 = .ok (.iload 10, 2) := by decide +kernel
theorem dX6_testGrowth_165 : decode cX6_testGrowth 165 = .ok (.aload_n 0, 1) := by decide +kernel
theorem dX6_testGrowth_166 : decode cX6_testGrowth 166 = .ok (.getfield 108, 3) := by decide +kernel
theorem dX6_testGrowth_169 : decode cX6_testGrowth 169 = .ok (.if_icmp .ge 80, 3) := by decide +kernel
theorem dX6_testGrowth_172 : decode cX6_testGrowth 172 = .ok (.aload_n 0, 1) := by decide +kernel
theorem dX6_testGrowth_173 : decode cX6_testGrowth 173 = .ok (.getfield 26, 3) := by decide +kernel
theorem dX6_testGrowth_176 : decode cX6_testGrowth 176 = .ok (.iload 10, 2) := by decide +kernel
theorem dX6_testGrowth_178 : decode cX6_testGrowth 178 = .ok (.iload 7, 2) := by decide +kernel
theorem dX6_testGrowth_180 : decode cX6_testGrowth 180 = .ok (.iadd, 1) := by decide +kernel
theorem dX6_testGrowth_181 : decode cX6_testGrowth 181 = .ok (.iaload, 1) := by decide +kernel
theorem dX6_testGrowth_182 : decode cX6_testGrowth 182 = .ok (.istore 11, 2) := by decide +kernel
theorem dX6_testGrowth_184 : decode cX6_testGrowth 184 = .ok (.aload_n 0, 1) := by decide +kernel
theorem dX6_testGrowth_185 : decode cX6_testGrowth 185 = .ok (.getfield 32, 3) := by decide +kernel
theorem dX6_testGrowth_188 : decode cX6_testGrowth 188 = .ok (.aload_n 0, 1) := by decide +kernel
theorem dX6_testGrowth_189 : decode cX6_testGrowth 189 = .ok (.getfield 108, 3) := by decide +kernel
theorem dX6_testGrowth_192 : decode cX6_testGrowth 192 = .ok (.iconst 1, 1) := by decide +kernel
theorem dX6_testGrowth_193 : decode cX6_testGrowth 193 = .ok (.isub, 1) := by decide +kernel
theorem dX6_testGrowth_194 : decode cX6_testGrowth 194 = .ok (.iload 10, 2) := by decide +kernel
theorem dX6_testGrowth_196 : decode cX6_testGrowth 196 = .ok (.isub, 1) := by decide +kernel
theorem dX6_testGrowth_197 : decode cX6_testGrowth 197 = .ok (.baload, 1) := by decide +kernel
theorem dX6_testGrowth_198 : decode cX6_testGrowth 198 = .ok (.istore 12, 2) := by decide +kernel
theorem dX6_testGrowth_200 : decode cX6_testGrowth 200 = .ok (.iload 12, 2) := by decide +kernel
theorem dX6_testGrowth_202 : decode cX6_testGrowth 202 = .ok (.ifCond .eq 13, 3) := by decide +kernel
theorem dX6_testGrowth_205 : decode cX6_testGrowth 205 = .ok (.iload 9, 2) := by decide +kernel
theorem dX6_testGrowth_207 : decode cX6_testGrowth 207 = .ok (.iload 11, 2) := by decide +kernel
theorem dX6_testGrowth_209 : decode cX6_testGrowth 209 = .ok (.invokestatic 94, 3) := by decide +kernel
theorem dX6_testGrowth_212 : decode cX6_testGrowth 212 = .ok (.goto 10, 3) := by decide +kernel
theorem dX6_testGrowth_215 : decode cX6_testGrowth 215 = .ok (.iload 11, 2) := by decide +kernel
theorem dX6_testGrowth_217 : decode cX6_testGrowth 217 = .ok (.iload 9, 2) := by decide +kernel
theorem dX6_testGrowth_219 : decode cX6_testGrowth 219 = .ok (.invokestatic 94, 3) := by decide +kernel
theorem dX6_testGrowth_222 : decode cX6_testGrowth 222 = .ok (.istore 9, 2) := by decide +kernel
theorem dX6_testGrowth_224 : decode cX6_testGrowth 224 = .ok (.iload 12, 2) := by decide +kernel
theorem dX6_testGrowth_226 : decode cX6_testGrowth 226 = .ok (.ifCond .eq 8, 3) := by decide +kernel
theorem dX6_testGrowth_229 : decode cX6_testGrowth 229 = .ok (.iload 8, 2) := by decide +kernel
theorem dX6_testGrowth_231 : decode cX6_testGrowth 231 = .ok (.goto 10, 3) := by decide +kernel
theorem dX6_testGrowth_234 : decode cX6_testGrowth 234 = .ok (.iload 11, 2) := by decide +kernel
theorem dX6_testGrowth_236 : decode cX6_testGrowth 236 = .ok (.iload 8, 2) := by decide +kernel
theorem dX6_testGrowth_238 : decode cX6_testGrowth 238 = .ok (.invokestatic 94, 3) := by decide +kernel
theorem dX6_testGrowth_241 : decode cX6_testGrowth 241 = .ok (.istore 8, 2) := by decide +kernel
theorem dX6_testGrowth_243 : decode cX6_testGrowth 243 = .ok (.iinc 10 1, 3) := by decide +kernel
theorem dX6_testGrowth_246 : decode cX6_testGrowth 246 = .ok (.goto (-83), 3) := by decide +kernel
theorem dX6_testGrowth_249 : decode cX6_testGrowth 249 = .ok (.iload 8, 2) := by decide +kernel
theorem dX6_testGrowth_251 : decode cX6_testGrowth 251 = .ok (.aload_n 0, 1) := by decide +kernel
theorem dX6_testGrowth_252 : decode cX6_testGrowth 252 = .ok (.iload_n 1, 1) := by decide +kernel
theorem dX6_testGrowth_253 : decode cX6_testGrowth 253 = .ok (.iconst 0, 1) := by decide +kernel
theorem dX6_testGrowth_254 : decode cX6_testGrowth 254 = .ok (.iload_n 2, 1) := by decide +kernel
theorem dX6_testGrowth_255 : decode cX6_testGrowth 255 = .ok (.invokevirtual 101, 3) := by decide +kernel
theorem dX6_testGrowth_258 : decode cX6_testGrowth 258 = .ok (.if_icmp .ne 20, 3) := by decide +kernel
theorem dX6_testGrowth_261 : decode cX6_testGrowth 261 = .ok (.iload 9, 2) := by decide +kernel
theorem dX6_testGrowth_263 : decode cX6_testGrowth 263 = .ok (.aload_n 0, 1) := by decide +kernel
theorem dX6_testGrowth_264 : decode cX6_testGrowth 264 = .ok (.iload_n 3, 1) := by decide +kernel
theorem dX6_testGrowth_265 : decode cX6_testGrowth 265 = .ok (.iconst 0, 1) := by decide +kernel
theorem dX6_testGrowth_266 : decode cX6_testGrowth 266 = .ok (.iload 4, 2) := by decide +kernel
theorem dX6_testGrowth_268 : decode cX6_testGrowth 268 = .ok (.invokevirtual 101, 3) := by decide +kernel
theorem dX6_testGrowth_271 : decode cX6_testGrowth 271 = .ok (.if_icmp .ne 7, 3) := by decide +kernel
theorem dX6_testGrowth_274 : decode cX6_testGrowth 274 = .ok (.iconst 1, 1) := by decide +kernel
theorem dX6_testGrowth_275 : decode cX6_testGrowth 275 = .ok (.goto 4, 3) := by decide +kernel
theorem dX6_testGrowth_278 : decode cX6_testGrowth 278 = .ok (.iconst 0, 1) := by decide +kernel
theorem dX6_testGrowth_279 : decode cX6_testGrowth 279 = .ok (.ireturn, 1) := by decide +kernel
theorem dX6_testKey_0 : decode cX6_testKey 0 = .ok (.aload_n 0, 1) := by decide +kernel
theorem dX6_testKey_1 : decode cX6_testKey 1 = .ok (.iload_n 1, 1) := by decide +kernel
theorem dX6_testKey_2 : decode cX6_testKey 2 = .ok (.invokestatic 149, 3) := by decide +kernel
theorem dX6_testKey_5 : decode cX6_testKey 5 = .ok (.ifCond .eq 19, 3) := by decide +kernel
theorem dX6_testKey_8 : decode cX6_testKey 8 = .ok (.iload_n 2, 1) := by decide +kernel
theorem dX6_testKey_9 : decode cX6_testKey 9 = .ok (.iconst (-1), 1) := by decide +kernel
theorem dX6_testKey_10 : decode cX6_testKey 10 = .ok (.if_icmp .eq 10, 3) := by decide +kernel
theorem dX6_testKey_13 : decode cX6_testKey 13 = .ok (.iload_n 2, 1) := by decide +kernel
theorem dX6_testKey_14 : decode cX6_testKey 14 = .ok (.invokestatic 84, 3) := by decide +kernel
theorem dX6_testKey_17 : decode cX6_testKey 17 = .ok (.ifCond .eq 7, 3) := by decide +kernel
theorem dX6_testKey_20 : decode cX6_testKey 20 = .ok (.iconst 0, 1) := by decide +kernel
theorem dX6_testKey_21 : decode cX6_testKey 21 = .ok (.goto 4, 3) := by decide +kernel
theorem dX6_testKey_24 : decode cX6_testKey 24 = .ok (.iconst 1, 1) := by decide +kernel
theorem dX6_testKey_25 : decode cX6_testKey 25 = .ok (.invokevirtual 87, 3) := by decide +kernel
theorem dX6_testKey_28 : decode cX6_testKey 28 = .ok (.ifCond .ne 5, 3) := by decide +kernel
theorem dX6_testKey_31 : decode cX6_testKey 31 = .ok (.iconst 0, 1) := by decide +kernel
theorem dX6_testKey_32 : decode cX6_testKey 32 = .ok (.ireturn, 1) := by decide +kernel
theorem dX6_testKey_33 : decode cX6_testKey 33 = .ok (.iload_n 2, 1) := by decide +kernel
theorem dX6_testKey_34 : decode cX6_testKey 34 = .ok (.invokestatic 143, 3) := by decide +kernel
theorem dX6_testKey_37 : decode cX6_testKey 37 = .ok (.istore_n 3, 1) := by decide +kernel
theorem dX6_testKey_38 : decode cX6_testKey 38 = .ok (.iconst 0, 1) := by decide +kernel
theorem dX6_testKey_39 : decode cX6_testKey 39 = .ok (.istore 4, 2) := by decide +kernel
theorem dX6_testKey_41 : decode cX6_testKey 41 = .ok (.iload 4, 2) := by decide +kernel
theorem dX6_testKey_43 : decode cX6_testKey 43 = .ok (.bipush 6, 2) := by decide +kernel
theorem dX6_testKey_45 : decode cX6_testKey 45 = .ok (.if_icmp .ge 54, 3) := by decide +kernel
theorem dX6_testKey_48 : decode cX6_testKey 48 = .ok (.aload_n 0, 1) := by decide +kernel
theorem dX6_testKey_49 : decode cX6_testKey 49 = .ok (.getfield 125, 3) := by decide +kernel
theorem dX6_testKey_52 : decode cX6_testKey 52 = .ok (.bipush 6, 2) := by decide +kernel
theorem dX6_testKey_54 : decode cX6_testKey 54 = .ok (.if_icmp .ne 45, 3) := by decide +kernel
theorem dX6_testKey_57 : decode cX6_testKey 57 = .ok (.iload_n 1, 1) := by decide +kernel
theorem dX6_testKey_58 : decode cX6_testKey 58 = .ok (.iload 4, 2) := by decide +kernel
theorem dX6_testKey_60 : decode cX6_testKey 60 = .ok (.ishr, 1) := by decide +kernel
theorem dX6_testKey_61 : decode cX6_testKey 61 = .ok (.iconst 1, 1) := by decide +kernel
theorem dX6_testKey_62 : decode cX6_testKey 62 = .ok (.iand, 1) := by decide +kernel
theorem dX6_testKey_63 : decode cX6_testKey 63 = .ok (.iconst 1, 1) := by decide +kernel
theorem dX6_testKey_64 : decode cX6_testKey 64 = .ok (.if_icmp .ne 17, 3) := by decide +kernel
theorem dX6_testKey_67 : decode cX6_testKey 67 = .ok (.aload_n 0, 1) := by decide +kernel
theorem dX6_testKey_68 : decode cX6_testKey 68 = .ok (.getfield 26, 3) := by decide +kernel
theorem dX6_testKey_71 : decode cX6_testKey 71 = .ok (.iload 4, 2) := by decide +kernel
theorem dX6_testKey_73 : decode cX6_testKey 73 = .ok (.iaload, 1) := by decide +kernel
theorem dX6_testKey_74 : decode cX6_testKey 74 = .ok (.iload_n 3, 1) := by decide +kernel
theorem dX6_testKey_75 : decode cX6_testKey 75 = .ok (.invokestatic 146, 3) := by decide +kernel
theorem dX6_testKey_78 : decode cX6_testKey 78 = .ok (.goto 14, 3) := by decide +kernel
theorem dX6_testKey_81 : decode cX6_testKey 81 = .ok (.iload_n 3, 1) := by decide +kernel
theorem dX6_testKey_82 : decode cX6_testKey 82 = .ok (.aload_n 0, 1) := by decide +kernel
theorem dX6_testKey_83 : decode cX6_testKey 83 = .ok (.getfield 26, 3) := by decide +kernel
theorem dX6_testKey_86 : decode cX6_testKey 86 = .ok (.iload 4, 2) := by decide +kernel
theorem dX6_testKey_88 : decode cX6_testKey 88 = .ok (.iaload, 1) := by decide +kernel
theorem dX6_testKey_89 : decode cX6_testKey 89 = .ok (.invokestatic 146, 3) := by decide +kernel
theorem dX6_testKey_92 : decode cX6_testKey 92 = .ok (.istore_n 3, 1) := by decide +kernel
theorem dX6_testKey_93 : decode cX6_testKey 93 = .ok (.iinc 4 1, 3) := by decide +kernel
theorem dX6_testKey_96 : decode cX6_testKey 96 = .ok (.goto (-55), 3) := by decide +kernel
theorem dX6_testKey_99 : decode cX6_testKey 99 = .ok (.aload_n 0, 1) := by decide +kernel
theorem dX6_testKey_100 : decode cX6_testKey 100 = .ok (.getfield 125, 3) := by decide +kernel
theorem dX6_testKey_103 : decode cX6_testKey 103 = .ok (.bipush 6, 2) := by decide +kernel
theorem dX6_testKey_105 : decode cX6_testKey 105 = .ok (.if_icmp .ne 16, 3) := by decide +kernel
theorem dX6_testKey_108 : decode cX6_testKey 108 = .ok (.iload_n 3, 1) := by decide +kernel
theorem dX6_testKey_109 : decode cX6_testKey 109 = .ok (.aload_n 0, 1) := by decide +kernel
theorem dX6_testKey_110 : decode cX6_testKey 110 = .ok (.iconst (-1), 1) := by decide +kernel
theorem dX6_testKey_111 : decode cX6_testKey 111 = .ok (.invokevirtual 152, 3) := by decide +kernel
theorem dX6_testKey_114 : decode cX6_testKey 114 = .ok (.if_icmp .ne 7, 3) := by decide +kernel
theorem dX6_testKey_117 : decode cX6_testKey 117 = .ok (.iconst 1, 1) := by decide +kernel
theorem dX6_testKey_118 : decode cX6_testKey 118 = .ok (.goto 4, 3) := by decide +kernel
theorem dX6_testKey_121 : decode cX6_testKey 121 = .ok (.iconst 0, 1) := by decide +kernel
theorem dX6_testKey_122 : decode cX6_testKey 122 = .ok (.ireturn, 1) := by decide +kernel
theorem dX6_put_0 : decode cX6_put 0 = .ok (.aload_n 0, 1) := by decide +kernel
theorem dX6_put_1 : decode cX6_put 1 = .ok (.iload_n 1, 1) := by decide +kernel
theorem dX6_put_2 : decode cX6_put 2 = .ok (.invokestatic 149, 3) := by decide +kernel
theorem dX6_put_5 : decode cX6_put 5 = .ok (.ifCond .eq 14, 3) := by decide +kernel
theorem dX6_put_8 : decode cX6_put 8 = .ok (.iload_n 2, 1) := by decide +kernel
theorem dX6_put_9 : decode cX6_put 9 = .ok (.invokestatic 84, 3) := by decide +kernel
theorem dX6_put_12 : decode cX6_put 12 = .ok (.ifCond .eq 7, 3) := by decide +kernel
theorem dX6_put_15 : decode cX6_put 15 = .ok (.iconst 0, 1) := by decide +kernel
theorem dX6_put_16 : decode cX6_put 16 = .ok (.goto 4, 3) := by decide +kernel
theorem dX6_put_19 : decode cX6_put 19 = .ok (.iconst 1, 1) := by decide +kernel
theorem dX6_put_20 : decode cX6_put 20 = .ok (.invokevirtual 87, 3) := by decide +kernel
theorem dX6_put_23 : decode cX6_put 23 = .ok (.ifCond .ne 5, 3) := by decide +kernel
theorem dX6_put_26 : decode cX6_put 26 = .ok (.iconst 0, 1) := by decide +kernel
theorem dX6_put_27 : decode cX6_put 27 = .ok (.ireturn, 1) := by decide +kernel
theorem dX6_put_28 : decode cX6_put 28 = .ok (.aload_n 0, 1) := by decide +kernel
theorem dX6_put_29 : decode cX6_put 29 = .ok (.getfield 36, 3) := by decide +kernel
theorem dX6_put_32 : decode cX6_put 32 = .ok (.iload_n 1, 1) := by decide +kernel
theorem dX6_put_33 : decode cX6_put 33 = .ok (.iaload, 1) := by decide +kernel
theorem dX6_put_34 : decode cX6_put 34 = .ok (.istore_n 3, 1) := by decide +kernel
theorem dX6_put_35 : decode cX6_put 35 = .ok (.aload_n 0, 1) := by decide +kernel
theorem dX6_put_36 : decode cX6_put 36 = .ok (.getfield 36, 3) := by decide +kernel
theorem dX6_put_39 : decode cX6_put 39 = .ok (.iload_n 1, 1) := by decide +kernel
theorem dX6_put_40 : decode cX6_put 40 = .ok (.iload_n 2, 1) := by decide +kernel
theorem dX6_put_41 : decode cX6_put 41 = .ok (.iastore, 1) := by decide +kernel
theorem dX6_put_42 : decode cX6_put 42 = .ok (.iload_n 3, 1) := by decide +kernel
theorem dX6_put_43 : decode cX6_put 43 = .ok (.ireturn, 1) := by decide +kernel
theorem dX6_remove_0 : decode cX6_remove 0 = .ok (.aload_n 0, 1) := by decide +kernel
theorem dX6_remove_1 : decode cX6_remove 1 = .ok (.iload_n 1, 1) := by decide +kernel
theorem dX6_remove_2 : decode cX6_remove 2 = .ok (.invokestatic 149, 3) := by decide +kernel
theorem dX6_remove_5 : decode cX6_remove 5 = .ok (.ifCond .eq 7, 3) := by decide +kernel
theorem dX6_remove_8 : decode cX6_remove 8 = .ok (.iconst 0, 1) := by decide +kernel
theorem dX6_remove_9 : decode cX6_remove 9 = .ok (.goto 4, 3) := by decide +kernel
theorem dX6_remove_12 : decode cX6_remove 12 = .ok (.iconst 1, 1) := by decide +kernel
theorem dX6_remove_13 : decode cX6_remove 13 = .ok (.invokevirtual 87, 3) := by decide +kernel
theorem dX6_remove_16 : decode cX6_remove 16 = .ok (.ifCond .ne 5, 3) := by decide +kernel
theorem dX6_remove_19 : decode cX6_remove 19 = .ok (.iconst 0, 1) := by decide +kernel
theorem dX6_remove_20 : decode cX6_remove 20 = .ok (.ireturn, 1) := by decide +kernel
theorem dX6_remove_21 : decode cX6_remove 21 = .ok (.aload_n 0, 1) := by decide +kernel
theorem dX6_remove_22 : decode cX6_remove 22 = .ok (.getfield 36, 3) := by decide +kernel
theorem dX6_remove_25 : decode cX6_remove 25 = .ok (.iload_n 1, 1) := by decide +kernel
theorem dX6_remove_26 : decode cX6_remove 26 = .ok (.iaload, 1) := by decide +kernel
theorem dX6_remove_27 : decode cX6_remove 27 = .ok (.istore_n 2, 1) := by decide +kernel
theorem dX6_remove_28 : decode cX6_remove 28 = .ok (.aload_n 0, 1) := by decide +kernel
theorem dX6_remove_29 : decode cX6_remove 29 = .ok (.getfield 36, 3) := by decide +kernel
theorem dX6_remove_32 : decode cX6_remove 32 = .ok (.iload_n 1, 1) := by decide +kernel
theorem dX6_remove_33 : decode cX6_remove 33 = .ok (.iconst (-1), 1) := by decide +kernel
theorem dX6_remove_34 : decode cX6_remove 34 = .ok (.iastore, 1) := by decide +kernel
theorem dX6_remove_35 : decode cX6_remove 35 = .ok (.iload_n 2, 1) := by decide +kernel
theorem dX6_remove_36 : decode cX6_remove 36 = .ok (.ireturn, 1) := by decide +kernel
theorem dX6_get_0 : decode cX6_get 0 = .ok (.aload_n 0, 1) := by decide +kernel
theorem dX6_get_1 : decode cX6_get 1 = .ok (.iload_n 1, 1) := by decide +kernel
theorem dX6_get_2 : decode cX6_get 2 = .ok (.invokestatic 149, 3) := by decide +kernel
theorem dX6_get_5 : decode cX6_get 5 = .ok (.ifCond .eq 7, 3) := by decide +kernel
theorem dX6_get_8 : decode cX6_get 8 = .ok (.iconst 0, 1) := by decide +kernel
theorem dX6_get_9 : decode cX6_get 9 = .ok (.goto 4, 3) := by decide +kernel
theorem dX6_get_12 : decode cX6_get 12 = .ok (.iconst 1, 1) := by decide +kernel
theorem dX6_get_13 : decode cX6_get 13 = .ok (.invokevirtual 87, 3) := by decide +kernel
theorem dX6_get_16 : decode cX6_get 16 = .ok (.ifCond .eq 12, 3) := by decide +kernel
theorem dX6_get_19 : decode cX6_get 19 = .ok (.aload_n 0, 1) := by decide +kernel
theorem dX6_get_20 : decode cX6_get 20 = .ok (.getfield 36, 3) := by decide +kernel
theorem dX6_get_23 : decode cX6_get 23 = .ok (.iload_n 1, 1) := by decide +kernel
theorem dX6_get_24 : decode cX6_get 24 = .ok (.iaload, 1) := by decide +kernel
theorem dX6_get_25 : decode cX6_get 25 = .ok (.goto 4, 3) := by decide +kernel
theorem dX6_get_28 : decode cX6_get 28 = .ok (.iconst 0, 1) := by decide +kernel
theorem dX6_get_29 : decode cX6_get 29 = .ok (.ireturn, 1) := by decide +kernel
theorem dX6_mapRoot_0 : decode cX6_mapRoot 0 = .ok (.aload_n 0, 1) := by decide +kernel
theorem dX6_mapRoot_1 : decode cX6_mapRoot 1 = .ok (.iconst 0, 1) := by decide +kernel
theorem dX6_mapRoot_2 : decode cX6_mapRoot 2 = .ok (.putfield 60, 3) := by decide +kernel
theorem dX6_mapRoot_5 : decode cX6_mapRoot 5 = .ok (.aload_n 0, 1) := by decide +kernel
theorem dX6_mapRoot_6 : decode cX6_mapRoot 6 = .ok (.iconst (-1), 1) := by decide +kernel
theorem dX6_mapRoot_7 : decode cX6_mapRoot 7 = .ok (.invokevirtual 152, 3) := by decide +kernel
theorem dX6_mapRoot_10 : decode cX6_mapRoot 10 = .ok (.ireturn, 1) := by decide +kernel
theorem dX6_isWatcher_0 : decode cX6_isWatcher 0 = .ok (.iload_n 0, 1) := by decide +kernel
theorem dX6_isWatcher_1 : decode cX6_isWatcher 1 = .ok (.iconst 0, 1) := by decide +kernel
theorem dX6_isWatcher_2 : decode cX6_isWatcher 2 = .ok (.iconst 3, 1) := by decide +kernel
theorem dX6_isWatcher_3 : decode cX6_isWatcher 3 = .ok (.invokestatic 64, 3) := by decide +kernel
theorem dX6_isWatcher_6 : decode cX6_isWatcher 6 = .ok (.ireturn, 1) := by decide +kernel
theorem dX6_show_0 : decode cX6_show 0 = .ok (.aload_n 0, 1) := by decide +kernel
theorem dX6_show_1 : decode cX6_show 1 = .ok (.iload_n 1, 1) := by decide +kernel
theorem dX6_show_2 : decode cX6_show 2 = .ok (.invokestatic 156, 3) := by decide +kernel
theorem dX6_show_5 : decode cX6_show 5 = .ok (.ifCond .eq 15, 3) := by decide +kernel
theorem dX6_show_8 : decode cX6_show 8 = .ok (.aload_n 0, 1) := by decide +kernel
theorem dX6_show_9 : decode cX6_show 9 = .ok (.iload_n 2, 1) := by decide +kernel
theorem dX6_show_10 : decode cX6_show 10 = .ok (.invokevirtual 80, 3) := by decide +kernel
theorem dX6_show_13 : decode cX6_show 13 = .ok (.ifCond .eq 7, 3) := by decide +kernel
theorem dX6_show_16 : decode cX6_show 16 = .ok (.iconst 0, 1) := by decide +kernel
theorem dX6_show_17 : decode cX6_show 17 = .ok (.goto 4, 3) := by decide +kernel
theorem dX6_show_20 : decode cX6_show 20 = .ok (.iconst 1, 1) := by decide +kernel
theorem dX6_show_21 : decode cX6_show 21 = .ok (.invokevirtual 87, 3) := by decide +kernel
theorem dX6_show_24 : decode cX6_show 24 = .ok (.ifCond .ne 5, 3) := by decide +kernel
theorem dX6_show_27 : decode cX6_show 27 = .ok (.iconst 0, 1) := by decide +kernel
theorem dX6_show_28 : decode cX6_show 28 = .ok (.ireturn, 1) := by decide +kernel
theorem dX6_show_29 : decode cX6_show 29 = .ok (.aload_n 0, 1) := by decide +kernel
theorem dX6_show_30 : decode cX6_show 30 = .ok (.getfield 45, 3) := by decide +kernel
theorem dX6_show_33 : decode cX6_show 33 = .ok (.iload_n 1, 1) := by decide +kernel
theorem dX6_show_34 : decode cX6_show 34 = .ok (.iaload, 1) := by decide +kernel
theorem dX6_show_35 : decode cX6_show 35 = .ok (.istore_n 3, 1) := by decide +kernel
theorem dX6_show_36 : decode cX6_show 36 = .ok (.iload_n 3, 1) := by decide +kernel
theorem dX6_show_37 : decode cX6_show 37 = .ok (.iconst (-1), 1) := by decide +kernel
theorem dX6_show_38 : decode cX6_show 38 = .ok (.if_icmp .eq 29, 3) := by decide +kernel
theorem dX6_show_41 : decode cX6_show 41 = .ok (.aload_n 0, 1) := by decide +kernel
theorem dX6_show_42 : decode cX6_show 42 = .ok (.getfield 13, 3) := by decide +kernel
theorem dX6_show_45 : decode cX6_show 45 = .ok (.iload_n 2, 1) := by decide +kernel
theorem dX6_show_46 : decode cX6_show 46 = .ok (.iaload, 1) := by decide +kernel
theorem dX6_show_47 : decode cX6_show 47 = .ok (.iload_n 3, 1) := by decide +kernel
theorem dX6_show_48 : decode cX6_show 48 = .ok (.if_icmp .lt 23, 3) := by decide +kernel
theorem dX6_show_51 : decode cX6_show 51 = .ok (.aload_n 0, 1) := by decide +kernel
theorem dX6_show_52 : decode cX6_show 52 = .ok (.iload_n 2, 1) := by decide +kernel
theorem dX6_show_53 : decode cX6_show 53 = .ok (.iconst 0, 1) := by decide +kernel
theorem dX6_show_54 : decode cX6_show 54 = .ok (.iload_n 3, 1) := by decide +kernel
theorem dX6_show_55 : decode cX6_show 55 = .ok (.invokevirtual 101, 3) := by decide +kernel
theorem dX6_show_58 : decode cX6_show 58 = .ok (.aload_n 0, 1) := by decide +kernel
theorem dX6_show_59 : decode cX6_show 59 = .ok (.getfield 48, 3) := by decide +kernel
theorem dX6_show_62 : decode cX6_show 62 = .ok (.iload_n 1, 1) := by decide +kernel
theorem dX6_show_63 : decode cX6_show 63 = .ok (.iaload, 1) := by decide +kernel
theorem dX6_show_64 : decode cX6_show 64 = .ok (.if_icmp .ne 7, 3) := by decide +kernel
theorem dX6_show_67 : decode cX6_show 67 = .ok (.iconst 1, 1) := by decide +kernel
theorem dX6_show_68 : decode cX6_show 68 = .ok (.goto 4, 3) := by decide +kernel
theorem dX6_show_71 : decode cX6_show 71 = .ok (.iconst 0, 1) := by decide +kernel
theorem dX6_show_72 : decode cX6_show 72 = .ok (.istore 4, 2) := by decide +kernel
theorem dX6_show_74 : decode cX6_show 74 = .ok (.iload 4, 2) := by decide +kernel
theorem dX6_show_76 : decode cX6_show 76 = .ok (.ifCond .ne 12, 3) := by decide +kernel
theorem dX6_show_79 : decode cX6_show 79 = .ok (.aload_n 0, 1) := by decide +kernel
theorem dX6_show_80 : decode cX6_show 80 = .ok (.getfield 51, 3) := by decide +kernel
theorem dX6_show_83 : decode cX6_show 83 = .ok (.iload_n 1, 1) := by decide +kernel
theorem dX6_show_84 : decode cX6_show 84 = .ok (.iconst 1, 1) := by decide +kernel
theorem dX6_show_85 : decode cX6_show 85 = .ok (.bastore, 1) := by decide +kernel
theorem dX6_show_86 : decode cX6_show 86 = .ok (.iconst 0, 1) := by decide +kernel
theorem dX6_show_87 : decode cX6_show 87 = .ok (.ireturn, 1) := by decide +kernel
theorem dX6_show_88 : decode cX6_show 88 = .ok (.iload_n 3, 1) := by decide +kernel
theorem dX6_show_89 : decode cX6_show 89 = .ok (.iconst (-1), 1) := by decide +kernel
theorem dX6_show_90 : decode cX6_show 90 = .ok (.if_icmp .ne 7, 3) := by decide +kernel
theorem dX6_show_93 : decode cX6_show 93 = .ok (.iconst 0, 1) := by decide +kernel
theorem dX6_show_94 : decode cX6_show 94 = .ok (.goto 4, 3) := by decide +kernel
theorem dX6_show_97 : decode cX6_show 97 = .ok (.iload_n 3, 1) := by decide +kernel
theorem dX6_show_98 : decode cX6_show 98 = .ok (.istore 5, 2) := by decide +kernel
theorem dX6_show_100 : decode cX6_show 100 = .ok (.iload 5, 2) := by decide +kernel
theorem dX6_show_102 : decode cX6_show 102 = .ok (.aload_n 0, 1) := by decide +kernel
theorem dX6_show_103 : decode cX6_show 103 = .ok (.getfield 13, 3) := by decide +kernel
theorem dX6_show_106 : decode cX6_show 106 = .ok (.iload_n 2, 1) := by decide +kernel
theorem dX6_show_107 : decode cX6_show 107 = .ok (.iaload, 1) := by decide +kernel
theorem dX6_show_108 : decode cX6_show 108 = .ok (.if_icmp .ge 44, 3) := by decide +kernel
theorem dX6_show_111 : decode cX6_show 111 = .ok (.aload_n 0, 1) := by decide +kernel
theorem dX6_show_112 : decode cX6_show 112 = .ok (.getfield 57, 3) := by decide +kernel
theorem dX6_show_115 : decode cX6_show 115 = .ok (.iload_n 1, 1) := by decide +kernel
theorem dX6_show_116 : decode cX6_show 116 = .ok (.dup2, 1) := by decide +kernel
theorem dX6_show_117 : decode cX6_show 117 = .ok (.iaload, 1) := by decide +kernel
theorem dX6_show_118 : decode cX6_show 118 = .ok (.aload_n 0, 1) := by decide +kernel
theorem dX6_show_119 : decode cX6_show 119 = .ok (.getfield 7, 3) := by decide +kernel
theorem dX6_show_122 : decode cX6_show 122 = .ok (.bipush 100, 2) := by decide +kernel
theorem dX6_show_124 : decode cX6_show 124 = .ok (.iload_n 2, 1) := by decide +kernel
theorem dX6_show_125 : decode cX6_show 125 = .ok (.imul, 1) := by decide +kernel
theorem dX6_show_126 : decode cX6_show 126 = .ok (.iload 5, 2) := by decide +kernel
theorem dX6_show_128 : decode cX6_show 128 = .ok (.iadd, 1) := by decide +kernel
theorem dX6_show_129 : decode cX6_show 129 = .ok (.iaload, 1) := by decide +kernel
theorem dX6_show_130 : decode cX6_show 130 = .ok (.aload_n 0, 1) := by decide +kernel
theorem dX6_show_131 : decode cX6_show 131 = .ok (.getfield 54, 3) := by decide +kernel
theorem dX6_show_134 : decode cX6_show 134 = .ok (.iload_n 1, 1) := by decide +kernel
theorem dX6_show_135 : decode cX6_show 135 = .ok (.iaload, 1) := by decide +kernel
theorem dX6_show_136 : decode cX6_show 136 = .ok (.if_icmp .ne 7, 3) := by decide +kernel
theorem dX6_show_139 : decode cX6_show 139 = .ok (.iconst 1, 1) := by decide +kernel
theorem dX6_show_140 : decode cX6_show 140 = .ok (.goto 4, 3) := by decide +kernel
theorem dX6_show_143 : decode cX6_show 143 = .ok (.iconst 0, 1) := by decide +kernel
theorem dX6_show_144 : decode cX6_show 144 = .ok (.iadd, 1) := by decide +kernel
theorem dX6_show_145 : decode cX6_show 145 = .ok (.iastore, 1) := by decide +kernel
theorem dX6_show_146 : decode cX6_show 146 = .ok (.iinc 5 1, 3) := by decide +kernel
theorem dX6_show_149 : decode cX6_show 149 = .ok (.goto (-49), 3) := by decide +kernel
theorem dX6_show_152 : decode cX6_show 152 = .ok (.aload_n 0, 1) := by decide +kernel
theorem dX6_show_153 : decode cX6_show 153 = .ok (.getfield 42, 3) := by decide +kernel
theorem dX6_show_156 : decode cX6_show 156 = .ok (.iload_n 1, 1) := by decide +kernel
theorem dX6_show_157 : decode cX6_show 157 = .ok (.iload_n 2, 1) := by decide +kernel
theorem dX6_show_158 : decode cX6_show 158 = .ok (.iastore, 1) := by decide +kernel
theorem dX6_show_159 : decode cX6_show 159 = .ok (.aload_n 0, 1) := by decide +kernel
theorem dX6_show_160 : decode cX6_show 160 = .ok (.getfield 45, 3) := by decide +kernel
theorem dX6_show_163 : decode cX6_show 163 = .ok (.iload_n 1, 1) := by decide +kernel
theorem dX6_show_164 : decode cX6_show 164 = .ok (.aload_n 0, 1) := by decide +kernel
theorem dX6_show_165 : decode cX6_show 165 = .ok (.getfield 13, 3) := by decide +kernel
theorem dX6_show_168 : decode cX6_show 168 = .ok (.iload_n 2, 1) := by decide +kernel
theorem dX6_show_169 : decode cX6_show 169 = .ok (.iaload, 1) := by decide +kernel
theorem dX6_show_170 : decode cX6_show 170 = .ok (.iastore, 1) := by decide +kernel
theorem dX6_show_171 : decode cX6_show 171 = .ok (.aload_n 0, 1) := by decide +kernel
theorem dX6_show_172 : decode cX6_show 172 = .ok (.getfield 48, 3) := by decide +kernel
theorem dX6_show_175 : decode cX6_show 175 = .ok (.iload_n 1, 1) := by decide +kernel
theorem dX6_show_176 : decode cX6_show 176 = .ok (.aload_n 0, 1) := by decide +kernel
theorem dX6_show_177 : decode cX6_show 177 = .ok (.iload_n 2, 1) := by decide +kernel
theorem dX6_show_178 : decode cX6_show 178 = .ok (.iconst 0, 1) := by decide +kernel
theorem dX6_show_179 : decode cX6_show 179 = .ok (.aload_n 0, 1) := by decide +kernel
theorem dX6_show_180 : decode cX6_show 180 = .ok (.getfield 13, 3) := by decide +kernel
theorem dX6_show_183 : decode cX6_show 183 = .ok (.iload_n 2, 1) := by decide +kernel
theorem dX6_show_184 : decode cX6_show 184 = .ok (.iaload, 1) := by decide +kernel
theorem dX6_show_185 : decode cX6_show 185 = .ok (.invokevirtual 101, 3) := by decide +kernel
theorem dX6_show_188 : decode cX6_show 188 = .ok (.iastore, 1) := by decide +kernel
theorem dX6_show_189 : decode cX6_show 189 = .ok (.iconst 1, 1) := by decide +kernel
theorem dX6_show_190 : decode cX6_show 190 = .ok (.ireturn, 1) := by decide +kernel
theorem dX6_gossip_0 : decode cX6_gossip 0 = .ok (.aload_n 0, 1) := by decide +kernel
theorem dX6_gossip_1 : decode cX6_gossip 1 = .ok (.iload_n 1, 1) := by decide +kernel
theorem dX6_gossip_2 : decode cX6_gossip 2 = .ok (.invokestatic 156, 3) := by decide +kernel
theorem dX6_gossip_5 : decode cX6_gossip 5 = .ok (.ifCond .eq 14, 3) := by decide +kernel
theorem dX6_gossip_8 : decode cX6_gossip 8 = .ok (.iload_n 2, 1) := by decide +kernel
theorem dX6_gossip_9 : decode cX6_gossip 9 = .ok (.invokestatic 156, 3) := by decide +kernel
theorem dX6_gossip_12 : decode cX6_gossip 12 = .ok (.ifCond .eq 7, 3) := by decide +kernel
theorem dX6_gossip_15 : decode cX6_gossip 15 = .ok (.iconst 0, 1) := by decide +kernel
theorem dX6_gossip_16 : decode cX6_gossip 16 = .ok (.goto 4, 3) := by decide +kernel
theorem dX6_gossip_19 : decode cX6_gossip 19 = .ok (.iconst 1, 1) := by decide +kernel
theorem dX6_gossip_20 : decode cX6_gossip 20 = .ok (.invokevirtual 87, 3) := by decide +kernel
theorem dX6_gossip_23 : decode cX6_gossip 23 = .ok (.ifCond .ne 5, 3) := by decide +kernel
theorem dX6_gossip_26 : decode cX6_gossip 26 = .ok (.iconst 0, 1) := by decide +kernel
theorem dX6_gossip_27 : decode cX6_gossip 27 = .ok (.ireturn, 1) := by decide +kernel
theorem dX6_gossip_28 : decode cX6_gossip 28 = .ok (.iload_n 1, 1) := by decide +kernel
theorem dX6_gossip_29 : decode cX6_gossip 29 = .ok (.iload_n 2, 1) := by decide +kernel
theorem dX6_gossip_30 : decode cX6_gossip 30 = .ok (.if_icmp .eq 23, 3) := by decide +kernel
theorem dX6_gossip_33 : decode cX6_gossip 33 = .ok (.aload_n 0, 1) := by decide +kernel
theorem dX6_gossip_34 : decode cX6_gossip 34 = .ok (.getfield 45, 3) := by decide +kernel
theorem dX6_gossip_37 : decode cX6_gossip 37 = .ok (.iload_n 1, 1) := by decide +kernel
theorem dX6_gossip_38 : decode cX6_gossip 38 = .ok (.iaload, 1) := by decide +kernel
theorem dX6_gossip_39 : decode cX6_gossip 39 = .ok (.iconst (-1), 1) := by decide +kernel
theorem dX6_gossip_40 : decode cX6_gossip 40 = .ok (.if_icmp .eq 13, 3) := by decide +kernel
theorem dX6_gossip_43 : decode cX6_gossip 43 = .ok (.aload_n 0, 1) := by decide +kernel
theorem dX6_gossip_44 : decode cX6_gossip 44 = .ok (.getfield 45, 3) := by decide +kernel
theorem dX6_gossip_47 : decode cX6_gossip 47 = .ok (.iload_n 2, 1) := by decide +kernel
theorem dX6_gossip_48 : decode cX6_gossip 48 = .ok (.iaload, 1) := by decide +kernel
theorem dX6_gossip_49 : decode cX6_gossip 49 = .ok (.iconst (-1), 1) := by decide +kernel
theorem dX6_gossip_50 : decode cX6_gossip 50 = .ok (.if_icmp .ne 5, 3) := by decide +kernel
theorem dX6_gossip_53 : decode cX6_gossip 53 = .ok (.iconst 1, 1) := by decide +kernel
theorem dX6_gossip_54 : decode cX6_gossip 54 = .ok (.ireturn, 1) := by decide +kernel
theorem dX6_gossip_55 : decode cX6_gossip 55 = .ok (.aload_n 0, 1) := by decide +kernel
theorem dX6_gossip_56 : decode cX6_gossip 56 = .ok (.getfield 45, 3) := by decide +kernel
theorem dX6_gossip_59 : decode cX6_gossip 59 = .ok (.iload_n 2, 1) := by decide +kernel
theorem dX6_gossip_60 : decode cX6_gossip 60 = .ok (.iaload, 1) := by decide +kernel
theorem dX6_gossip_61 : decode cX6_gossip 61 = .ok (.aload_n 0, 1) := by decide +kernel
theorem dX6_gossip_62 : decode cX6_gossip 62 = .ok (.getfield 45, 3) := by decide +kernel
theorem dX6_gossip_65 : decode cX6_gossip 65 = .ok (.iload_n 1, 1) := by decide +kernel
theorem dX6_gossip_66 : decode cX6_gossip 66 = .ok (.iaload, 1) := by decide +kernel
theorem dX6_gossip_67 : decode cX6_gossip 67 = .ok (.if_icmp .le 7, 3) := by decide +kernel
theorem dX6_gossip_70 : decode cX6_gossip 70 = .ok (.iload_n 2, 1) := by decide +kernel
theorem dX6_gossip_71 : decode cX6_gossip 71 = .ok (.goto 4, 3) := by decide +kernel
theorem dX6_gossip_74 : decode cX6_gossip 74 = .ok (.iload_n 1, 1) := by decide +kernel
theorem dX6_gossip_75 : decode cX6_gossip 75 = .ok (.istore_n 3, 1) := by decide +kernel
theorem dX6_gossip_76 : decode cX6_gossip 76 = .ok (.iload_n 3, 1) := by decide +kernel
theorem dX6_gossip_77 : decode cX6_gossip 77 = .ok (.iload_n 1, 1) := by decide +kernel
theorem dX6_gossip_78 : decode cX6_gossip 78 = .ok (.if_icmp .ne 7, 3) := by decide +kernel
theorem dX6_gossip_81 : decode cX6_gossip 81 = .ok (.iload_n 2, 1) := by decide +kernel
theorem dX6_gossip_82 : decode cX6_gossip 82 = .ok (.goto 4, 3) := by decide +kernel
theorem dX6_gossip_85 : decode cX6_gossip 85 = .ok (.iload_n 1, 1) := by decide +kernel
theorem dX6_gossip_86 : decode cX6_gossip 86 = .ok (.istore 4, 2) := by decide +kernel
theorem dX6_gossip_88 : decode cX6_gossip 88 = .ok (.aload_n 0, 1) := by decide +kernel
theorem dX6_gossip_89 : decode cX6_gossip 89 = .ok (.aload_n 0, 1) := by decide +kernel
theorem dX6_gossip_90 : decode cX6_gossip 90 = .ok (.getfield 42, 3) := by decide +kernel
theorem dX6_gossip_93 : decode cX6_gossip 93 = .ok (.iload_n 3, 1) := by decide +kernel
theorem dX6_gossip_94 : decode cX6_gossip 94 = .ok (.iaload, 1) := by decide +kernel
theorem dX6_gossip_95 : decode cX6_gossip 95 = .ok (.iconst 0, 1) := by decide +kernel
theorem dX6_gossip_96 : decode cX6_gossip 96 = .ok (.aload_n 0, 1) := by decide +kernel
theorem dX6_gossip_97 : decode cX6_gossip 97 = .ok (.getfield 45, 3) := by decide +kernel
theorem dX6_gossip_100 : decode cX6_gossip 100 = .ok (.iload 4, 2) := by decide +kernel
theorem dX6_gossip_102 : decode cX6_gossip 102 = .ok (.iaload, 1) := by decide +kernel
theorem dX6_gossip_103 : decode cX6_gossip 103 = .ok (.invokevirtual 101, 3) := by decide +kernel
theorem dX6_gossip_106 : decode cX6_gossip 106 = .ok (.aload_n 0, 1) := by decide +kernel
theorem dX6_gossip_107 : decode cX6_gossip 107 = .ok (.getfield 48, 3) := by decide +kernel
theorem dX6_gossip_110 : decode cX6_gossip 110 = .ok (.iload 4, 2) := by decide +kernel
theorem dX6_gossip_112 : decode cX6_gossip 112 = .ok (.iaload, 1) := by decide +kernel
theorem dX6_gossip_113 : decode cX6_gossip 113 = .ok (.if_icmp .ne 7, 3) := by decide +kernel
theorem dX6_gossip_116 : decode cX6_gossip 116 = .ok (.iconst 1, 1) := by decide +kernel
theorem dX6_gossip_117 : decode cX6_gossip 117 = .ok (.goto 4, 3) := by decide +kernel
theorem dX6_gossip_120 : decode cX6_gossip 120 = .ok (.iconst 0, 1) := by decide +kernel
theorem dX6_gossip_121 : decode cX6_gossip 121 = .ok (.istore 5, 2) := by decide +kernel
theorem dX6_gossip_123 : decode cX6_gossip 123 = .ok (.aload_n 0, 1) := by decide +kernel
theorem dX6_gossip_124 : decode cX6_gossip 124 = .ok (.getfield 51, 3) := by decide +kernel
theorem dX6_gossip_127 : decode cX6_gossip 127 = .ok (.iload_n 1, 1) := by decide +kernel
theorem dX6_gossip_128 : decode cX6_gossip 128 = .ok (.aload_n 0, 1) := by decide +kernel
theorem dX6_gossip_129 : decode cX6_gossip 129 = .ok (.getfield 51, 3) := by decide +kernel
theorem dX6_gossip_132 : decode cX6_gossip 132 = .ok (.iload_n 1, 1) := by decide +kernel
theorem dX6_gossip_133 : decode cX6_gossip 133 = .ok (.baload, 1) := by decide +kernel
theorem dX6_gossip_134 : decode cX6_gossip 134 = .ok (.ifCond .ne 8, 3) := by decide +kernel
theorem dX6_gossip_137 : decode cX6_gossip 137 = .ok (.iload 5, 2) := by decide +kernel
theorem dX6_gossip_139 : decode cX6_gossip 139 = .ok (.ifCond .ne 7, 3) := by decide +kernel
theorem dX6_gossip_142 : decode cX6_gossip 142 = .ok (.iconst 1, 1) := by decide +kernel
theorem dX6_gossip_143 : decode cX6_gossip 143 = .ok (.goto 4, 3) := by decide +kernel
theorem dX6_gossip_146 : decode cX6_gossip 146 = .ok (.iconst 0, 1) := by decide +kernel
theorem dX6_gossip_147 : decode cX6_gossip 147 = .ok (.bastore, 1) := by decide +kernel
theorem dX6_gossip_148 : decode cX6_gossip 148 = .ok (.aload_n 0, 1) := by decide +kernel
theorem dX6_gossip_149 : decode cX6_gossip 149 = .ok (.getfield 51, 3) := by decide +kernel
theorem dX6_gossip_152 : decode cX6_gossip 152 = .ok (.iload_n 2, 1) := by decide +kernel
theorem dX6_gossip_153 : decode cX6_gossip 153 = .ok (.aload_n 0, 1) := by decide +kernel
theorem dX6_gossip_154 : decode cX6_gossip 154 = .ok (.getfield 51, 3) := by decide +kernel
theorem dX6_gossip_157 : decode cX6_gossip 157 = .ok (.iload_n 2, 1) := by decide +kernel
theorem dX6_gossip_158 : decode cX6_gossip 158 = .ok (.baload, 1) := by decide +kernel
theorem dX6_gossip_159 : decode cX6_gossip 159 = .ok (.ifCond .ne 8, 3) := by decide +kernel
theorem dX6_gossip_162 : decode cX6_gossip 162 = .ok (.iload 5, 2) := by decide +kernel
theorem dX6_gossip_164 : decode cX6_gossip 164 = .ok (.ifCond .ne 7, 3) := by decide +kernel
theorem dX6_gossip_167 : decode cX6_gossip 167 = .ok (.iconst 1, 1) := by decide +kernel
theorem dX6_gossip_168 : decode cX6_gossip 168 = .ok (.goto 4, 3) := by decide +kernel
theorem dX6_gossip_171 : decode cX6_gossip 171 = .ok (.iconst 0, 1) := by decide +kernel
theorem dX6_gossip_172 : decode cX6_gossip 172 = .ok (.bastore, 1) := by decide +kernel
theorem dX6_gossip_173 : decode cX6_gossip 173 = .ok (.iload 5, 2) := by decide +kernel
theorem dX6_gossip_175 : decode cX6_gossip 175 = .ok (.ireturn, 1) := by decide +kernel
theorem dX6_follow_0 : decode cX6_follow 0 = .ok (.aload_n 0, 1) := by decide +kernel
theorem dX6_follow_1 : decode cX6_follow 1 = .ok (.iload_n 1, 1) := by decide +kernel
theorem dX6_follow_2 : decode cX6_follow 2 = .ok (.invokestatic 156, 3) := by decide +kernel
theorem dX6_follow_5 : decode cX6_follow 5 = .ok (.ifCond .ne 7, 3) := by decide +kernel
theorem dX6_follow_8 : decode cX6_follow 8 = .ok (.iconst 1, 1) := by decide +kernel
theorem dX6_follow_9 : decode cX6_follow 9 = .ok (.goto 15, 3) := by decide +kernel
theorem dX6_follow_12 : decode cX6_follow 12 = .ok (.iload_n 2, 1) := by decide +kernel
theorem dX6_follow_13 : decode cX6_follow 13 = .ok (.invokestatic 84, 3) := by decide +kernel
theorem dX6_follow_16 : decode cX6_follow 16 = .ok (.ifCond .eq 7, 3) := by decide +kernel
theorem dX6_follow_19 : decode cX6_follow 19 = .ok (.iconst 0, 1) := by decide +kernel
theorem dX6_follow_20 : decode cX6_follow 20 = .ok (.goto 4, 3) := by decide +kernel
theorem dX6_follow_23 : decode cX6_follow 23 = .ok (.iconst 2, 1) := by decide +kernel
theorem dX6_follow_24 : decode cX6_follow 24 = .ok (.invokevirtual 87, 3) := by decide +kernel
theorem dX6_follow_27 : decode cX6_follow 27 = .ok (.ifCond .eq 17, 3) := by decide +kernel
theorem dX6_follow_30 : decode cX6_follow 30 = .ok (.aload_n 0, 1) := by decide +kernel
theorem dX6_follow_31 : decode cX6_follow 31 = .ok (.getfield 54, 3) := by decide +kernel
theorem dX6_follow_34 : decode cX6_follow 34 = .ok (.iload_n 1, 1) := by decide +kernel
theorem dX6_follow_35 : decode cX6_follow 35 = .ok (.iload_n 2, 1) := by decide +kernel
theorem dX6_follow_36 : decode cX6_follow 36 = .ok (.iastore, 1) := by decide +kernel
theorem dX6_follow_37 : decode cX6_follow 37 = .ok (.aload_n 0, 1) := by decide +kernel
theorem dX6_follow_38 : decode cX6_follow 38 = .ok (.getfield 57, 3) := by decide +kernel
theorem dX6_follow_41 : decode cX6_follow 41 = .ok (.iload_n 1, 1) := by decide +kernel
theorem dX6_follow_42 : decode cX6_follow 42 = .ok (.iconst 0, 1) := by decide +kernel
theorem dX6_follow_43 : decode cX6_follow 43 = .ok (.iastore, 1) := by decide +kernel
theorem dX6_follow_44 : decode cX6_follow 44 = .ok (.return_, 1) := by decide +kernel
theorem dX6_isAlarmed_0 : decode cX6_isAlarmed 0 = .ok (.aload_n 0, 1) := by decide +kernel
theorem dX6_isAlarmed_1 : decode cX6_isAlarmed 1 = .ok (.iload_n 1, 1) := by decide +kernel
theorem dX6_isAlarmed_2 : decode cX6_isAlarmed 2 = .ok (.invokestatic 156, 3) := by decide +kernel
theorem dX6_isAlarmed_5 : decode cX6_isAlarmed 5 = .ok (.ifCond .eq 7, 3) := by decide +kernel
theorem dX6_isAlarmed_8 : decode cX6_isAlarmed 8 = .ok (.iconst 0, 1) := by decide +kernel
theorem dX6_isAlarmed_9 : decode cX6_isAlarmed 9 = .ok (.goto 4, 3) := by decide +kernel
theorem dX6_isAlarmed_12 : decode cX6_isAlarmed 12 = .ok (.iconst 1, 1) := by decide +kernel
theorem dX6_isAlarmed_13 : decode cX6_isAlarmed 13 = .ok (.invokevirtual 87, 3) := by decide +kernel
theorem dX6_isAlarmed_16 : decode cX6_isAlarmed 16 = .ok (.ifCond .eq 16, 3) := by decide +kernel
theorem dX6_isAlarmed_19 : decode cX6_isAlarmed 19 = .ok (.aload_n 0, 1) := by decide +kernel
theorem dX6_isAlarmed_20 : decode cX6_isAlarmed 20 = .ok (.getfield 51, 3) := by decide +kernel
theorem dX6_isAlarmed_23 : decode cX6_isAlarmed 23 = .ok (.iload_n 1, 1) := by decide +kernel
theorem dX6_isAlarmed_24 : decode cX6_isAlarmed 24 = .ok (.baload, 1) := by decide +kernel
theorem dX6_isAlarmed_25 : decode cX6_isAlarmed 25 = .ok (.ifCond .eq 7, 3) := by decide +kernel
theorem dX6_isAlarmed_28 : decode cX6_isAlarmed 28 = .ok (.iconst 1, 1) := by decide +kernel
theorem dX6_isAlarmed_29 : decode cX6_isAlarmed 29 = .ok (.goto 4, 3) := by decide +kernel
theorem dX6_isAlarmed_32 : decode cX6_isAlarmed 32 = .ok (.iconst 0, 1) := by decide +kernel
theorem dX6_isAlarmed_33 : decode cX6_isAlarmed 33 = .ok (.ireturn, 1) := by decide +kernel
theorem dX6_keptSize_0 : decode cX6_keptSize 0 = .ok (.aload_n 0, 1) := by decide +kernel
theorem dX6_keptSize_1 : decode cX6_keptSize 1 = .ok (.iload_n 1, 1) := by decide +kernel
theorem dX6_keptSize_2 : decode cX6_keptSize 2 = .ok (.invokestatic 156, 3) := by decide +kernel
theorem dX6_keptSize_5 : decode cX6_keptSize 5 = .ok (.ifCond .eq 7, 3) := by decide +kernel
theorem dX6_keptSize_8 : decode cX6_keptSize 8 = .ok (.iconst 0, 1) := by decide +kernel
theorem dX6_keptSize_9 : decode cX6_keptSize 9 = .ok (.goto 4, 3) := by decide +kernel
theorem dX6_keptSize_12 : decode cX6_keptSize 12 = .ok (.iconst 1, 1) := by decide +kernel
theorem dX6_keptSize_13 : decode cX6_keptSize 13 = .ok (.invokevirtual 87, 3) := by decide +kernel
theorem dX6_keptSize_16 : decode cX6_keptSize 16 = .ok (.ifCond .eq 12, 3) := by decide +kernel
theorem dX6_keptSize_19 : decode cX6_keptSize 19 = .ok (.aload_n 0, 1) := by decide +kernel
theorem dX6_keptSize_20 : decode cX6_keptSize 20 = .ok (.getfield 45, 3) := by decide +kernel
theorem dX6_keptSize_23 : decode cX6_keptSize 23 = .ok (.iload_n 1, 1) := by decide +kernel
theorem dX6_keptSize_24 : decode cX6_keptSize 24 = .ok (.iaload, 1) := by decide +kernel
theorem dX6_keptSize_25 : decode cX6_keptSize 25 = .ok (.goto 4, 3) := by decide +kernel
theorem dX6_keptSize_28 : decode cX6_keptSize 28 = .ok (.iconst 0, 1) := by decide +kernel
theorem dX6_keptSize_29 : decode cX6_keptSize 29 = .ok (.ireturn, 1) := by decide +kernel
theorem dX6_keptRoot_0 : decode cX6_keptRoot 0 = .ok (.aload_n 0, 1) := by decide +kernel
theorem dX6_keptRoot_1 : decode cX6_keptRoot 1 = .ok (.iload_n 1, 1) := by decide +kernel
theorem dX6_keptRoot_2 : decode cX6_keptRoot 2 = .ok (.invokestatic 156, 3) := by decide +kernel
theorem dX6_keptRoot_5 : decode cX6_keptRoot 5 = .ok (.ifCond .eq 7, 3) := by decide +kernel
theorem dX6_keptRoot_8 : decode cX6_keptRoot 8 = .ok (.iconst 0, 1) := by decide +kernel
theorem dX6_keptRoot_9 : decode cX6_keptRoot 9 = .ok (.goto 4, 3) := by decide +kernel
theorem dX6_keptRoot_12 : decode cX6_keptRoot 12 = .ok (.iconst 1, 1) := by decide +kernel
theorem dX6_keptRoot_13 : decode cX6_keptRoot 13 = .ok (.invokevirtual 87, 3) := by decide +kernel
theorem dX6_keptRoot_16 : decode cX6_keptRoot 16 = .ok (.ifCond .eq 12, 3) := by decide +kernel
theorem dX6_keptRoot_19 : decode cX6_keptRoot 19 = .ok (.aload_n 0, 1) := by decide +kernel
theorem dX6_keptRoot_20 : decode cX6_keptRoot 20 = .ok (.getfield 48, 3) := by decide +kernel
theorem dX6_keptRoot_23 : decode cX6_keptRoot 23 = .ok (.iload_n 1, 1) := by decide +kernel
theorem dX6_keptRoot_24 : decode cX6_keptRoot 24 = .ok (.iaload, 1) := by decide +kernel
theorem dX6_keptRoot_25 : decode cX6_keptRoot 25 = .ok (.goto 4, 3) := by decide +kernel
theorem dX6_keptRoot_28 : decode cX6_keptRoot 28 = .ok (.iconst 0, 1) := by decide +kernel
theorem dX6_keptRoot_29 : decode cX6_keptRoot 29 = .ok (.ireturn, 1) := by decide +kernel
theorem dX6_counted_0 : decode cX6_counted 0 = .ok (.aload_n 0, 1) := by decide +kernel
theorem dX6_counted_1 : decode cX6_counted 1 = .ok (.iload_n 1, 1) := by decide +kernel
theorem dX6_counted_2 : decode cX6_counted 2 = .ok (.invokestatic 156, 3) := by decide +kernel
theorem dX6_counted_5 : decode cX6_counted 5 = .ok (.ifCond .eq 7, 3) := by decide +kernel
theorem dX6_counted_8 : decode cX6_counted 8 = .ok (.iconst 0, 1) := by decide +kernel
theorem dX6_counted_9 : decode cX6_counted 9 = .ok (.goto 4, 3) := by decide +kernel
theorem dX6_counted_12 : decode cX6_counted 12 = .ok (.iconst 1, 1) := by decide +kernel
theorem dX6_counted_13 : decode cX6_counted 13 = .ok (.invokevirtual 87, 3) := by decide +kernel
theorem dX6_counted_16 : decode cX6_counted 16 = .ok (.ifCond .eq 12, 3) := by decide +kernel
theorem dX6_counted_19 : decode cX6_counted 19 = .ok (.aload_n 0, 1) := by decide +kernel
theorem dX6_counted_20 : decode cX6_counted 20 = .ok (.getfield 57, 3) := by decide +kernel
theorem dX6_counted_23 : decode cX6_counted 23 = .ok (.iload_n 1, 1) := by decide +kernel
theorem dX6_counted_24 : decode cX6_counted 24 = .ok (.iaload, 1) := by decide +kernel
theorem dX6_counted_25 : decode cX6_counted 25 = .ok (.goto 4, 3) := by decide +kernel
theorem dX6_counted_28 : decode cX6_counted 28 = .ok (.iconst 0, 1) := by decide +kernel
theorem dX6_counted_29 : decode cX6_counted 29 = .ok (.ireturn, 1) := by decide +kernel
