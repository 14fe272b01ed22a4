theorem dX10_line_78 : decode cX10_line 78 = .ok (.bipush 12, 2) := by decide +kernel
theorem dX10_line_80 : decode cX10_line 80 = .ok (.if_icmp .ne 7, 3) := by decide +kernel
theorem dX10_line_83 : decode cX10_line 83 = .ok (.iconst 1, 1) := by decide +kernel
theorem dX10_line_84 : decode cX10_line 84 = .ok (.goto 4, 3) := by decide +kernel
theorem dX10_line_87 : decode cX10_line 87 = .ok (.iconst 0, 1) := by decide +kernel
theorem dX10_line_88 : decode cX10_line 88 = .ok (.invokevirtual 194, 3) := by decide +kernel
theorem dX10_line_91 : decode cX10_line 91 = .ok (.ifCond .eq 97, 3) := by decide +kernel
theorem dX10_line_94 : decode cX10_line 94 = .ok (.aload_n 0, 1) := by decide +kernel
theorem dX10_line_95 : decode cX10_line 95 = .ok (.invokevirtual 201, 3) := by decide +kernel
theorem dX10_line_98 : decode cX10_line 98 = .ok (.goto 90, 3) := by decide +kernel
theorem dX10_line_101 : decode cX10_line 101 = .ok (.iload_n 1, 1) := by decide +kernel
theorem dX10_line_102 : decode cX10_line 102 = .ok (.bipush 6, 2) := by decide +kernel
theorem dX10_line_104 : decode cX10_line 104 = .ok (.if_icmp .lt 56, 3) := by decide +kernel
theorem dX10_line_107 : decode cX10_line 107 = .ok (.iload_n 1, 1) := by decide +kernel
theorem dX10_line_108 : decode cX10_line 108 = .ok (.bipush 8, 2) := by decide +kernel
theorem dX10_line_110 : decode cX10_line 110 = .ok (.if_icmp .gt 50, 3) := by decide +kernel
theorem dX10_line_113 : decode cX10_line 113 = .ok (.aload_n 0, 1) := by decide +kernel
theorem dX10_line_114 : decode cX10_line 114 = .ok (.aload_n 0, 1) := by decide +kernel
theorem dX10_line_115 : decode cX10_line 115 = .ok (.getfield 184, 3) := by decide +kernel
theorem dX10_line_118 : decode cX10_line 118 = .ok (.ifCond .le 7, 3) := by decide +kernel
theorem dX10_line_121 : decode cX10_line 121 = .ok (.iconst 1, 1) := by decide +kernel
theorem dX10_line_122 : decode cX10_line 122 = .ok (.goto 4, 3) := by decide +kernel
theorem dX10_line_125 : decode cX10_line 125 = .ok (.iconst 0, 1) := by decide +kernel
theorem dX10_line_126 : decode cX10_line 126 = .ok (.aload_n 0, 1) := by decide +kernel
theorem dX10_line_127 : decode cX10_line 127 = .ok (.getfield 20, 3) := by decide +kernel
theorem dX10_line_130 : decode cX10_line 130 = .ok (.sipush 1531, 3) := by decide +kernel
theorem dX10_line_133 : decode cX10_line 133 = .ok (.iaload, 1) := by decide +kernel
theorem dX10_line_134 : decode cX10_line 134 = .ok (.iconst 4, 1) := by decide +kernel
theorem dX10_line_135 : decode cX10_line 135 = .ok (.if_icmp .ne 7, 3) := by decide +kernel
theorem dX10_line_138 : decode cX10_line 138 = .ok (.iconst 1, 1) := by decide +kernel
theorem dX10_line_139 : decode cX10_line 139 = .ok (.goto 4, 3) := by decide +kernel
theorem dX10_line_142 : decode cX10_line 142 = .ok (.iconst 0, 1) := by decide +kernel
theorem dX10_line_143 : decode cX10_line 143 = .ok (.invokevirtual 194, 3) := by decide +kernel
theorem dX10_line_146 : decode cX10_line 146 = .ok (.ifCond .eq 42, 3) := by decide +kernel
theorem dX10_line_149 : decode cX10_line 149 = .ok (.aload_n 0, 1) := by decide +kernel
theorem dX10_line_150 : decode cX10_line 150 = .ok (.iload_n 1, 1) := by decide +kernel
theorem dX10_line_151 : decode cX10_line 151 = .ok (.bipush 6, 2) := by decide +kernel
theorem dX10_line_153 : decode cX10_line 153 = .ok (.isub, 1) := by decide +kernel
theorem dX10_line_154 : decode cX10_line 154 = .ok (.invokevirtual 204, 3) := by decide +kernel
theorem dX10_line_157 : decode cX10_line 157 = .ok (.goto 31, 3) := by decide +kernel
theorem dX10_line_160 : decode cX10_line 160 = .ok (.iload_n 1, 1) := by decide +kernel
theorem dX10_line_161 : decode cX10_line 161 = .ok (.bipush 9, 2) := by decide +kernel
theorem dX10_line_163 : decode cX10_line 163 = .ok (.if_icmp .eq 9, 3) := by decide +kernel
theorem dX10_line_166 : decode cX10_line 166 = .ok (.iload_n 1, 1) := by decide +kernel
theorem dX10_line_167 : decode cX10_line 167 = .ok (.bipush 10, 2) := by decide +kernel
theorem dX10_line_169 : decode cX10_line 169 = .ok (.if_icmp .ne 14, 3) := by decide +kernel
theorem dX10_line_172 : decode cX10_line 172 = .ok (.aload_n 0, 1) := by decide +kernel
theorem dX10_line_173 : decode cX10_line 173 = .ok (.iload_n 1, 1) := by decide +kernel
theorem dX10_line_174 : decode cX10_line 174 = .ok (.bipush 9, 2) := by decide +kernel
theorem dX10_line_176 : decode cX10_line 176 = .ok (.isub, 1) := by decide +kernel
theorem dX10_line_177 : decode cX10_line 177 = .ok (.invokevirtual 207, 3) := by decide +kernel
theorem dX10_line_180 : decode cX10_line 180 = .ok (.goto 8, 3) := by decide +kernel
theorem dX10_line_183 : decode cX10_line 183 = .ok (.aload_n 0, 1) := by decide +kernel
theorem dX10_line_184 : decode cX10_line 184 = .ok (.iconst 1, 1) := by decide +kernel
theorem dX10_line_185 : decode cX10_line 185 = .ok (.invokevirtual 131, 3) := by decide +kernel
theorem dX10_line_188 : decode cX10_line 188 = .ok (.aload_n 0, 1) := by decide +kernel
theorem dX10_line_189 : decode cX10_line 189 = .ok (.aload_n 0, 1) := by decide +kernel
theorem dX10_line_190 : decode cX10_line 190 = .ok (.bipush 59, 2) := by decide +kernel
theorem dX10_line_192 : decode cX10_line 192 = .ok (.invokevirtual 141, 3) := by decide +kernel
theorem dX10_line_195 : decode cX10_line 195 = .ok (.invokevirtual 210, 3) := by decide +kernel
theorem dX10_line_198 : decode cX10_line 198 = .ok (.return_, 1) := by decide +kernel
theorem dX10_tables_0 : decode cX10_tables 0 = .ok (.aload_n 0, 1) := by decide +kernel
theorem dX10_tables_1 : decode cX10_tables 1 = .ok (.iconst 0, 1) := by decide +kernel
theorem dX10_tables_2 : decode cX10_tables 2 = .ok (.putfield 65, 3) := by decide +kernel
theorem dX10_tables_5 : decode cX10_tables 5 = .ok (.aload_n 0, 1) := by decide +kernel
theorem dX10_tables_6 : decode cX10_tables 6 = .ok (.iload_n 1, 1) := by decide +kernel
theorem dX10_tables_7 : decode cX10_tables 7 = .ok (.ifCond .lt 15, 3) := by decide +kernel
theorem dX10_tables_10 : decode cX10_tables 10 = .ok (.iload_n 1, 1) := by decide +kernel
theorem dX10_tables_11 : decode cX10_tables 11 = .ok (.aload_n 0, 1) := by decide +kernel
theorem dX10_tables_12 : decode cX10_tables 12 = .ok (.getfield 68, 3) := by decide +kernel
theorem dX10_tables_15 : decode cX10_tables 15 = .ok (.if_icmp .gt 7, 3) := by decide +kernel
theorem dX10_tables_18 : decode cX10_tables 18 = .ok (.iconst 1, 1) := by decide +kernel
theorem dX10_tables_19 : decode cX10_tables 19 = .ok (.goto 4, 3) := by decide +kernel
theorem dX10_tables_22 : decode cX10_tables 22 = .ok (.iconst 0, 1) := by decide +kernel
theorem dX10_tables_23 : decode cX10_tables 23 = .ok (.iconst 1, 1) := by decide +kernel
theorem dX10_tables_24 : decode cX10_tables 24 = .ok (.invokevirtual 214, 3) := by decide +kernel
theorem dX10_tables_27 : decode cX10_tables 27 = .ok (.ifCond .ne 5, 3) := by decide +kernel
theorem dX10_tables_30 : decode cX10_tables 30 = .ok (.iconst 0, 1) := by decide +kernel
theorem dX10_tables_31 : decode cX10_tables 31 = .ok (.ireturn, 1) := by decide +kernel
theorem dX10_tables_32 : decode cX10_tables 32 = .ok (.aload_n 0, 1) := by decide +kernel
theorem dX10_tables_33 : decode cX10_tables 33 = .ok (.iconst 0, 1) := by decide +kernel
theorem dX10_tables_34 : decode cX10_tables 34 = .ok (.putfield 68, 3) := by decide +kernel
theorem dX10_tables_37 : decode cX10_tables 37 = .ok (.aload_n 0, 1) := by decide +kernel
theorem dX10_tables_38 : decode cX10_tables 38 = .ok (.iconst (-1), 1) := by decide +kernel
theorem dX10_tables_39 : decode cX10_tables 39 = .ok (.putfield 13, 3) := by decide +kernel
theorem dX10_tables_42 : decode cX10_tables 42 = .ok (.aload_n 0, 1) := by decide +kernel
theorem dX10_tables_43 : decode cX10_tables 43 = .ok (.iconst 0, 1) := by decide +kernel
theorem dX10_tables_44 : decode cX10_tables 44 = .ok (.putfield 121, 3) := by decide +kernel
theorem dX10_tables_47 : decode cX10_tables 47 = .ok (.aload_n 0, 1) := by decide +kernel
theorem dX10_tables_48 : decode cX10_tables 48 = .ok (.iload_n 1, 1) := by decide +kernel
theorem dX10_tables_49 : decode cX10_tables 49 = .ok (.putfield 75, 3) := by decide +kernel
theorem dX10_tables_52 : decode cX10_tables 52 = .ok (.aload_n 0, 1) := by decide +kernel
theorem dX10_tables_53 : decode cX10_tables 53 = .ok (.iconst 0, 1) := by decide +kernel
theorem dX10_tables_54 : decode cX10_tables 54 = .ok (.putfield 78, 3) := by decide +kernel
theorem dX10_tables_57 : decode cX10_tables 57 = .ok (.aload_n 0, 1) := by decide +kernel
theorem dX10_tables_58 : decode cX10_tables 58 = .ok (.iconst 0, 1) := by decide +kernel
theorem dX10_tables_59 : decode cX10_tables 59 = .ok (.putfield 147, 3) := by decide +kernel
theorem dX10_tables_62 : decode cX10_tables 62 = .ok (.aload_n 0, 1) := by decide +kernel
theorem dX10_tables_63 : decode cX10_tables 63 = .ok (.iconst 0, 1) := by decide +kernel
theorem dX10_tables_64 : decode cX10_tables 64 = .ok (.putfield 178, 3) := by decide +kernel
theorem dX10_tables_67 : decode cX10_tables 67 = .ok (.aload_n 0, 1) := by decide +kernel
theorem dX10_tables_68 : decode cX10_tables 68 = .ok (.iconst 0, 1) := by decide +kernel
theorem dX10_tables_69 : decode cX10_tables 69 = .ok (.putfield 184, 3) := by decide +kernel
theorem dX10_tables_72 : decode cX10_tables 72 = .ok (.iconst 0, 1) := by decide +kernel
theorem dX10_tables_73 : decode cX10_tables 73 = .ok (.istore_n 2, 1) := by decide +kernel
theorem dX10_tables_74 : decode cX10_tables 74 = .ok (.iload_n 2, 1) := by decide +kernel
theorem dX10_tables_75 : decode cX10_tables 75 = .ok (.sipush 931, 3) := by decide +kernel
theorem dX10_tables_78 : decode cX10_tables 78 = .ok (.if_icmp .ge 31, 3) := by decide +kernel
theorem dX10_tables_81 : decode cX10_tables 81 = .ok (.aload_n 0, 1) := by decide +kernel
theorem dX10_tables_82 : decode cX10_tables 82 = .ok (.getfield 20, 3) := by decide +kernel
theorem dX10_tables_85 : decode cX10_tables 85 = .ok (.sipush 931, 3) := by decide +kernel
theorem dX10_tables_88 : decode cX10_tables 88 = .ok (.iload_n 2, 1) := by decide +kernel
theorem dX10_tables_89 : decode cX10_tables 89 = .ok (.iadd, 1) := by decide +kernel
theorem dX10_tables_90 : decode cX10_tables 90 = .ok (.iload_n 2, 1) := by decide +kernel
theorem dX10_tables_91 : decode cX10_tables 91 = .ok (.sipush 615, 3) := by decide +kernel
theorem dX10_tables_94 : decode cX10_tables 94 = .ok (.if_icmp .lt 7, 3) := by decide +kernel
theorem dX10_tables_97 : decode cX10_tables 97 = .ok (.iconst (-1), 1) := by decide +kernel
theorem dX10_tables_98 : decode cX10_tables 98 = .ok (.goto 4, 3) := by decide +kernel
theorem dX10_tables_101 : decode cX10_tables 101 = .ok (.iconst 0, 1) := by decide +kernel
theorem dX10_tables_102 : decode cX10_tables 102 = .ok (.iastore, 1) := by decide +kernel
theorem dX10_tables_103 : decode cX10_tables 103 = .ok (.iinc 2 1, 3) := by decide +kernel
theorem dX10_tables_106 : decode cX10_tables 106 = .ok (.goto (-32), 3) := by decide +kernel
theorem dX10_tables_109 : decode cX10_tables 109 = .ok (.aload_n 0, 1) := by decide +kernel
theorem dX10_tables_110 : decode cX10_tables 110 = .ok (.invokevirtual 128, 3) := by decide +kernel
theorem dX10_tables_113 : decode cX10_tables 113 = .ok (.aload_n 0, 1) := by decide +kernel
theorem dX10_tables_114 : decode cX10_tables 114 = .ok (.invokevirtual 124, 3) := by decide +kernel
theorem dX10_tables_117 : decode cX10_tables 117 = .ok (.ifCond .eq 17, 3) := by decide +kernel
theorem dX10_tables_120 : decode cX10_tables 120 = .ok (.aload_n 0, 1) := by decide +kernel
theorem dX10_tables_121 : decode cX10_tables 121 = .ok (.getfield 98, 3) := by decide +kernel
theorem dX10_tables_124 : decode cX10_tables 124 = .ok (.ifCond .eq 10, 3) := by decide +kernel
theorem dX10_tables_127 : decode cX10_tables 127 = .ok (.aload_n 0, 1) := by decide +kernel
theorem dX10_tables_128 : decode cX10_tables 128 = .ok (.invokevirtual 218, 3) := by decide +kernel
theorem dX10_tables_131 : decode cX10_tables 131 = .ok (.goto (-18), 3) := by decide +kernel
theorem dX10_tables_134 : decode cX10_tables 134 = .ok (.aload_n 0, 1) := by decide +kernel
theorem dX10_tables_135 : decode cX10_tables 135 = .ok (.invokevirtual 124, 3) := by decide +kernel
theorem dX10_tables_138 : decode cX10_tables 138 = .ok (.ifCond .ne 18, 3) := by decide +kernel
theorem dX10_tables_141 : decode cX10_tables 141 = .ok (.aload_n 0, 1) := by decide +kernel
theorem dX10_tables_142 : decode cX10_tables 142 = .ok (.getfield 17, 3) := by decide +kernel
theorem dX10_tables_145 : decode cX10_tables 145 = .ok (.iconst 0, 1) := by decide +kernel
theorem dX10_tables_146 : decode cX10_tables 146 = .ok (.dup2, 1) := by decide +kernel
theorem dX10_tables_147 : decode cX10_tables 147 = .ok (.iaload, 1) := by decide +kernel
theorem dX10_tables_148 : decode cX10_tables 148 = .ok (.iconst 1, 1) := by decide +kernel
theorem dX10_tables_149 : decode cX10_tables 149 = .ok (.iadd, 1) := by decide +kernel
theorem dX10_tables_150 : decode cX10_tables 150 = .ok (.iastore, 1) := by decide +kernel
theorem dX10_tables_151 : decode cX10_tables 151 = .ok (.aload_n 0, 1) := by decide +kernel
theorem dX10_tables_152 : decode cX10_tables 152 = .ok (.getfield 121, 3) := by decide +kernel
theorem dX10_tables_155 : decode cX10_tables 155 = .ok (.ireturn, 1) := by decide +kernel
theorem dX10_tables_156 : decode cX10_tables 156 = .ok (.aload_n 0, 1) := by decide +kernel
theorem dX10_tables_157 : decode cX10_tables 157 = .ok (.getfield 184, 3) := by decide +kernel
theorem dX10_tables_160 : decode cX10_tables 160 = .ok (.ifCond .ne 10, 3) := by decide +kernel
theorem dX10_tables_163 : decode cX10_tables 163 = .ok (.aload_n 0, 1) := by decide +kernel
theorem dX10_tables_164 : decode cX10_tables 164 = .ok (.sipush 931, 3) := by decide +kernel
theorem dX10_tables_167 : decode cX10_tables 167 = .ok (.invokevirtual 187, 3) := by decide +kernel
theorem dX10_tables_170 : decode cX10_tables 170 = .ok (.iconst 0, 1) := by decide +kernel
theorem dX10_tables_171 : decode cX10_tables 171 = .ok (.istore_n 2, 1) := by decide +kernel
theorem dX10_tables_172 : decode cX10_tables 172 = .ok (.iload_n 2, 1) := by decide +kernel
theorem dX10_tables_173 : decode cX10_tables 173 = .ok (.sipush 931, 3) := by decide +kernel
theorem dX10_tables_176 : decode cX10_tables 176 = .ok (.if_icmp .ge 25, 3) := by decide +kernel
theorem dX10_tables_179 : decode cX10_tables 179 = .ok (.aload_n 0, 1) := by decide +kernel
theorem dX10_tables_180 : decode cX10_tables 180 = .ok (.getfield 20, 3) := by decide +kernel
theorem dX10_tables_183 : decode cX10_tables 183 = .ok (.iload_n 2, 1) := by decide +kernel
theorem dX10_tables_184 : decode cX10_tables 184 = .ok (.aload_n 0, 1) := by decide +kernel
theorem dX10_tables_185 : decode cX10_tables 185 = .ok (.getfield 20, 3) := by decide +kernel
theorem dX10_tables_188 : decode cX10_tables 188 = .ok (.sipush 931, 3) := by decide +kernel
theorem dX10_tables_191 : decode cX10_tables 191 = .ok (.iload_n 2, 1) := by decide +kernel
theorem dX10_tables_192 : decode cX10_tables 192 = .ok (.iadd, 1) := by decide +kernel
theorem dX10_tables_193 : decode cX10_tables 193 = .ok (.iaload, 1) := by decide +kernel
theorem dX10_tables_194 : decode cX10_tables 194 = .ok (.iastore, 1) := by decide +kernel
theorem dX10_tables_195 : decode cX10_tables 195 = .ok (.iinc 2 1, 3) := by decide +kernel
theorem dX10_tables_198 : decode cX10_tables 198 = .ok (.goto (-26), 3) := by decide +kernel
theorem dX10_tables_201 : decode cX10_tables 201 = .ok (.aload_n 0, 1) := by decide +kernel
theorem dX10_tables_202 : decode cX10_tables 202 = .ok (.iconst 0, 1) := by decide +kernel
theorem dX10_tables_203 : decode cX10_tables 203 = .ok (.putfield 221, 3) := by decide +kernel
theorem dX10_tables_206 : decode cX10_tables 206 = .ok (.aload_n 0, 1) := by decide +kernel
theorem dX10_tables_207 : decode cX10_tables 207 = .ok (.iconst 0, 1) := by decide +kernel
theorem dX10_tables_208 : decode cX10_tables 208 = .ok (.putfield 224, 3) := by decide +kernel
theorem dX10_tables_211 : decode cX10_tables 211 = .ok (.aload_n 0, 1) := by decide +kernel
theorem dX10_tables_212 : decode cX10_tables 212 = .ok (.iconst 0, 1) := by decide +kernel
theorem dX10_tables_213 : decode cX10_tables 213 = .ok (.putfield 227, 3) := by decide +kernel
theorem dX10_tables_216 : decode cX10_tables 216 = .ok (.iconst 0, 1) := by decide +kernel
theorem dX10_tables_217 : decode cX10_tables 217 = .ok (.ireturn, 1) := by decide +kernel
theorem dX10_fault_0 : decode cX10_fault 0 = .ok (.aload_n 0, 1) := by decide +kernel
theorem dX10_fault_1 : decode cX10_fault 1 = .ok (.iconst 0, 1) := by decide +kernel
theorem dX10_fault_2 : decode cX10_fault 2 = .ok (.putfield 65, 3) := by decide +kernel
theorem dX10_fault_5 : decode cX10_fault 5 = .ok (.aload_n 0, 1) := by decide +kernel
theorem dX10_fault_6 : decode cX10_fault 6 = .ok (.getfield 13, 3) := by decide +kernel
theorem dX10_fault_9 : decode cX10_fault 9 = .ok (.ireturn, 1) := by decide +kernel
theorem dX10_keeps_0 : decode cX10_keeps 0 = .ok (.aload_n 0, 1) := by decide +kernel
theorem dX10_keeps_1 : decode cX10_keeps 1 = .ok (.getfield 221, 3) := by decide +kernel
theorem dX10_keeps_4 : decode cX10_keeps 4 = .ok (.bipush 30, 2) := by decide +kernel
theorem dX10_keeps_6 : decode cX10_keeps 6 = .ok (.if_icmp .ne 46, 3) := by decide +kernel
theorem dX10_keeps_9 : decode cX10_keeps 9 = .ok (.sipush 931, 3) := by decide +kernel
theorem dX10_keeps_12 : decode cX10_keeps 12 = .ok (.istore_n 1, 1) := by decide +kernel
theorem dX10_keeps_13 : decode cX10_keeps 13 = .ok (.iload_n 1, 1) := by decide +kernel
theorem dX10_keeps_14 : decode cX10_keeps 14 = .ok (.sipush 27930, 3) := by decide +kernel
theorem dX10_keeps_17 : decode cX10_keeps 17 = .ok (.if_icmp .ge 25, 3) := by decide +kernel
theorem dX10_keeps_20 : decode cX10_keeps 20 = .ok (.aload_n 0, 1) := by decide +kernel
theorem dX10_keeps_21 : decode cX10_keeps 21 = .ok (.getfield 23, 3) := by decide +kernel
theorem dX10_keeps_24 : decode cX10_keeps 24 = .ok (.iload_n 1, 1) := by decide +kernel
theorem dX10_keeps_25 : decode cX10_keeps 25 = .ok (.sipush 931, 3) := by decide +kernel
theorem dX10_keeps_28 : decode cX10_keeps 28 = .ok (.isub, 1) := by decide +kernel
theorem dX10_keeps_29 : decode cX10_keeps 29 = .ok (.aload_n 0, 1) := by decide +kernel
theorem dX10_keeps_30 : decode cX10_keeps 30 = .ok (.getfield 23, 3) := by decide +kernel
theorem dX10_keeps_33 : decode cX10_keeps 33 = .ok (.iload_n 1, 1) := by decide +kernel
theorem dX10_keeps_34 : decode cX10_keeps 34 = .ok (.iaload, 1) := by decide +kernel
theorem dX10_keeps_35 : decode cX10_keeps 35 = .ok (.iastore, 1) := by decide +kernel
theorem dX10_keeps_36 : decode cX10_keeps 36 = .ok (.iinc 1 1, 3) := by decide +kernel
theorem dX10_keeps_39 : decode cX10_keeps 39 = .ok (.goto (-26), 3) := by decide +kernel
theorem dX10_keeps_42 : decode cX10_keeps 42 = .ok (.aload_n 0, 1) := by decide +kernel
theorem dX10_keeps_43 : decode cX10_keeps 43 = .ok (.dup, 1) := by decide +kernel
theorem dX10_keeps_44 : decode cX10_keeps 44 = .ok (.getfield 221, 3) := by decide +kernel
theorem dX10_keeps_47 : decode cX10_keeps 47 = .ok (.iconst 1, 1) := by decide +kernel
theorem dX10_keeps_48 : decode cX10_keeps 48 = .ok (.isub, 1) := by decide +kernel
theorem dX10_keeps_49 : decode cX10_keeps 49 = .ok (.putfield 221, 3) := by decide +kernel
theorem dX10_keeps_52 : decode cX10_keeps 52 = .ok (.iconst 0, 1) := by decide +kernel
theorem dX10_keeps_53 : decode cX10_keeps 53 = .ok (.istore_n 1, 1) := by decide +kernel
theorem dX10_keeps_54 : decode cX10_keeps 54 = .ok (.iload_n 1, 1) := by decide +kernel
theorem dX10_keeps_55 : decode cX10_keeps 55 = .ok (.sipush 931, 3) := by decide +kernel
theorem dX10_keeps_58 : decode cX10_keeps 58 = .ok (.if_icmp .ge 30, 3) := by decide +kernel
theorem dX10_keeps_61 : decode cX10_keeps 61 = .ok (.aload_n 0, 1) := by decide +kernel
theorem dX10_keeps_62 : decode cX10_keeps 62 = .ok (.getfield 23, 3) := by decide +kernel
theorem dX10_keeps_65 : decode cX10_keeps 65 = .ok (.sipush 931, 3) := by decide +kernel
theorem dX10_keeps_68 : decode cX10_keeps 68 = .ok (.aload_n 0, 1) := by decide +kernel
theorem dX10_keeps_69 : decode cX10_keeps 69 = .ok (.getfield 221, 3) := by decide +kernel
theorem dX10_keeps_72 : decode cX10_keeps 72 = .ok (.imul, 1) := by decide +kernel
theorem dX10_keeps_73 : decode cX10_keeps 73 = .ok (.iload_n 1, 1) := by decide +kernel
theorem dX10_keeps_74 : decode cX10_keeps 74 = .ok (.iadd, 1) := by decide +kernel
theorem dX10_keeps_75 : decode cX10_keeps 75 = .ok (.aload_n 0, 1) := by decide +kernel
theorem dX10_keeps_76 : decode cX10_keeps 76 = .ok (.getfield 20, 3) := by decide +kernel
theorem dX10_keeps_79 : decode cX10_keeps 79 = .ok (.iload_n 1, 1) := by decide +kernel
theorem dX10_keeps_80 : decode cX10_keeps 80 = .ok (.iaload, 1) := by decide +kernel
theorem dX10_keeps_81 : decode cX10_keeps 81 = .ok (.iastore, 1) := by decide +kernel
theorem dX10_keeps_82 : decode cX10_keeps 82 = .ok (.iinc 1 1, 3) := by decide +kernel
theorem dX10_keeps_85 : decode cX10_keeps 85 = .ok (.goto (-31), 3) := by decide +kernel
theorem dX10_keeps_88 : decode cX10_keeps 88 = .ok (.aload_n 0, 1) := by decide +kernel
theorem dX10_keeps_89 : decode cX10_keeps 89 = .ok (.dup, 1) := by decide +kernel
theorem dX10_keeps_90 : decode cX10_keeps 90 = .ok (.getfield 221, 3) := by decide +kernel
theorem dX10_keeps_93 : decode cX10_keeps 93 = .ok (.iconst 1, 1) := by decide +kernel
theorem dX10_keeps_94 : decode cX10_keeps 94 = .ok (.iadd, 1) := by decide +kernel
theorem dX10_keeps_95 : decode cX10_keeps 95 = .ok (.putfield 221, 3) := by decide +kernel
theorem dX10_keeps_98 : decode cX10_keeps 98 = .ok (.return_, 1) := by decide +kernel
theorem dX10_refuses_0 : decode cX10_refuses 0 = .ok (.aload_n 0, 1) := by decide +kernel
theorem dX10_refuses_1 : decode cX10_refuses 1 = .ok (.getfield 17, 3) := by decide +kernel
theorem dX10_refuses_4 : decode cX10_refuses 4 = .ok (.iload_n 1, 1) := by decide +kernel
theorem dX10_refuses_5 : decode cX10_refuses 5 = .ok (.dup2, 1) := by decide +kernel
theorem dX10_refuses_6 : decode cX10_refuses 6 = .ok (.iaload, 1) := by decide +kernel
theorem dX10_refuses_7 : decode cX10_refuses 7 = .ok (.iconst 1, 1) := by decide +kernel
theorem dX10_refuses_8 : decode cX10_refuses 8 = .ok (.iadd, 1) := by decide +kernel
theorem dX10_refuses_9 : decode cX10_refuses 9 = .ok (.iastore, 1) := by decide +kernel
theorem dX10_refuses_10 : decode cX10_refuses 10 = .ok (.iconst (-1), 1) := by decide +kernel
theorem dX10_refuses_11 : decode cX10_refuses 11 = .ok (.ireturn, 1) := by decide +kernel
theorem dX10_undo_0 : decode cX10_undo 0 = .ok (.aload_n 0, 1) := by decide +kernel
theorem dX10_undo_1 : decode cX10_undo 1 = .ok (.iconst 0, 1) := by decide +kernel
theorem dX10_undo_2 : decode cX10_undo 2 = .ok (.putfield 65, 3) := by decide +kernel
theorem dX10_undo_5 : decode cX10_undo 5 = .ok (.aload_n 0, 1) := by decide +kernel
theorem dX10_undo_6 : decode cX10_undo 6 = .ok (.getfield 221, 3) := by decide +kernel
theorem dX10_undo_9 : decode cX10_undo 9 = .ok (.ifCond .ne 5, 3) := by decide +kernel
theorem dX10_undo_12 : decode cX10_undo 12 = .ok (.iconst (-1), 1) := by decide +kernel
theorem dX10_undo_13 : decode cX10_undo 13 = .ok (.ireturn, 1) := by decide +kernel
theorem dX10_undo_14 : decode cX10_undo 14 = .ok (.aload_n 0, 1) := by decide +kernel
theorem dX10_undo_15 : decode cX10_undo 15 = .ok (.dup, 1) := by decide +kernel
theorem dX10_undo_16 : decode cX10_undo 16 = .ok (.getfield 221, 3) := by decide +kernel
theorem dX10_undo_19 : decode cX10_undo 19 = .ok (.iconst 1, 1) := by decide +kernel
theorem dX10_undo_20 : decode cX10_undo 20 = .ok (.isub, 1) := by decide +kernel
theorem dX10_undo_21 : decode cX10_undo 21 = .ok (.putfield 221, 3) := by decide +kernel
theorem dX10_undo_24 : decode cX10_undo 24 = .ok (.iconst 0, 1) := by decide +kernel
theorem dX10_undo_25 : decode cX10_undo 25 = .ok (.istore_n 1, 1) := by decide +kernel
theorem dX10_undo_26 : decode cX10_undo 26 = .ok (.iload_n 1, 1) := by decide +kernel
theorem dX10_undo_27 : decode cX10_undo 27 = .ok (.sipush 931, 3) := by decide +kernel
theorem dX10_undo_30 : decode cX10_undo 30 = .ok (.if_icmp .ge 30, 3) := by decide +kernel
theorem dX10_undo_33 : decode cX10_undo 33 = .ok (.aload_n 0, 1) := by decide +kernel
theorem dX10_undo_34 : decode cX10_undo 34 = .ok (.getfield 20, 3) := by decide +kernel
theorem dX10_undo_37 : decode cX10_undo 37 = .ok (.iload_n 1, 1) := by decide +kernel
theorem dX10_undo_38 : decode cX10_undo 38 = .ok (.aload_n 0, 1) := by decide +kernel
theorem dX10_undo_39 : decode cX10_undo 39 = .ok (.getfield 23, 3) := by decide +kernel
theorem dX10_undo_42 : decode cX10_undo 42 = .ok (.sipush 931, 3) := by decide +kernel
theorem dX10_undo_45 : decode cX10_undo 45 = .ok (.aload_n 0, 1) := by decide +kernel
theorem dX10_undo_46 : decode cX10_undo 46 = .ok (.getfield 221, 3) := by decide +kernel
theorem dX10_undo_49 : decode cX10_undo 49 = .ok (.imul, 1) := by decide +kernel
theorem dX10_undo_50 : decode cX10_undo 50 = .ok (.iload_n 1, 1) := by decide +kernel
theorem dX10_undo_51 : decode cX10_undo 51 = .ok (.iadd, 1) := by decide +kernel
theorem dX10_undo_52 : decode cX10_undo 52 = .ok (.iaload, 1) := by decide +kernel
theorem dX10_undo_53 : decode cX10_undo 53 = .ok (.iastore, 1) := by decide +kernel
theorem dX10_undo_54 : decode cX10_undo 54 = .ok (.iinc 1 1, 3) := by decide +kernel
theorem dX10_undo_57 : decode cX10_undo 57 = .ok (.goto (-31), 3) := by decide +kernel
theorem dX10_undo_60 : decode cX10_undo 60 = .ok (.aload_n 0, 1) := by decide +kernel
theorem dX10_undo_61 : decode cX10_undo 61 = .ok (.getfield 221, 3) := by decide +kernel
theorem dX10_undo_64 : decode cX10_undo 64 = .ok (.ireturn, 1) := by decide +kernel
theorem dX10_tries_0 : decode cX10_tries 0 = .ok (.iconst 0, 1) := by decide +kernel
theorem dX10_tries_1 : decode cX10_tries 1 = .ok (.istore_n 1, 1) := by decide +kernel
theorem dX10_tries_2 : decode cX10_tries 2 = .ok (.iload_n 1, 1) := by decide +kernel
theorem dX10_tries_3 : decode cX10_tries 3 = .ok (.sipush 931, 3) := by decide +kernel
theorem dX10_tries_6 : decode cX10_tries 6 = .ok (.if_icmp .ge 25, 3) := by decide +kernel
theorem dX10_tries_9 : decode cX10_tries 9 = .ok (.aload_n 0, 1) := by decide +kernel
theorem dX10_tries_10 : decode cX10_tries 10 = .ok (.getfield 20, 3) := by decide +kernel
theorem dX10_tries_13 : decode cX10_tries 13 = .ok (.sipush 931, 3) := by decide +kernel
theorem dX10_tries_16 : decode cX10_tries 16 = .ok (.iload_n 1, 1) := by decide +kernel
theorem dX10_tries_17 : decode cX10_tries 17 = .ok (.iadd, 1) := by decide +kernel
theorem dX10_tries_18 : decode cX10_tries 18 = .ok (.aload_n 0, 1) := by decide +kernel
theorem dX10_tries_19 : decode cX10_tries 19 = .ok (.getfield 20, 3) := by decide +kernel
theorem dX10_tries_22 : decode cX10_tries 22 = .ok (.iload_n 1, 1) := by decide +kernel
theorem dX10_tries_23 : decode cX10_tries 23 = .ok (.iaload, 1) := by decide +kernel
theorem dX10_tries_24 : decode cX10_tries 24 = .ok (.iastore, 1) := by decide +kernel
theorem dX10_tries_25 : decode cX10_tries 25 = .ok (.iinc 1 1, 3) := by decide +kernel
theorem dX10_tries_28 : decode cX10_tries 28 = .ok (.goto (-26), 3) := by decide +kernel
theorem dX10_tries_31 : decode cX10_tries 31 = .ok (.return_, 1) := by decide +kernel
theorem dX10_hasColumn_0 : decode cX10_hasColumn 0 = .ok (.iload_n 3, 1) := by decide +kernel
theorem dX10_hasColumn_1 : decode cX10_hasColumn 1 = .ok (.iconst 0, 1) := by decide +kernel
theorem dX10_hasColumn_2 : decode cX10_hasColumn 2 = .ok (.bipush 8, 2) := by decide +kernel
theorem dX10_hasColumn_4 : decode cX10_hasColumn 4 = .ok (.invokestatic 231, 3) := by decide +kernel
theorem dX10_hasColumn_7 : decode cX10_hasColumn 7 = .ok (.ifCond .eq 29, 3) := by decide +kernel
theorem dX10_hasColumn_10 : decode cX10_hasColumn 10 = .ok (.aload_n 0, 1) := by decide +kernel
theorem dX10_hasColumn_11 : decode cX10_hasColumn 11 = .ok (.getfield 20, 3) := by decide +kernel
theorem dX10_hasColumn_14 : decode cX10_hasColumn 14 = .ok (.iload_n 1, 1) := by decide +kernel
theorem dX10_hasColumn_15 : decode cX10_hasColumn 15 = .ok (.sipush 200, 3) := by decide +kernel
theorem dX10_hasColumn_18 : decode cX10_hasColumn 18 = .ok (.iload_n 2, 1) := by decide +kernel
theorem dX10_hasColumn_19 : decode cX10_hasColumn 19 = .ok (.imul, 1) := by decide +kernel
theorem dX10_hasColumn_20 : decode cX10_hasColumn 20 = .ok (.iadd, 1) := by decide +kernel
theorem dX10_hasColumn_21 : decode cX10_hasColumn 21 = .ok (.iconst 0, 1) := by decide +kernel
theorem dX10_hasColumn_22 : decode cX10_hasColumn 22 = .ok (.iadd, 1) := by decide +kernel
theorem dX10_hasColumn_23 : decode cX10_hasColumn 23 = .ok (.iaload, 1) := by decide +kernel
theorem dX10_hasColumn_24 : decode cX10_hasColumn 24 = .ok (.iload_n 3, 1) := by decide +kernel
theorem dX10_hasColumn_25 : decode cX10_hasColumn 25 = .ok (.ishr, 1) := by decide +kernel
theorem dX10_hasColumn_26 : decode cX10_hasColumn 26 = .ok (.iconst 1, 1) := by decide +kernel
theorem dX10_hasColumn_27 : decode cX10_hasColumn 27 = .ok (.iand, 1) := by decide +kernel
theorem dX10_hasColumn_28 : decode cX10_hasColumn 28 = .ok (.iconst 1, 1) := by decide +kernel
theorem dX10_hasColumn_29 : decode cX10_hasColumn 29 = .ok (.if_icmp .ne 7, 3) := by decide +kernel
theorem dX10_hasColumn_32 : decode cX10_hasColumn 32 = .ok (.iconst 1, 1) := by decide +kernel
theorem dX10_hasColumn_33 : decode cX10_hasColumn 33 = .ok (.goto 4, 3) := by decide +kernel
theorem dX10_hasColumn_36 : decode cX10_hasColumn 36 = .ok (.iconst 0, 1) := by decide +kernel
theorem dX10_hasColumn_37 : decode cX10_hasColumn 37 = .ok (.ireturn, 1) := by decide +kernel
theorem dX10_hasRow_0 : decode cX10_hasRow 0 = .ok (.iload_n 3, 1) := by decide +kernel
theorem dX10_hasRow_1 : decode cX10_hasRow 1 = .ok (.iconst 0, 1) := by decide +kernel
theorem dX10_hasRow_2 : decode cX10_hasRow 2 = .ok (.bipush 19, 2) := by decide +kernel
theorem dX10_hasRow_4 : decode cX10_hasRow 4 = .ok (.invokestatic 231, 3) := by decide +kernel
theorem dX10_hasRow_7 : decode cX10_hasRow 7 = .ok (.ifCond .eq 29, 3) := by decide +kernel
theorem dX10_hasRow_10 : decode cX10_hasRow 10 = .ok (.aload_n 0, 1) := by decide +kernel
theorem dX10_hasRow_11 : decode cX10_hasRow 11 = .ok (.getfield 20, 3) := by decide +kernel
theorem dX10_hasRow_14 : decode cX10_hasRow 14 = .ok (.iload_n 1, 1) := by decide +kernel
theorem dX10_hasRow_15 : decode cX10_hasRow 15 = .ok (.sipush 200, 3) := by decide +kernel
theorem dX10_hasRow_18 : decode cX10_hasRow 18 = .ok (.iload_n 2, 1) := by decide +kernel
theorem dX10_hasRow_19 : decode cX10_hasRow 19 = .ok (.imul, 1) := by decide +kernel
theorem dX10_hasRow_20 : decode cX10_hasRow 20 = .ok (.iadd, 1) := by decide +kernel
theorem dX10_hasRow_21 : decode cX10_hasRow 21 = .ok (.iconst 1, 1) := by decide +kernel
theorem dX10_hasRow_22 : decode cX10_hasRow 22 = .ok (.iadd, 1) := by decide +kernel
theorem dX10_hasRow_23 : decode cX10_hasRow 23 = .ok (.iaload, 1) := by decide +kernel
theorem dX10_hasRow_24 : decode cX10_hasRow 24 = .ok (.iload_n 3, 1) := by decide +kernel
theorem dX10_hasRow_25 : decode cX10_hasRow 25 = .ok (.ishr, 1) := by decide +kernel
theorem dX10_hasRow_26 : decode cX10_hasRow 26 = .ok (.iconst 1, 1) := by decide +kernel
theorem dX10_hasRow_27 : decode cX10_hasRow 27 = .ok (.iand, 1) := by decide +kernel
theorem dX10_hasRow_28 : decode cX10_hasRow 28 = .ok (.iconst 1, 1) := by decide +kernel
theorem dX10_hasRow_29 : decode cX10_hasRow 29 = .ok (.if_icmp .ne 7, 3) := by decide +kernel
theorem dX10_hasRow_32 : decode cX10_hasRow 32 = .ok (.iconst 1, 1) := by decide +kernel
theorem dX10_hasRow_33 : decode cX10_hasRow 33 = .ok (.goto 4, 3) := by decide +kernel
theorem dX10_hasRow_36 : decode cX10_hasRow 36 = .ok (.iconst 0, 1) := by decide +kernel
theorem dX10_hasRow_37 : decode cX10_hasRow 37 = .ok (.ireturn, 1) := by decide +kernel
theorem dX10_nameAt_0 : decode cX10_nameAt 0 = .ok (.aload_n 0, 1) := by decide +kernel
theorem dX10_nameAt_1 : decode cX10_nameAt 1 = .ok (.getfield 20, 3) := by decide +kernel
theorem dX10_nameAt_4 : decode cX10_nameAt 4 = .ok (.iload_n 1, 1) := by decide +kernel
theorem dX10_nameAt_5 : decode cX10_nameAt 5 = .ok (.sipush 200, 3) := by decide +kernel
theorem dX10_nameAt_8 : decode cX10_nameAt 8 = .ok (.iload_n 2, 1) := by decide +kernel
theorem dX10_nameAt_9 : decode cX10_nameAt 9 = .ok (.imul, 1) := by decide +kernel
theorem dX10_nameAt_10 : decode cX10_nameAt 10 = .ok (.iadd, 1) := by decide +kernel
theorem dX10_nameAt_11 : decode cX10_nameAt 11 = .ok (.iconst 2, 1) := by decide +kernel
theorem dX10_nameAt_12 : decode cX10_nameAt 12 = .ok (.iadd, 1) := by decide +kernel
theorem dX10_nameAt_13 : decode cX10_nameAt 13 = .ok (.iload_n 3, 1) := by decide +kernel
theorem dX10_nameAt_14 : decode cX10_nameAt 14 = .ok (.iadd, 1) := by decide +kernel
theorem dX10_nameAt_15 : decode cX10_nameAt 15 = .ok (.iaload, 1) := by decide +kernel
theorem dX10_nameAt_16 : decode cX10_nameAt 16 = .ok (.ireturn, 1) := by decide +kernel
theorem dX10_typeAt_0 : decode cX10_typeAt 0 = .ok (.aload_n 0, 1) := by decide +kernel
theorem dX10_typeAt_1 : decode cX10_typeAt 1 = .ok (.getfield 20, 3) := by decide +kernel
theorem dX10_typeAt_4 : decode cX10_typeAt 4 = .ok (.iload_n 1, 1) := by decide +kernel
theorem dX10_typeAt_5 : decode cX10_typeAt 5 = .ok (.sipush 200, 3) := by decide +kernel
theorem dX10_typeAt_8 : decode cX10_typeAt 8 = .ok (.iload_n 2, 1) := by decide +kernel
theorem dX10_typeAt_9 : decode cX10_typeAt 9 = .ok (.imul, 1) := by decide +kernel
theorem dX10_typeAt_10 : decode cX10_typeAt 10 = .ok (.iadd, 1) := by decide +kernel
theorem dX10_typeAt_11 : decode cX10_typeAt 11 = .ok (.bipush 11, 2) := by decide +kernel
theorem dX10_typeAt_13 : decode cX10_typeAt 13 = .ok (.iadd, 1) := by decide +kernel
theorem dX10_typeAt_14 : decode cX10_typeAt 14 = .ok (.iload_n 3, 1) := by decide +kernel
theorem dX10_typeAt_15 : decode cX10_typeAt 15 = .ok (.iadd, 1) := by decide +kernel
theorem dX10_typeAt_16 : decode cX10_typeAt 16 = .ok (.iaload, 1) := by decide +kernel
theorem dX10_typeAt_17 : decode cX10_typeAt 17 = .ok (.ireturn, 1) := by decide +kernel
theorem dX10_cellAt_0 : decode cX10_cellAt 0 = .ok (.iload_n 0, 1) := by decide +kernel
theorem dX10_cellAt_1 : decode cX10_cellAt 1 = .ok (.sipush 200, 3) := by decide +kernel
theorem dX10_cellAt_4 : decode cX10_cellAt 4 = .ok (.iload_n 1, 1) := by decide +kernel
theorem dX10_cellAt_5 : decode cX10_cellAt 5 = .ok (.imul, 1) := by decide +kernel
theorem dX10_cellAt_6 : decode cX10_cellAt 6 = .ok (.iadd, 1) := by decide +kernel
theorem dX10_cellAt_7 : decode cX10_cellAt 7 = .ok (.bipush 20, 2) := by decide +kernel
theorem dX10_cellAt_9 : decode cX10_cellAt 9 = .ok (.iadd, 1) := by decide +kernel
theorem dX10_cellAt_10 : decode cX10_cellAt 10 = .ok (.bipush 9, 2) := by decide +kernel
theorem dX10_cellAt_12 : decode cX10_cellAt 12 = .ok (.iload_n 2, 1) := by decide +kernel
theorem dX10_cellAt_13 : decode cX10_cellAt 13 = .ok (.imul, 1) := by decide +kernel
theorem dX10_cellAt_14 : decode cX10_cellAt 14 = .ok (.iadd, 1) := by decide +kernel
theorem dX10_cellAt_15 : decode cX10_cellAt 15 = .ok (.iload_n 3, 1) := by decide +kernel
theorem dX10_cellAt_16 : decode cX10_cellAt 16 = .ok (.iadd, 1) := by decide +kernel
theorem dX10_cellAt_17 : decode cX10_cellAt 17 = .ok (.ireturn, 1) := by decide +kernel
theorem dX10_hasName_0 : decode cX10_hasName 0 = .ok (.iconst 0, 1) := by decide +kernel
theorem dX10_hasName_1 : decode cX10_hasName 1 = .ok (.istore 4, 2) := by decide +kernel
theorem dX10_hasName_3 : decode cX10_hasName 3 = .ok (.iload 4, 2) := by decide +kernel
theorem dX10_hasName_5 : decode cX10_hasName 5 = .ok (.bipush 9, 2) := by decide +kernel
theorem dX10_hasName_7 : decode cX10_hasName 7 = .ok (.if_icmp .ge 34, 3) := by decide +kernel
theorem dX10_hasName_10 : decode cX10_hasName 10 = .ok (.aload_n 0, 1) := by decide +kernel
theorem dX10_hasName_11 : decode cX10_hasName 11 = .ok (.iload_n 1, 1) := by decide +kernel
theorem dX10_hasName_12 : decode cX10_hasName 12 = .ok (.iload_n 2, 1) := by decide +kernel
theorem dX10_hasName_13 : decode cX10_hasName 13 = .ok (.iload 4, 2) := by decide +kernel
theorem dX10_hasName_15 : decode cX10_hasName 15 = .ok (.invokevirtual 234, 3) := by decide +kernel
theorem dX10_hasName_18 : decode cX10_hasName 18 = .ok (.ifCond .eq 17, 3) := by decide +kernel
theorem dX10_hasName_21 : decode cX10_hasName 21 = .ok (.aload_n 0, 1) := by decide +kernel
theorem dX10_hasName_22 : decode cX10_hasName 22 = .ok (.iload_n 1, 1) := by decide +kernel
theorem dX10_hasName_23 : decode cX10_hasName 23 = .ok (.iload_n 2, 1) := by decide +kernel
theorem dX10_hasName_24 : decode cX10_hasName 24 = .ok (.iload 4, 2) := by decide +kernel
theorem dX10_hasName_26 : decode cX10_hasName 26 = .ok (.invokevirtual 237, 3) := by decide +kernel
theorem dX10_hasName_29 : decode cX10_hasName 29 = .ok (.iload_n 3, 1) := by decide +kernel
theorem dX10_hasName_30 : decode cX10_hasName 30 = .ok (.if_icmp .ne 5, 3) := by decide +kernel
theorem dX10_hasName_33 : decode cX10_hasName 33 = .ok (.iconst 1, 1) := by decide +kernel
theorem dX10_hasName_34 : decode cX10_hasName 34 = .ok (.ireturn, 1) := by decide +kernel
theorem dX10_hasName_35 : decode cX10_hasName 35 = .ok (.iinc 4 1, 3) := by decide +kernel
theorem dX10_hasName_38 : decode cX10_hasName 38 = .ok (.goto (-35), 3) := by decide +kernel
theorem dX10_hasName_41 : decode cX10_hasName 41 = .ok (.iconst 0, 1) := by decide +kernel
theorem dX10_hasName_42 : decode cX10_hasName 42 = .ok (.ireturn, 1) := by decide +kernel
theorem dX10_doesHold_0 : decode cX10_doesHold 0 = .ok (.iload_n 1, 1) := by decide +kernel
theorem dX10_doesHold_1 : decode cX10_doesHold 1 = .ok (.sipush 9999, 3) := by decide +kernel
theorem dX10_doesHold_4 : decode cX10_doesHold 4 = .ok (.if_icmp .ne 5, 3) := by decide +kernel
theorem dX10_doesHold_7 : decode cX10_doesHold 7 = .ok (.iconst 1, 1) := by decide +kernel
theorem dX10_doesHold_8 : decode cX10_doesHold 8 = .ok (.ireturn, 1) := by decide +kernel
theorem dX10_doesHold_9 : decode cX10_doesHold 9 = .ok (.iload_n 0, 1) := by decide +kernel
theorem dX10_doesHold_10 : decode cX10_doesHold 10 = .ok (.tableswitch 70 0 2 #[26, 37, 45], 26) := by decide +kernel
theorem dX10_doesHold_36 : decode cX10_doesHold 36 = .ok (.iload_n 1, 1) := by decide +kernel
theorem dX10_doesHold_37 : decode cX10_doesHold 37 = .ok (.sipush (-999), 3) := by decide +kernel
theorem dX10_doesHold_40 : decode cX10_doesHold 40 = .ok (.sipush 999, 3) := by decide +kernel
theorem dX10_doesHold_43 : decode cX10_doesHold 43 = .ok (.invokestatic 231, 3) := by decide +kernel
theorem dX10_doesHold_46 : decode cX10_doesHold 46 = .ok (.ireturn, 1) := by decide +kernel
theorem dX10_doesHold_47 : decode cX10_doesHold 47 = .ok (.iload_n 1, 1) := by decide +kernel
theorem dX10_doesHold_48 : decode cX10_doesHold 48 = .ok (.iconst 0, 1) := by decide +kernel
theorem dX10_doesHold_49 : decode cX10_doesHold 49 = .ok (.bipush 9, 2) := by decide +kernel
theorem dX10_doesHold_51 : decode cX10_doesHold 51 = .ok (.invokestatic 231, 3) := by decide +kernel
theorem dX10_doesHold_54 : decode cX10_doesHold 54 = .ok (.ireturn, 1) := by decide +kernel
theorem dX10_doesHold_55 : decode cX10_doesHold 55 = .ok (.iload_n 1, 1) := by decide +kernel
theorem dX10_doesHold_56 : decode cX10_doesHold 56 = .ok (.sipush (-998), 3) := by decide +kernel
theorem dX10_doesHold_59 : decode cX10_doesHold 59 = .ok (.sipush 998, 3) := by decide +kernel
theorem dX10_doesHold_62 : decode cX10_doesHold 62 = .ok (.invokestatic 231, 3) := by decide +kernel
theorem dX10_doesHold_65 : decode cX10_doesHold 65 = .ok (.ifCond .eq 13, 3) := by decide +kernel
theorem dX10_doesHold_68 : decode cX10_doesHold 68 = .ok (.iload_n 1, 1) := by decide +kernel
theorem dX10_doesHold_69 : decode cX10_doesHold 69 = .ok (.iconst 2, 1) := by decide +kernel
theorem dX10_doesHold_70 : decode cX10_doesHold 70 = .ok (.irem, 1) := by decide +kernel
theorem dX10_doesHold_71 : decode cX10_doesHold 71 = .ok (.ifCond .ne 7, 3) := by decide +kernel
theorem dX10_doesHold_74 : decode cX10_doesHold 74 = .ok (.iconst 1, 1) := by decide +kernel
theorem dX10_doesHold_75 : decode cX10_doesHold 75 = .ok (.goto 4, 3) := by decide +kernel
theorem dX10_doesHold_78 : decode cX10_doesHold 78 = .ok (.iconst 0, 1) := by decide +kernel
theorem dX10_doesHold_79 : decode cX10_doesHold 79 = .ok (.ireturn, 1) := by decide +kernel
theorem dX10_doesHold_80 : decode cX10_doesHold 80 = .ok (.iload_n 1, 1) := by decide +kernel
theorem dX10_doesHold_81 : decode cX10_doesHold 81 = .ok (.iconst 0, 1) := by decide +kernel
theorem dX10_doesHold_82 : decode cX10_doesHold 82 = .ok (.iconst 1, 1) := by decide +kernel
theorem dX10_doesHold_83 : decode cX10_doesHold 83 = .ok (.invokestatic 231, 3) := by decide +kernel
theorem dX10_doesHold_86 : decode cX10_doesHold 86 = .ok (.ireturn, 1) := by decide +kernel
theorem dX10_castTo_0 : decode cX10_castTo 0 = .ok (.iload_n 1, 1) := by decide +kernel
theorem dX10_castTo_1 : decode cX10_castTo 1 = .ok (.sipush 9999, 3) := by decide +kernel
theorem dX10_castTo_4 : decode cX10_castTo 4 = .ok (.if_icmp .ne 7, 3) := by decide +kernel
theorem dX10_castTo_7 : decode cX10_castTo 7 = .ok (.sipush 9999, 3) := by decide +kernel
theorem dX10_castTo_10 : decode cX10_castTo 10 = .ok (.ireturn, 1) := by decide +kernel
theorem dX10_castTo_11 : decode cX10_castTo 11 = .ok (.iload_n 0, 1) := by decide +kernel
theorem dX10_castTo_12 : decode cX10_castTo 12 = .ok (.tableswitch 54 0 2 #[28, 30, 48], 28) := by decide +kernel
theorem dX10_castTo_40 : decode cX10_castTo 40 = .ok (.iload_n 1, 1) := by decide +kernel
theorem dX10_castTo_41 : decode cX10_castTo 41 = .ok (.ireturn, 1) := by decide +kernel
theorem dX10_castTo_42 : decode cX10_castTo 42 = .ok (.iload_n 1, 1) := by decide +kernel
theorem dX10_castTo_43 : decode cX10_castTo 43 = .ok (.ifCond .ge 12, 3) := by decide +kernel
theorem dX10_castTo_46 : decode cX10_castTo 46 = .ok (.iconst 0, 1) := by decide +kernel
theorem dX10_castTo_47 : decode cX10_castTo 47 = .ok (.iload_n 1, 1) := by decide +kernel
theorem dX10_castTo_48 : decode cX10_castTo 48 = .ok (.isub, 1) := by decide +kernel
theorem dX10_castTo_49 : decode cX10_castTo 49 = .ok (.bipush 10, 2) := by decide +kernel
theorem dX10_castTo_51 : decode cX10_castTo 51 = .ok (.irem, 1) := by decide +kernel
theorem dX10_castTo_52 : decode cX10_castTo 52 = .ok (.goto 7, 3) := by decide +kernel
theorem dX10_castTo_55 : decode cX10_castTo 55 = .ok (.iload_n 1, 1) := by decide +kernel
theorem dX10_castTo_56 : decode cX10_castTo 56 = .ok (.bipush 10, 2) := by decide +kernel
theorem dX10_castTo_58 : decode cX10_castTo 58 = .ok (.irem, 1) := by decide +kernel
theorem dX10_castTo_59 : decode cX10_castTo 59 = .ok (.ireturn, 1) := by decide +kernel
theorem dX10_castTo_60 : decode cX10_castTo 60 = .ok (.iload_n 1, 1) := by decide +kernel
theorem dX10_castTo_61 : decode cX10_castTo 61 = .ok (.iload_n 1, 1) := by decide +kernel
theorem dX10_castTo_62 : decode cX10_castTo 62 = .ok (.iconst 2, 1) := by decide +kernel
theorem dX10_castTo_63 : decode cX10_castTo 63 = .ok (.irem, 1) := by decide +kernel
theorem dX10_castTo_64 : decode cX10_castTo 64 = .ok (.isub, 1) := by decide +kernel
theorem dX10_castTo_65 : decode cX10_castTo 65 = .ok (.ireturn, 1) := by decide +kernel
theorem dX10_castTo_66 : decode cX10_castTo 66 = .ok (.iload_n 1, 1) := by decide +kernel
theorem dX10_castTo_67 : decode cX10_castTo 67 = .ok (.ifCond .ne 7, 3) := by decide +kernel
theorem dX10_castTo_70 : decode cX10_castTo 70 = .ok (.iconst 0, 1) := by decide +kernel
theorem dX10_castTo_71 : decode cX10_castTo 71 = .ok (.goto 4, 3) := by decide +kernel
theorem dX10_castTo_74 : decode cX10_castTo 74 = .ok (.iconst 1, 1) := by decide +kernel
theorem dX10_castTo_75 : decode cX10_castTo 75 = .ok (.ireturn, 1) := by decide +kernel
theorem dX10_sets_0 : decode cX10_sets 0 = .ok (.aload_n 0, 1) := by decide +kernel
theorem dX10_sets_1 : decode cX10_sets 1 = .ok (.iload_n 1, 1) := by decide +kernel
theorem dX10_sets_2 : decode cX10_sets 2 = .ok (.iload_n 2, 1) := by decide +kernel
theorem dX10_sets_3 : decode cX10_sets 3 = .ok (.iload_n 3, 1) := by decide +kernel
theorem dX10_sets_4 : decode cX10_sets 4 = .ok (.invokevirtual 160, 3) := by decide +kernel
theorem dX10_sets_7 : decode cX10_sets 7 = .ok (.ifCond .eq 48, 3) := by decide +kernel
theorem dX10_sets_10 : decode cX10_sets 10 = .ok (.aload_n 0, 1) := by decide +kernel
theorem dX10_sets_11 : decode cX10_sets 11 = .ok (.iload_n 1, 1) := by decide +kernel
theorem dX10_sets_12 : decode cX10_sets 12 = .ok (.iload_n 2, 1) := by decide +kernel
theorem dX10_sets_13 : decode cX10_sets 13 = .ok (.iload 4, 2) := by decide +kernel
theorem dX10_sets_15 : decode cX10_sets 15 = .ok (.invokevirtual 234, 3) := by decide +kernel
theorem dX10_sets_18 : decode cX10_sets 18 = .ok (.ifCond .eq 37, 3) := by decide +kernel
theorem dX10_sets_21 : decode cX10_sets 21 = .ok (.aload_n 0, 1) := by decide +kernel
theorem dX10_sets_22 : decode cX10_sets 22 = .ok (.iload_n 1, 1) := by decide +kernel
theorem dX10_sets_23 : decode cX10_sets 23 = .ok (.iload_n 2, 1) := by decide +kernel
theorem dX10_sets_24 : decode cX10_sets 24 = .ok (.iload 4, 2) := by decide +kernel
theorem dX10_sets_26 : decode cX10_sets 26 = .ok (.invokevirtual 166, 3) := by decide +kernel
theorem dX10_sets_29 : decode cX10_sets 29 = .ok (.iload 5, 2) := by decide +kernel
theorem dX10_sets_31 : decode cX10_sets 31 = .ok (.invokestatic 170, 3) := by decide +kernel
theorem dX10_sets_34 : decode cX10_sets 34 = .ok (.ifCond .eq 21, 3) := by decide +kernel
theorem dX10_sets_37 : decode cX10_sets 37 = .ok (.aload_n 0, 1) := by decide +kernel
theorem dX10_sets_38 : decode cX10_sets 38 = .ok (.getfield 20, 3) := by decide +kernel
theorem dX10_sets_41 : decode cX10_sets 41 = .ok (.iload_n 1, 1) := by decide +kernel
theorem dX10_sets_42 : decode cX10_sets 42 = .ok (.iload_n 2, 1) := by decide +kernel
theorem dX10_sets_43 : decode cX10_sets 43 = .ok (.iload_n 3, 1) := by decide +kernel
theorem dX10_sets_44 : decode cX10_sets 44 = .ok (.iload 4, 2) := by decide +kernel
theorem dX10_sets_46 : decode cX10_sets 46 = .ok (.invokestatic 174, 3) := by decide +kernel
theorem dX10_sets_49 : decode cX10_sets 49 = .ok (.iaload, 1) := by decide +kernel
theorem dX10_sets_50 : decode cX10_sets 50 = .ok (.iload 5, 2) := by decide +kernel
theorem dX10_sets_52 : decode cX10_sets 52 = .ok (.if_icmp .ne 5, 3) := by decide +kernel
theorem dX10_sets_55 : decode cX10_sets 55 = .ok (.iconst 0, 1) := by decide +kernel
theorem dX10_sets_56 : decode cX10_sets 56 = .ok (.ireturn, 1) := by decide +kernel
theorem dX10_sets_57 : decode cX10_sets 57 = .ok (.aload_n 0, 1) := by decide +kernel
theorem dX10_sets_58 : decode cX10_sets 58 = .ok (.getfield 20, 3) := by decide +kernel
theorem dX10_sets_61 : decode cX10_sets 61 = .ok (.iload_n 1, 1) := by decide +kernel
theorem dX10_sets_62 : decode cX10_sets 62 = .ok (.iload_n 2, 1) := by decide +kernel
theorem dX10_sets_63 : decode cX10_sets 63 = .ok (.iload_n 3, 1) := by decide +kernel
theorem dX10_sets_64 : decode cX10_sets 64 = .ok (.iload 4, 2) := by decide +kernel
theorem dX10_sets_66 : decode cX10_sets 66 = .ok (.invokestatic 174, 3) := by decide +kernel
theorem dX10_sets_69 : decode cX10_sets 69 = .ok (.iload 5, 2) := by decide +kernel
theorem dX10_sets_71 : decode cX10_sets 71 = .ok (.iastore, 1) := by decide +kernel
theorem dX10_sets_72 : decode cX10_sets 72 = .ok (.iconst 1, 1) := by decide +kernel
theorem dX10_sets_73 : decode cX10_sets 73 = .ok (.ireturn, 1) := by decide +kernel
theorem dX10_inserts_0 : decode cX10_inserts 0 = .ok (.iload_n 3, 1) := by decide +kernel
theorem dX10_inserts_1 : decode cX10_inserts 1 = .ok (.iconst 0, 1) := by decide +kernel
theorem dX10_inserts_2 : decode cX10_inserts 2 = .ok (.bipush 19, 2) := by decide +kernel
theorem dX10_inserts_4 : decode cX10_inserts 4 = .ok (.invokestatic 231, 3) := by decide +kernel
theorem dX10_inserts_7 : decode cX10_inserts 7 = .ok (.ifCond .eq 35, 3) := by decide +kernel
theorem dX10_inserts_10 : decode cX10_inserts 10 = .ok (.aload_n 0, 1) := by decide +kernel
theorem dX10_inserts_11 : decode cX10_inserts 11 = .ok (.iload_n 1, 1) := by decide +kernel
theorem dX10_inserts_12 : decode cX10_inserts 12 = .ok (.iload_n 2, 1) := by decide +kernel
theorem dX10_inserts_13 : decode cX10_inserts 13 = .ok (.iload_n 3, 1) := by decide +kernel
theorem dX10_inserts_14 : decode cX10_inserts 14 = .ok (.invokevirtual 160, 3) := by decide +kernel
theorem dX10_inserts_17 : decode cX10_inserts 17 = .ok (.ifCond .ne 25, 3) := by decide +kernel
theorem dX10_inserts_20 : decode cX10_inserts 20 = .ok (.aload_n 0, 1) := by decide +kernel
theorem dX10_inserts_21 : decode cX10_inserts 21 = .ok (.getfield 20, 3) := by decide +kernel
theorem dX10_inserts_24 : decode cX10_inserts 24 = .ok (.iload_n 1, 1) := by decide +kernel
theorem dX10_inserts_25 : decode cX10_inserts 25 = .ok (.sipush 200, 3) := by decide +kernel
theorem dX10_inserts_28 : decode cX10_inserts 28 = .ok (.iload_n 2, 1) := by decide +kernel
theorem dX10_inserts_29 : decode cX10_inserts 29 = .ok (.imul, 1) := by decide +kernel
theorem dX10_inserts_30 : decode cX10_inserts 30 = .ok (.iadd, 1) := by decide +kernel
theorem dX10_inserts_31 : decode cX10_inserts 31 = .ok (.iconst 1, 1) := by decide +kernel
theorem dX10_inserts_32 : decode cX10_inserts 32 = .ok (.iadd, 1) := by decide +kernel
theorem dX10_inserts_33 : decode cX10_inserts 33 = .ok (.iaload, 1) := by decide +kernel
theorem dX10_inserts_34 : decode cX10_inserts 34 = .ok (.invokestatic 240, 3) := by decide +kernel
theorem dX10_inserts_37 : decode cX10_inserts 37 = .ok (.bipush 12, 2) := by decide +kernel
theorem dX10_inserts_39 : decode cX10_inserts 39 = .ok (.if_icmp .lt 5, 3) := by decide +kernel
theorem dX10_inserts_42 : decode cX10_inserts 42 = .ok (.iconst 0, 1) := by decide +kernel
theorem dX10_inserts_43 : decode cX10_inserts 43 = .ok (.ireturn, 1) := by decide +kernel
theorem dX10_inserts_44 : decode cX10_inserts 44 = .ok (.aload_n 0, 1) := by decide +kernel
theorem dX10_inserts_45 : decode cX10_inserts 45 = .ok (.getfield 20, 3) := by decide +kernel
theorem dX10_inserts_48 : decode cX10_inserts 48 = .ok (.iload_n 1, 1) := by decide +kernel
theorem dX10_inserts_49 : decode cX10_inserts 49 = .ok (.sipush 200, 3) := by decide +kernel
theorem dX10_inserts_52 : decode cX10_inserts 52 = .ok (.iload_n 2, 1) := by decide +kernel
theorem dX10_inserts_53 : decode cX10_inserts 53 = .ok (.imul, 1) := by decide +kernel
theorem dX10_inserts_54 : decode cX10_inserts 54 = .ok (.iadd, 1) := by decide +kernel
theorem dX10_inserts_55 : decode cX10_inserts 55 = .ok (.iconst 1, 1) := by decide +kernel
theorem dX10_inserts_56 : decode cX10_inserts 56 = .ok (.iadd, 1) := by decide +kernel
theorem dX10_inserts_57 : decode cX10_inserts 57 = .ok (.dup2, 1) := by decide +kernel
theorem dX10_inserts_58 : decode cX10_inserts 58 = .ok (.iaload, 1) := by decide +kernel
theorem dX10_inserts_59 : decode cX10_inserts 59 = .ok (.iconst 1, 1) := by decide +kernel
theorem dX10_inserts_60 : decode cX10_inserts 60 = .ok (.iload_n 3, 1) := by decide +kernel
theorem dX10_inserts_61 : decode cX10_inserts 61 = .ok (.ishl, 1) := by decide +kernel
theorem dX10_inserts_62 : decode cX10_inserts 62 = .ok (.ior, 1) := by decide +kernel
theorem dX10_inserts_63 : decode cX10_inserts 63 = .ok (.iastore, 1) := by decide +kernel
theorem dX10_inserts_64 : decode cX10_inserts 64 = .ok (.iconst 0, 1) := by decide +kernel
theorem dX10_inserts_65 : decode cX10_inserts 65 = .ok (.istore 4, 2) := by decide +kernel
theorem dX10_inserts_67 : decode cX10_inserts 67 = .ok (.iload 4, 2) := by decide +kernel
theorem dX10_inserts_69 : decode cX10_inserts 69 = .ok (.bipush 9, 2) := by decide +kernel
theorem dX10_inserts_71 : decode cX10_inserts 71 = .ok (.if_icmp .ge 25, 3) := by decide +kernel
theorem dX10_inserts_74 : decode cX10_inserts 74 = .ok (.aload_n 0, 1) := by decide +kernel
theorem dX10_inserts_75 : decode cX10_inserts 75 = .ok (.getfield 20, 3) := by decide +kernel
theorem dX10_inserts_78 : decode cX10_inserts 78 = .ok (.iload_n 1, 1) := by decide +kernel
theorem dX10_inserts_79 : decode cX10_inserts 79 = .ok (.iload_n 2, 1) := by decide +kernel
theorem dX10_inserts_80 : decode cX10_inserts 80 = .ok (.iload_n 3, 1) := by decide +kernel
theorem dX10_inserts_81 : decode cX10_inserts 81 = .ok (.iload 4, 2) := by decide +kernel
theorem dX10_inserts_83 : decode cX10_inserts 83 = .ok (.invokestatic 174, 3) := by decide +kernel
theorem dX10_inserts_86 : decode cX10_inserts 86 = .ok (.sipush 9999, 3) := by decide +kernel
theorem dX10_inserts_89 : decode cX10_inserts 89 = .ok (.iastore, 1) := by decide +kernel
theorem dX10_inserts_90 : decode cX10_inserts 90 = .ok (.iinc 4 1, 3) := by decide +kernel
theorem dX10_inserts_93 : decode cX10_inserts 93 = .ok (.goto (-26), 3) := by decide +kernel
theorem dX10_inserts_96 : decode cX10_inserts 96 = .ok (.iconst 1, 1) := by decide +kernel
theorem dX10_inserts_97 : decode cX10_inserts 97 = .ok (.ireturn, 1) := by decide +kernel
theorem dX10_retypes_0 : decode cX10_retypes 0 = .ok (.aload_n 0, 1) := by decide +kernel
theorem dX10_retypes_1 : decode cX10_retypes 1 = .ok (.iload_n 1, 1) := by decide +kernel
theorem dX10_retypes_2 : decode cX10_retypes 2 = .ok (.iload_n 2, 1) := by decide +kernel
theorem dX10_retypes_3 : decode cX10_retypes 3 = .ok (.iload_n 3, 1) := by decide +kernel
theorem dX10_retypes_4 : decode cX10_retypes 4 = .ok (.invokevirtual 234, 3) := by decide +kernel
theorem dX10_retypes_7 : decode cX10_retypes 7 = .ok (.ifCond .eq 25, 3) := by decide +kernel
theorem dX10_retypes_10 : decode cX10_retypes 10 = .ok (.iload 4, 2) := by decide +kernel
theorem dX10_retypes_12 : decode cX10_retypes 12 = .ok (.iconst 0, 1) := by decide +kernel
theorem dX10_retypes_13 : decode cX10_retypes 13 = .ok (.iconst 3, 1) := by decide +kernel
theorem dX10_retypes_14 : decode cX10_retypes 14 = .ok (.invokestatic 231, 3) := by decide +kernel
theorem dX10_retypes_17 : decode cX10_retypes 17 = .ok (.ifCond .eq 15, 3) := by decide +kernel
theorem dX10_retypes_20 : decode cX10_retypes 20 = .ok (.aload_n 0, 1) := by decide +kernel
theorem dX10_retypes_21 : decode cX10_retypes 21 = .ok (.iload_n 1, 1) := by decide +kernel
theorem dX10_retypes_22 : decode cX10_retypes 22 = .ok (.iload_n 2, 1) := by decide +kernel
theorem dX10_retypes_23 : decode cX10_retypes 23 = .ok (.iload_n 3, 1) := by decide +kernel
theorem dX10_retypes_24 : decode cX10_retypes 24 = .ok (.invokevirtual 166, 3) := by decide +kernel
theorem dX10_retypes_27 : decode cX10_retypes 27 = .ok (.iload 4, 2) := by decide +kernel
theorem dX10_retypes_29 : decode cX10_retypes 29 = .ok (.if_icmp .ne 5, 3) := by decide +kernel
theorem dX10_retypes_32 : decode cX10_retypes 32 = .ok (.iconst 0, 1) := by decide +kernel
theorem dX10_retypes_33 : decode cX10_retypes 33 = .ok (.ireturn, 1) := by decide +kernel
theorem dX10_retypes_34 : decode cX10_retypes 34 = .ok (.aload_n 0, 1) := by decide +kernel
theorem dX10_retypes_35 : decode cX10_retypes 35 = .ok (.getfield 20, 3) := by decide +kernel
theorem dX10_retypes_38 : decode cX10_retypes 38 = .ok (.iload_n 1, 1) := by decide +kernel
theorem dX10_retypes_39 : decode cX10_retypes 39 = .ok (.sipush 200, 3) := by decide +kernel
theorem dX10_retypes_42 : decode cX10_retypes 42 = .ok (.iload_n 2, 1) := by decide +kernel
theorem dX10_retypes_43 : decode cX10_retypes 43 = .ok (.imul, 1) := by decide +kernel
theorem dX10_retypes_44 : decode cX10_retypes 44 = .ok (.iadd, 1) := by decide +kernel
theorem dX10_retypes_45 : decode cX10_retypes 45 = .ok (.bipush 11, 2) := by decide +kernel
theorem dX10_retypes_47 : decode cX10_retypes 47 = .ok (.iadd, 1) := by decide +kernel
theorem dX10_retypes_48 : decode cX10_retypes 48 = .ok (.iload_n 3, 1) := by decide +kernel
theorem dX10_retypes_49 : decode cX10_retypes 49 = .ok (.iadd, 1) := by decide +kernel
theorem dX10_retypes_50 : decode cX10_retypes 50 = .ok (.iload 4, 2) := by decide +kernel
theorem dX10_retypes_52 : decode cX10_retypes 52 = .ok (.iastore, 1) := by decide +kernel
theorem dX10_retypes_53 : decode cX10_retypes 53 = .ok (.iconst 0, 1) := by decide +kernel
theorem dX10_retypes_54 : decode cX10_retypes 54 = .ok (.istore 5, 2) := by decide +kernel
theorem dX10_retypes_56 : decode cX10_retypes 56 = .ok (.iload 5, 2) := by decide +kernel
theorem dX10_retypes_58 : decode cX10_retypes 58 = .ok (.bipush 20, 2) := by decide +kernel
theorem dX10_retypes_60 : decode cX10_retypes 60 = .ok (.if_icmp .ge 51, 3) := by decide +kernel
theorem dX10_retypes_63 : decode cX10_retypes 63 = .ok (.aload_n 0, 1) := by decide +kernel
theorem dX10_retypes_64 : decode cX10_retypes 64 = .ok (.iload_n 1, 1) := by decide +kernel
theorem dX10_retypes_65 : decode cX10_retypes 65 = .ok (.iload_n 2, 1) := by decide +kernel
theorem dX10_retypes_66 : decode cX10_retypes 66 = .ok (.iload 5, 2) := by decide +kernel
theorem dX10_retypes_68 : decode cX10_retypes 68 = .ok (.invokevirtual 160, 3) := by decide +kernel
theorem dX10_retypes_71 : decode cX10_retypes 71 = .ok (.ifCond .eq 34, 3) := by decide +kernel
theorem dX10_retypes_74 : decode cX10_retypes 74 = .ok (.aload_n 0, 1) := by decide +kernel
theorem dX10_retypes_75 : decode cX10_retypes 75 = .ok (.getfield 20, 3) := by decide +kernel
theorem dX10_retypes_78 : decode cX10_retypes 78 = .ok (.iload_n 1, 1) := by decide +kernel
theorem dX10_retypes_79 : decode cX10_retypes 79 = .ok (.iload_n 2, 1) := by decide +kernel
theorem dX10_retypes_80 : decode cX10_retypes 80 = .ok (.iload 5, 2) := by decide +kernel
theorem dX10_retypes_82 : decode cX10_retypes 82 = .ok (.iload_n 3, 1) := by decide +kernel
theorem dX10_retypes_83 : decode cX10_retypes 83 = .ok (.invokestatic 174, 3) := by decide +kernel
theorem dX10_retypes_86 : decode cX10_retypes 86 = .ok (.iload 4, 2) := by decide +kernel
theorem dX10_retypes_88 : decode cX10_retypes 88 = .ok (.aload_n 0, 1) := by decide +kernel
theorem dX10_retypes_89 : decode cX10_retypes 89 = .ok (.getfield 20, 3) := by decide +kernel
theorem dX10_retypes_92 : decode cX10_retypes 92 = .ok (.iload_n 1, 1) := by decide +kernel
theorem dX10_retypes_93 : decode cX10_retypes 93 = .ok (.iload_n 2, 1) := by decide +kernel
theorem dX10_retypes_94 : decode cX10_retypes 94 = .ok (.iload 5, 2) := by decide +kernel
theorem dX10_retypes_96 : decode cX10_retypes 96 = .ok (.iload_n 3, 1) := by decide +kernel
theorem dX10_retypes_97 : decode cX10_retypes 97 = .ok (.invokestatic 174, 3) := by decide +kernel
theorem dX10_retypes_100 : decode cX10_retypes 100 = .ok (.iaload, 1) := by decide +kernel
theorem dX10_retypes_101 : decode cX10_retypes 101 = .ok (.invokestatic 243, 3) := by decide +kernel
theorem dX10_retypes_104 : decode cX10_retypes 104 = .ok (.iastore, 1) := by decide +kernel
theorem dX10_retypes_105 : decode cX10_retypes 105 = .ok (.iinc 5 1, 3) := by decide +kernel
theorem dX10_retypes_108 : decode cX10_retypes 108 = .ok (.goto (-52), 3) := by decide +kernel
theorem dX10_retypes_111 : decode cX10_retypes 111 = .ok (.iconst 1, 1) := by decide +kernel
theorem dX10_retypes_112 : decode cX10_retypes 112 = .ok (.ireturn, 1) := by decide +kernel
theorem dX10_nextColumn_0 : decode cX10_nextColumn 0 = .ok (.aload_n 0, 1) := by decide +kernel
theorem dX10_nextColumn_1 : decode cX10_nextColumn 1 = .ok (.getfield 20, 3) := by decide +kernel
theorem dX10_nextColumn_4 : decode cX10_nextColumn 4 = .ok (.iload_n 1, 1) := by decide +kernel
theorem dX10_nextColumn_5 : decode cX10_nextColumn 5 = .ok (.sipush 613, 3) := by decide +kernel
theorem dX10_nextColumn_8 : decode cX10_nextColumn 8 = .ok (.iadd, 1) := by decide +kernel
theorem dX10_nextColumn_9 : decode cX10_nextColumn 9 = .ok (.iload_n 2, 1) := by decide +kernel
theorem dX10_nextColumn_10 : decode cX10_nextColumn 10 = .ok (.iadd, 1) := by decide +kernel
theorem dX10_nextColumn_11 : decode cX10_nextColumn 11 = .ok (.iaload, 1) := by decide +kernel
theorem dX10_nextColumn_12 : decode cX10_nextColumn 12 = .ok (.iconst 2, 1) := by decide +kernel
theorem dX10_nextColumn_13 : decode cX10_nextColumn 13 = .ok (.if_icmp .ne 7, 3) := by decide +kernel
theorem dX10_nextColumn_16 : decode cX10_nextColumn 16 = .ok (.iconst (-1), 1) := by decide +kernel
theorem dX10_nextColumn_17 : decode cX10_nextColumn 17 = .ok (.goto 21, 3) := by decide +kernel
theorem dX10_nextColumn_20 : decode cX10_nextColumn 20 = .ok (.iconst 5, 1) := by decide +kernel
theorem dX10_nextColumn_21 : decode cX10_nextColumn 21 = .ok (.iconst 2, 1) := by decide +kernel
theorem dX10_nextColumn_22 : decode cX10_nextColumn 22 = .ok (.iload_n 2, 1) := by decide +kernel
theorem dX10_nextColumn_23 : decode cX10_nextColumn 23 = .ok (.imul, 1) := by decide +kernel
theorem dX10_nextColumn_24 : decode cX10_nextColumn 24 = .ok (.iadd, 1) := by decide +kernel
theorem dX10_nextColumn_25 : decode cX10_nextColumn 25 = .ok (.aload_n 0, 1) := by decide +kernel
theorem dX10_nextColumn_26 : decode cX10_nextColumn 26 = .ok (.getfield 20, 3) := by decide +kernel
theorem dX10_nextColumn_29 : decode cX10_nextColumn 29 = .ok (.iload_n 1, 1) := by decide +kernel
theorem dX10_nextColumn_30 : decode cX10_nextColumn 30 = .ok (.sipush 613, 3) := by decide +kernel
theorem dX10_nextColumn_33 : decode cX10_nextColumn 33 = .ok (.iadd, 1) := by decide +kernel
theorem dX10_nextColumn_34 : decode cX10_nextColumn 34 = .ok (.iload_n 2, 1) := by decide +kernel
theorem dX10_nextColumn_35 : decode cX10_nextColumn 35 = .ok (.iadd, 1) := by decide +kernel
theorem dX10_nextColumn_36 : decode cX10_nextColumn 36 = .ok (.iaload, 1) := by decide +kernel
theorem dX10_nextColumn_37 : decode cX10_nextColumn 37 = .ok (.iadd, 1) := by decide +kernel
theorem dX10_nextColumn_38 : decode cX10_nextColumn 38 = .ok (.ireturn, 1) := by decide +kernel
theorem dX10_adds_0 : decode cX10_adds 0 = .ok (.aload_n 0, 1) := by decide +kernel
theorem dX10_adds_1 : decode cX10_adds 1 = .ok (.iload_n 1, 1) := by decide +kernel
theorem dX10_adds_2 : decode cX10_adds 2 = .ok (.iload_n 2, 1) := by decide +kernel
theorem dX10_adds_3 : decode cX10_adds 3 = .ok (.invokevirtual 247, 3) := by decide +kernel
theorem dX10_adds_6 : decode cX10_adds 6 = .ok (.istore 5, 2) := by decide +kernel
theorem dX10_adds_8 : decode cX10_adds 8 = .ok (.iload 5, 2) := by decide +kernel
theorem dX10_adds_10 : decode cX10_adds 10 = .ok (.iconst (-1), 1) := by decide +kernel
theorem dX10_adds_11 : decode cX10_adds 11 = .ok (.if_icmp .eq 33, 3) := by decide +kernel
theorem dX10_adds_14 : decode cX10_adds 14 = .ok (.iload_n 3, 1) := by decide +kernel
theorem dX10_adds_15 : decode cX10_adds 15 = .ok (.iconst 0, 1) := by decide +kernel
theorem dX10_adds_16 : decode cX10_adds 16 = .ok (.bipush 25, 2) := by decide +kernel
theorem dX10_adds_18 : decode cX10_adds 18 = .ok (.invokestatic 231, 3) := by decide +kernel
theorem dX10_adds_21 : decode cX10_adds 21 = .ok (.ifCond .eq 23, 3) := by decide +kernel
theorem dX10_adds_24 : decode cX10_adds 24 = .ok (.iload 4, 2) := by decide +kernel
theorem dX10_adds_26 : decode cX10_adds 26 = .ok (.iconst 0, 1) := by decide +kernel
theorem dX10_adds_27 : decode cX10_adds 27 = .ok (.iconst 3, 1) := by decide +kernel
theorem dX10_adds_28 : decode cX10_adds 28 = .ok (.invokestatic 231, 3) := by decide +kernel
theorem dX10_adds_31 : decode cX10_adds 31 = .ok (.ifCond .eq 13, 3) := by decide +kernel
theorem dX10_adds_34 : decode cX10_adds 34 = .ok (.aload_n 0, 1) := by decide +kernel
theorem dX10_adds_35 : decode cX10_adds 35 = .ok (.iload_n 1, 1) := by decide +kernel
theorem dX10_adds_36 : decode cX10_adds 36 = .ok (.iload_n 2, 1) := by decide +kernel
theorem dX10_adds_37 : decode cX10_adds 37 = .ok (.iload_n 3, 1) := by decide +kernel
theorem dX10_adds_38 : decode cX10_adds 38 = .ok (.invokevirtual 153, 3) := by decide +kernel
theorem dX10_adds_41 : decode cX10_adds 41 = .ok (.ifCond .eq 5, 3) := by decide +kernel
theorem dX10_adds_44 : decode cX10_adds 44 = .ok (.iconst 0, 1) := by decide +kernel
theorem dX10_adds_45 : decode cX10_adds 45 = .ok (.ireturn, 1) := by decide +kernel
theorem dX10_adds_46 : decode cX10_adds 46 = .ok (.aload_n 0, 1) := by decide +kernel
theorem dX10_adds_47 : decode cX10_adds 47 = .ok (.getfield 20, 3) := by decide +kernel
theorem dX10_adds_50 : decode cX10_adds 50 = .ok (.iload_n 1, 1) := by decide +kernel
theorem dX10_adds_51 : decode cX10_adds 51 = .ok (.sipush 613, 3) := by decide +kernel
theorem dX10_adds_54 : decode cX10_adds 54 = .ok (.iadd, 1) := by decide +kernel
theorem dX10_adds_55 : decode cX10_adds 55 = .ok (.iload_n 2, 1) := by decide +kernel
theorem dX10_adds_56 : decode cX10_adds 56 = .ok (.iadd, 1) := by decide +kernel
theorem dX10_adds_57 : decode cX10_adds 57 = .ok (.dup2, 1) := by decide +kernel
theorem dX10_adds_58 : decode cX10_adds 58 = .ok (.iaload, 1) := by decide +kernel
theorem dX10_adds_59 : decode cX10_adds 59 = .ok (.iconst 1, 1) := by decide +kernel
theorem dX10_adds_60 : decode cX10_adds 60 = .ok (.iadd, 1) := by decide +kernel
theorem dX10_adds_61 : decode cX10_adds 61 = .ok (.iastore, 1) := by decide +kernel
theorem dX10_adds_62 : decode cX10_adds 62 = .ok (.aload_n 0, 1) := by decide +kernel
theorem dX10_adds_63 : decode cX10_adds 63 = .ok (.getfield 20, 3) := by decide +kernel
theorem dX10_adds_66 : decode cX10_adds 66 = .ok (.iload_n 1, 1) := by decide +kernel
theorem dX10_adds_67 : decode cX10_adds 67 = .ok (.sipush 200, 3) := by decide +kernel
theorem dX10_adds_70 : decode cX10_adds 70 = .ok (.iload_n 2, 1) := by decide +kernel
theorem dX10_adds_71 : decode cX10_adds 71 = .ok (.imul, 1) := by decide +kernel
theorem dX10_adds_72 : decode cX10_adds 72 = .ok (.iadd, 1) := by decide +kernel
theorem dX10_adds_73 : decode cX10_adds 73 = .ok (.iconst 0, 1) := by decide +kernel
theorem dX10_adds_74 : decode cX10_adds 74 = .ok (.iadd, 1) := by decide +kernel
theorem dX10_adds_75 : decode cX10_adds 75 = .ok (.dup2, 1) := by decide +kernel
theorem dX10_adds_76 : decode cX10_adds 76 = .ok (.iaload, 1) := by decide +kernel
theorem dX10_adds_77 : decode cX10_adds 77 = .ok (.iconst 1, 1) := by decide +kernel
theorem dX10_adds_78 : decode cX10_adds 78 = .ok (.iload 5, 2) := by decide +kernel
theorem dX10_adds_80 : decode cX10_adds 80 = .ok (.ishl, 1) := by decide +kernel
theorem dX10_adds_81 : decode cX10_adds 81 = .ok (.ior, 1) := by decide +kernel
theorem dX10_adds_82 : decode cX10_adds 82 = .ok (.iastore, 1) := by decide +kernel
theorem dX10_adds_83 : decode cX10_adds 83 = .ok (.aload_n 0, 1) := by decide +kernel
theorem dX10_adds_84 : decode cX10_adds 84 = .ok (.getfield 20, 3) := by decide +kernel
theorem dX10_adds_87 : decode cX10_adds 87 = .ok (.iload_n 1, 1) := by decide +kernel
theorem dX10_adds_88 : decode cX10_adds 88 = .ok (.sipush 200, 3) := by decide +kernel
theorem dX10_adds_91 : decode cX10_adds 91 = .ok (.iload_n 2, 1) := by decide +kernel
theorem dX10_adds_92 : decode cX10_adds 92 = .ok (.imul, 1) := by decide +kernel
theorem dX10_adds_93 : decode cX10_adds 93 = .ok (.iadd, 1) := by decide +kernel
theorem dX10_adds_94 : decode cX10_adds 94 = .ok (.iconst 2, 1) := by decide +kernel
theorem dX10_adds_95 : decode cX10_adds 95 = .ok (.iadd, 1) := by decide +kernel
theorem dX10_adds_96 : decode cX10_adds 96 = .ok (.iload 5, 2) := by decide +kernel
theorem dX10_adds_98 : decode cX10_adds 98 = .ok (.iadd, 1) := by decide +kernel
theorem dX10_adds_99 : decode cX10_adds 99 = .ok (.iload_n 3, 1) := by decide +kernel
theorem dX10_adds_100 : decode cX10_adds 100 = .ok (.iastore, 1) := by decide +kernel
theorem dX10_adds_101 : decode cX10_adds 101 = .ok (.aload_n 0, 1) := by decide +kernel
theorem dX10_adds_102 : decode cX10_adds 102 = .ok (.getfield 20, 3) := by decide +kernel
theorem dX10_adds_105 : decode cX10_adds 105 = .ok (.iload_n 1, 1) := by decide +kernel
theorem dX10_adds_106 : decode cX10_adds 106 = .ok (.sipush 200, 3) := by decide +kernel
theorem dX10_adds_109 : decode cX10_adds 109 = .ok (.iload_n 2, 1) := by decide +kernel
theorem dX10_adds_110 : decode cX10_adds 110 = .ok (.imul, 1) := by decide +kernel
theorem dX10_adds_111 : decode cX10_adds 111 = .ok (.iadd, 1) := by decide +kernel
theorem dX10_adds_112 : decode cX10_adds 112 = .ok (.bipush 11, 2) := by decide +kernel
theorem dX10_adds_114 : decode cX10_adds 114 = .ok (.iadd, 1) := by decide +kernel
theorem dX10_adds_115 : decode cX10_adds 115 = .ok (.iload 5, 2) := by decide +kernel
theorem dX10_adds_117 : decode cX10_adds 117 = .ok (.iadd, 1) := by decide +kernel
theorem dX10_adds_118 : decode cX10_adds 118 = .ok (.iload 4, 2) := by decide +kernel
theorem dX10_adds_120 : decode cX10_adds 120 = .ok (.iastore, 1) := by decide +kernel
theorem dX10_adds_121 : decode cX10_adds 121 = .ok (.iconst 0, 1) := by decide +kernel
theorem dX10_adds_122 : decode cX10_adds 122 = .ok (.istore 6, 2) := by decide +kernel
theorem dX10_adds_124 : decode cX10_adds 124 = .ok (.iload 6, 2) := by decide +kernel
theorem dX10_adds_126 : decode cX10_adds 126 = .ok (.bipush 20, 2) := by decide +kernel
theorem dX10_adds_128 : decode cX10_adds 128 = .ok (.if_icmp .ge 26, 3) := by decide +kernel
theorem dX10_adds_131 : decode cX10_adds 131 = .ok (.aload_n 0, 1) := by decide +kernel
theorem dX10_adds_132 : decode cX10_adds 132 = .ok (.getfield 20, 3) := by decide +kernel
theorem dX10_adds_135 : decode cX10_adds 135 = .ok (.iload_n 1, 1) := by decide +kernel
theorem dX10_adds_136 : decode cX10_adds 136 = .ok (.iload_n 2, 1) := by decide +kernel
theorem dX10_adds_137 : decode cX10_adds 137 = .ok (.iload 6, 2) := by decide +kernel
theorem dX10_adds_139 : decode cX10_adds 139 = .ok (.iload 5, 2) := by decide +kernel
theorem dX10_adds_141 : decode cX10_adds 141 = .ok (.invokestatic 174, 3) := by decide +kernel
theorem dX10_adds_144 : decode cX10_adds 144 = .ok (.sipush 9999, 3) := by decide +kernel
theorem dX10_adds_147 : decode cX10_adds 147 = .ok (.iastore, 1) := by decide +kernel
theorem dX10_adds_148 : decode cX10_adds 148 = .ok (.iinc 6 1, 3) := by decide +kernel
theorem dX10_adds_151 : decode cX10_adds 151 = .ok (.goto (-27), 3) := by decide +kernel
theorem dX10_adds_154 : decode cX10_adds 154 = .ok (.iconst 1, 1) := by decide +kernel
theorem dX10_adds_155 : decode cX10_adds 155 = .ok (.ireturn, 1) := by decide +kernel
theorem dX10_renames_0 : decode cX10_renames 0 = .ok (.aload_n 0, 1) := by decide +kernel
theorem dX10_renames_1 : decode cX10_renames 1 = .ok (.iload_n 1, 1) := by decide +kernel
theorem dX10_renames_2 : decode cX10_renames 2 = .ok (.iload_n 2, 1) := by decide +kernel
theorem dX10_renames_3 : decode cX10_renames 3 = .ok (.iload_n 3, 1) := by decide +kernel
theorem dX10_renames_4 : decode cX10_renames 4 = .ok (.invokevirtual 234, 3) := by decide +kernel
theorem dX10_renames_7 : decode cX10_renames 7 = .ok (.ifCond .eq 25, 3) := by decide +kernel
theorem dX10_renames_10 : decode cX10_renames 10 = .ok (.iload 4, 2) := by decide +kernel
theorem dX10_renames_12 : decode cX10_renames 12 = .ok (.iconst 0, 1) := by decide +kernel
theorem dX10_renames_13 : decode cX10_renames 13 = .ok (.bipush 25, 2) := by decide +kernel
theorem dX10_renames_15 : decode cX10_renames 15 = .ok (.invokestatic 231, 3) := by decide +kernel
theorem dX10_renames_18 : decode cX10_renames 18 = .ok (.ifCond .eq 14, 3) := by decide +kernel
theorem dX10_renames_21 : decode cX10_renames 21 = .ok (.aload_n 0, 1) := by decide +kernel
theorem dX10_renames_22 : decode cX10_renames 22 = .ok (.iload_n 1, 1) := by decide +kernel
theorem dX10_renames_23 : decode cX10_renames 23 = .ok (.iload_n 2, 1) := by decide +kernel
theorem dX10_renames_24 : decode cX10_renames 24 = .ok (.iload 4, 2) := by decide +kernel
theorem dX10_renames_26 : decode cX10_renames 26 = .ok (.invokevirtual 153, 3) := by decide +kernel
theorem dX10_renames_29 : decode cX10_renames 29 = .ok (.ifCond .eq 5, 3) := by decide +kernel
theorem dX10_renames_32 : decode cX10_renames 32 = .ok (.iconst 0, 1) := by decide +kernel
theorem dX10_renames_33 : decode cX10_renames 33 = .ok (.ireturn, 1) := by decide +kernel
theorem dX10_renames_34 : decode cX10_renames 34 = .ok (.aload_n 0, 1) := by decide +kernel
theorem dX10_renames_35 : decode cX10_renames 35 = .ok (.getfield 20, 3) := by decide +kernel
theorem dX10_renames_38 : decode cX10_renames 38 = .ok (.iload_n 1, 1) := by decide +kernel
theorem dX10_renames_39 : decode cX10_renames 39 = .ok (.sipush 200, 3) := by decide +kernel
theorem dX10_renames_42 : decode cX10_renames 42 = .ok (.iload_n 2, 1) := by decide +kernel
theorem dX10_renames_43 : decode cX10_renames 43 = .ok (.imul, 1) := by decide +kernel
theorem dX10_renames_44 : decode cX10_renames 44 = .ok (.iadd, 1) := by decide +kernel
theorem dX10_renames_45 : decode cX10_renames 45 = .ok (.iconst 2, 1) := by decide +kernel
theorem dX10_renames_46 : decode cX10_renames 46 = .ok (.iadd, 1) := by decide +kernel
theorem dX10_renames_47 : decode cX10_renames 47 = .ok (.iload_n 3, 1) := by decide +kernel
theorem dX10_renames_48 : decode cX10_renames 48 = .ok (.iadd, 1) := by decide +kernel
theorem dX10_renames_49 : decode cX10_renames 49 = .ok (.iload 4, 2) := by decide +kernel
theorem dX10_renames_51 : decode cX10_renames 51 = .ok (.iastore, 1) := by decide +kernel
theorem dX10_renames_52 : decode cX10_renames 52 = .ok (.iconst 1, 1) := by decide +kernel
theorem dX10_renames_53 : decode cX10_renames 53 = .ok (.ireturn, 1) := by decide +kernel
theorem dX10_does_0 : decode cX10_does 0 = .ok (.iload_n 3, 1) := by decide +kernel
theorem dX10_does_1 : decode cX10_does 1 = .ok (.tableswitch 132 11 16 #[39, 52, 61, 99, 110, 121], 39) := by decide +kernel
theorem dX10_does_40 : decode cX10_does 40 = .ok (.aload_n 0, 1) := by decide +kernel
theorem dX10_does_41 : decode cX10_does 41 = .ok (.iload_n 1, 1) := by decide +kernel
theorem dX10_does_42 : decode cX10_does 42 = .ok (.iload_n 2, 1) := by decide +kernel
theorem dX10_does_43 : decode cX10_does 43 = .ok (.iload 4, 2) := by decide +kernel
theorem dX10_does_45 : decode cX10_does 45 = .ok (.iload 5, 2) := by decide +kernel
theorem dX10_does_47 : decode cX10_does 47 = .ok (.iload 6, 2) := by decide +kernel
theorem dX10_does_49 : decode cX10_does 49 = .ok (.invokevirtual 250, 3) := by decide +kernel
theorem dX10_does_52 : decode cX10_does 52 = .ok (.ireturn, 1) := by decide +kernel
theorem dX10_does_53 : decode cX10_does 53 = .ok (.aload_n 0, 1) := by decide +kernel
theorem dX10_does_54 : decode cX10_does 54 = .ok (.iload_n 1, 1) := by decide +kernel
theorem dX10_does_55 : decode cX10_does 55 = .ok (.iload_n 2, 1) := by decide +kernel
theorem dX10_does_56 : decode cX10_does 56 = .ok (.iload 4, 2) := by decide +kernel
theorem dX10_does_58 : decode cX10_does 58 = .ok (.invokevirtual 254, 3) := by decide +kernel
theorem dX10_does_61 : decode cX10_does 61 = .ok (.ireturn, 1) := by decide +kernel
theorem dX10_does_62 : decode cX10_does 62 = .ok (.aload_n 0, 1) := by decide +kernel
theorem dX10_does_63 : decode cX10_does 63 = .ok (.iload_n 1, 1) := by decide +kernel
theorem dX10_does_64 : decode cX10_does 64 = .ok (.iload_n 2, 1) := by decide +kernel
theorem dX10_does_65 : decode cX10_does 65 = .ok (.iload 4, 2) := by decide +kernel
theorem dX10_does_67 : decode cX10_does 67 = .ok (.invokevirtual 160, 3) := by decide +kernel
theorem dX10_does_70 : decode cX10_does 70 = .ok (.ifCond .ne 5, 3) := by decide +kernel
theorem dX10_does_73 : decode cX10_does 73 = .ok (.iconst 0, 1) := by decide +kernel
theorem dX10_does_74 : decode cX10_does 74 = .ok (.ireturn, 1) := by decide +kernel
theorem dX10_does_75 : decode cX10_does 75 = .ok (.aload_n 0, 1) := by decide +kernel
theorem dX10_does_76 : decode cX10_does 76 = .ok (.getfield 20, 3) := by decide +kernel
theorem dX10_does_79 : decode cX10_does 79 = .ok (.iload_n 1, 1) := by decide +kernel
theorem dX10_does_80 : decode cX10_does 80 = .ok (.sipush 200, 3) := by decide +kernel
theorem dX10_does_83 : decode cX10_does 83 = .ok (.iload_n 2, 1) := by decide +kernel
theorem dX10_does_84 : decode cX10_does 84 = .ok (.imul, 1) := by decide +kernel
theorem dX10_does_85 : decode cX10_does 85 = .ok (.iadd, 1) := by decide +kernel
theorem dX10_does_86 : decode cX10_does 86 = .ok (.iconst 1, 1) := by decide +kernel
theorem dX10_does_87 : decode cX10_does 87 = .ok (.iadd, 1) := by decide +kernel
theorem dX10_does_88 : decode cX10_does 88 = .ok (.dup2, 1) := by decide +kernel
theorem dX10_does_89 : decode cX10_does 89 = .ok (.iaload, 1) := by decide +kernel
theorem dX10_does_90 : decode cX10_does 90 = .ok (.iconst 1, 1) := by decide +kernel
theorem dX10_does_91 : decode cX10_does 91 = .ok (.iload 4, 2) := by decide +kernel
theorem dX10_does_93 : decode cX10_does 93 = .ok (.ishl, 1) := by decide +kernel
theorem dX10_does_94 : decode cX10_does 94 = .ok (.iconst (-1), 1) := by decide +kernel
theorem dX10_does_95 : decode cX10_does 95 = .ok (.ixor, 1) := by decide +kernel
theorem dX10_does_96 : decode cX10_does 96 = .ok (.iand, 1) := by decide +kernel
theorem dX10_does_97 : decode cX10_does 97 = .ok (.iastore, 1) := by decide +kernel
theorem dX10_does_98 : decode cX10_does 98 = .ok (.iconst 1, 1) := by decide +kernel
theorem dX10_does_99 : decode cX10_does 99 = .ok (.ireturn, 1) := by decide +kernel
theorem dX10_does_100 : decode cX10_does 100 = .ok (.aload_n 0, 1) := by decide +kernel
theorem dX10_does_101 : decode cX10_does 101 = .ok (.iload_n 1, 1) := by decide +kernel
theorem dX10_does_102 : decode cX10_does 102 = .ok (.iload_n 2, 1) := by decide +kernel
theorem dX10_does_103 : decode cX10_does 103 = .ok (.iload 4, 2) := by decide +kernel
theorem dX10_does_105 : decode cX10_does 105 = .ok (.iload 5, 2) := by decide +kernel
theorem dX10_does_107 : decode cX10_does 107 = .ok (.invokevirtual 257, 3) := by decide +kernel
theorem dX10_does_110 : decode cX10_does 110 = .ok (.ireturn, 1) := by decide +kernel
theorem dX10_does_111 : decode cX10_does 111 = .ok (.aload_n 0, 1) := by decide +kernel
theorem dX10_does_112 : decode cX10_does 112 = .ok (.iload_n 1, 1) := by decide +kernel
theorem dX10_does_113 : decode cX10_does 113 = .ok (.iload_n 2, 1) := by decide +kernel
theorem dX10_does_114 : decode cX10_does 114 = .ok (.iload 4, 2) := by decide +kernel
theorem dX10_does_116 : decode cX10_does 116 = .ok (.iload 5, 2) := by decide +kernel
theorem dX10_does_118 : decode cX10_does 118 = .ok (.invokevirtual 261, 3) := by decide +kernel
theorem dX10_does_121 : decode cX10_does 121 = .ok (.ireturn, 1) := by decide +kernel
theorem dX10_does_122 : decode cX10_does 122 = .ok (.aload_n 0, 1) := by decide +kernel
theorem dX10_does_123 : decode cX10_does 123 = .ok (.iload_n 1, 1) := by decide +kernel
theorem dX10_does_124 : decode cX10_does 124 = .ok (.iload_n 2, 1) := by decide +kernel
theorem dX10_does_125 : decode cX10_does 125 = .ok (.iload 4, 2) := by decide +kernel
theorem dX10_does_127 : decode cX10_does 127 = .ok (.iload 5, 2) := by decide +kernel
theorem dX10_does_129 : decode cX10_does 129 = .ok (.invokevirtual 264, 3) := by decide +kernel
theorem dX10_does_132 : decode cX10_does 132 = .ok (.ireturn, 1) := by decide +kernel
theorem dX10_does_133 : decode cX10_does 133 = .ok (.aload_n 0, 1) := by decide +kernel
theorem dX10_does_134 : decode cX10_does 134 = .ok (.iload_n 1, 1) := by decide +kernel
theorem dX10_does_135 : decode cX10_does 135 = .ok (.iload_n 2, 1) := by decide +kernel
theorem dX10_does_136 : decode cX10_does 136 = .ok (.iload 4, 2) := by decide +kernel
theorem dX10_does_138 : decode cX10_does 138 = .ok (.invokevirtual 234, 3) := by decide +kernel
theorem dX10_does_141 : decode cX10_does 141 = .ok (.ifCond .ne 5, 3) := by decide +kernel
theorem dX10_does_144 : decode cX10_does 144 = .ok (.iconst 0, 1) := by decide +kernel
theorem dX10_does_145 : decode cX10_does 145 = .ok (.ireturn, 1) := by decide +kernel
theorem dX10_does_146 : decode cX10_does 146 = .ok (.aload_n 0, 1) := by decide +kernel
theorem dX10_does_147 : decode cX10_does 147 = .ok (.getfield 20, 3) := by decide +kernel
theorem dX10_does_150 : decode cX10_does 150 = .ok (.iload_n 1, 1) := by decide +kernel
theorem dX10_does_151 : decode cX10_does 151 = .ok (.sipush 200, 3) := by decide +kernel
theorem dX10_does_154 : decode cX10_does 154 = .ok (.iload_n 2, 1) := by decide +kernel
theorem dX10_does_155 : decode cX10_does 155 = .ok (.imul, 1) := by decide +kernel
theorem dX10_does_156 : decode cX10_does 156 = .ok (.iadd, 1) := by decide +kernel
theorem dX10_does_157 : decode cX10_does 157 = .ok (.iconst 0, 1) := by decide +kernel
theorem dX10_does_158 : decode cX10_does 158 = .ok (.iadd, 1) := by decide +kernel
theorem dX10_does_159 : decode cX10_does 159 = .ok (.dup2, 1) := by decide +kernel
theorem dX10_does_160 : decode cX10_does 160 = .ok (.iaload, 1) := by decide +kernel
theorem dX10_does_161 : decode cX10_does 161 = .ok (.iconst 1, 1) := by decide +kernel
theorem dX10_does_162 : decode cX10_does 162 = .ok (.iload 4, 2) := by decide +kernel
theorem dX10_does_164 : decode cX10_does 164 = .ok (.ishl, 1) := by decide +kernel
theorem dX10_does_165 : decode cX10_does 165 = .ok (.iconst (-1), 1) := by decide +kernel
theorem dX10_does_166 : decode cX10_does 166 = .ok (.ixor, 1) := by decide +kernel
theorem dX10_does_167 : decode cX10_does 167 = .ok (.iand, 1) := by decide +kernel
theorem dX10_does_168 : decode cX10_does 168 = .ok (.iastore, 1) := by decide +kernel
theorem dX10_does_169 : decode cX10_does 169 = .ok (.iconst 1, 1) := by decide +kernel
theorem dX10_does_170 : decode cX10_does 170 = .ok (.ireturn, 1) := by decide +kernel
theorem dX10_edited0_0 : decode cX10_edited0 0 = .ok (.aload_n 0, 1) := by decide +kernel
theorem dX10_edited0_1 : decode cX10_edited0 1 = .ok (.iload_n 1, 1) := by decide +kernel
theorem dX10_edited0_2 : decode cX10_edited0 2 = .ok (.iconst 0, 1) := by decide +kernel
theorem dX10_edited0_3 : decode cX10_edited0 3 = .ok (.iconst 1, 1) := by decide +kernel
theorem dX10_edited0_4 : decode cX10_edited0 4 = .ok (.invokestatic 231, 3) := by decide +kernel
theorem dX10_edited0_7 : decode cX10_edited0 7 = .ok (.iconst 1, 1) := by decide +kernel
theorem dX10_edited0_8 : decode cX10_edited0 8 = .ok (.invokevirtual 214, 3) := by decide +kernel
theorem dX10_edited0_11 : decode cX10_edited0 11 = .ok (.ifCond .ne 5, 3) := by decide +kernel
theorem dX10_edited0_14 : decode cX10_edited0 14 = .ok (.iconst 0, 1) := by decide +kernel
theorem dX10_edited0_15 : decode cX10_edited0 15 = .ok (.ireturn, 1) := by decide +kernel
theorem dX10_edited0_16 : decode cX10_edited0 16 = .ok (.aload_n 0, 1) := by decide +kernel
theorem dX10_edited0_17 : decode cX10_edited0 17 = .ok (.invokevirtual 267, 3) := by decide +kernel
theorem dX10_edited0_20 : decode cX10_edited0 20 = .ok (.aload_n 0, 1) := by decide +kernel
theorem dX10_edited0_21 : decode cX10_edited0 21 = .ok (.sipush 931, 3) := by decide +kernel
theorem dX10_edited0_24 : decode cX10_edited0 24 = .ok (.iload_n 1, 1) := by decide +kernel
theorem dX10_edited0_25 : decode cX10_edited0 25 = .ok (.iload_n 2, 1) := by decide +kernel
theorem dX10_edited0_26 : decode cX10_edited0 26 = .ok (.iload_n 3, 1) := by decide +kernel
theorem dX10_edited0_27 : decode cX10_edited0 27 = .ok (.iload 4, 2) := by decide +kernel
theorem dX10_edited0_29 : decode cX10_edited0 29 = .ok (.iload 5, 2) := by decide +kernel
theorem dX10_edited0_31 : decode cX10_edited0 31 = .ok (.invokevirtual 190, 3) := by decide +kernel
theorem dX10_edited0_34 : decode cX10_edited0 34 = .ok (.ifCond .ne 17, 3) := by decide +kernel
theorem dX10_edited0_37 : decode cX10_edited0 37 = .ok (.aload_n 0, 1) := by decide +kernel
theorem dX10_edited0_38 : decode cX10_edited0 38 = .ok (.iconst 1, 1) := by decide +kernel
theorem dX10_edited0_39 : decode cX10_edited0 39 = .ok (.invokevirtual 270, 3) := by decide +kernel
theorem dX10_edited0_42 : decode cX10_edited0 42 = .ok (.ifCond .le 7, 3) := by decide +kernel
theorem dX10_edited0_45 : decode cX10_edited0 45 = .ok (.iconst 1, 1) := by decide +kernel
theorem dX10_edited0_46 : decode cX10_edited0 46 = .ok (.goto 4, 3) := by decide +kernel
theorem dX10_edited0_49 : decode cX10_edited0 49 = .ok (.iconst 0, 1) := by decide +kernel
theorem dX10_edited0_50 : decode cX10_edited0 50 = .ok (.ireturn, 1) := by decide +kernel
theorem dX10_edited0_51 : decode cX10_edited0 51 = .ok (.aload_n 0, 1) := by decide +kernel
theorem dX10_edited0_52 : decode cX10_edited0 52 = .ok (.invokevirtual 273, 3) := by decide +kernel
theorem dX10_edited0_55 : decode cX10_edited0 55 = .ok (.iconst 0, 1) := by decide +kernel
theorem dX10_edited0_56 : decode cX10_edited0 56 = .ok (.istore 6, 2) := by decide +kernel
theorem dX10_edited0_58 : decode cX10_edited0 58 = .ok (.iload 6, 2) := by decide +kernel
theorem dX10_edited0_60 : decode cX10_edited0 60 = .ok (.sipush 931, 3) := by decide +kernel
theorem dX10_edited0_63 : decode cX10_edited0 63 = .ok (.if_icmp .ge 27, 3) := by decide +kernel
theorem dX10_edited0_66 : decode cX10_edited0 66 = .ok (.aload_n 0, 1) := by decide +kernel
theorem dX10_edited0_67 : decode cX10_edited0 67 = .ok (.getfield 20, 3) := by decide +kernel
theorem dX10_edited0_70 : decode cX10_edited0 70 = .ok (.iload 6, 2) := by decide +kernel
theorem dX10_edited0_72 : decode cX10_edited0 72 = .ok (.aload_n 0, 1) := by decide +kernel
theorem dX10_edited0_73 : decode cX10_edited0 73 = .ok (.getfield 20, 3) := by decide +kernel
theorem dX10_edited0_76 : decode cX10_edited0 76 = .ok (.sipush 931, 3) := by decide +kernel
theorem dX10_edited0_79 : decode cX10_edited0 79 = .ok (.iload 6, 2) := by decide +kernel
theorem dX10_edited0_81 : decode cX10_edited0 81 = .ok (.iadd, 1) := by decide +kernel
theorem dX10_edited0_82 : decode cX10_edited0 82 = .ok (.iaload, 1) := by decide +kernel
theorem dX10_edited0_83 : decode cX10_edited0 83 = .ok (.iastore, 1) := by decide +kernel
theorem dX10_edited0_84 : decode cX10_edited0 84 = .ok (.iinc 6 1, 3) := by decide +kernel
theorem dX10_edited0_87 : decode cX10_edited0 87 = .ok (.goto (-29), 3) := by decide +kernel
theorem dX10_edited0_90 : decode cX10_edited0 90 = .ok (.iconst 1, 1) := by decide +kernel
theorem dX10_edited0_91 : decode cX10_edited0 91 = .ok (.ireturn, 1) := by decide +kernel
theorem dX10_set_0 : decode cX10_set 0 = .ok (.aload_n 0, 1) := by decide +kernel
theorem dX10_set_1 : decode cX10_set 1 = .ok (.iconst 0, 1) := by decide +kernel
theorem dX10_set_2 : decode cX10_set 2 = .ok (.putfield 65, 3) := by decide +kernel
theorem dX10_set_5 : decode cX10_set 5 = .ok (.aload_n 0, 1) := by decide +kernel
theorem dX10_set_6 : decode cX10_set 6 = .ok (.iload_n 1, 1) := by decide +kernel
theorem dX10_set_7 : decode cX10_set 7 = .ok (.bipush 11, 2) := by decide +kernel
theorem dX10_set_9 : decode cX10_set 9 = .ok (.iload_n 2, 1) := by decide +kernel
theorem dX10_set_10 : decode cX10_set 10 = .ok (.iload_n 3, 1) := by decide +kernel
theorem dX10_set_11 : decode cX10_set 11 = .ok (.iload 4, 2) := by decide +kernel
theorem dX10_set_13 : decode cX10_set 13 = .ok (.invokevirtual 276, 3) := by decide +kernel
theorem dX10_set_16 : decode cX10_set 16 = .ok (.ireturn, 1) := by decide +kernel
theorem dX10_insert_0 : decode cX10_insert 0 = .ok (.aload_n 0, 1) := by decide +kernel
theorem dX10_insert_1 : decode cX10_insert 1 = .ok (.iconst 0, 1) := by decide +kernel
theorem dX10_insert_2 : decode cX10_insert 2 = .ok (.putfield 65, 3) := by decide +kernel
theorem dX10_insert_5 : decode cX10_insert 5 = .ok (.aload_n 0, 1) := by decide +kernel
theorem dX10_insert_6 : decode cX10_insert 6 = .ok (.iload_n 1, 1) := by decide +kernel
theorem dX10_insert_7 : decode cX10_insert 7 = .ok (.bipush 12, 2) := by decide +kernel
theorem dX10_insert_9 : decode cX10_insert 9 = .ok (.iload_n 2, 1) := by decide +kernel
theorem dX10_insert_10 : decode cX10_insert 10 = .ok (.iconst 0, 1) := by decide +kernel
theorem dX10_insert_11 : decode cX10_insert 11 = .ok (.iconst 0, 1) := by decide +kernel
theorem dX10_insert_12 : decode cX10_insert 12 = .ok (.invokevirtual 276, 3) := by decide +kernel
theorem dX10_insert_15 : decode cX10_insert 15 = .ok (.ireturn, 1) := by decide +kernel
theorem dX10_delete_0 : decode cX10_delete 0 = .ok (.aload_n 0, 1) := by decide +kernel
theorem dX10_delete_1 : decode cX10_delete 1 = .ok (.iconst 0, 1) := by decide +kernel
theorem dX10_delete_2 : decode cX10_delete 2 = .ok (.putfield 65, 3) := by decide +kernel
theorem dX10_delete_5 : decode cX10_delete 5 = .ok (.aload_n 0, 1) := by decide +kernel
theorem dX10_delete_6 : decode cX10_delete 6 = .ok (.iload_n 1, 1) := by decide +kernel
theorem dX10_delete_7 : decode cX10_delete 7 = .ok (.bipush 13, 2) := by decide +kernel
theorem dX10_delete_9 : decode cX10_delete 9 = .ok (.iload_n 2, 1) := by decide +kernel
theorem dX10_delete_10 : decode cX10_delete 10 = .ok (.iconst 0, 1) := by decide +kernel
theorem dX10_delete_11 : decode cX10_delete 11 = .ok (.iconst 0, 1) := by decide +kernel
theorem dX10_delete_12 : decode cX10_delete 12 = .ok (.invokevirtual 276, 3) := by decide +kernel
theorem dX10_delete_15 : decode cX10_delete 15 = .ok (.ireturn, 1) := by decide +kernel
theorem dX10_rename_0 : decode cX10_rename 0 = .ok (.aload_n 0, 1) := by decide +kernel
theorem dX10_rename_1 : decode cX10_rename 1 = .ok (.iconst 0, 1) := by decide +kernel
theorem dX10_rename_2 : decode cX10_rename 2 = .ok (.putfield 65, 3) := by decide +kernel
theorem dX10_rename_5 : decode cX10_rename 5 = .ok (.aload_n 0, 1) := by decide +kernel
theorem dX10_rename_6 : decode cX10_rename 6 = .ok (.iload_n 1, 1) := by decide +kernel
theorem dX10_rename_7 : decode cX10_rename 7 = .ok (.bipush 14, 2) := by decide +kernel
theorem dX10_rename_9 : decode cX10_rename 9 = .ok (.iload_n 2, 1) := by decide +kernel
theorem dX10_rename_10 : decode cX10_rename 10 = .ok (.iload_n 3, 1) := by decide +kernel
theorem dX10_rename_11 : decode cX10_rename 11 = .ok (.iconst 0, 1) := by decide +kernel
theorem dX10_rename_12 : decode cX10_rename 12 = .ok (.invokevirtual 276, 3) := by decide +kernel
theorem dX10_rename_15 : decode cX10_rename 15 = .ok (.ireturn, 1) := by decide +kernel
theorem dX10_retype_0 : decode cX10_retype 0 = .ok (.aload_n 0, 1) := by decide +kernel
theorem dX10_retype_1 : decode cX10_retype 1 = .ok (.iconst 0, 1) := by decide +kernel
theorem dX10_retype_2 : decode cX10_retype 2 = .ok (.putfield 65, 3) := by decide +kernel
theorem dX10_retype_5 : decode cX10_retype 5 = .ok (.aload_n 0, 1) := by decide +kernel
theorem dX10_retype_6 : decode cX10_retype 6 = .ok (.iload_n 1, 1) := by decide +kernel
theorem dX10_retype_7 : decode cX10_retype 7 = .ok (.bipush 15, 2) := by decide +kernel
theorem dX10_retype_9 : decode cX10_retype 9 = .ok (.iload_n 2, 1) := by decide +kernel
theorem dX10_retype_10 : decode cX10_retype 10 = .ok (.iload_n 3, 1) := by decide +kernel
theorem dX10_retype_11 : decode cX10_retype 11 = .ok (.iconst 0, 1) := by decide +kernel
theorem dX10_retype_12 : decode cX10_retype 12 = .ok (.invokevirtual 276, 3) := by decide +kernel
theorem dX10_retype_15 : decode cX10_retype 15 = .ok (.ireturn, 1) := by decide +kernel
theorem dX10_add_0 : decode cX10_add 0 = .ok (.aload_n 0, 1) := by decide +kernel
theorem dX10_add_1 : decode cX10_add 1 = .ok (.iconst 0, 1) := by decide +kernel
theorem dX10_add_2 : decode cX10_add 2 = .ok (.putfield 65, 3) := by decide +kernel
theorem dX10_add_5 : decode cX10_add 5 = .ok (.iload_n 1, 1) := by decide +kernel
theorem dX10_add_6 : decode cX10_add 6 = .ok (.iconst 0, 1) := by decide +kernel
theorem dX10_add_7 : decode cX10_add 7 = .ok (.iconst 1, 1) := by decide +kernel
theorem dX10_add_8 : decode cX10_add 8 = .ok (.invokestatic 231, 3) := by decide +kernel
theorem dX10_add_11 : decode cX10_add 11 = .ok (.ifCond .eq 12, 3) := by decide +kernel
theorem dX10_add_14 : decode cX10_add 14 = .ok (.aload_n 0, 1) := by decide +kernel
theorem dX10_add_15 : decode cX10_add 15 = .ok (.iconst 0, 1) := by decide +kernel
theorem dX10_add_16 : decode cX10_add 16 = .ok (.iload_n 1, 1) := by decide +kernel
theorem dX10_add_17 : decode cX10_add 17 = .ok (.invokevirtual 247, 3) := by decide +kernel
theorem dX10_add_20 : decode cX10_add 20 = .ok (.goto 4, 3) := by decide +kernel
theorem dX10_add_23 : decode cX10_add 23 = .ok (.iconst (-1), 1) := by decide +kernel
theorem dX10_add_24 : decode cX10_add 24 = .ok (.istore 4, 2) := by decide +kernel
theorem dX10_add_26 : decode cX10_add 26 = .ok (.aload_n 0, 1) := by decide +kernel
theorem dX10_add_27 : decode cX10_add 27 = .ok (.iload_n 1, 1) := by decide +kernel
theorem dX10_add_28 : decode cX10_add 28 = .ok (.bipush 16, 2) := by decide +kernel
theorem dX10_add_30 : decode cX10_add 30 = .ok (.iload_n 2, 1) := by decide +kernel
theorem dX10_add_31 : decode cX10_add 31 = .ok (.iload_n 3, 1) := by decide +kernel
theorem dX10_add_32 : decode cX10_add 32 = .ok (.iconst 0, 1) := by decide +kernel
theorem dX10_add_33 : decode cX10_add 33 = .ok (.invokevirtual 276, 3) := by decide +kernel
theorem dX10_add_36 : decode cX10_add 36 = .ok (.istore 5, 2) := by decide +kernel
theorem dX10_add_38 : decode cX10_add 38 = .ok (.aload_n 0, 1) := by decide +kernel
theorem dX10_add_39 : decode cX10_add 39 = .ok (.getfield 65, 3) := by decide +kernel
theorem dX10_add_42 : decode cX10_add 42 = .ok (.ifCond .eq 7, 3) := by decide +kernel
theorem dX10_add_45 : decode cX10_add 45 = .ok (.iconst 0, 1) := by decide +kernel
theorem dX10_add_46 : decode cX10_add 46 = .ok (.goto 14, 3) := by decide +kernel
theorem dX10_add_49 : decode cX10_add 49 = .ok (.iload 5, 2) := by decide +kernel
theorem dX10_add_51 : decode cX10_add 51 = .ok (.ifCond .eq 8, 3) := by decide +kernel
theorem dX10_add_54 : decode cX10_add 54 = .ok (.iload 4, 2) := by decide +kernel
theorem dX10_add_56 : decode cX10_add 56 = .ok (.goto 4, 3) := by decide +kernel
theorem dX10_add_59 : decode cX10_add 59 = .ok (.iconst (-1), 1) := by decide +kernel
theorem dX10_add_60 : decode cX10_add 60 = .ok (.ireturn, 1) := by decide +kernel
theorem dX10_drop_0 : decode cX10_drop 0 = .ok (.aload_n 0, 1) := by decide +kernel
theorem dX10_drop_1 : decode cX10_drop 1 = .ok (.iconst 0, 1) := by decide +kernel
theorem dX10_drop_2 : decode cX10_drop 2 = .ok (.putfield 65, 3) := by decide +kernel
theorem dX10_drop_5 : decode cX10_drop 5 = .ok (.aload_n 0, 1) := by decide +kernel
theorem dX10_drop_6 : decode cX10_drop 6 = .ok (.iload_n 1, 1) := by decide +kernel
theorem dX10_drop_7 : decode cX10_drop 7 = .ok (.bipush 17, 2) := by decide +kernel
theorem dX10_drop_9 : decode cX10_drop 9 = .ok (.iload_n 2, 1) := by decide +kernel
theorem dX10_drop_10 : decode cX10_drop 10 = .ok (.iconst 0, 1) := by decide +kernel
theorem dX10_drop_11 : decode cX10_drop 11 = .ok (.iconst 0, 1) := by decide +kernel
theorem dX10_drop_12 : decode cX10_drop 12 = .ok (.invokevirtual 276, 3) := by decide +kernel
theorem dX10_drop_15 : decode cX10_drop 15 = .ok (.ireturn, 1) := by decide +kernel
theorem dX10_choiceAt_0 : decode cX10_choiceAt 0 = .ok (.iload_n 0, 1) := by decide +kernel
theorem dX10_choiceAt_1 : decode cX10_choiceAt 1 = .ok (.iconst 0, 1) := by decide +kernel
theorem dX10_choiceAt_2 : decode cX10_choiceAt 2 = .ok (.bipush 6, 2) := by decide +kernel
theorem dX10_choiceAt_4 : decode cX10_choiceAt 4 = .ok (.invokestatic 231, 3) := by decide +kernel
theorem dX10_choiceAt_7 : decode cX10_choiceAt 7 = .ok (.ifCond .eq 11, 3) := by decide +kernel
theorem dX10_choiceAt_10 : decode cX10_choiceAt 10 = .ok (.iload_n 1, 1) := by decide +kernel
theorem dX10_choiceAt_11 : decode cX10_choiceAt 11 = .ok (.ifCond .lt 7, 3) := by decide +kernel
theorem dX10_choiceAt_14 : decode cX10_choiceAt 14 = .ok (.iload_n 2, 1) := by decide +kernel
theorem dX10_choiceAt_15 : decode cX10_choiceAt 15 = .ok (.ifCond .ge 5, 3) := by decide +kernel
theorem dX10_choiceAt_18 : decode cX10_choiceAt 18 = .ok (.iconst (-1), 1) := by decide +kernel
theorem dX10_choiceAt_19 : decode cX10_choiceAt 19 = .ok (.ireturn, 1) := by decide +kernel
theorem dX10_choiceAt_20 : decode cX10_choiceAt 20 = .ok (.iload_n 0, 1) := by decide +kernel
theorem dX10_choiceAt_21 : decode cX10_choiceAt 21 = .ok (.iconst 4, 1) := by decide +kernel
theorem dX10_choiceAt_22 : decode cX10_choiceAt 22 = .ok (.if_icmp .ge 24, 3) := by decide +kernel
theorem dX10_choiceAt_25 : decode cX10_choiceAt 25 = .ok (.iload_n 1, 1) := by decide +kernel
theorem dX10_choiceAt_26 : decode cX10_choiceAt 26 = .ok (.bipush 9, 2) := by decide +kernel
theorem dX10_choiceAt_28 : decode cX10_choiceAt 28 = .ok (.if_icmp .ge 16, 3) := by decide +kernel
theorem dX10_choiceAt_31 : decode cX10_choiceAt 31 = .ok (.iload_n 2, 1) := by decide +kernel
theorem dX10_choiceAt_32 : decode cX10_choiceAt 32 = .ok (.ifCond .ne 12, 3) := by decide +kernel
theorem dX10_choiceAt_35 : decode cX10_choiceAt 35 = .ok (.bipush 9, 2) := by decide +kernel
theorem dX10_choiceAt_37 : decode cX10_choiceAt 37 = .ok (.iload_n 0, 1) := by decide +kernel
theorem dX10_choiceAt_38 : decode cX10_choiceAt 38 = .ok (.imul, 1) := by decide +kernel
theorem dX10_choiceAt_39 : decode cX10_choiceAt 39 = .ok (.iload_n 1, 1) := by decide +kernel
theorem dX10_choiceAt_40 : decode cX10_choiceAt 40 = .ok (.iadd, 1) := by decide +kernel
theorem dX10_choiceAt_41 : decode cX10_choiceAt 41 = .ok (.goto 4, 3) := by decide +kernel
theorem dX10_choiceAt_44 : decode cX10_choiceAt 44 = .ok (.iconst (-1), 1) := by decide +kernel
theorem dX10_choiceAt_45 : decode cX10_choiceAt 45 = .ok (.ireturn, 1) := by decide +kernel
theorem dX10_choiceAt_46 : decode cX10_choiceAt 46 = .ok (.iload_n 0, 1) := by decide +kernel
theorem dX10_choiceAt_47 : decode cX10_choiceAt 47 = .ok (.iconst 4, 1) := by decide +kernel
theorem dX10_choiceAt_48 : decode cX10_choiceAt 48 = .ok (.if_icmp .ne 22, 3) := by decide +kernel
theorem dX10_choiceAt_51 : decode cX10_choiceAt 51 = .ok (.iload_n 1, 1) := by decide +kernel
theorem dX10_choiceAt_52 : decode cX10_choiceAt 52 = .ok (.bipush 20, 2) := by decide +kernel
theorem dX10_choiceAt_54 : decode cX10_choiceAt 54 = .ok (.if_icmp .ge 14, 3) := by decide +kernel
theorem dX10_choiceAt_57 : decode cX10_choiceAt 57 = .ok (.iload_n 2, 1) := by decide +kernel
theorem dX10_choiceAt_58 : decode cX10_choiceAt 58 = .ok (.ifCond .ne 10, 3) := by decide +kernel
theorem dX10_choiceAt_61 : decode cX10_choiceAt 61 = .ok (.bipush 36, 2) := by decide +kernel
theorem dX10_choiceAt_63 : decode cX10_choiceAt 63 = .ok (.iload_n 1, 1) := by decide +kernel
theorem dX10_choiceAt_64 : decode cX10_choiceAt 64 = .ok (.iadd, 1) := by decide +kernel
theorem dX10_choiceAt_65 : decode cX10_choiceAt 65 = .ok (.goto 4, 3) := by decide +kernel
theorem dX10_choiceAt_68 : decode cX10_choiceAt 68 = .ok (.iconst (-1), 1) := by decide +kernel
theorem dX10_choiceAt_69 : decode cX10_choiceAt 69 = .ok (.ireturn, 1) := by decide +kernel
theorem dX10_choiceAt_70 : decode cX10_choiceAt 70 = .ok (.iload_n 0, 1) := by decide +kernel
theorem dX10_choiceAt_71 : decode cX10_choiceAt 71 = .ok (.iconst 5, 1) := by decide +kernel
theorem dX10_choiceAt_72 : decode cX10_choiceAt 72 = .ok (.if_icmp .ne 29, 3) := by decide +kernel
theorem dX10_choiceAt_75 : decode cX10_choiceAt 75 = .ok (.iload_n 1, 1) := by decide +kernel
theorem dX10_choiceAt_76 : decode cX10_choiceAt 76 = .ok (.bipush 20, 2) := by decide +kernel
theorem dX10_choiceAt_78 : decode cX10_choiceAt 78 = .ok (.if_icmp .ge 21, 3) := by decide +kernel
theorem dX10_choiceAt_81 : decode cX10_choiceAt 81 = .ok (.iload_n 2, 1) := by decide +kernel
theorem dX10_choiceAt_82 : decode cX10_choiceAt 82 = .ok (.bipush 9, 2) := by decide +kernel
theorem dX10_choiceAt_84 : decode cX10_choiceAt 84 = .ok (.if_icmp .ge 15, 3) := by decide +kernel
theorem dX10_choiceAt_87 : decode cX10_choiceAt 87 = .ok (.bipush 56, 2) := by decide +kernel
theorem dX10_choiceAt_89 : decode cX10_choiceAt 89 = .ok (.bipush 9, 2) := by decide +kernel
theorem dX10_choiceAt_91 : decode cX10_choiceAt 91 = .ok (.iload_n 1, 1) := by decide +kernel
theorem dX10_choiceAt_92 : decode cX10_choiceAt 92 = .ok (.imul, 1) := by decide +kernel
theorem dX10_choiceAt_93 : decode cX10_choiceAt 93 = .ok (.iadd, 1) := by decide +kernel
theorem dX10_choiceAt_94 : decode cX10_choiceAt 94 = .ok (.iload_n 2, 1) := by decide +kernel
theorem dX10_choiceAt_95 : decode cX10_choiceAt 95 = .ok (.iadd, 1) := by decide +kernel
theorem dX10_choiceAt_96 : decode cX10_choiceAt 96 = .ok (.goto 4, 3) := by decide +kernel
theorem dX10_choiceAt_99 : decode cX10_choiceAt 99 = .ok (.iconst (-1), 1) := by decide +kernel
theorem dX10_choiceAt_100 : decode cX10_choiceAt 100 = .ok (.ireturn, 1) := by decide +kernel
theorem dX10_choiceAt_101 : decode cX10_choiceAt 101 = .ok (.iload_n 1, 1) := by decide +kernel
theorem dX10_choiceAt_102 : decode cX10_choiceAt 102 = .ok (.iconst 4, 1) := by decide +kernel
theorem dX10_choiceAt_103 : decode cX10_choiceAt 103 = .ok (.if_icmp .ge 22, 3) := by decide +kernel
theorem dX10_choiceAt_106 : decode cX10_choiceAt 106 = .ok (.iload_n 2, 1) := by decide +kernel
theorem dX10_choiceAt_107 : decode cX10_choiceAt 107 = .ok (.bipush 20, 2) := by decide +kernel
theorem dX10_choiceAt_109 : decode cX10_choiceAt 109 = .ok (.if_icmp .ge 16, 3) := by decide +kernel
theorem dX10_choiceAt_112 : decode cX10_choiceAt 112 = .ok (.sipush 236, 3) := by decide +kernel
theorem dX10_choiceAt_115 : decode cX10_choiceAt 115 = .ok (.bipush 20, 2) := by decide +kernel
theorem dX10_choiceAt_117 : decode cX10_choiceAt 117 = .ok (.iload_n 1, 1) := by decide +kernel
theorem dX10_choiceAt_118 : decode cX10_choiceAt 118 = .ok (.imul, 1) := by decide +kernel
theorem dX10_choiceAt_119 : decode cX10_choiceAt 119 = .ok (.iadd, 1) := by decide +kernel
theorem dX10_choiceAt_120 : decode cX10_choiceAt 120 = .ok (.iload_n 2, 1) := by decide +kernel
theorem dX10_choiceAt_121 : decode cX10_choiceAt 121 = .ok (.iadd, 1) := by decide +kernel
theorem dX10_choiceAt_122 : decode cX10_choiceAt 122 = .ok (.goto 4, 3) := by decide +kernel
theorem dX10_choiceAt_125 : decode cX10_choiceAt 125 = .ok (.iconst (-1), 1) := by decide +kernel
theorem dX10_choiceAt_126 : decode cX10_choiceAt 126 = .ok (.ireturn, 1) := by decide +kernel
theorem dX10_choicesOf_0 : decode cX10_choicesOf 0 = .ok (.iload_n 0, 1) := by decide +kernel
theorem dX10_choicesOf_1 : decode cX10_choicesOf 1 = .ok (.iconst 1, 1) := by decide +kernel
theorem dX10_choicesOf_2 : decode cX10_choicesOf 2 = .ok (.if_icmp .eq 13, 3) := by decide +kernel
theorem dX10_choicesOf_5 : decode cX10_choicesOf 5 = .ok (.iload_n 0, 1) := by decide +kernel
theorem dX10_choicesOf_6 : decode cX10_choicesOf 6 = .ok (.iconst 2, 1) := by decide +kernel
theorem dX10_choicesOf_7 : decode cX10_choicesOf 7 = .ok (.if_icmp .eq 8, 3) := by decide +kernel
theorem dX10_choicesOf_10 : decode cX10_choicesOf 10 = .ok (.iload_n 0, 1) := by decide +kernel
theorem dX10_choicesOf_11 : decode cX10_choicesOf 11 = .ok (.iconst 5, 1) := by decide +kernel
theorem dX10_choicesOf_12 : decode cX10_choicesOf 12 = .ok (.if_icmp .ne 7, 3) := by decide +kernel
theorem dX10_choicesOf_15 : decode cX10_choicesOf 15 = .ok (.iconst 3, 1) := by decide +kernel
theorem dX10_choicesOf_16 : decode cX10_choicesOf 16 = .ok (.goto 4, 3) := by decide +kernel
theorem dX10_choicesOf_19 : decode cX10_choicesOf 19 = .ok (.iconst 2, 1) := by decide +kernel
theorem dX10_choicesOf_20 : decode cX10_choicesOf 20 = .ok (.ireturn, 1) := by decide +kernel
theorem dX10_comesUp_0 : decode cX10_comesUp 0 = .ok (.iload_n 2, 1) := by decide +kernel
theorem dX10_comesUp_1 : decode cX10_comesUp 1 = .ok (.iload_n 3, 1) := by decide +kernel
theorem dX10_comesUp_2 : decode cX10_comesUp 2 = .ok (.iload 4, 2) := by decide +kernel
theorem dX10_comesUp_4 : decode cX10_comesUp 4 = .ok (.invokestatic 279, 3) := by decide +kernel
theorem dX10_comesUp_7 : decode cX10_comesUp 7 = .ok (.istore 7, 2) := by decide +kernel
theorem dX10_comesUp_9 : decode cX10_comesUp 9 = .ok (.aload_n 0, 1) := by decide +kernel
theorem dX10_comesUp_10 : decode cX10_comesUp 10 = .ok (.getfield 44, 3) := by decide +kernel
theorem dX10_comesUp_13 : decode cX10_comesUp 13 = .ok (.iload 7, 2) := by decide +kernel
theorem dX10_comesUp_15 : decode cX10_comesUp 15 = .ok (.iconst 1, 1) := by decide +kernel
theorem dX10_comesUp_16 : decode cX10_comesUp 16 = .ok (.iastore, 1) := by decide +kernel
theorem dX10_comesUp_17 : decode cX10_comesUp 17 = .ok (.aload_n 0, 1) := by decide +kernel
theorem dX10_comesUp_18 : decode cX10_comesUp 18 = .ok (.getfield 20, 3) := by decide +kernel
theorem dX10_comesUp_21 : decode cX10_comesUp 21 = .ok (.iload_n 1, 1) := by decide +kernel
theorem dX10_comesUp_22 : decode cX10_comesUp 22 = .ok (.sipush 615, 3) := by decide +kernel
theorem dX10_comesUp_25 : decode cX10_comesUp 25 = .ok (.iadd, 1) := by decide +kernel
theorem dX10_comesUp_26 : decode cX10_comesUp 26 = .ok (.iload 7, 2) := by decide +kernel
theorem dX10_comesUp_28 : decode cX10_comesUp 28 = .ok (.iadd, 1) := by decide +kernel
theorem dX10_comesUp_29 : decode cX10_comesUp 29 = .ok (.iaload, 1) := by decide +kernel
theorem dX10_comesUp_30 : decode cX10_comesUp 30 = .ok (.istore 8, 2) := by decide +kernel
theorem dX10_comesUp_32 : decode cX10_comesUp 32 = .ok (.iload 8, 2) := by decide +kernel
theorem dX10_comesUp_34 : decode cX10_comesUp 34 = .ok (.iconst (-1), 1) := by decide +kernel
theorem dX10_comesUp_35 : decode cX10_comesUp 35 = .ok (.if_icmp .eq 6, 3) := by decide +kernel
theorem dX10_comesUp_38 : decode cX10_comesUp 38 = .ok (.iload 8, 2) := by decide +kernel
theorem dX10_comesUp_40 : decode cX10_comesUp 40 = .ok (.ireturn, 1) := by decide +kernel
theorem dX10_comesUp_41 : decode cX10_comesUp 41 = .ok (.aload_n 0, 1) := by decide +kernel
theorem dX10_comesUp_42 : decode cX10_comesUp 42 = .ok (.getfield 41, 3) := by decide +kernel
theorem dX10_comesUp_45 : decode cX10_comesUp 45 = .ok (.iconst 5, 1) := by decide +kernel
theorem dX10_comesUp_46 : decode cX10_comesUp 46 = .ok (.aload_n 0, 1) := by decide +kernel
theorem dX10_comesUp_47 : decode cX10_comesUp 47 = .ok (.getfield 282, 3) := by decide +kernel
theorem dX10_comesUp_50 : decode cX10_comesUp 50 = .ok (.imul, 1) := by decide +kernel
theorem dX10_comesUp_51 : decode cX10_comesUp 51 = .ok (.iload_n 2, 1) := by decide +kernel
theorem dX10_comesUp_52 : decode cX10_comesUp 52 = .ok (.iastore, 1) := by decide +kernel
theorem dX10_comesUp_53 : decode cX10_comesUp 53 = .ok (.aload_n 0, 1) := by decide +kernel
theorem dX10_comesUp_54 : decode cX10_comesUp 54 = .ok (.getfield 41, 3) := by decide +kernel
theorem dX10_comesUp_57 : decode cX10_comesUp 57 = .ok (.iconst 5, 1) := by decide +kernel
theorem dX10_comesUp_58 : decode cX10_comesUp 58 = .ok (.aload_n 0, 1) := by decide +kernel
theorem dX10_comesUp_59 : decode cX10_comesUp 59 = .ok (.getfield 282, 3) := by decide +kernel
theorem dX10_comesUp_62 : decode cX10_comesUp 62 = .ok (.imul, 1) := by decide +kernel
theorem dX10_comesUp_63 : decode cX10_comesUp 63 = .ok (.iconst 1, 1) := by decide +kernel
theorem dX10_comesUp_64 : decode cX10_comesUp 64 = .ok (.iadd, 1) := by decide +kernel
theorem dX10_comesUp_65 : decode cX10_comesUp 65 = .ok (.iload_n 3, 1) := by decide +kernel
theorem dX10_comesUp_66 : decode cX10_comesUp 66 = .ok (.iastore, 1) := by decide +kernel
theorem dX10_comesUp_67 : decode cX10_comesUp 67 = .ok (.aload_n 0, 1) := by decide +kernel
theorem dX10_comesUp_68 : decode cX10_comesUp 68 = .ok (.getfield 41, 3) := by decide +kernel
theorem dX10_comesUp_71 : decode cX10_comesUp 71 = .ok (.iconst 5, 1) := by decide +kernel
theorem dX10_comesUp_72 : decode cX10_comesUp 72 = .ok (.aload_n 0, 1) := by decide +kernel
theorem dX10_comesUp_73 : decode cX10_comesUp 73 = .ok (.getfield 282, 3) := by decide +kernel
theorem dX10_comesUp_76 : decode cX10_comesUp 76 = .ok (.imul, 1) := by decide +kernel
theorem dX10_comesUp_77 : decode cX10_comesUp 77 = .ok (.iconst 2, 1) := by decide +kernel
theorem dX10_comesUp_78 : decode cX10_comesUp 78 = .ok (.iadd, 1) := by decide +kernel
theorem dX10_comesUp_79 : decode cX10_comesUp 79 = .ok (.iload 4, 2) := by decide +kernel
theorem dX10_comesUp_81 : decode cX10_comesUp 81 = .ok (.iastore, 1) := by decide +kernel
theorem dX10_comesUp_82 : decode cX10_comesUp 82 = .ok (.aload_n 0, 1) := by decide +kernel
theorem dX10_comesUp_83 : decode cX10_comesUp 83 = .ok (.getfield 41, 3) := by decide +kernel
theorem dX10_comesUp_86 : decode cX10_comesUp 86 = .ok (.iconst 5, 1) := by decide +kernel
theorem dX10_comesUp_87 : decode cX10_comesUp 87 = .ok (.aload_n 0, 1) := by decide +kernel
theorem dX10_comesUp_88 : decode cX10_comesUp 88 = .ok (.getfield 282, 3) := by decide +kernel
theorem dX10_comesUp_91 : decode cX10_comesUp 91 = .ok (.imul, 1) := by decide +kernel
theorem dX10_comesUp_92 : decode cX10_comesUp 92 = .ok (.iconst 3, 1) := by decide +kernel
theorem dX10_comesUp_93 : decode cX10_comesUp 93 = .ok (.iadd, 1) := by decide +kernel
theorem dX10_comesUp_94 : decode cX10_comesUp 94 = .ok (.iload 5, 2) := by decide +kernel
theorem dX10_comesUp_96 : decode cX10_comesUp 96 = .ok (.iastore, 1) := by decide +kernel
theorem dX10_comesUp_97 : decode cX10_comesUp 97 = .ok (.aload_n 0, 1) := by decide +kernel
theorem dX10_comesUp_98 : decode cX10_comesUp 98 = .ok (.getfield 41, 3) := by decide +kernel
theorem dX10_comesUp_101 : decode cX10_comesUp 101 = .ok (.iconst 5, 1) := by decide +kernel
theorem dX10_comesUp_102 : decode cX10_comesUp 102 = .ok (.aload_n 0, 1) := by decide +kernel
theorem dX10_comesUp_103 : decode cX10_comesUp 103 = .ok (.getfield 282, 3) := by decide +kernel
theorem dX10_comesUp_106 : decode cX10_comesUp 106 = .ok (.imul, 1) := by decide +kernel
theorem dX10_comesUp_107 : decode cX10_comesUp 107 = .ok (.iconst 4, 1) := by decide +kernel
theorem dX10_comesUp_108 : decode cX10_comesUp 108 = .ok (.iadd, 1) := by decide +kernel
theorem dX10_comesUp_109 : decode cX10_comesUp 109 = .ok (.iload 6, 2) := by decide +kernel
theorem dX10_comesUp_111 : decode cX10_comesUp 111 = .ok (.iastore, 1) := by decide +kernel
theorem dX10_comesUp_112 : decode cX10_comesUp 112 = .ok (.aload_n 0, 1) := by decide +kernel
theorem dX10_comesUp_113 : decode cX10_comesUp 113 = .ok (.dup, 1) := by decide +kernel
theorem dX10_comesUp_114 : decode cX10_comesUp 114 = .ok (.getfield 282, 3) := by decide +kernel
theorem dX10_comesUp_117 : decode cX10_comesUp 117 = .ok (.iconst 1, 1) := by decide +kernel
theorem dX10_comesUp_118 : decode cX10_comesUp 118 = .ok (.iadd, 1) := by decide +kernel
theorem dX10_comesUp_119 : decode cX10_comesUp 119 = .ok (.putfield 282, 3) := by decide +kernel
theorem dX10_comesUp_122 : decode cX10_comesUp 122 = .ok (.iconst (-1), 1) := by decide +kernel
theorem dX10_comesUp_123 : decode cX10_comesUp 123 = .ok (.ireturn, 1) := by decide +kernel
theorem dX10_baseCell_0 : decode cX10_baseCell 0 = .ok (.aload_n 0, 1) := by decide +kernel
theorem dX10_baseCell_1 : decode cX10_baseCell 1 = .ok (.iload_n 1, 1) := by decide +kernel
theorem dX10_baseCell_2 : decode cX10_baseCell 2 = .ok (.iconst 2, 1) := by decide +kernel
theorem dX10_baseCell_3 : decode cX10_baseCell 3 = .ok (.iload_n 2, 1) := by decide +kernel
theorem dX10_baseCell_4 : decode cX10_baseCell 4 = .ok (.invokevirtual 160, 3) := by decide +kernel
theorem dX10_baseCell_7 : decode cX10_baseCell 7 = .ok (.ifCond .eq 28, 3) := by decide +kernel
theorem dX10_baseCell_10 : decode cX10_baseCell 10 = .ok (.aload_n 0, 1) := by decide +kernel
theorem dX10_baseCell_11 : decode cX10_baseCell 11 = .ok (.iload_n 1, 1) := by decide +kernel
theorem dX10_baseCell_12 : decode cX10_baseCell 12 = .ok (.iconst 2, 1) := by decide +kernel
theorem dX10_baseCell_13 : decode cX10_baseCell 13 = .ok (.iload_n 3, 1) := by decide +kernel
theorem dX10_baseCell_14 : decode cX10_baseCell 14 = .ok (.invokevirtual 234, 3) := by decide +kernel
theorem dX10_baseCell_17 : decode cX10_baseCell 17 = .ok (.ifCond .eq 18, 3) := by decide +kernel
theorem dX10_baseCell_20 : decode cX10_baseCell 20 = .ok (.aload_n 0, 1) := by decide +kernel
theorem dX10_baseCell_21 : decode cX10_baseCell 21 = .ok (.getfield 20, 3) := by decide +kernel
theorem dX10_baseCell_24 : decode cX10_baseCell 24 = .ok (.iload_n 1, 1) := by decide +kernel
theorem dX10_baseCell_25 : decode cX10_baseCell 25 = .ok (.iconst 2, 1) := by decide +kernel
theorem dX10_baseCell_26 : decode cX10_baseCell 26 = .ok (.iload_n 2, 1) := by decide +kernel
theorem dX10_baseCell_27 : decode cX10_baseCell 27 = .ok (.iload_n 3, 1) := by decide +kernel
theorem dX10_baseCell_28 : decode cX10_baseCell 28 = .ok (.invokestatic 174, 3) := by decide +kernel
theorem dX10_baseCell_31 : decode cX10_baseCell 31 = .ok (.iaload, 1) := by decide +kernel
theorem dX10_baseCell_32 : decode cX10_baseCell 32 = .ok (.goto 6, 3) := by decide +kernel
theorem dX10_baseCell_35 : decode cX10_baseCell 35 = .ok (.sipush 9999, 3) := by decide +kernel
theorem dX10_baseCell_38 : decode cX10_baseCell 38 = .ok (.ireturn, 1) := by decide +kernel
theorem dX10_isChanged_0 : decode cX10_isChanged 0 = .ok (.aload_n 0, 1) := by decide +kernel
theorem dX10_isChanged_1 : decode cX10_isChanged 1 = .ok (.iload_n 1, 1) := by decide +kernel
theorem dX10_isChanged_2 : decode cX10_isChanged 2 = .ok (.iload_n 2, 1) := by decide +kernel
theorem dX10_isChanged_3 : decode cX10_isChanged 3 = .ok (.iload_n 3, 1) := by decide +kernel
theorem dX10_isChanged_4 : decode cX10_isChanged 4 = .ok (.invokevirtual 160, 3) := by decide +kernel
theorem dX10_isChanged_7 : decode cX10_isChanged 7 = .ok (.ifCond .eq 53, 3) := by decide +kernel
theorem dX10_isChanged_10 : decode cX10_isChanged 10 = .ok (.aload_n 0, 1) := by decide +kernel
theorem dX10_isChanged_11 : decode cX10_isChanged 11 = .ok (.iload_n 1, 1) := by decide +kernel
theorem dX10_isChanged_12 : decode cX10_isChanged 12 = .ok (.iload_n 2, 1) := by decide +kernel
theorem dX10_isChanged_13 : decode cX10_isChanged 13 = .ok (.iload 4, 2) := by decide +kernel
theorem dX10_isChanged_15 : decode cX10_isChanged 15 = .ok (.invokevirtual 234, 3) := by decide +kernel
theorem dX10_isChanged_18 : decode cX10_isChanged 18 = .ok (.ifCond .eq 42, 3) := by decide +kernel
theorem dX10_isChanged_21 : decode cX10_isChanged 21 = .ok (.aload_n 0, 1) := by decide +kernel
theorem dX10_isChanged_22 : decode cX10_isChanged 22 = .ok (.getfield 20, 3) := by decide +kernel
theorem dX10_isChanged_25 : decode cX10_isChanged 25 = .ok (.iload_n 1, 1) := by decide +kernel
theorem dX10_isChanged_26 : decode cX10_isChanged 26 = .ok (.iload_n 2, 1) := by decide +kernel
theorem dX10_isChanged_27 : decode cX10_isChanged 27 = .ok (.iload_n 3, 1) := by decide +kernel
theorem dX10_isChanged_28 : decode cX10_isChanged 28 = .ok (.iload 4, 2) := by decide +kernel
theorem dX10_isChanged_30 : decode cX10_isChanged 30 = .ok (.invokestatic 174, 3) := by decide +kernel
theorem dX10_isChanged_33 : decode cX10_isChanged 33 = .ok (.iaload, 1) := by decide +kernel
theorem dX10_isChanged_34 : decode cX10_isChanged 34 = .ok (.aload_n 0, 1) := by decide +kernel
theorem dX10_isChanged_35 : decode cX10_isChanged 35 = .ok (.iload_n 1, 1) := by decide +kernel
theorem dX10_isChanged_36 : decode cX10_isChanged 36 = .ok (.iload_n 2, 1) := by decide +kernel
theorem dX10_isChanged_37 : decode cX10_isChanged 37 = .ok (.iload 4, 2) := by decide +kernel
theorem dX10_isChanged_39 : decode cX10_isChanged 39 = .ok (.invokevirtual 166, 3) := by decide +kernel
theorem dX10_isChanged_42 : decode cX10_isChanged 42 = .ok (.aload_n 0, 1) := by decide +kernel
theorem dX10_isChanged_43 : decode cX10_isChanged 43 = .ok (.iload_n 1, 1) := by decide +kernel
theorem dX10_isChanged_44 : decode cX10_isChanged 44 = .ok (.iload_n 3, 1) := by decide +kernel
theorem dX10_isChanged_45 : decode cX10_isChanged 45 = .ok (.iload 4, 2) := by decide +kernel
theorem dX10_isChanged_47 : decode cX10_isChanged 47 = .ok (.invokevirtual 285, 3) := by decide +kernel
theorem dX10_isChanged_50 : decode cX10_isChanged 50 = .ok (.invokestatic 243, 3) := by decide +kernel
theorem dX10_isChanged_53 : decode cX10_isChanged 53 = .ok (.if_icmp .eq 7, 3) := by decide +kernel
theorem dX10_isChanged_56 : decode cX10_isChanged 56 = .ok (.iconst 1, 1) := by decide +kernel
theorem dX10_isChanged_57 : decode cX10_isChanged 57 = .ok (.goto 4, 3) := by decide +kernel
theorem dX10_isChanged_60 : decode cX10_isChanged 60 = .ok (.iconst 0, 1) := by decide +kernel
theorem dX10_isChanged_61 : decode cX10_isChanged 61 = .ok (.ireturn, 1) := by decide +kernel
theorem dX10_isColumnChanged_0 : decode cX10_isColumnChanged 0 = .ok (.iconst 0, 1) := by decide +kernel
theorem dX10_isColumnChanged_1 : decode cX10_isColumnChanged 1 = .ok (.istore 4, 2) := by decide +kernel
theorem dX10_isColumnChanged_3 : decode cX10_isColumnChanged 3 = .ok (.iload 4, 2) := by decide +kernel
theorem dX10_isColumnChanged_5 : decode cX10_isColumnChanged 5 = .ok (.bipush 20, 2) := by decide +kernel
theorem dX10_isColumnChanged_7 : decode cX10_isColumnChanged 7 = .ok (.if_icmp .ge 23, 3) := by decide +kernel
theorem dX10_isColumnChanged_10 : decode cX10_isColumnChanged 10 = .ok (.aload_n 0, 1) := by decide +kernel
theorem dX10_isColumnChanged_11 : decode cX10_isColumnChanged 11 = .ok (.iload_n 1, 1) := by decide +kernel
theorem dX10_isColumnChanged_12 : decode cX10_isColumnChanged 12 = .ok (.iload_n 2, 1) := by decide +kernel
theorem dX10_isColumnChanged_13 : decode cX10_isColumnChanged 13 = .ok (.iload 4, 2) := by decide +kernel
theorem dX10_isColumnChanged_15 : decode cX10_isColumnChanged 15 = .ok (.iload_n 3, 1) := by decide +kernel
theorem dX10_isColumnChanged_16 : decode cX10_isColumnChanged 16 = .ok (.invokevirtual 288, 3) := by decide +kernel
theorem dX10_isColumnChanged_19 : decode cX10_isColumnChanged 19 = .ok (.ifCond .eq 5, 3) := by decide +kernel
theorem dX10_isColumnChanged_22 : decode cX10_isColumnChanged 22 = .ok (.iconst 1, 1) := by decide +kernel
theorem dX10_isColumnChanged_23 : decode cX10_isColumnChanged 23 = .ok (.ireturn, 1) := by decide +kernel
theorem dX10_isColumnChanged_24 : decode cX10_isColumnChanged 24 = .ok (.iinc 4 1, 3) := by decide +kernel
theorem dX10_isColumnChanged_27 : decode cX10_isColumnChanged 27 = .ok (.goto (-24), 3) := by decide +kernel
theorem dX10_isColumnChanged_30 : decode cX10_isColumnChanged 30 = .ok (.aload_n 0, 1) := by decide +kernel
theorem dX10_isColumnChanged_31 : decode cX10_isColumnChanged 31 = .ok (.iload_n 1, 1) := by decide +kernel
theorem dX10_isColumnChanged_32 : decode cX10_isColumnChanged 32 = .ok (.iload_n 2, 1) := by decide +kernel
theorem dX10_isColumnChanged_33 : decode cX10_isColumnChanged 33 = .ok (.iload_n 3, 1) := by decide +kernel
theorem dX10_isColumnChanged_34 : decode cX10_isColumnChanged 34 = .ok (.invokevirtual 237, 3) := by decide +kernel
theorem dX10_isColumnChanged_37 : decode cX10_isColumnChanged 37 = .ok (.aload_n 0, 1) := by decide +kernel
theorem dX10_isColumnChanged_38 : decode cX10_isColumnChanged 38 = .ok (.iload_n 1, 1) := by decide +kernel
theorem dX10_isColumnChanged_39 : decode cX10_isColumnChanged 39 = .ok (.iconst 2, 1) := by decide +kernel
theorem dX10_isColumnChanged_40 : decode cX10_isColumnChanged 40 = .ok (.iload_n 3, 1) := by decide +kernel
theorem dX10_isColumnChanged_41 : decode cX10_isColumnChanged 41 = .ok (.invokevirtual 237, 3) := by decide +kernel
theorem dX10_isColumnChanged_44 : decode cX10_isColumnChanged 44 = .ok (.if_icmp .ne 20, 3) := by decide +kernel
theorem dX10_isColumnChanged_47 : decode cX10_isColumnChanged 47 = .ok (.aload_n 0, 1) := by decide +kernel
theorem dX10_isColumnChanged_48 : decode cX10_isColumnChanged 48 = .ok (.iload_n 1, 1) := by decide +kernel
theorem dX10_isColumnChanged_49 : decode cX10_isColumnChanged 49 = .ok (.iload_n 2, 1) := by decide +kernel
theorem dX10_isColumnChanged_50 : decode cX10_isColumnChanged 50 = .ok (.iload_n 3, 1) := by decide +kernel
theorem dX10_isColumnChanged_51 : decode cX10_isColumnChanged 51 = .ok (.invokevirtual 166, 3) := by decide +kernel
theorem dX10_isColumnChanged_54 : decode cX10_isColumnChanged 54 = .ok (.aload_n 0, 1) := by decide +kernel
theorem dX10_isColumnChanged_55 : decode cX10_isColumnChanged 55 = .ok (.iload_n 1, 1) := by decide +kernel
theorem dX10_isColumnChanged_56 : decode cX10_isColumnChanged 56 = .ok (.iconst 2, 1) := by decide +kernel
theorem dX10_isColumnChanged_57 : decode cX10_isColumnChanged 57 = .ok (.iload_n 3, 1) := by decide +kernel
theorem dX10_isColumnChanged_58 : decode cX10_isColumnChanged 58 = .ok (.invokevirtual 166, 3) := by decide +kernel
theorem dX10_isColumnChanged_61 : decode cX10_isColumnChanged 61 = .ok (.if_icmp .eq 7, 3) := by decide +kernel
theorem dX10_isColumnChanged_64 : decode cX10_isColumnChanged 64 = .ok (.iconst 1, 1) := by decide +kernel
theorem dX10_isColumnChanged_65 : decode cX10_isColumnChanged 65 = .ok (.goto 4, 3) := by decide +kernel
theorem dX10_isColumnChanged_68 : decode cX10_isColumnChanged 68 = .ok (.iconst 0, 1) := by decide +kernel
theorem dX10_isColumnChanged_69 : decode cX10_isColumnChanged 69 = .ok (.ireturn, 1) := by decide +kernel
theorem dX10_isRowChanged_0 : decode cX10_isRowChanged 0 = .ok (.iconst 0, 1) := by decide +kernel
theorem dX10_isRowChanged_1 : decode cX10_isRowChanged 1 = .ok (.istore 4, 2) := by decide +kernel
theorem dX10_isRowChanged_3 : decode cX10_isRowChanged 3 = .ok (.iload 4, 2) := by decide +kernel
theorem dX10_isRowChanged_5 : decode cX10_isRowChanged 5 = .ok (.bipush 9, 2) := by decide +kernel
theorem dX10_isRowChanged_7 : decode cX10_isRowChanged 7 = .ok (.if_icmp .ge 23, 3) := by decide +kernel
theorem dX10_isRowChanged_10 : decode cX10_isRowChanged 10 = .ok (.aload_n 0, 1) := by decide +kernel
theorem dX10_isRowChanged_11 : decode cX10_isRowChanged 11 = .ok (.iload_n 1, 1) := by decide +kernel
theorem dX10_isRowChanged_12 : decode cX10_isRowChanged 12 = .ok (.iload_n 2, 1) := by decide +kernel
theorem dX10_isRowChanged_13 : decode cX10_isRowChanged 13 = .ok (.iload_n 3, 1) := by decide +kernel
theorem dX10_isRowChanged_14 : decode cX10_isRowChanged 14 = .ok (.iload 4, 2) := by decide +kernel
theorem dX10_isRowChanged_16 : decode cX10_isRowChanged 16 = .ok (.invokevirtual 288, 3) := by decide +kernel
theorem dX10_isRowChanged_19 : decode cX10_isRowChanged 19 = .ok (.ifCond .eq 5, 3) := by decide +kernel
theorem dX10_isRowChanged_22 : decode cX10_isRowChanged 22 = .ok (.iconst 1, 1) := by decide +kernel
theorem dX10_isRowChanged_23 : decode cX10_isRowChanged 23 = .ok (.ireturn, 1) := by decide +kernel
theorem dX10_isRowChanged_24 : decode cX10_isRowChanged 24 = .ok (.iinc 4 1, 3) := by decide +kernel
theorem dX10_isRowChanged_27 : decode cX10_isRowChanged 27 = .ok (.goto (-24), 3) := by decide +kernel
theorem dX10_isRowChanged_30 : decode cX10_isRowChanged 30 = .ok (.iconst 0, 1) := by decide +kernel
theorem dX10_isRowChanged_31 : decode cX10_isRowChanged 31 = .ok (.ireturn, 1) := by decide +kernel
theorem dX10_takes_0 : decode cX10_takes 0 = .ok (.aload_n 0, 1) := by decide +kernel
theorem dX10_takes_1 : decode cX10_takes 1 = .ok (.dup, 1) := by decide +kernel
theorem dX10_takes_2 : decode cX10_takes 2 = .ok (.getfield 291, 3) := by decide +kernel
theorem dX10_takes_5 : decode cX10_takes 5 = .ok (.iconst 1, 1) := by decide +kernel
theorem dX10_takes_6 : decode cX10_takes 6 = .ok (.iload_n 1, 1) := by decide +kernel
theorem dX10_takes_7 : decode cX10_takes 7 = .ok (.ishl, 1) := by decide +kernel
theorem dX10_takes_8 : decode cX10_takes 8 = .ok (.ior, 1) := by decide +kernel
theorem dX10_takes_9 : decode cX10_takes 9 = .ok (.putfield 291, 3) := by decide +kernel
theorem dX10_takes_12 : decode cX10_takes 12 = .ok (.aload_n 0, 1) := by decide +kernel
theorem dX10_takes_13 : decode cX10_takes 13 = .ok (.getfield 26, 3) := by decide +kernel
theorem dX10_takes_16 : decode cX10_takes 16 = .ok (.iload_n 1, 1) := by decide +kernel
theorem dX10_takes_17 : decode cX10_takes 17 = .ok (.iload_n 2, 1) := by decide +kernel
theorem dX10_takes_18 : decode cX10_takes 18 = .ok (.iastore, 1) := by decide +kernel
theorem dX10_takes_19 : decode cX10_takes 19 = .ok (.aload_n 0, 1) := by decide +kernel
theorem dX10_takes_20 : decode cX10_takes 20 = .ok (.getfield 29, 3) := by decide +kernel
theorem dX10_takes_23 : decode cX10_takes 23 = .ok (.iload_n 1, 1) := by decide +kernel
theorem dX10_takes_24 : decode cX10_takes 24 = .ok (.iload_n 3, 1) := by decide +kernel
theorem dX10_takes_25 : decode cX10_takes 25 = .ok (.iastore, 1) := by decide +kernel
theorem dX10_takes_26 : decode cX10_takes 26 = .ok (.return_, 1) := by decide +kernel
theorem dX10_nameOf_0 : decode cX10_nameOf 0 = .ok (.aload_n 0, 1) := by decide +kernel
theorem dX10_nameOf_1 : decode cX10_nameOf 1 = .ok (.iload_n 1, 1) := by decide +kernel
theorem dX10_nameOf_2 : decode cX10_nameOf 2 = .ok (.iconst 0, 1) := by decide +kernel
theorem dX10_nameOf_3 : decode cX10_nameOf 3 = .ok (.iload_n 2, 1) := by decide +kernel
theorem dX10_nameOf_4 : decode cX10_nameOf 4 = .ok (.invokevirtual 237, 3) := by decide +kernel
theorem dX10_nameOf_7 : decode cX10_nameOf 7 = .ok (.istore_n 3, 1) := by decide +kernel
theorem dX10_nameOf_8 : decode cX10_nameOf 8 = .ok (.aload_n 0, 1) := by decide +kernel
theorem dX10_nameOf_9 : decode cX10_nameOf 9 = .ok (.iload_n 1, 1) := by decide +kernel
theorem dX10_nameOf_10 : decode cX10_nameOf 10 = .ok (.iconst 1, 1) := by decide +kernel
theorem dX10_nameOf_11 : decode cX10_nameOf 11 = .ok (.iload_n 2, 1) := by decide +kernel
theorem dX10_nameOf_12 : decode cX10_nameOf 12 = .ok (.invokevirtual 237, 3) := by decide +kernel
theorem dX10_nameOf_15 : decode cX10_nameOf 15 = .ok (.istore 4, 2) := by decide +kernel
theorem dX10_nameOf_17 : decode cX10_nameOf 17 = .ok (.aload_n 0, 1) := by decide +kernel
theorem dX10_nameOf_18 : decode cX10_nameOf 18 = .ok (.iload_n 1, 1) := by decide +kernel
theorem dX10_nameOf_19 : decode cX10_nameOf 19 = .ok (.iconst 2, 1) := by decide +kernel
theorem dX10_nameOf_20 : decode cX10_nameOf 20 = .ok (.iload_n 2, 1) := by decide +kernel
theorem dX10_nameOf_21 : decode cX10_nameOf 21 = .ok (.invokevirtual 237, 3) := by decide +kernel
theorem dX10_nameOf_24 : decode cX10_nameOf 24 = .ok (.istore 5, 2) := by decide +kernel
theorem dX10_nameOf_26 : decode cX10_nameOf 26 = .ok (.iload_n 3, 1) := by decide +kernel
theorem dX10_nameOf_27 : decode cX10_nameOf 27 = .ok (.iload 4, 2) := by decide +kernel
theorem dX10_nameOf_29 : decode cX10_nameOf 29 = .ok (.if_icmp .eq 10, 3) := by decide +kernel
theorem dX10_nameOf_32 : decode cX10_nameOf 32 = .ok (.iload 4, 2) := by decide +kernel
theorem dX10_nameOf_34 : decode cX10_nameOf 34 = .ok (.iload 5, 2) := by decide +kernel
theorem dX10_nameOf_36 : decode cX10_nameOf 36 = .ok (.if_icmp .ne 5, 3) := by decide +kernel
theorem dX10_nameOf_39 : decode cX10_nameOf 39 = .ok (.iload_n 3, 1) := by decide +kernel
theorem dX10_nameOf_40 : decode cX10_nameOf 40 = .ok (.ireturn, 1) := by decide +kernel
theorem dX10_nameOf_41 : decode cX10_nameOf 41 = .ok (.iload_n 3, 1) := by decide +kernel
theorem dX10_nameOf_42 : decode cX10_nameOf 42 = .ok (.iload 5, 2) := by decide +kernel
theorem dX10_nameOf_44 : decode cX10_nameOf 44 = .ok (.if_icmp .ne 6, 3) := by decide +kernel
theorem dX10_nameOf_47 : decode cX10_nameOf 47 = .ok (.iload 4, 2) := by decide +kernel
theorem dX10_nameOf_49 : decode cX10_nameOf 49 = .ok (.ireturn, 1) := by decide +kernel
theorem dX10_nameOf_50 : decode cX10_nameOf 50 = .ok (.aload_n 0, 1) := by decide +kernel
theorem dX10_nameOf_51 : decode cX10_nameOf 51 = .ok (.iload_n 1, 1) := by decide +kernel
theorem dX10_nameOf_52 : decode cX10_nameOf 52 = .ok (.iconst 1, 1) := by decide +kernel
theorem dX10_nameOf_53 : decode cX10_nameOf 53 = .ok (.iload_n 2, 1) := by decide +kernel
theorem dX10_nameOf_54 : decode cX10_nameOf 54 = .ok (.iconst 0, 1) := by decide +kernel
theorem dX10_nameOf_55 : decode cX10_nameOf 55 = .ok (.iload_n 3, 1) := by decide +kernel
theorem dX10_nameOf_56 : decode cX10_nameOf 56 = .ok (.iload 4, 2) := by decide +kernel
theorem dX10_nameOf_58 : decode cX10_nameOf 58 = .ok (.invokevirtual 294, 3) := by decide +kernel
theorem dX10_nameOf_61 : decode cX10_nameOf 61 = .ok (.istore 6, 2) := by decide +kernel
theorem dX10_nameOf_63 : decode cX10_nameOf 63 = .ok (.iload 6, 2) := by decide +kernel
theorem dX10_nameOf_65 : decode cX10_nameOf 65 = .ok (.iconst 1, 1) := by decide +kernel
theorem dX10_nameOf_66 : decode cX10_nameOf 66 = .ok (.if_icmp .ne 7, 3) := by decide +kernel
theorem dX10_nameOf_69 : decode cX10_nameOf 69 = .ok (.iload_n 3, 1) := by decide +kernel
theorem dX10_nameOf_70 : decode cX10_nameOf 70 = .ok (.goto 16, 3) := by decide +kernel
theorem dX10_nameOf_73 : decode cX10_nameOf 73 = .ok (.iload 6, 2) := by decide +kernel
theorem dX10_nameOf_75 : decode cX10_nameOf 75 = .ok (.iconst 2, 1) := by decide +kernel
theorem dX10_nameOf_76 : decode cX10_nameOf 76 = .ok (.if_icmp .ne 8, 3) := by decide +kernel
theorem dX10_nameOf_79 : decode cX10_nameOf 79 = .ok (.iload 4, 2) := by decide +kernel
theorem dX10_nameOf_81 : decode cX10_nameOf 81 = .ok (.goto 5, 3) := by decide +kernel
theorem dX10_nameOf_84 : decode cX10_nameOf 84 = .ok (.iload 5, 2) := by decide +kernel
theorem dX10_nameOf_86 : decode cX10_nameOf 86 = .ok (.ireturn, 1) := by decide +kernel
theorem dX10_typeBy_0 : decode cX10_typeBy 0 = .ok (.aload_n 0, 1) := by decide +kernel
theorem dX10_typeBy_1 : decode cX10_typeBy 1 = .ok (.iload_n 1, 1) := by decide +kernel
theorem dX10_typeBy_2 : decode cX10_typeBy 2 = .ok (.iconst 0, 1) := by decide +kernel
theorem dX10_typeBy_3 : decode cX10_typeBy 3 = .ok (.iload_n 2, 1) := by decide +kernel
theorem dX10_typeBy_4 : decode cX10_typeBy 4 = .ok (.invokevirtual 166, 3) := by decide +kernel
theorem dX10_typeBy_7 : decode cX10_typeBy 7 = .ok (.istore_n 3, 1) := by decide +kernel
theorem dX10_typeBy_8 : decode cX10_typeBy 8 = .ok (.aload_n 0, 1) := by decide +kernel
theorem dX10_typeBy_9 : decode cX10_typeBy 9 = .ok (.iload_n 1, 1) := by decide +kernel
theorem dX10_typeBy_10 : decode cX10_typeBy 10 = .ok (.iconst 1, 1) := by decide +kernel
theorem dX10_typeBy_11 : decode cX10_typeBy 11 = .ok (.iload_n 2, 1) := by decide +kernel
theorem dX10_typeBy_12 : decode cX10_typeBy 12 = .ok (.invokevirtual 166, 3) := by decide +kernel
theorem dX10_typeBy_15 : decode cX10_typeBy 15 = .ok (.istore 4, 2) := by decide +kernel
theorem dX10_typeBy_17 : decode cX10_typeBy 17 = .ok (.aload_n 0, 1) := by decide +kernel
theorem dX10_typeBy_18 : decode cX10_typeBy 18 = .ok (.iload_n 1, 1) := by decide +kernel
theorem dX10_typeBy_19 : decode cX10_typeBy 19 = .ok (.iconst 2, 1) := by decide +kernel
theorem dX10_typeBy_20 : decode cX10_typeBy 20 = .ok (.iload_n 2, 1) := by decide +kernel
theorem dX10_typeBy_21 : decode cX10_typeBy 21 = .ok (.invokevirtual 166, 3) := by decide +kernel
theorem dX10_typeBy_24 : decode cX10_typeBy 24 = .ok (.istore 5, 2) := by decide +kernel
theorem dX10_typeBy_26 : decode cX10_typeBy 26 = .ok (.iload_n 3, 1) := by decide +kernel
theorem dX10_typeBy_27 : decode cX10_typeBy 27 = .ok (.iload 4, 2) := by decide +kernel
theorem dX10_typeBy_29 : decode cX10_typeBy 29 = .ok (.if_icmp .eq 10, 3) := by decide +kernel
theorem dX10_typeBy_32 : decode cX10_typeBy 32 = .ok (.iload 4, 2) := by decide +kernel
theorem dX10_typeBy_34 : decode cX10_typeBy 34 = .ok (.iload 5, 2) := by decide +kernel
theorem dX10_typeBy_36 : decode cX10_typeBy 36 = .ok (.if_icmp .ne 5, 3) := by decide +kernel
theorem dX10_typeBy_39 : decode cX10_typeBy 39 = .ok (.iload_n 3, 1) := by decide +kernel
theorem dX10_typeBy_40 : decode cX10_typeBy 40 = .ok (.ireturn, 1) := by decide +kernel
theorem dX10_typeBy_41 : decode cX10_typeBy 41 = .ok (.iload_n 3, 1) := by decide +kernel
theorem dX10_typeBy_42 : decode cX10_typeBy 42 = .ok (.iload 5, 2) := by decide +kernel
theorem dX10_typeBy_44 : decode cX10_typeBy 44 = .ok (.if_icmp .ne 6, 3) := by decide +kernel
theorem dX10_typeBy_47 : decode cX10_typeBy 47 = .ok (.iload 4, 2) := by decide +kernel
theorem dX10_typeBy_49 : decode cX10_typeBy 49 = .ok (.ireturn, 1) := by decide +kernel
theorem dX10_typeBy_50 : decode cX10_typeBy 50 = .ok (.iload_n 3, 1) := by decide +kernel
theorem dX10_typeBy_51 : decode cX10_typeBy 51 = .ok (.iconst 3, 1) := by decide +kernel
theorem dX10_typeBy_52 : decode cX10_typeBy 52 = .ok (.if_icmp .ne 9, 3) := by decide +kernel
theorem dX10_typeBy_55 : decode cX10_typeBy 55 = .ok (.iload 4, 2) := by decide +kernel
theorem dX10_typeBy_57 : decode cX10_typeBy 57 = .ok (.iconst 1, 1) := by decide +kernel
theorem dX10_typeBy_58 : decode cX10_typeBy 58 = .ok (.if_icmp .eq 14, 3) := by decide +kernel
theorem dX10_typeBy_61 : decode cX10_typeBy 61 = .ok (.iload_n 3, 1) := by decide +kernel
theorem dX10_typeBy_62 : decode cX10_typeBy 62 = .ok (.iconst 1, 1) := by decide +kernel
theorem dX10_typeBy_63 : decode cX10_typeBy 63 = .ok (.if_icmp .ne 11, 3) := by decide +kernel
theorem dX10_typeBy_66 : decode cX10_typeBy 66 = .ok (.iload 4, 2) := by decide +kernel
theorem dX10_typeBy_68 : decode cX10_typeBy 68 = .ok (.iconst 3, 1) := by decide +kernel
theorem dX10_typeBy_69 : decode cX10_typeBy 69 = .ok (.if_icmp .ne 5, 3) := by decide +kernel
theorem dX10_typeBy_72 : decode cX10_typeBy 72 = .ok (.iconst 3, 1) := by decide +kernel
theorem dX10_typeBy_73 : decode cX10_typeBy 73 = .ok (.ireturn, 1) := by decide +kernel
theorem dX10_typeBy_74 : decode cX10_typeBy 74 = .ok (.iload_n 3, 1) := by decide +kernel
theorem dX10_typeBy_75 : decode cX10_typeBy 75 = .ok (.ifCond .ne 6, 3) := by decide +kernel
theorem dX10_typeBy_78 : decode cX10_typeBy 78 = .ok (.iload 4, 2) := by decide +kernel
theorem dX10_typeBy_80 : decode cX10_typeBy 80 = .ok (.ireturn, 1) := by decide +kernel
theorem dX10_typeBy_81 : decode cX10_typeBy 81 = .ok (.iload 4, 2) := by decide +kernel
theorem dX10_typeBy_83 : decode cX10_typeBy 83 = .ok (.ifCond .ne 5, 3) := by decide +kernel
theorem dX10_typeBy_86 : decode cX10_typeBy 86 = .ok (.iload_n 3, 1) := by decide +kernel
theorem dX10_typeBy_87 : decode cX10_typeBy 87 = .ok (.ireturn, 1) := by decide +kernel
theorem dX10_typeBy_88 : decode cX10_typeBy 88 = .ok (.aload_n 0, 1) := by decide +kernel
theorem dX10_typeBy_89 : decode cX10_typeBy 89 = .ok (.iload_n 1, 1) := by decide +kernel
theorem dX10_typeBy_90 : decode cX10_typeBy 90 = .ok (.iconst 2, 1) := by decide +kernel
theorem dX10_typeBy_91 : decode cX10_typeBy 91 = .ok (.iload_n 2, 1) := by decide +kernel
theorem dX10_typeBy_92 : decode cX10_typeBy 92 = .ok (.iconst 0, 1) := by decide +kernel
theorem dX10_typeBy_93 : decode cX10_typeBy 93 = .ok (.iload_n 3, 1) := by decide +kernel
theorem dX10_typeBy_94 : decode cX10_typeBy 94 = .ok (.iload 4, 2) := by decide +kernel
theorem dX10_typeBy_96 : decode cX10_typeBy 96 = .ok (.invokevirtual 294, 3) := by decide +kernel
theorem dX10_typeBy_99 : decode cX10_typeBy 99 = .ok (.istore 6, 2) := by decide +kernel
theorem dX10_typeBy_101 : decode cX10_typeBy 101 = .ok (.iload 6, 2) := by decide +kernel
theorem dX10_typeBy_103 : decode cX10_typeBy 103 = .ok (.iconst 1, 1) := by decide +kernel
theorem dX10_typeBy_104 : decode cX10_typeBy 104 = .ok (.if_icmp .ne 7, 3) := by decide +kernel
theorem dX10_typeBy_107 : decode cX10_typeBy 107 = .ok (.iload_n 3, 1) := by decide +kernel
theorem dX10_typeBy_108 : decode cX10_typeBy 108 = .ok (.goto 16, 3) := by decide +kernel
theorem dX10_typeBy_111 : decode cX10_typeBy 111 = .ok (.iload 6, 2) := by decide +kernel
theorem dX10_typeBy_113 : decode cX10_typeBy 113 = .ok (.iconst 2, 1) := by decide +kernel
theorem dX10_typeBy_114 : decode cX10_typeBy 114 = .ok (.if_icmp .ne 8, 3) := by decide +kernel
theorem dX10_typeBy_117 : decode cX10_typeBy 117 = .ok (.iload 4, 2) := by decide +kernel
theorem dX10_typeBy_119 : decode cX10_typeBy 119 = .ok (.goto 5, 3) := by decide +kernel
theorem dX10_typeBy_122 : decode cX10_typeBy 122 = .ok (.iload 5, 2) := by decide +kernel
theorem dX10_typeBy_124 : decode cX10_typeBy 124 = .ok (.ireturn, 1) := by decide +kernel
theorem dX10_mergesOwn_0 : decode cX10_mergesOwn 0 = .ok (.aload_n 0, 1) := by decide +kernel
theorem dX10_mergesOwn_1 : decode cX10_mergesOwn 1 = .ok (.iload_n 1, 1) := by decide +kernel
theorem dX10_mergesOwn_2 : decode cX10_mergesOwn 2 = .ok (.iconst 0, 1) := by decide +kernel
theorem dX10_mergesOwn_3 : decode cX10_mergesOwn 3 = .ok (.iload_n 2, 1) := by decide +kernel
theorem dX10_mergesOwn_4 : decode cX10_mergesOwn 4 = .ok (.invokevirtual 234, 3) := by decide +kernel
theorem dX10_mergesOwn_7 : decode cX10_mergesOwn 7 = .ok (.istore_n 3, 1) := by decide +kernel
theorem dX10_mergesOwn_8 : decode cX10_mergesOwn 8 = .ok (.aload_n 0, 1) := by decide +kernel
theorem dX10_mergesOwn_9 : decode cX10_mergesOwn 9 = .ok (.iload_n 1, 1) := by decide +kernel
theorem dX10_mergesOwn_10 : decode cX10_mergesOwn 10 = .ok (.iconst 1, 1) := by decide +kernel
theorem dX10_mergesOwn_11 : decode cX10_mergesOwn 11 = .ok (.iload_n 2, 1) := by decide +kernel
theorem dX10_mergesOwn_12 : decode cX10_mergesOwn 12 = .ok (.invokevirtual 234, 3) := by decide +kernel
theorem dX10_mergesOwn_15 : decode cX10_mergesOwn 15 = .ok (.istore 4, 2) := by decide +kernel
theorem dX10_mergesOwn_17 : decode cX10_mergesOwn 17 = .ok (.aload_n 0, 1) := by decide +kernel
theorem dX10_mergesOwn_18 : decode cX10_mergesOwn 18 = .ok (.iload_n 1, 1) := by decide +kernel
theorem dX10_mergesOwn_19 : decode cX10_mergesOwn 19 = .ok (.iconst 2, 1) := by decide +kernel
theorem dX10_mergesOwn_20 : decode cX10_mergesOwn 20 = .ok (.iload_n 2, 1) := by decide +kernel
theorem dX10_mergesOwn_21 : decode cX10_mergesOwn 21 = .ok (.invokevirtual 234, 3) := by decide +kernel
theorem dX10_mergesOwn_24 : decode cX10_mergesOwn 24 = .ok (.ifCond .eq 12, 3) := by decide +kernel
theorem dX10_mergesOwn_27 : decode cX10_mergesOwn 27 = .ok (.iload_n 3, 1) := by decide +kernel
theorem dX10_mergesOwn_28 : decode cX10_mergesOwn 28 = .ok (.ifCond .ne 9, 3) := by decide +kernel
theorem dX10_mergesOwn_31 : decode cX10_mergesOwn 31 = .ok (.iload 4, 2) := by decide +kernel
theorem dX10_mergesOwn_33 : decode cX10_mergesOwn 33 = .ok (.ifCond .ne 4, 3) := by decide +kernel
theorem dX10_mergesOwn_36 : decode cX10_mergesOwn 36 = .ok (.return_, 1) := by decide +kernel
theorem dX10_mergesOwn_37 : decode cX10_mergesOwn 37 = .ok (.aload_n 0, 1) := by decide +kernel
theorem dX10_mergesOwn_38 : decode cX10_mergesOwn 38 = .ok (.getfield 38, 3) := by decide +kernel
theorem dX10_mergesOwn_41 : decode cX10_mergesOwn 41 = .ok (.iload_n 2, 1) := by decide +kernel
theorem dX10_mergesOwn_42 : decode cX10_mergesOwn 42 = .ok (.iload_n 3, 1) := by decide +kernel
theorem dX10_mergesOwn_43 : decode cX10_mergesOwn 43 = .ok (.ifCond .eq 7, 3) := by decide +kernel
theorem dX10_mergesOwn_46 : decode cX10_mergesOwn 46 = .ok (.iload_n 2, 1) := by decide +kernel
theorem dX10_mergesOwn_47 : decode cX10_mergesOwn 47 = .ok (.goto 4, 3) := by decide +kernel
theorem dX10_mergesOwn_50 : decode cX10_mergesOwn 50 = .ok (.iconst (-1), 1) := by decide +kernel
theorem dX10_mergesOwn_51 : decode cX10_mergesOwn 51 = .ok (.iastore, 1) := by decide +kernel
theorem dX10_mergesOwn_52 : decode cX10_mergesOwn 52 = .ok (.aload_n 0, 1) := by decide +kernel
theorem dX10_mergesOwn_53 : decode cX10_mergesOwn 53 = .ok (.getfield 38, 3) := by decide +kernel
theorem dX10_mergesOwn_56 : decode cX10_mergesOwn 56 = .ok (.bipush 9, 2) := by decide +kernel
theorem dX10_mergesOwn_58 : decode cX10_mergesOwn 58 = .ok (.iload_n 2, 1) := by decide +kernel
theorem dX10_mergesOwn_59 : decode cX10_mergesOwn 59 = .ok (.iadd, 1) := by decide +kernel
theorem dX10_mergesOwn_60 : decode cX10_mergesOwn 60 = .ok (.iload 4, 2) := by decide +kernel
theorem dX10_mergesOwn_62 : decode cX10_mergesOwn 62 = .ok (.ifCond .eq 7, 3) := by decide +kernel
theorem dX10_mergesOwn_65 : decode cX10_mergesOwn 65 = .ok (.iload_n 2, 1) := by decide +kernel
theorem dX10_mergesOwn_66 : decode cX10_mergesOwn 66 = .ok (.goto 4, 3) := by decide +kernel
theorem dX10_mergesOwn_69 : decode cX10_mergesOwn 69 = .ok (.iconst (-1), 1) := by decide +kernel
theorem dX10_mergesOwn_70 : decode cX10_mergesOwn 70 = .ok (.iastore, 1) := by decide +kernel
theorem dX10_mergesOwn_71 : decode cX10_mergesOwn 71 = .ok (.iload_n 3, 1) := by decide +kernel
theorem dX10_mergesOwn_72 : decode cX10_mergesOwn 72 = .ok (.ifCond .eq 30, 3) := by decide +kernel
theorem dX10_mergesOwn_75 : decode cX10_mergesOwn 75 = .ok (.iload 4, 2) := by decide +kernel
theorem dX10_mergesOwn_77 : decode cX10_mergesOwn 77 = .ok (.ifCond .eq 25, 3) := by decide +kernel
theorem dX10_mergesOwn_80 : decode cX10_mergesOwn 80 = .ok (.aload_n 0, 1) := by decide +kernel
theorem dX10_mergesOwn_81 : decode cX10_mergesOwn 81 = .ok (.iload_n 1, 1) := by decide +kernel
theorem dX10_mergesOwn_82 : decode cX10_mergesOwn 82 = .ok (.iload_n 2, 1) := by decide +kernel
theorem dX10_mergesOwn_83 : decode cX10_mergesOwn 83 = .ok (.invokevirtual 298, 3) := by decide +kernel
theorem dX10_mergesOwn_86 : decode cX10_mergesOwn 86 = .ok (.istore 5, 2) := by decide +kernel
theorem dX10_mergesOwn_88 : decode cX10_mergesOwn 88 = .ok (.aload_n 0, 1) := by decide +kernel
theorem dX10_mergesOwn_89 : decode cX10_mergesOwn 89 = .ok (.iload_n 2, 1) := by decide +kernel
theorem dX10_mergesOwn_90 : decode cX10_mergesOwn 90 = .ok (.iload 5, 2) := by decide +kernel
theorem dX10_mergesOwn_92 : decode cX10_mergesOwn 92 = .ok (.aload_n 0, 1) := by decide +kernel
theorem dX10_mergesOwn_93 : decode cX10_mergesOwn 93 = .ok (.iload_n 1, 1) := by decide +kernel
theorem dX10_mergesOwn_94 : decode cX10_mergesOwn 94 = .ok (.iload_n 2, 1) := by decide +kernel
theorem dX10_mergesOwn_95 : decode cX10_mergesOwn 95 = .ok (.invokevirtual 301, 3) := by decide +kernel
theorem dX10_mergesOwn_98 : decode cX10_mergesOwn 98 = .ok (.invokevirtual 304, 3) := by decide +kernel
theorem dX10_mergesOwn_101 : decode cX10_mergesOwn 101 = .ok (.return_, 1) := by decide +kernel
theorem dX10_mergesOwn_102 : decode cX10_mergesOwn 102 = .ok (.iload_n 3, 1) := by decide +kernel
theorem dX10_mergesOwn_103 : decode cX10_mergesOwn 103 = .ok (.ifCond .eq 7, 3) := by decide +kernel
theorem dX10_mergesOwn_106 : decode cX10_mergesOwn 106 = .ok (.iconst 0, 1) := by decide +kernel
theorem dX10_mergesOwn_107 : decode cX10_mergesOwn 107 = .ok (.goto 4, 3) := by decide +kernel
theorem dX10_mergesOwn_110 : decode cX10_mergesOwn 110 = .ok (.iconst 1, 1) := by decide +kernel
theorem dX10_mergesOwn_111 : decode cX10_mergesOwn 111 = .ok (.istore 5, 2) := by decide +kernel
theorem dX10_mergesOwn_113 : decode cX10_mergesOwn 113 = .ok (.aload_n 0, 1) := by decide +kernel
theorem dX10_mergesOwn_114 : decode cX10_mergesOwn 114 = .ok (.iload_n 1, 1) := by decide +kernel
theorem dX10_mergesOwn_115 : decode cX10_mergesOwn 115 = .ok (.iload 5, 2) := by decide +kernel
theorem dX10_mergesOwn_117 : decode cX10_mergesOwn 117 = .ok (.iload_n 2, 1) := by decide +kernel
theorem dX10_mergesOwn_118 : decode cX10_mergesOwn 118 = .ok (.invokevirtual 308, 3) := by decide +kernel
theorem dX10_mergesOwn_121 : decode cX10_mergesOwn 121 = .ok (.ifCond .eq 38, 3) := by decide +kernel
theorem dX10_mergesOwn_124 : decode cX10_mergesOwn 124 = .ok (.aload_n 0, 1) := by decide +kernel
theorem dX10_mergesOwn_125 : decode cX10_mergesOwn 125 = .ok (.iload_n 1, 1) := by decide +kernel
theorem dX10_mergesOwn_126 : decode cX10_mergesOwn 126 = .ok (.iconst 0, 1) := by decide +kernel
theorem dX10_mergesOwn_127 : decode cX10_mergesOwn 127 = .ok (.iload_n 2, 1) := by decide +kernel
theorem dX10_mergesOwn_128 : decode cX10_mergesOwn 128 = .ok (.iconst 0, 1) := by decide +kernel
theorem dX10_mergesOwn_129 : decode cX10_mergesOwn 129 = .ok (.iconst (-1), 1) := by decide +kernel
theorem dX10_mergesOwn_130 : decode cX10_mergesOwn 130 = .ok (.iconst (-1), 1) := by decide +kernel
theorem dX10_mergesOwn_131 : decode cX10_mergesOwn 131 = .ok (.invokevirtual 294, 3) := by decide +kernel
theorem dX10_mergesOwn_134 : decode cX10_mergesOwn 134 = .ok (.iconst 1, 1) := by decide +kernel
theorem dX10_mergesOwn_135 : decode cX10_mergesOwn 135 = .ok (.if_icmp .eq 24, 3) := by decide +kernel
theorem dX10_mergesOwn_138 : decode cX10_mergesOwn 138 = .ok (.aload_n 0, 1) := by decide +kernel
theorem dX10_mergesOwn_139 : decode cX10_mergesOwn 139 = .ok (.iload_n 2, 1) := by decide +kernel
theorem dX10_mergesOwn_140 : decode cX10_mergesOwn 140 = .ok (.aload_n 0, 1) := by decide +kernel
theorem dX10_mergesOwn_141 : decode cX10_mergesOwn 141 = .ok (.iload_n 1, 1) := by decide +kernel
theorem dX10_mergesOwn_142 : decode cX10_mergesOwn 142 = .ok (.iload 5, 2) := by decide +kernel
theorem dX10_mergesOwn_144 : decode cX10_mergesOwn 144 = .ok (.iload_n 2, 1) := by decide +kernel
theorem dX10_mergesOwn_145 : decode cX10_mergesOwn 145 = .ok (.invokevirtual 237, 3) := by decide +kernel
theorem dX10_mergesOwn_148 : decode cX10_mergesOwn 148 = .ok (.aload_n 0, 1) := by decide +kernel
theorem dX10_mergesOwn_149 : decode cX10_mergesOwn 149 = .ok (.iload_n 1, 1) := by decide +kernel
theorem dX10_mergesOwn_150 : decode cX10_mergesOwn 150 = .ok (.iload 5, 2) := by decide +kernel
theorem dX10_mergesOwn_152 : decode cX10_mergesOwn 152 = .ok (.iload_n 2, 1) := by decide +kernel
theorem dX10_mergesOwn_153 : decode cX10_mergesOwn 153 = .ok (.invokevirtual 166, 3) := by decide +kernel
theorem dX10_mergesOwn_156 : decode cX10_mergesOwn 156 = .ok (.invokevirtual 304, 3) := by decide +kernel
theorem dX10_mergesOwn_159 : decode cX10_mergesOwn 159 = .ok (.return_, 1) := by decide +kernel
theorem dX10_mergesAdded_0 : decode cX10_mergesAdded 0 = .ok (.iconst 5, 1) := by decide +kernel
theorem dX10_mergesAdded_1 : decode cX10_mergesAdded 1 = .ok (.istore_n 2, 1) := by decide +kernel
theorem dX10_mergesAdded_2 : decode cX10_mergesAdded 2 = .ok (.iload_n 2, 1) := by decide +kernel
theorem dX10_mergesAdded_3 : decode cX10_mergesAdded 3 = .ok (.bipush 7, 2) := by decide +kernel
theorem dX10_mergesAdded_5 : decode cX10_mergesAdded 5 = .ok (.if_icmp .ge 48, 3) := by decide +kernel
theorem dX10_mergesAdded_8 : decode cX10_mergesAdded 8 = .ok (.aload_n 0, 1) := by decide +kernel
theorem dX10_mergesAdded_9 : decode cX10_mergesAdded 9 = .ok (.iload_n 1, 1) := by decide +kernel
theorem dX10_mergesAdded_10 : decode cX10_mergesAdded 10 = .ok (.iconst 0, 1) := by decide +kernel
theorem dX10_mergesAdded_11 : decode cX10_mergesAdded 11 = .ok (.iload_n 2, 1) := by decide +kernel
theorem dX10_mergesAdded_12 : decode cX10_mergesAdded 12 = .ok (.invokevirtual 234, 3) := by decide +kernel
theorem dX10_mergesAdded_15 : decode cX10_mergesAdded 15 = .ok (.ifCond .ne 6, 3) := by decide +kernel
theorem dX10_mergesAdded_18 : decode cX10_mergesAdded 18 = .ok (.goto 29, 3) := by decide +kernel
theorem dX10_mergesAdded_21 : decode cX10_mergesAdded 21 = .ok (.aload_n 0, 1) := by decide +kernel
theorem dX10_mergesAdded_22 : decode cX10_mergesAdded 22 = .ok (.getfield 38, 3) := by decide +kernel
theorem dX10_mergesAdded_25 : decode cX10_mergesAdded 25 = .ok (.iload_n 2, 1) := by decide +kernel
theorem dX10_mergesAdded_26 : decode cX10_mergesAdded 26 = .ok (.iload_n 2, 1) := by decide +kernel
theorem dX10_mergesAdded_27 : decode cX10_mergesAdded 27 = .ok (.iastore, 1) := by decide +kernel
theorem dX10_mergesAdded_28 : decode cX10_mergesAdded 28 = .ok (.aload_n 0, 1) := by decide +kernel
theorem dX10_mergesAdded_29 : decode cX10_mergesAdded 29 = .ok (.iload_n 2, 1) := by decide +kernel
theorem dX10_mergesAdded_30 : decode cX10_mergesAdded 30 = .ok (.aload_n 0, 1) := by decide +kernel
theorem dX10_mergesAdded_31 : decode cX10_mergesAdded 31 = .ok (.iload_n 1, 1) := by decide +kernel
theorem dX10_mergesAdded_32 : decode cX10_mergesAdded 32 = .ok (.iconst 0, 1) := by decide +kernel
theorem dX10_mergesAdded_33 : decode cX10_mergesAdded 33 = .ok (.iload_n 2, 1) := by decide +kernel
theorem dX10_mergesAdded_34 : decode cX10_mergesAdded 34 = .ok (.invokevirtual 237, 3) := by decide +kernel
theorem dX10_mergesAdded_37 : decode cX10_mergesAdded 37 = .ok (.aload_n 0, 1) := by decide +kernel
theorem dX10_mergesAdded_38 : decode cX10_mergesAdded 38 = .ok (.iload_n 1, 1) := by decide +kernel
theorem dX10_mergesAdded_39 : decode cX10_mergesAdded 39 = .ok (.iconst 0, 1) := by decide +kernel
theorem dX10_mergesAdded_40 : decode cX10_mergesAdded 40 = .ok (.iload_n 2, 1) := by decide +kernel
theorem dX10_mergesAdded_41 : decode cX10_mergesAdded 41 = .ok (.invokevirtual 166, 3) := by decide +kernel
theorem dX10_mergesAdded_44 : decode cX10_mergesAdded 44 = .ok (.invokevirtual 304, 3) := by decide +kernel
theorem dX10_mergesAdded_47 : decode cX10_mergesAdded 47 = .ok (.iinc 2 1, 3) := by decide +kernel
theorem dX10_mergesAdded_50 : decode cX10_mergesAdded 50 = .ok (.goto (-48), 3) := by decide +kernel
theorem dX10_mergesAdded_53 : decode cX10_mergesAdded 53 = .ok (.bipush 7, 2) := by decide +kernel
theorem dX10_mergesAdded_55 : decode cX10_mergesAdded 55 = .ok (.istore_n 2, 1) := by decide +kernel
theorem dX10_mergesAdded_56 : decode cX10_mergesAdded 56 = .ok (.iload_n 2, 1) := by decide +kernel
theorem dX10_mergesAdded_57 : decode cX10_mergesAdded 57 = .ok (.bipush 9, 2) := by decide +kernel
theorem dX10_mergesAdded_59 : decode cX10_mergesAdded 59 = .ok (.if_icmp .ge 136, 3) := by decide +kernel
theorem dX10_mergesAdded_62 : decode cX10_mergesAdded 62 = .ok (.aload_n 0, 1) := by decide +kernel
theorem dX10_mergesAdded_63 : decode cX10_mergesAdded 63 = .ok (.iload_n 1, 1) := by decide +kernel
theorem dX10_mergesAdded_64 : decode cX10_mergesAdded 64 = .ok (.iconst 1, 1) := by decide +kernel
theorem dX10_mergesAdded_65 : decode cX10_mergesAdded 65 = .ok (.iload_n 2, 1) := by decide +kernel
theorem dX10_mergesAdded_66 : decode cX10_mergesAdded 66 = .ok (.invokevirtual 234, 3) := by decide +kernel
theorem dX10_mergesAdded_69 : decode cX10_mergesAdded 69 = .ok (.ifCond .ne 6, 3) := by decide +kernel
theorem dX10_mergesAdded_72 : decode cX10_mergesAdded 72 = .ok (.goto 117, 3) := by decide +kernel
theorem dX10_mergesAdded_75 : decode cX10_mergesAdded 75 = .ok (.iload_n 2, 1) := by decide +kernel
theorem dX10_mergesAdded_76 : decode cX10_mergesAdded 76 = .ok (.istore_n 3, 1) := by decide +kernel
theorem dX10_mergesAdded_77 : decode cX10_mergesAdded 77 = .ok (.bipush 6, 2) := by decide +kernel
theorem dX10_mergesAdded_79 : decode cX10_mergesAdded 79 = .ok (.istore 4, 2) := by decide +kernel
theorem dX10_mergesAdded_81 : decode cX10_mergesAdded 81 = .ok (.iload 4, 2) := by decide +kernel
theorem dX10_mergesAdded_83 : decode cX10_mergesAdded 83 = .ok (.iconst 5, 1) := by decide +kernel
theorem dX10_mergesAdded_84 : decode cX10_mergesAdded 84 = .ok (.if_icmp .lt 71, 3) := by decide +kernel
theorem dX10_mergesAdded_87 : decode cX10_mergesAdded 87 = .ok (.aload_n 0, 1) := by decide +kernel
theorem dX10_mergesAdded_88 : decode cX10_mergesAdded 88 = .ok (.iload_n 1, 1) := by decide +kernel
theorem dX10_mergesAdded_89 : decode cX10_mergesAdded 89 = .ok (.iconst 0, 1) := by decide +kernel
theorem dX10_mergesAdded_90 : decode cX10_mergesAdded 90 = .ok (.iload 4, 2) := by decide +kernel
theorem dX10_mergesAdded_92 : decode cX10_mergesAdded 92 = .ok (.invokevirtual 234, 3) := by decide +kernel
theorem dX10_mergesAdded_95 : decode cX10_mergesAdded 95 = .ok (.ifCond .eq 54, 3) := by decide +kernel
theorem dX10_mergesAdded_98 : decode cX10_mergesAdded 98 = .ok (.aload_n 0, 1) := by decide +kernel
theorem dX10_mergesAdded_99 : decode cX10_mergesAdded 99 = .ok (.getfield 38, 3) := by decide +kernel
theorem dX10_mergesAdded_102 : decode cX10_mergesAdded 102 = .ok (.bipush 9, 2) := by decide +kernel
theorem dX10_mergesAdded_104 : decode cX10_mergesAdded 104 = .ok (.iload 4, 2) := by decide +kernel
theorem dX10_mergesAdded_106 : decode cX10_mergesAdded 106 = .ok (.iadd, 1) := by decide +kernel
theorem dX10_mergesAdded_107 : decode cX10_mergesAdded 107 = .ok (.iaload, 1) := by decide +kernel
theorem dX10_mergesAdded_108 : decode cX10_mergesAdded 108 = .ok (.iconst (-1), 1) := by decide +kernel
theorem dX10_mergesAdded_109 : decode cX10_mergesAdded 109 = .ok (.if_icmp .ne 40, 3) := by decide +kernel
theorem dX10_mergesAdded_112 : decode cX10_mergesAdded 112 = .ok (.aload_n 0, 1) := by decide +kernel
theorem dX10_mergesAdded_113 : decode cX10_mergesAdded 113 = .ok (.getfield 26, 3) := by decide +kernel
theorem dX10_mergesAdded_116 : decode cX10_mergesAdded 116 = .ok (.iload 4, 2) := by decide +kernel
theorem dX10_mergesAdded_118 : decode cX10_mergesAdded 118 = .ok (.iaload, 1) := by decide +kernel
theorem dX10_mergesAdded_119 : decode cX10_mergesAdded 119 = .ok (.aload_n 0, 1) := by decide +kernel
theorem dX10_mergesAdded_120 : decode cX10_mergesAdded 120 = .ok (.iload_n 1, 1) := by decide +kernel
theorem dX10_mergesAdded_121 : decode cX10_mergesAdded 121 = .ok (.iconst 1, 1) := by decide +kernel
theorem dX10_mergesAdded_122 : decode cX10_mergesAdded 122 = .ok (.iload_n 2, 1) := by decide +kernel
theorem dX10_mergesAdded_123 : decode cX10_mergesAdded 123 = .ok (.invokevirtual 237, 3) := by decide +kernel
theorem dX10_mergesAdded_126 : decode cX10_mergesAdded 126 = .ok (.if_icmp .ne 23, 3) := by decide +kernel
theorem dX10_mergesAdded_129 : decode cX10_mergesAdded 129 = .ok (.aload_n 0, 1) := by decide +kernel
theorem dX10_mergesAdded_130 : decode cX10_mergesAdded 130 = .ok (.getfield 29, 3) := by decide +kernel
theorem dX10_mergesAdded_133 : decode cX10_mergesAdded 133 = .ok (.iload 4, 2) := by decide +kernel
theorem dX10_mergesAdded_135 : decode cX10_mergesAdded 135 = .ok (.iaload, 1) := by decide +kernel
theorem dX10_mergesAdded_136 : decode cX10_mergesAdded 136 = .ok (.aload_n 0, 1) := by decide +kernel
theorem dX10_mergesAdded_137 : decode cX10_mergesAdded 137 = .ok (.iload_n 1, 1) := by decide +kernel
theorem dX10_mergesAdded_138 : decode cX10_mergesAdded 138 = .ok (.iconst 1, 1) := by decide +kernel
theorem dX10_mergesAdded_139 : decode cX10_mergesAdded 139 = .ok (.iload_n 2, 1) := by decide +kernel
theorem dX10_mergesAdded_140 : decode cX10_mergesAdded 140 = .ok (.invokevirtual 166, 3) := by decide +kernel
theorem dX10_mergesAdded_143 : decode cX10_mergesAdded 143 = .ok (.if_icmp .ne 6, 3) := by decide +kernel
theorem dX10_mergesAdded_146 : decode cX10_mergesAdded 146 = .ok (.iload 4, 2) := by decide +kernel
theorem dX10_mergesAdded_148 : decode cX10_mergesAdded 148 = .ok (.istore_n 3, 1) := by decide +kernel
theorem dX10_mergesAdded_149 : decode cX10_mergesAdded 149 = .ok (.iinc 4 (-1), 3) := by decide +kernel
theorem dX10_mergesAdded_152 : decode cX10_mergesAdded 152 = .ok (.goto (-71), 3) := by decide +kernel
theorem dX10_mergesAdded_155 : decode cX10_mergesAdded 155 = .ok (.aload_n 0, 1) := by decide +kernel
theorem dX10_mergesAdded_156 : decode cX10_mergesAdded 156 = .ok (.getfield 38, 3) := by decide +kernel
theorem dX10_mergesAdded_159 : decode cX10_mergesAdded 159 = .ok (.bipush 9, 2) := by decide +kernel
theorem dX10_mergesAdded_161 : decode cX10_mergesAdded 161 = .ok (.iload_n 3, 1) := by decide +kernel
theorem dX10_mergesAdded_162 : decode cX10_mergesAdded 162 = .ok (.iadd, 1) := by decide +kernel
theorem dX10_mergesAdded_163 : decode cX10_mergesAdded 163 = .ok (.iload_n 2, 1) := by decide +kernel
theorem dX10_mergesAdded_164 : decode cX10_mergesAdded 164 = .ok (.iastore, 1) := by decide +kernel
theorem dX10_mergesAdded_165 : decode cX10_mergesAdded 165 = .ok (.iload_n 3, 1) := by decide +kernel
theorem dX10_mergesAdded_166 : decode cX10_mergesAdded 166 = .ok (.iload_n 2, 1) := by decide +kernel
theorem dX10_mergesAdded_167 : decode cX10_mergesAdded 167 = .ok (.if_icmp .ne 22, 3) := by decide +kernel
theorem dX10_mergesAdded_170 : decode cX10_mergesAdded 170 = .ok (.aload_n 0, 1) := by decide +kernel
theorem dX10_mergesAdded_171 : decode cX10_mergesAdded 171 = .ok (.iload_n 2, 1) := by decide +kernel
theorem dX10_mergesAdded_172 : decode cX10_mergesAdded 172 = .ok (.aload_n 0, 1) := by decide +kernel
theorem dX10_mergesAdded_173 : decode cX10_mergesAdded 173 = .ok (.iload_n 1, 1) := by decide +kernel
theorem dX10_mergesAdded_174 : decode cX10_mergesAdded 174 = .ok (.iconst 1, 1) := by decide +kernel
theorem dX10_mergesAdded_175 : decode cX10_mergesAdded 175 = .ok (.iload_n 2, 1) := by decide +kernel
theorem dX10_mergesAdded_176 : decode cX10_mergesAdded 176 = .ok (.invokevirtual 237, 3) := by decide +kernel
theorem dX10_mergesAdded_179 : decode cX10_mergesAdded 179 = .ok (.aload_n 0, 1) := by decide +kernel
theorem dX10_mergesAdded_180 : decode cX10_mergesAdded 180 = .ok (.iload_n 1, 1) := by decide +kernel
theorem dX10_mergesAdded_181 : decode cX10_mergesAdded 181 = .ok (.iconst 1, 1) := by decide +kernel
theorem dX10_mergesAdded_182 : decode cX10_mergesAdded 182 = .ok (.iload_n 2, 1) := by decide +kernel
theorem dX10_mergesAdded_183 : decode cX10_mergesAdded 183 = .ok (.invokevirtual 166, 3) := by decide +kernel
theorem dX10_mergesAdded_186 : decode cX10_mergesAdded 186 = .ok (.invokevirtual 304, 3) := by decide +kernel
theorem dX10_mergesAdded_189 : decode cX10_mergesAdded 189 = .ok (.iinc 2 1, 3) := by decide +kernel
theorem dX10_mergesAdded_192 : decode cX10_mergesAdded 192 = .ok (.goto (-136), 3) := by decide +kernel
theorem dX10_mergesAdded_195 : decode cX10_mergesAdded 195 = .ok (.return_, 1) := by decide +kernel
theorem dX10_isNamed_0 : decode cX10_isNamed 0 = .ok (.iconst 0, 1) := by decide +kernel
theorem dX10_isNamed_1 : decode cX10_isNamed 1 = .ok (.istore_n 3, 1) := by decide +kernel
theorem dX10_isNamed_2 : decode cX10_isNamed 2 = .ok (.iload_n 3, 1) := by decide +kernel
theorem dX10_isNamed_3 : decode cX10_isNamed 3 = .ok (.iload_n 2, 1) := by decide +kernel
theorem dX10_isNamed_4 : decode cX10_isNamed 4 = .ok (.if_icmp .ge 33, 3) := by decide +kernel
theorem dX10_isNamed_7 : decode cX10_isNamed 7 = .ok (.aload_n 0, 1) := by decide +kernel
theorem dX10_isNamed_8 : decode cX10_isNamed 8 = .ok (.getfield 291, 3) := by decide +kernel
theorem dX10_isNamed_11 : decode cX10_isNamed 11 = .ok (.iload_n 3, 1) := by decide +kernel
theorem dX10_isNamed_12 : decode cX10_isNamed 12 = .ok (.ishr, 1) := by decide +kernel
theorem dX10_isNamed_13 : decode cX10_isNamed 13 = .ok (.iconst 1, 1) := by decide +kernel
theorem dX10_isNamed_14 : decode cX10_isNamed 14 = .ok (.iand, 1) := by decide +kernel
theorem dX10_isNamed_15 : decode cX10_isNamed 15 = .ok (.iconst 1, 1) := by decide +kernel
theorem dX10_isNamed_16 : decode cX10_isNamed 16 = .ok (.if_icmp .ne 15, 3) := by decide +kernel
theorem dX10_isNamed_19 : decode cX10_isNamed 19 = .ok (.aload_n 0, 1) := by decide +kernel
theorem dX10_isNamed_20 : decode cX10_isNamed 20 = .ok (.getfield 26, 3) := by decide +kernel
theorem dX10_isNamed_23 : decode cX10_isNamed 23 = .ok (.iload_n 3, 1) := by decide +kernel
theorem dX10_isNamed_24 : decode cX10_isNamed 24 = .ok (.iaload, 1) := by decide +kernel
theorem dX10_isNamed_25 : decode cX10_isNamed 25 = .ok (.iload_n 1, 1) := by decide +kernel
theorem dX10_isNamed_26 : decode cX10_isNamed 26 = .ok (.if_icmp .ne 5, 3) := by decide +kernel
theorem dX10_isNamed_29 : decode cX10_isNamed 29 = .ok (.iconst 1, 1) := by decide +kernel
theorem dX10_isNamed_30 : decode cX10_isNamed 30 = .ok (.ireturn, 1) := by decide +kernel
theorem dX10_isNamed_31 : decode cX10_isNamed 31 = .ok (.iinc 3 1, 3) := by decide +kernel
theorem dX10_isNamed_34 : decode cX10_isNamed 34 = .ok (.goto (-32), 3) := by decide +kernel
theorem dX10_isNamed_37 : decode cX10_isNamed 37 = .ok (.iconst 0, 1) := by decide +kernel
theorem dX10_isNamed_38 : decode cX10_isNamed 38 = .ok (.ireturn, 1) := by decide +kernel
theorem dX10_mergesNames_0 : decode cX10_mergesNames 0 = .ok (.iconst 0, 1) := by decide +kernel
theorem dX10_mergesNames_1 : decode cX10_mergesNames 1 = .ok (.istore_n 2, 1) := by decide +kernel
theorem dX10_mergesNames_2 : decode cX10_mergesNames 2 = .ok (.iload_n 2, 1) := by decide +kernel
theorem dX10_mergesNames_3 : decode cX10_mergesNames 3 = .ok (.bipush 9, 2) := by decide +kernel
theorem dX10_mergesNames_5 : decode cX10_mergesNames 5 = .ok (.if_icmp .ge 102, 3) := by decide +kernel
theorem dX10_mergesNames_8 : decode cX10_mergesNames 8 = .ok (.aload_n 0, 1) := by decide +kernel
theorem dX10_mergesNames_9 : decode cX10_mergesNames 9 = .ok (.getfield 291, 3) := by decide +kernel
theorem dX10_mergesNames_12 : decode cX10_mergesNames 12 = .ok (.iload_n 2, 1) := by decide +kernel
theorem dX10_mergesNames_13 : decode cX10_mergesNames 13 = .ok (.ishr, 1) := by decide +kernel
theorem dX10_mergesNames_14 : decode cX10_mergesNames 14 = .ok (.iconst 1, 1) := by decide +kernel
theorem dX10_mergesNames_15 : decode cX10_mergesNames 15 = .ok (.iand, 1) := by decide +kernel
theorem dX10_mergesNames_16 : decode cX10_mergesNames 16 = .ok (.ifCond .eq 85, 3) := by decide +kernel
theorem dX10_mergesNames_19 : decode cX10_mergesNames 19 = .ok (.aload_n 0, 1) := by decide +kernel
theorem dX10_mergesNames_20 : decode cX10_mergesNames 20 = .ok (.aload_n 0, 1) := by decide +kernel
theorem dX10_mergesNames_21 : decode cX10_mergesNames 21 = .ok (.getfield 26, 3) := by decide +kernel
theorem dX10_mergesNames_24 : decode cX10_mergesNames 24 = .ok (.iload_n 2, 1) := by decide +kernel
theorem dX10_mergesNames_25 : decode cX10_mergesNames 25 = .ok (.iaload, 1) := by decide +kernel
theorem dX10_mergesNames_26 : decode cX10_mergesNames 26 = .ok (.iload_n 2, 1) := by decide +kernel
theorem dX10_mergesNames_27 : decode cX10_mergesNames 27 = .ok (.invokevirtual 311, 3) := by decide +kernel
theorem dX10_mergesNames_30 : decode cX10_mergesNames 30 = .ok (.ifCond .ne 6, 3) := by decide +kernel
theorem dX10_mergesNames_33 : decode cX10_mergesNames 33 = .ok (.goto 68, 3) := by decide +kernel
theorem dX10_mergesNames_36 : decode cX10_mergesNames 36 = .ok (.aload_n 0, 1) := by decide +kernel
theorem dX10_mergesNames_37 : decode cX10_mergesNames 37 = .ok (.iload_n 1, 1) := by decide +kernel
theorem dX10_mergesNames_38 : decode cX10_mergesNames 38 = .ok (.iconst 3, 1) := by decide +kernel
theorem dX10_mergesNames_39 : decode cX10_mergesNames 39 = .ok (.iload_n 2, 1) := by decide +kernel
theorem dX10_mergesNames_40 : decode cX10_mergesNames 40 = .ok (.iconst 0, 1) := by decide +kernel
theorem dX10_mergesNames_41 : decode cX10_mergesNames 41 = .ok (.iconst (-1), 1) := by decide +kernel
theorem dX10_mergesNames_42 : decode cX10_mergesNames 42 = .ok (.iconst (-1), 1) := by decide +kernel
theorem dX10_mergesNames_43 : decode cX10_mergesNames 43 = .ok (.invokevirtual 294, 3) := by decide +kernel
theorem dX10_mergesNames_46 : decode cX10_mergesNames 46 = .ok (.istore_n 3, 1) := by decide +kernel
theorem dX10_mergesNames_47 : decode cX10_mergesNames 47 = .ok (.iload_n 3, 1) := by decide +kernel
theorem dX10_mergesNames_48 : decode cX10_mergesNames 48 = .ok (.iconst 1, 1) := by decide +kernel
theorem dX10_mergesNames_49 : decode cX10_mergesNames 49 = .ok (.if_icmp .ne 17, 3) := by decide +kernel
theorem dX10_mergesNames_52 : decode cX10_mergesNames 52 = .ok (.aload_n 0, 1) := by decide +kernel
theorem dX10_mergesNames_53 : decode cX10_mergesNames 53 = .ok (.dup, 1) := by decide +kernel
theorem dX10_mergesNames_54 : decode cX10_mergesNames 54 = .ok (.getfield 291, 3) := by decide +kernel
theorem dX10_mergesNames_57 : decode cX10_mergesNames 57 = .ok (.iconst 1, 1) := by decide +kernel
theorem dX10_mergesNames_58 : decode cX10_mergesNames 58 = .ok (.iload_n 2, 1) := by decide +kernel
theorem dX10_mergesNames_59 : decode cX10_mergesNames 59 = .ok (.ishl, 1) := by decide +kernel
theorem dX10_mergesNames_60 : decode cX10_mergesNames 60 = .ok (.iconst (-1), 1) := by decide +kernel
theorem dX10_mergesNames_61 : decode cX10_mergesNames 61 = .ok (.ixor, 1) := by decide +kernel
theorem dX10_mergesNames_62 : decode cX10_mergesNames 62 = .ok (.iand, 1) := by decide +kernel
theorem dX10_mergesNames_63 : decode cX10_mergesNames 63 = .ok (.putfield 291, 3) := by decide +kernel
theorem dX10_mergesNames_66 : decode cX10_mergesNames 66 = .ok (.iload_n 3, 1) := by decide +kernel
theorem dX10_mergesNames_67 : decode cX10_mergesNames 67 = .ok (.ifCond .eq 6, 3) := by decide +kernel
theorem dX10_mergesNames_70 : decode cX10_mergesNames 70 = .ok (.goto 31, 3) := by decide +kernel
theorem dX10_mergesNames_73 : decode cX10_mergesNames 73 = .ok (.iconst 0, 1) := by decide +kernel
theorem dX10_mergesNames_74 : decode cX10_mergesNames 74 = .ok (.istore 4, 2) := by decide +kernel
theorem dX10_mergesNames_76 : decode cX10_mergesNames 76 = .ok (.aload_n 0, 1) := by decide +kernel
theorem dX10_mergesNames_77 : decode cX10_mergesNames 77 = .ok (.iload 4, 2) := by decide +kernel
theorem dX10_mergesNames_79 : decode cX10_mergesNames 79 = .ok (.bipush 9, 2) := by decide +kernel
theorem dX10_mergesNames_81 : decode cX10_mergesNames 81 = .ok (.invokevirtual 311, 3) := by decide +kernel
theorem dX10_mergesNames_84 : decode cX10_mergesNames 84 = .ok (.ifCond .eq 9, 3) := by decide +kernel
theorem dX10_mergesNames_87 : decode cX10_mergesNames 87 = .ok (.iinc 4 1, 3) := by decide +kernel
theorem dX10_mergesNames_90 : decode cX10_mergesNames 90 = .ok (.goto (-14), 3) := by decide +kernel
theorem dX10_mergesNames_93 : decode cX10_mergesNames 93 = .ok (.aload_n 0, 1) := by decide +kernel
theorem dX10_mergesNames_94 : decode cX10_mergesNames 94 = .ok (.getfield 26, 3) := by decide +kernel
theorem dX10_mergesNames_97 : decode cX10_mergesNames 97 = .ok (.iload_n 2, 1) := by decide +kernel
theorem dX10_mergesNames_98 : decode cX10_mergesNames 98 = .ok (.iload 4, 2) := by decide +kernel
theorem dX10_mergesNames_100 : decode cX10_mergesNames 100 = .ok (.iastore, 1) := by decide +kernel
theorem dX10_mergesNames_101 : decode cX10_mergesNames 101 = .ok (.iinc 2 1, 3) := by decide +kernel
theorem dX10_mergesNames_104 : decode cX10_mergesNames 104 = .ok (.goto (-102), 3) := by decide +kernel
theorem dX10_mergesNames_107 : decode cX10_mergesNames 107 = .ok (.return_, 1) := by decide +kernel
theorem dX10_isMergedRow_0 : decode cX10_isMergedRow 0 = .ok (.aload_n 0, 1) := by decide +kernel
theorem dX10_isMergedRow_1 : decode cX10_isMergedRow 1 = .ok (.iload_n 1, 1) := by decide +kernel
theorem dX10_isMergedRow_2 : decode cX10_isMergedRow 2 = .ok (.iconst 0, 1) := by decide +kernel
theorem dX10_isMergedRow_3 : decode cX10_isMergedRow 3 = .ok (.iload_n 2, 1) := by decide +kernel
theorem dX10_isMergedRow_4 : decode cX10_isMergedRow 4 = .ok (.invokevirtual 160, 3) := by decide +kernel
theorem dX10_isMergedRow_7 : decode cX10_isMergedRow 7 = .ok (.istore_n 3, 1) := by decide +kernel
theorem dX10_isMergedRow_8 : decode cX10_isMergedRow 8 = .ok (.aload_n 0, 1) := by decide +kernel
theorem dX10_isMergedRow_9 : decode cX10_isMergedRow 9 = .ok (.iload_n 1, 1) := by decide +kernel
theorem dX10_isMergedRow_10 : decode cX10_isMergedRow 10 = .ok (.iconst 1, 1) := by decide +kernel
theorem dX10_isMergedRow_11 : decode cX10_isMergedRow 11 = .ok (.iload_n 2, 1) := by decide +kernel
theorem dX10_isMergedRow_12 : decode cX10_isMergedRow 12 = .ok (.invokevirtual 160, 3) := by decide +kernel
theorem dX10_isMergedRow_15 : decode cX10_isMergedRow 15 = .ok (.istore 4, 2) := by decide +kernel
theorem dX10_isMergedRow_17 : decode cX10_isMergedRow 17 = .ok (.aload_n 0, 1) := by decide +kernel
theorem dX10_isMergedRow_18 : decode cX10_isMergedRow 18 = .ok (.iload_n 1, 1) := by decide +kernel
theorem dX10_isMergedRow_19 : decode cX10_isMergedRow 19 = .ok (.iconst 2, 1) := by decide +kernel
theorem dX10_isMergedRow_20 : decode cX10_isMergedRow 20 = .ok (.iload_n 2, 1) := by decide +kernel
theorem dX10_isMergedRow_21 : decode cX10_isMergedRow 21 = .ok (.invokevirtual 160, 3) := by decide +kernel
theorem dX10_isMergedRow_24 : decode cX10_isMergedRow 24 = .ok (.ifCond .eq 9, 3) := by decide +kernel
theorem dX10_isMergedRow_27 : decode cX10_isMergedRow 27 = .ok (.iload_n 3, 1) := by decide +kernel
theorem dX10_isMergedRow_28 : decode cX10_isMergedRow 28 = .ok (.iload 4, 2) := by decide +kernel
theorem dX10_isMergedRow_30 : decode cX10_isMergedRow 30 = .ok (.if_icmp .ne 18, 3) := by decide +kernel
theorem dX10_isMergedRow_33 : decode cX10_isMergedRow 33 = .ok (.iload_n 3, 1) := by decide +kernel
theorem dX10_isMergedRow_34 : decode cX10_isMergedRow 34 = .ok (.ifCond .ne 8, 3) := by decide +kernel
theorem dX10_isMergedRow_37 : decode cX10_isMergedRow 37 = .ok (.iload 4, 2) := by decide +kernel
theorem dX10_isMergedRow_39 : decode cX10_isMergedRow 39 = .ok (.ifCond .eq 7, 3) := by decide +kernel
theorem dX10_isMergedRow_42 : decode cX10_isMergedRow 42 = .ok (.iconst 1, 1) := by decide +kernel
theorem dX10_isMergedRow_43 : decode cX10_isMergedRow 43 = .ok (.goto 4, 3) := by decide +kernel
theorem dX10_isMergedRow_46 : decode cX10_isMergedRow 46 = .ok (.iconst 0, 1) := by decide +kernel
theorem dX10_isMergedRow_47 : decode cX10_isMergedRow 47 = .ok (.ireturn, 1) := by decide +kernel
theorem dX10_isMergedRow_48 : decode cX10_isMergedRow 48 = .ok (.aload_n 0, 1) := by decide +kernel
theorem dX10_isMergedRow_49 : decode cX10_isMergedRow 49 = .ok (.iload_n 1, 1) := by decide +kernel
theorem dX10_isMergedRow_50 : decode cX10_isMergedRow 50 = .ok (.iload_n 3, 1) := by decide +kernel
theorem dX10_isMergedRow_51 : decode cX10_isMergedRow 51 = .ok (.ifCond .eq 7, 3) := by decide +kernel
theorem dX10_isMergedRow_54 : decode cX10_isMergedRow 54 = .ok (.iconst 0, 1) := by decide +kernel
theorem dX10_isMergedRow_55 : decode cX10_isMergedRow 55 = .ok (.goto 4, 3) := by decide +kernel
theorem dX10_isMergedRow_58 : decode cX10_isMergedRow 58 = .ok (.iconst 1, 1) := by decide +kernel
theorem dX10_isMergedRow_59 : decode cX10_isMergedRow 59 = .ok (.iload_n 2, 1) := by decide +kernel
theorem dX10_isMergedRow_60 : decode cX10_isMergedRow 60 = .ok (.invokevirtual 314, 3) := by decide +kernel
theorem dX10_isMergedRow_63 : decode cX10_isMergedRow 63 = .ok (.ifCond .eq 21, 3) := by decide +kernel
theorem dX10_isMergedRow_66 : decode cX10_isMergedRow 66 = .ok (.aload_n 0, 1) := by decide +kernel
theorem dX10_isMergedRow_67 : decode cX10_isMergedRow 67 = .ok (.iload_n 1, 1) := by decide +kernel
theorem dX10_isMergedRow_68 : decode cX10_isMergedRow 68 = .ok (.iconst 4, 1) := by decide +kernel
theorem dX10_isMergedRow_69 : decode cX10_isMergedRow 69 = .ok (.iload_n 2, 1) := by decide +kernel
theorem dX10_isMergedRow_70 : decode cX10_isMergedRow 70 = .ok (.iconst 0, 1) := by decide +kernel
theorem dX10_isMergedRow_71 : decode cX10_isMergedRow 71 = .ok (.iconst (-1), 1) := by decide +kernel
theorem dX10_isMergedRow_72 : decode cX10_isMergedRow 72 = .ok (.iconst (-1), 1) := by decide +kernel
theorem dX10_isMergedRow_73 : decode cX10_isMergedRow 73 = .ok (.invokevirtual 294, 3) := by decide +kernel
theorem dX10_isMergedRow_76 : decode cX10_isMergedRow 76 = .ok (.iconst 1, 1) := by decide +kernel
theorem dX10_isMergedRow_77 : decode cX10_isMergedRow 77 = .ok (.if_icmp .eq 7, 3) := by decide +kernel
theorem dX10_isMergedRow_80 : decode cX10_isMergedRow 80 = .ok (.iconst 1, 1) := by decide +kernel
theorem dX10_isMergedRow_81 : decode cX10_isMergedRow 81 = .ok (.goto 4, 3) := by decide +kernel
theorem dX10_isMergedRow_84 : decode cX10_isMergedRow 84 = .ok (.iconst 0, 1) := by decide +kernel
theorem dX10_isMergedRow_85 : decode cX10_isMergedRow 85 = .ok (.ireturn, 1) := by decide +kernel
theorem dX10_isChangedAt_0 : decode cX10_isChangedAt 0 = .ok (.aload_n 0, 1) := by decide +kernel
theorem dX10_isChangedAt_1 : decode cX10_isChangedAt 1 = .ok (.getfield 38, 3) := by decide +kernel
theorem dX10_isChangedAt_4 : decode cX10_isChangedAt 4 = .ok (.bipush 9, 2) := by decide +kernel
theorem dX10_isChangedAt_6 : decode cX10_isChangedAt 6 = .ok (.iload_n 2, 1) := by decide +kernel
theorem dX10_isChangedAt_7 : decode cX10_isChangedAt 7 = .ok (.imul, 1) := by decide +kernel
theorem dX10_isChangedAt_8 : decode cX10_isChangedAt 8 = .ok (.iload 4, 2) := by decide +kernel
theorem dX10_isChangedAt_10 : decode cX10_isChangedAt 10 = .ok (.iadd, 1) := by decide +kernel
theorem dX10_isChangedAt_11 : decode cX10_isChangedAt 11 = .ok (.iaload, 1) := by decide +kernel
theorem dX10_isChangedAt_12 : decode cX10_isChangedAt 12 = .ok (.istore 5, 2) := by decide +kernel
theorem dX10_isChangedAt_14 : decode cX10_isChangedAt 14 = .ok (.iload 5, 2) := by decide +kernel
theorem dX10_isChangedAt_16 : decode cX10_isChangedAt 16 = .ok (.iconst (-1), 1) := by decide +kernel
theorem dX10_isChangedAt_17 : decode cX10_isChangedAt 17 = .ok (.if_icmp .eq 19, 3) := by decide +kernel
theorem dX10_isChangedAt_20 : decode cX10_isChangedAt 20 = .ok (.aload_n 0, 1) := by decide +kernel
theorem dX10_isChangedAt_21 : decode cX10_isChangedAt 21 = .ok (.iload_n 1, 1) := by decide +kernel
theorem dX10_isChangedAt_22 : decode cX10_isChangedAt 22 = .ok (.iload_n 2, 1) := by decide +kernel
theorem dX10_isChangedAt_23 : decode cX10_isChangedAt 23 = .ok (.iload_n 3, 1) := by decide +kernel
theorem dX10_isChangedAt_24 : decode cX10_isChangedAt 24 = .ok (.iload 5, 2) := by decide +kernel
theorem dX10_isChangedAt_26 : decode cX10_isChangedAt 26 = .ok (.invokevirtual 288, 3) := by decide +kernel
theorem dX10_isChangedAt_29 : decode cX10_isChangedAt 29 = .ok (.ifCond .eq 7, 3) := by decide +kernel
theorem dX10_isChangedAt_32 : decode cX10_isChangedAt 32 = .ok (.iconst 1, 1) := by decide +kernel
theorem dX10_isChangedAt_33 : decode cX10_isChangedAt 33 = .ok (.goto 4, 3) := by decide +kernel
theorem dX10_isChangedAt_36 : decode cX10_isChangedAt 36 = .ok (.iconst 0, 1) := by decide +kernel
theorem dX10_isChangedAt_37 : decode cX10_isChangedAt 37 = .ok (.ireturn, 1) := by decide +kernel
theorem dX10_sideCell_0 : decode cX10_sideCell 0 = .ok (.aload_n 0, 1) := by decide +kernel
theorem dX10_sideCell_1 : decode cX10_sideCell 1 = .ok (.getfield 29, 3) := by decide +kernel
theorem dX10_sideCell_4 : decode cX10_sideCell 4 = .ok (.iload 4, 2) := by decide +kernel
theorem dX10_sideCell_6 : decode cX10_sideCell 6 = .ok (.iaload, 1) := by decide +kernel
theorem dX10_sideCell_7 : decode cX10_sideCell 7 = .ok (.aload_n 0, 1) := by decide +kernel
theorem dX10_sideCell_8 : decode cX10_sideCell 8 = .ok (.getfield 20, 3) := by decide +kernel
theorem dX10_sideCell_11 : decode cX10_sideCell 11 = .ok (.iload_n 1, 1) := by decide +kernel
theorem dX10_sideCell_12 : decode cX10_sideCell 12 = .ok (.iload_n 2, 1) := by decide +kernel
theorem dX10_sideCell_13 : decode cX10_sideCell 13 = .ok (.iload_n 3, 1) := by decide +kernel
theorem dX10_sideCell_14 : decode cX10_sideCell 14 = .ok (.aload_n 0, 1) := by decide +kernel
theorem dX10_sideCell_15 : decode cX10_sideCell 15 = .ok (.getfield 38, 3) := by decide +kernel
theorem dX10_sideCell_18 : decode cX10_sideCell 18 = .ok (.bipush 9, 2) := by decide +kernel
theorem dX10_sideCell_20 : decode cX10_sideCell 20 = .ok (.iload_n 2, 1) := by decide +kernel
theorem dX10_sideCell_21 : decode cX10_sideCell 21 = .ok (.imul, 1) := by decide +kernel
theorem dX10_sideCell_22 : decode cX10_sideCell 22 = .ok (.iload 4, 2) := by decide +kernel
theorem dX10_sideCell_24 : decode cX10_sideCell 24 = .ok (.iadd, 1) := by decide +kernel
theorem dX10_sideCell_25 : decode cX10_sideCell 25 = .ok (.iaload, 1) := by decide +kernel
theorem dX10_sideCell_26 : decode cX10_sideCell 26 = .ok (.invokestatic 174, 3) := by decide +kernel
theorem dX10_sideCell_29 : decode cX10_sideCell 29 = .ok (.iaload, 1) := by decide +kernel
theorem dX10_sideCell_30 : decode cX10_sideCell 30 = .ok (.invokestatic 243, 3) := by decide +kernel
theorem dX10_sideCell_33 : decode cX10_sideCell 33 = .ok (.ireturn, 1) := by decide +kernel
theorem dX10_mergesCell_0 : decode cX10_mergesCell 0 = .ok (.bipush 9, 2) := by decide +kernel
theorem dX10_mergesCell_2 : decode cX10_mergesCell 2 = .ok (.iload_n 2, 1) := by decide +kernel
theorem dX10_mergesCell_3 : decode cX10_mergesCell 3 = .ok (.imul, 1) := by decide +kernel
theorem dX10_mergesCell_4 : decode cX10_mergesCell 4 = .ok (.iload_n 3, 1) := by decide +kernel
theorem dX10_mergesCell_5 : decode cX10_mergesCell 5 = .ok (.iadd, 1) := by decide +kernel
theorem dX10_mergesCell_6 : decode cX10_mergesCell 6 = .ok (.istore 4, 2) := by decide +kernel
theorem dX10_mergesCell_8 : decode cX10_mergesCell 8 = .ok (.aload_n 0, 1) := by decide +kernel
theorem dX10_mergesCell_9 : decode cX10_mergesCell 9 = .ok (.iload_n 1, 1) := by decide +kernel
theorem dX10_mergesCell_10 : decode cX10_mergesCell 10 = .ok (.iconst 0, 1) := by decide +kernel
theorem dX10_mergesCell_11 : decode cX10_mergesCell 11 = .ok (.iload_n 2, 1) := by decide +kernel
theorem dX10_mergesCell_12 : decode cX10_mergesCell 12 = .ok (.iload_n 3, 1) := by decide +kernel
theorem dX10_mergesCell_13 : decode cX10_mergesCell 13 = .ok (.invokevirtual 317, 3) := by decide +kernel
theorem dX10_mergesCell_16 : decode cX10_mergesCell 16 = .ok (.istore 5, 2) := by decide +kernel
theorem dX10_mergesCell_18 : decode cX10_mergesCell 18 = .ok (.aload_n 0, 1) := by decide +kernel
theorem dX10_mergesCell_19 : decode cX10_mergesCell 19 = .ok (.iload_n 1, 1) := by decide +kernel
theorem dX10_mergesCell_20 : decode cX10_mergesCell 20 = .ok (.iconst 1, 1) := by decide +kernel
theorem dX10_mergesCell_21 : decode cX10_mergesCell 21 = .ok (.iload_n 2, 1) := by decide +kernel
theorem dX10_mergesCell_22 : decode cX10_mergesCell 22 = .ok (.iload_n 3, 1) := by decide +kernel
theorem dX10_mergesCell_23 : decode cX10_mergesCell 23 = .ok (.invokevirtual 317, 3) := by decide +kernel
theorem dX10_mergesCell_26 : decode cX10_mergesCell 26 = .ok (.istore 6, 2) := by decide +kernel
theorem dX10_mergesCell_28 : decode cX10_mergesCell 28 = .ok (.aload_n 0, 1) := by decide +kernel
theorem dX10_mergesCell_29 : decode cX10_mergesCell 29 = .ok (.getfield 32, 3) := by decide +kernel
theorem dX10_mergesCell_32 : decode cX10_mergesCell 32 = .ok (.iload 4, 2) := by decide +kernel
theorem dX10_mergesCell_34 : decode cX10_mergesCell 34 = .ok (.aload_n 0, 1) := by decide +kernel
theorem dX10_mergesCell_35 : decode cX10_mergesCell 35 = .ok (.getfield 29, 3) := by decide +kernel
theorem dX10_mergesCell_38 : decode cX10_mergesCell 38 = .ok (.iload_n 3, 1) := by decide +kernel
theorem dX10_mergesCell_39 : decode cX10_mergesCell 39 = .ok (.iaload, 1) := by decide +kernel
theorem dX10_mergesCell_40 : decode cX10_mergesCell 40 = .ok (.aload_n 0, 1) := by decide +kernel
theorem dX10_mergesCell_41 : decode cX10_mergesCell 41 = .ok (.iload_n 1, 1) := by decide +kernel
theorem dX10_mergesCell_42 : decode cX10_mergesCell 42 = .ok (.iload_n 2, 1) := by decide +kernel
theorem dX10_mergesCell_43 : decode cX10_mergesCell 43 = .ok (.iload_n 3, 1) := by decide +kernel
theorem dX10_mergesCell_44 : decode cX10_mergesCell 44 = .ok (.invokevirtual 285, 3) := by decide +kernel
theorem dX10_mergesCell_47 : decode cX10_mergesCell 47 = .ok (.invokestatic 243, 3) := by decide +kernel
theorem dX10_mergesCell_50 : decode cX10_mergesCell 50 = .ok (.iastore, 1) := by decide +kernel
theorem dX10_mergesCell_51 : decode cX10_mergesCell 51 = .ok (.aload_n 0, 1) := by decide +kernel
theorem dX10_mergesCell_52 : decode cX10_mergesCell 52 = .ok (.getfield 35, 3) := by decide +kernel
theorem dX10_mergesCell_55 : decode cX10_mergesCell 55 = .ok (.iload 4, 2) := by decide +kernel
theorem dX10_mergesCell_57 : decode cX10_mergesCell 57 = .ok (.iconst 0, 1) := by decide +kernel
theorem dX10_mergesCell_58 : decode cX10_mergesCell 58 = .ok (.iastore, 1) := by decide +kernel
theorem dX10_mergesCell_59 : decode cX10_mergesCell 59 = .ok (.iload 5, 2) := by decide +kernel
theorem dX10_mergesCell_61 : decode cX10_mergesCell 61 = .ok (.ifCond .ne 9, 3) := by decide +kernel
theorem dX10_mergesCell_64 : decode cX10_mergesCell 64 = .ok (.iload 6, 2) := by decide +kernel
theorem dX10_mergesCell_66 : decode cX10_mergesCell 66 = .ok (.ifCond .ne 4, 3) := by decide +kernel
theorem dX10_mergesCell_69 : decode cX10_mergesCell 69 = .ok (.return_, 1) := by decide +kernel
theorem dX10_mergesCell_70 : decode cX10_mergesCell 70 = .ok (.iload 5, 2) := by decide +kernel
theorem dX10_mergesCell_72 : decode cX10_mergesCell 72 = .ok (.ifCond .eq 14, 3) := by decide +kernel
theorem dX10_mergesCell_75 : decode cX10_mergesCell 75 = .ok (.aload_n 0, 1) := by decide +kernel
theorem dX10_mergesCell_76 : decode cX10_mergesCell 76 = .ok (.iload_n 1, 1) := by decide +kernel
theorem dX10_mergesCell_77 : decode cX10_mergesCell 77 = .ok (.iconst 0, 1) := by decide +kernel
theorem dX10_mergesCell_78 : decode cX10_mergesCell 78 = .ok (.iload_n 2, 1) := by decide +kernel
theorem dX10_mergesCell_79 : decode cX10_mergesCell 79 = .ok (.iload_n 3, 1) := by decide +kernel
theorem dX10_mergesCell_80 : decode cX10_mergesCell 80 = .ok (.invokevirtual 320, 3) := by decide +kernel
theorem dX10_mergesCell_83 : decode cX10_mergesCell 83 = .ok (.goto 6, 3) := by decide +kernel
theorem dX10_mergesCell_86 : decode cX10_mergesCell 86 = .ok (.sipush 9999, 3) := by decide +kernel
theorem dX10_mergesCell_89 : decode cX10_mergesCell 89 = .ok (.istore 7, 2) := by decide +kernel
theorem dX10_mergesCell_91 : decode cX10_mergesCell 91 = .ok (.iload 6, 2) := by decide +kernel
theorem dX10_mergesCell_93 : decode cX10_mergesCell 93 = .ok (.ifCond .eq 14, 3) := by decide +kernel
theorem dX10_mergesCell_96 : decode cX10_mergesCell 96 = .ok (.aload_n 0, 1) := by decide +kernel
theorem dX10_mergesCell_97 : decode cX10_mergesCell 97 = .ok (.iload_n 1, 1) := by decide +kernel
theorem dX10_mergesCell_98 : decode cX10_mergesCell 98 = .ok (.iconst 1, 1) := by decide +kernel
theorem dX10_mergesCell_99 : decode cX10_mergesCell 99 = .ok (.iload_n 2, 1) := by decide +kernel
theorem dX10_mergesCell_100 : decode cX10_mergesCell 100 = .ok (.iload_n 3, 1) := by decide +kernel
theorem dX10_mergesCell_101 : decode cX10_mergesCell 101 = .ok (.invokevirtual 320, 3) := by decide +kernel
theorem dX10_mergesCell_104 : decode cX10_mergesCell 104 = .ok (.goto 6, 3) := by decide +kernel
theorem dX10_mergesCell_107 : decode cX10_mergesCell 107 = .ok (.sipush 9999, 3) := by decide +kernel
theorem dX10_mergesCell_110 : decode cX10_mergesCell 110 = .ok (.istore 8, 2) := by decide +kernel
theorem dX10_mergesCell_112 : decode cX10_mergesCell 112 = .ok (.iload 5, 2) := by decide +kernel
theorem dX10_mergesCell_114 : decode cX10_mergesCell 114 = .ok (.ifCond .eq 34, 3) := by decide +kernel
theorem dX10_mergesCell_117 : decode cX10_mergesCell 117 = .ok (.iload 6, 2) := by decide +kernel
theorem dX10_mergesCell_119 : decode cX10_mergesCell 119 = .ok (.ifCond .eq 29, 3) := by decide +kernel
theorem dX10_mergesCell_122 : decode cX10_mergesCell 122 = .ok (.iload 7, 2) := by decide +kernel
theorem dX10_mergesCell_124 : decode cX10_mergesCell 124 = .ok (.iload 8, 2) := by decide +kernel
theorem dX10_mergesCell_126 : decode cX10_mergesCell 126 = .ok (.if_icmp .ne 7, 3) := by decide +kernel
theorem dX10_mergesCell_129 : decode cX10_mergesCell 129 = .ok (.iconst 3, 1) := by decide +kernel
theorem dX10_mergesCell_130 : decode cX10_mergesCell 130 = .ok (.goto 28, 3) := by decide +kernel
theorem dX10_mergesCell_133 : decode cX10_mergesCell 133 = .ok (.aload_n 0, 1) := by decide +kernel
theorem dX10_mergesCell_134 : decode cX10_mergesCell 134 = .ok (.iload_n 1, 1) := by decide +kernel
theorem dX10_mergesCell_135 : decode cX10_mergesCell 135 = .ok (.iconst 5, 1) := by decide +kernel
theorem dX10_mergesCell_136 : decode cX10_mergesCell 136 = .ok (.iload_n 2, 1) := by decide +kernel
theorem dX10_mergesCell_137 : decode cX10_mergesCell 137 = .ok (.iload_n 3, 1) := by decide +kernel
theorem dX10_mergesCell_138 : decode cX10_mergesCell 138 = .ok (.iload 7, 2) := by decide +kernel
theorem dX10_mergesCell_140 : decode cX10_mergesCell 140 = .ok (.iload 8, 2) := by decide +kernel
theorem dX10_mergesCell_142 : decode cX10_mergesCell 142 = .ok (.invokevirtual 294, 3) := by decide +kernel
theorem dX10_mergesCell_145 : decode cX10_mergesCell 145 = .ok (.goto 13, 3) := by decide +kernel
theorem dX10_mergesCell_148 : decode cX10_mergesCell 148 = .ok (.iload 5, 2) := by decide +kernel
theorem dX10_mergesCell_150 : decode cX10_mergesCell 150 = .ok (.ifCond .eq 7, 3) := by decide +kernel
theorem dX10_mergesCell_153 : decode cX10_mergesCell 153 = .ok (.iconst 1, 1) := by decide +kernel
theorem dX10_mergesCell_154 : decode cX10_mergesCell 154 = .ok (.goto 4, 3) := by decide +kernel
theorem dX10_mergesCell_157 : decode cX10_mergesCell 157 = .ok (.iconst 2, 1) := by decide +kernel
theorem dX10_mergesCell_158 : decode cX10_mergesCell 158 = .ok (.istore 9, 2) := by decide +kernel
theorem dX10_mergesCell_160 : decode cX10_mergesCell 160 = .ok (.iload 9, 2) := by decide +kernel
theorem dX10_mergesCell_162 : decode cX10_mergesCell 162 = .ok (.ifCond .gt 4, 3) := by decide +kernel
theorem dX10_mergesCell_165 : decode cX10_mergesCell 165 = .ok (.return_, 1) := by decide +kernel
theorem dX10_mergesCell_166 : decode cX10_mergesCell 166 = .ok (.aload_n 0, 1) := by decide +kernel
theorem dX10_mergesCell_167 : decode cX10_mergesCell 167 = .ok (.getfield 35, 3) := by decide +kernel
theorem dX10_mergesCell_170 : decode cX10_mergesCell 170 = .ok (.iload 4, 2) := by decide +kernel
theorem dX10_mergesCell_172 : decode cX10_mergesCell 172 = .ok (.iload 9, 2) := by decide +kernel
theorem dX10_mergesCell_174 : decode cX10_mergesCell 174 = .ok (.iastore, 1) := by decide +kernel
theorem dX10_mergesCell_175 : decode cX10_mergesCell 175 = .ok (.aload_n 0, 1) := by decide +kernel
theorem dX10_mergesCell_176 : decode cX10_mergesCell 176 = .ok (.getfield 32, 3) := by decide +kernel
theorem dX10_mergesCell_179 : decode cX10_mergesCell 179 = .ok (.iload 4, 2) := by decide +kernel
theorem dX10_mergesCell_181 : decode cX10_mergesCell 181 = .ok (.iload 9, 2) := by decide +kernel
theorem dX10_mergesCell_183 : decode cX10_mergesCell 183 = .ok (.iconst 2, 1) := by decide +kernel
theorem dX10_mergesCell_184 : decode cX10_mergesCell 184 = .ok (.if_icmp .ne 8, 3) := by decide +kernel
theorem dX10_mergesCell_187 : decode cX10_mergesCell 187 = .ok (.iload 8, 2) := by decide +kernel
theorem dX10_mergesCell_189 : decode cX10_mergesCell 189 = .ok (.goto 5, 3) := by decide +kernel
theorem dX10_mergesCell_192 : decode cX10_mergesCell 192 = .ok (.iload 7, 2) := by decide +kernel
theorem dX10_mergesCell_194 : decode cX10_mergesCell 194 = .ok (.iastore, 1) := by decide +kernel
theorem dX10_mergesCell_195 : decode cX10_mergesCell 195 = .ok (.return_, 1) := by decide +kernel
theorem dX10_mergedAt_0 : decode cX10_mergedAt 0 = .ok (.aload_n 0, 1) := by decide +kernel
theorem dX10_mergedAt_1 : decode cX10_mergedAt 1 = .ok (.getfield 32, 3) := by decide +kernel
theorem dX10_mergedAt_4 : decode cX10_mergedAt 4 = .ok (.bipush 9, 2) := by decide +kernel
theorem dX10_mergedAt_6 : decode cX10_mergedAt 6 = .ok (.iload_n 1, 1) := by decide +kernel
theorem dX10_mergedAt_7 : decode cX10_mergedAt 7 = .ok (.imul, 1) := by decide +kernel
theorem dX10_mergedAt_8 : decode cX10_mergedAt 8 = .ok (.iload_n 2, 1) := by decide +kernel
theorem dX10_mergedAt_9 : decode cX10_mergedAt 9 = .ok (.iadd, 1) := by decide +kernel
theorem dX10_mergedAt_10 : decode cX10_mergedAt 10 = .ok (.iaload, 1) := by decide +kernel
theorem dX10_mergedAt_11 : decode cX10_mergedAt 11 = .ok (.ireturn, 1) := by decide +kernel
theorem dX10_isLike_0 : decode cX10_isLike 0 = .ok (.iconst 0, 1) := by decide +kernel
theorem dX10_isLike_1 : decode cX10_isLike 1 = .ok (.istore_n 3, 1) := by decide +kernel
theorem dX10_isLike_2 : decode cX10_isLike 2 = .ok (.iload_n 3, 1) := by decide +kernel
theorem dX10_isLike_3 : decode cX10_isLike 3 = .ok (.iload_n 1, 1) := by decide +kernel
theorem dX10_isLike_4 : decode cX10_isLike 4 = .ok (.if_icmp .ge 38, 3) := by decide +kernel
theorem dX10_isLike_7 : decode cX10_isLike 7 = .ok (.aload_n 0, 1) := by decide +kernel
theorem dX10_isLike_8 : decode cX10_isLike 8 = .ok (.getfield 323, 3) := by decide +kernel
theorem dX10_isLike_11 : decode cX10_isLike 11 = .ok (.iload_n 3, 1) := by decide +kernel
theorem dX10_isLike_12 : decode cX10_isLike 12 = .ok (.ishr, 1) := by decide +kernel
theorem dX10_isLike_13 : decode cX10_isLike 13 = .ok (.iconst 1, 1) := by decide +kernel
theorem dX10_isLike_14 : decode cX10_isLike 14 = .ok (.iand, 1) := by decide +kernel
theorem dX10_isLike_15 : decode cX10_isLike 15 = .ok (.iconst 1, 1) := by decide +kernel
theorem dX10_isLike_16 : decode cX10_isLike 16 = .ok (.if_icmp .ne 20, 3) := by decide +kernel
theorem dX10_isLike_19 : decode cX10_isLike 19 = .ok (.aload_n 0, 1) := by decide +kernel
theorem dX10_isLike_20 : decode cX10_isLike 20 = .ok (.iload_n 3, 1) := by decide +kernel
theorem dX10_isLike_21 : decode cX10_isLike 21 = .ok (.iload_n 2, 1) := by decide +kernel
theorem dX10_isLike_22 : decode cX10_isLike 22 = .ok (.invokevirtual 326, 3) := by decide +kernel
theorem dX10_isLike_25 : decode cX10_isLike 25 = .ok (.aload_n 0, 1) := by decide +kernel
theorem dX10_isLike_26 : decode cX10_isLike 26 = .ok (.iload_n 1, 1) := by decide +kernel
theorem dX10_isLike_27 : decode cX10_isLike 27 = .ok (.iload_n 2, 1) := by decide +kernel
theorem dX10_isLike_28 : decode cX10_isLike 28 = .ok (.invokevirtual 326, 3) := by decide +kernel
theorem dX10_isLike_31 : decode cX10_isLike 31 = .ok (.if_icmp .ne 5, 3) := by decide +kernel
theorem dX10_isLike_34 : decode cX10_isLike 34 = .ok (.iconst 1, 1) := by decide +kernel
theorem dX10_isLike_35 : decode cX10_isLike 35 = .ok (.ireturn, 1) := by decide +kernel
theorem dX10_isLike_36 : decode cX10_isLike 36 = .ok (.iinc 3 1, 3) := by decide +kernel
theorem dX10_isLike_39 : decode cX10_isLike 39 = .ok (.goto (-37), 3) := by decide +kernel
theorem dX10_isLike_42 : decode cX10_isLike 42 = .ok (.iconst 0, 1) := by decide +kernel
theorem dX10_isLike_43 : decode cX10_isLike 43 = .ok (.ireturn, 1) := by decide +kernel
theorem dX10_isAgainst_0 : decode cX10_isAgainst 0 = .ok (.aload_n 0, 1) := by decide +kernel
theorem dX10_isAgainst_1 : decode cX10_isAgainst 1 = .ok (.getfield 20, 3) := by decide +kernel
theorem dX10_isAgainst_4 : decode cX10_isAgainst 4 = .ok (.iload_n 1, 1) := by decide +kernel
theorem dX10_isAgainst_5 : decode cX10_isAgainst 5 = .ok (.sipush 601, 3) := by decide +kernel
theorem dX10_isAgainst_8 : decode cX10_isAgainst 8 = .ok (.iadd, 1) := by decide +kernel
theorem dX10_isAgainst_9 : decode cX10_isAgainst 9 = .ok (.iload_n 2, 1) := by decide +kernel
theorem dX10_isAgainst_10 : decode cX10_isAgainst 10 = .ok (.iadd, 1) := by decide +kernel
theorem dX10_isAgainst_11 : decode cX10_isAgainst 11 = .ok (.iaload, 1) := by decide +kernel
theorem dX10_isAgainst_12 : decode cX10_isAgainst 12 = .ok (.istore 4, 2) := by decide +kernel
theorem dX10_isAgainst_14 : decode cX10_isAgainst 14 = .ok (.aload_n 0, 1) := by decide +kernel
theorem dX10_isAgainst_15 : decode cX10_isAgainst 15 = .ok (.iload_n 3, 1) := by decide +kernel
theorem dX10_isAgainst_16 : decode cX10_isAgainst 16 = .ok (.aload_n 0, 1) := by decide +kernel
theorem dX10_isAgainst_17 : decode cX10_isAgainst 17 = .ok (.getfield 20, 3) := by decide +kernel
theorem dX10_isAgainst_20 : decode cX10_isAgainst 20 = .ok (.iload_n 1, 1) := by decide +kernel
theorem dX10_isAgainst_21 : decode cX10_isAgainst 21 = .ok (.sipush 605, 3) := by decide +kernel
theorem dX10_isAgainst_24 : decode cX10_isAgainst 24 = .ok (.iadd, 1) := by decide +kernel
theorem dX10_isAgainst_25 : decode cX10_isAgainst 25 = .ok (.iload_n 2, 1) := by decide +kernel
theorem dX10_isAgainst_26 : decode cX10_isAgainst 26 = .ok (.iadd, 1) := by decide +kernel
theorem dX10_isAgainst_27 : decode cX10_isAgainst 27 = .ok (.iaload, 1) := by decide +kernel
theorem dX10_isAgainst_28 : decode cX10_isAgainst 28 = .ok (.invokevirtual 326, 3) := by decide +kernel
theorem dX10_isAgainst_31 : decode cX10_isAgainst 31 = .ok (.istore 5, 2) := by decide +kernel
theorem dX10_isAgainst_33 : decode cX10_isAgainst 33 = .ok (.iload 4, 2) := by decide +kernel
theorem dX10_isAgainst_35 : decode cX10_isAgainst 35 = .ok (.iconst 1, 1) := by decide +kernel
theorem dX10_isAgainst_36 : decode cX10_isAgainst 36 = .ok (.if_icmp .ne 17, 3) := by decide +kernel
theorem dX10_isAgainst_39 : decode cX10_isAgainst 39 = .ok (.iload 5, 2) := by decide +kernel
theorem dX10_isAgainst_41 : decode cX10_isAgainst 41 = .ok (.sipush 9999, 3) := by decide +kernel
theorem dX10_isAgainst_44 : decode cX10_isAgainst 44 = .ok (.if_icmp .ne 7, 3) := by decide +kernel
theorem dX10_isAgainst_47 : decode cX10_isAgainst 47 = .ok (.iconst 1, 1) := by decide +kernel
theorem dX10_isAgainst_48 : decode cX10_isAgainst 48 = .ok (.goto 4, 3) := by decide +kernel
theorem dX10_isAgainst_51 : decode cX10_isAgainst 51 = .ok (.iconst 0, 1) := by decide +kernel
theorem dX10_isAgainst_52 : decode cX10_isAgainst 52 = .ok (.ireturn, 1) := by decide +kernel
theorem dX10_isAgainst_53 : decode cX10_isAgainst 53 = .ok (.iload 5, 2) := by decide +kernel
theorem dX10_isAgainst_55 : decode cX10_isAgainst 55 = .ok (.sipush 9999, 3) := by decide +kernel
theorem dX10_isAgainst_58 : decode cX10_isAgainst 58 = .ok (.if_icmp .ne 5, 3) := by decide +kernel
theorem dX10_isAgainst_61 : decode cX10_isAgainst 61 = .ok (.iconst 0, 1) := by decide +kernel
theorem dX10_isAgainst_62 : decode cX10_isAgainst 62 = .ok (.ireturn, 1) := by decide +kernel
theorem dX10_isAgainst_63 : decode cX10_isAgainst 63 = .ok (.iload 4, 2) := by decide +kernel
theorem dX10_isAgainst_65 : decode cX10_isAgainst 65 = .ok (.ifCond .ne 21, 3) := by decide +kernel
theorem dX10_isAgainst_68 : decode cX10_isAgainst 68 = .ok (.aload_n 0, 1) := by decide +kernel
theorem dX10_isAgainst_69 : decode cX10_isAgainst 69 = .ok (.iload_n 3, 1) := by decide +kernel
theorem dX10_isAgainst_70 : decode cX10_isAgainst 70 = .ok (.aload_n 0, 1) := by decide +kernel
theorem dX10_isAgainst_71 : decode cX10_isAgainst 71 = .ok (.getfield 20, 3) := by decide +kernel
theorem dX10_isAgainst_74 : decode cX10_isAgainst 74 = .ok (.iload_n 1, 1) := by decide +kernel
theorem dX10_isAgainst_75 : decode cX10_isAgainst 75 = .ok (.sipush 605, 3) := by decide +kernel
theorem dX10_isAgainst_78 : decode cX10_isAgainst 78 = .ok (.iadd, 1) := by decide +kernel
theorem dX10_isAgainst_79 : decode cX10_isAgainst 79 = .ok (.iload_n 2, 1) := by decide +kernel
theorem dX10_isAgainst_80 : decode cX10_isAgainst 80 = .ok (.iadd, 1) := by decide +kernel
theorem dX10_isAgainst_81 : decode cX10_isAgainst 81 = .ok (.iaload, 1) := by decide +kernel
theorem dX10_isAgainst_82 : decode cX10_isAgainst 82 = .ok (.invokevirtual 329, 3) := by decide +kernel
theorem dX10_isAgainst_85 : decode cX10_isAgainst 85 = .ok (.ireturn, 1) := by decide +kernel
theorem dX10_isAgainst_86 : decode cX10_isAgainst 86 = .ok (.aload_n 0, 1) := by decide +kernel
theorem dX10_isAgainst_87 : decode cX10_isAgainst 87 = .ok (.iload_n 3, 1) := by decide +kernel
theorem dX10_isAgainst_88 : decode cX10_isAgainst 88 = .ok (.aload_n 0, 1) := by decide +kernel
theorem dX10_isAgainst_89 : decode cX10_isAgainst 89 = .ok (.getfield 20, 3) := by decide +kernel
theorem dX10_isAgainst_92 : decode cX10_isAgainst 92 = .ok (.iload_n 1, 1) := by decide +kernel
theorem dX10_isAgainst_93 : decode cX10_isAgainst 93 = .ok (.sipush 609, 3) := by decide +kernel
theorem dX10_isAgainst_96 : decode cX10_isAgainst 96 = .ok (.iadd, 1) := by decide +kernel
theorem dX10_isAgainst_97 : decode cX10_isAgainst 97 = .ok (.iload_n 2, 1) := by decide +kernel
theorem dX10_isAgainst_98 : decode cX10_isAgainst 98 = .ok (.iadd, 1) := by decide +kernel
theorem dX10_isAgainst_99 : decode cX10_isAgainst 99 = .ok (.iaload, 1) := by decide +kernel
theorem dX10_isAgainst_100 : decode cX10_isAgainst 100 = .ok (.invokevirtual 326, 3) := by decide +kernel
theorem dX10_isAgainst_103 : decode cX10_isAgainst 103 = .ok (.istore 6, 2) := by decide +kernel
theorem dX10_isAgainst_105 : decode cX10_isAgainst 105 = .ok (.iload 6, 2) := by decide +kernel
theorem dX10_isAgainst_107 : decode cX10_isAgainst 107 = .ok (.sipush 9999, 3) := by decide +kernel
theorem dX10_isAgainst_110 : decode cX10_isAgainst 110 = .ok (.if_icmp .eq 14, 3) := by decide +kernel
theorem dX10_isAgainst_113 : decode cX10_isAgainst 113 = .ok (.iload 5, 2) := by decide +kernel
theorem dX10_isAgainst_115 : decode cX10_isAgainst 115 = .ok (.iload 6, 2) := by decide +kernel
theorem dX10_isAgainst_117 : decode cX10_isAgainst 117 = .ok (.if_icmp .lt 7, 3) := by decide +kernel
theorem dX10_isAgainst_120 : decode cX10_isAgainst 120 = .ok (.iconst 1, 1) := by decide +kernel
theorem dX10_isAgainst_121 : decode cX10_isAgainst 121 = .ok (.goto 4, 3) := by decide +kernel
theorem dX10_isAgainst_124 : decode cX10_isAgainst 124 = .ok (.iconst 0, 1) := by decide +kernel
theorem dX10_isAgainst_125 : decode cX10_isAgainst 125 = .ok (.ireturn, 1) := by decide +kernel
theorem dX10_demands_0 : decode cX10_demands 0 = .ok (.aload_n 0, 1) := by decide +kernel
theorem dX10_demands_1 : decode cX10_demands 1 = .ok (.getfield 20, 3) := by decide +kernel
theorem dX10_demands_4 : decode cX10_demands 4 = .ok (.iload_n 1, 1) := by decide +kernel
theorem dX10_demands_5 : decode cX10_demands 5 = .ok (.sipush 601, 3) := by decide +kernel
theorem dX10_demands_8 : decode cX10_demands 8 = .ok (.iadd, 1) := by decide +kernel
theorem dX10_demands_9 : decode cX10_demands 9 = .ok (.iload_n 2, 1) := by decide +kernel
theorem dX10_demands_10 : decode cX10_demands 10 = .ok (.iadd, 1) := by decide +kernel
theorem dX10_demands_11 : decode cX10_demands 11 = .ok (.iaload, 1) := by decide +kernel
theorem dX10_demands_12 : decode cX10_demands 12 = .ok (.istore_n 3, 1) := by decide +kernel
theorem dX10_demands_13 : decode cX10_demands 13 = .ok (.aload_n 0, 1) := by decide +kernel
theorem dX10_demands_14 : decode cX10_demands 14 = .ok (.getfield 20, 3) := by decide +kernel
theorem dX10_demands_17 : decode cX10_demands 17 = .ok (.iload_n 1, 1) := by decide +kernel
theorem dX10_demands_18 : decode cX10_demands 18 = .ok (.sipush 605, 3) := by decide +kernel
theorem dX10_demands_21 : decode cX10_demands 21 = .ok (.iadd, 1) := by decide +kernel
theorem dX10_demands_22 : decode cX10_demands 22 = .ok (.iload_n 2, 1) := by decide +kernel
theorem dX10_demands_23 : decode cX10_demands 23 = .ok (.iadd, 1) := by decide +kernel
theorem dX10_demands_24 : decode cX10_demands 24 = .ok (.iaload, 1) := by decide +kernel
theorem dX10_demands_25 : decode cX10_demands 25 = .ok (.istore 4, 2) := by decide +kernel
theorem dX10_demands_27 : decode cX10_demands 27 = .ok (.iload_n 3, 1) := by decide +kernel
theorem dX10_demands_28 : decode cX10_demands 28 = .ok (.iconst 2, 1) := by decide +kernel
theorem dX10_demands_29 : decode cX10_demands 29 = .ok (.if_icmp .ne 18, 3) := by decide +kernel
theorem dX10_demands_32 : decode cX10_demands 32 = .ok (.aload_n 0, 1) := by decide +kernel
theorem dX10_demands_33 : decode cX10_demands 33 = .ok (.getfield 20, 3) := by decide +kernel
theorem dX10_demands_36 : decode cX10_demands 36 = .ok (.iload_n 1, 1) := by decide +kernel
theorem dX10_demands_37 : decode cX10_demands 37 = .ok (.sipush 609, 3) := by decide +kernel
theorem dX10_demands_40 : decode cX10_demands 40 = .ok (.iadd, 1) := by decide +kernel
theorem dX10_demands_41 : decode cX10_demands 41 = .ok (.iload_n 2, 1) := by decide +kernel
theorem dX10_demands_42 : decode cX10_demands 42 = .ok (.iadd, 1) := by decide +kernel
theorem dX10_demands_43 : decode cX10_demands 43 = .ok (.iaload, 1) := by decide +kernel
theorem dX10_demands_44 : decode cX10_demands 44 = .ok (.goto 5, 3) := by decide +kernel
theorem dX10_demands_47 : decode cX10_demands 47 = .ok (.iload 4, 2) := by decide +kernel
theorem dX10_demands_49 : decode cX10_demands 49 = .ok (.istore 5, 2) := by decide +kernel
theorem dX10_demands_51 : decode cX10_demands 51 = .ok (.aload_n 0, 1) := by decide +kernel
theorem dX10_demands_52 : decode cX10_demands 52 = .ok (.getfield 291, 3) := by decide +kernel
theorem dX10_demands_55 : decode cX10_demands 55 = .ok (.iload 4, 2) := by decide +kernel
theorem dX10_demands_57 : decode cX10_demands 57 = .ok (.ishr, 1) := by decide +kernel
theorem dX10_demands_58 : decode cX10_demands 58 = .ok (.iconst 1, 1) := by decide +kernel
theorem dX10_demands_59 : decode cX10_demands 59 = .ok (.iand, 1) := by decide +kernel
theorem dX10_demands_60 : decode cX10_demands 60 = .ok (.ifCond .eq 15, 3) := by decide +kernel
theorem dX10_demands_63 : decode cX10_demands 63 = .ok (.aload_n 0, 1) := by decide +kernel
theorem dX10_demands_64 : decode cX10_demands 64 = .ok (.getfield 291, 3) := by decide +kernel
theorem dX10_demands_67 : decode cX10_demands 67 = .ok (.iload 5, 2) := by decide +kernel
theorem dX10_demands_69 : decode cX10_demands 69 = .ok (.ishr, 1) := by decide +kernel
theorem dX10_demands_70 : decode cX10_demands 70 = .ok (.iconst 1, 1) := by decide +kernel
theorem dX10_demands_71 : decode cX10_demands 71 = .ok (.iand, 1) := by decide +kernel
theorem dX10_demands_72 : decode cX10_demands 72 = .ok (.ifCond .ne 4, 3) := by decide +kernel
theorem dX10_demands_75 : decode cX10_demands 75 = .ok (.return_, 1) := by decide +kernel
theorem dX10_demands_76 : decode cX10_demands 76 = .ok (.iconst 0, 1) := by decide +kernel
theorem dX10_demands_77 : decode cX10_demands 77 = .ok (.istore 6, 2) := by decide +kernel
theorem dX10_demands_79 : decode cX10_demands 79 = .ok (.iload 6, 2) := by decide +kernel
theorem dX10_demands_81 : decode cX10_demands 81 = .ok (.bipush 20, 2) := by decide +kernel
theorem dX10_demands_83 : decode cX10_demands 83 = .ok (.if_icmp .ge 117, 3) := by decide +kernel
theorem dX10_demands_86 : decode cX10_demands 86 = .ok (.aload_n 0, 1) := by decide +kernel
theorem dX10_demands_87 : decode cX10_demands 87 = .ok (.getfield 323, 3) := by decide +kernel
theorem dX10_demands_90 : decode cX10_demands 90 = .ok (.iload 6, 2) := by decide +kernel
theorem dX10_demands_92 : decode cX10_demands 92 = .ok (.ishr, 1) := by decide +kernel
theorem dX10_demands_93 : decode cX10_demands 93 = .ok (.iconst 1, 1) := by decide +kernel
theorem dX10_demands_94 : decode cX10_demands 94 = .ok (.iand, 1) := by decide +kernel
theorem dX10_demands_95 : decode cX10_demands 95 = .ok (.ifCond .eq 99, 3) := by decide +kernel
theorem dX10_demands_98 : decode cX10_demands 98 = .ok (.aload_n 0, 1) := by decide +kernel
theorem dX10_demands_99 : decode cX10_demands 99 = .ok (.iload_n 1, 1) := by decide +kernel
theorem dX10_demands_100 : decode cX10_demands 100 = .ok (.iload_n 2, 1) := by decide +kernel
theorem dX10_demands_101 : decode cX10_demands 101 = .ok (.iload 6, 2) := by decide +kernel
theorem dX10_demands_103 : decode cX10_demands 103 = .ok (.invokevirtual 332, 3) := by decide +kernel
theorem dX10_demands_106 : decode cX10_demands 106 = .ok (.ifCond .ne 6, 3) := by decide +kernel
theorem dX10_demands_109 : decode cX10_demands 109 = .ok (.goto 85, 3) := by decide +kernel
theorem dX10_demands_112 : decode cX10_demands 112 = .ok (.aload_n 0, 1) := by decide +kernel
theorem dX10_demands_113 : decode cX10_demands 113 = .ok (.iload_n 1, 1) := by decide +kernel
theorem dX10_demands_114 : decode cX10_demands 114 = .ok (.bipush 6, 2) := by decide +kernel
theorem dX10_demands_116 : decode cX10_demands 116 = .ok (.iload_n 2, 1) := by decide +kernel
theorem dX10_demands_117 : decode cX10_demands 117 = .ok (.iload 6, 2) := by decide +kernel
theorem dX10_demands_119 : decode cX10_demands 119 = .ok (.iconst (-1), 1) := by decide +kernel
theorem dX10_demands_120 : decode cX10_demands 120 = .ok (.iconst (-1), 1) := by decide +kernel
theorem dX10_demands_121 : decode cX10_demands 121 = .ok (.invokevirtual 294, 3) := by decide +kernel
theorem dX10_demands_124 : decode cX10_demands 124 = .ok (.istore 7, 2) := by decide +kernel
theorem dX10_demands_126 : decode cX10_demands 126 = .ok (.iload 7, 2) := by decide +kernel
theorem dX10_demands_128 : decode cX10_demands 128 = .ok (.iconst 1, 1) := by decide +kernel
theorem dX10_demands_129 : decode cX10_demands 129 = .ok (.if_icmp .ne 18, 3) := by decide +kernel
theorem dX10_demands_132 : decode cX10_demands 132 = .ok (.aload_n 0, 1) := by decide +kernel
theorem dX10_demands_133 : decode cX10_demands 133 = .ok (.dup, 1) := by decide +kernel
theorem dX10_demands_134 : decode cX10_demands 134 = .ok (.getfield 323, 3) := by decide +kernel
theorem dX10_demands_137 : decode cX10_demands 137 = .ok (.iconst 1, 1) := by decide +kernel
theorem dX10_demands_138 : decode cX10_demands 138 = .ok (.iload 6, 2) := by decide +kernel
theorem dX10_demands_140 : decode cX10_demands 140 = .ok (.ishl, 1) := by decide +kernel
theorem dX10_demands_141 : decode cX10_demands 141 = .ok (.iconst (-1), 1) := by decide +kernel
theorem dX10_demands_142 : decode cX10_demands 142 = .ok (.ixor, 1) := by decide +kernel
theorem dX10_demands_143 : decode cX10_demands 143 = .ok (.iand, 1) := by decide +kernel
theorem dX10_demands_144 : decode cX10_demands 144 = .ok (.putfield 323, 3) := by decide +kernel
theorem dX10_demands_147 : decode cX10_demands 147 = .ok (.iload 7, 2) := by decide +kernel
theorem dX10_demands_149 : decode cX10_demands 149 = .ok (.ifCond .eq 6, 3) := by decide +kernel
theorem dX10_demands_152 : decode cX10_demands 152 = .ok (.goto 42, 3) := by decide +kernel
theorem dX10_demands_155 : decode cX10_demands 155 = .ok (.aload_n 0, 1) := by decide +kernel
theorem dX10_demands_156 : decode cX10_demands 156 = .ok (.getfield 32, 3) := by decide +kernel
theorem dX10_demands_159 : decode cX10_demands 159 = .ok (.bipush 9, 2) := by decide +kernel
theorem dX10_demands_161 : decode cX10_demands 161 = .ok (.iload 6, 2) := by decide +kernel
theorem dX10_demands_163 : decode cX10_demands 163 = .ok (.imul, 1) := by decide +kernel
theorem dX10_demands_164 : decode cX10_demands 164 = .ok (.iload 5, 2) := by decide +kernel
theorem dX10_demands_166 : decode cX10_demands 166 = .ok (.iadd, 1) := by decide +kernel
theorem dX10_demands_167 : decode cX10_demands 167 = .ok (.iload_n 3, 1) := by decide +kernel
theorem dX10_demands_168 : decode cX10_demands 168 = .ok (.iconst 1, 1) := by decide +kernel
theorem dX10_demands_169 : decode cX10_demands 169 = .ok (.if_icmp .ne 7, 3) := by decide +kernel
theorem dX10_demands_172 : decode cX10_demands 172 = .ok (.iconst 0, 1) := by decide +kernel
theorem dX10_demands_173 : decode cX10_demands 173 = .ok (.goto 6, 3) := by decide +kernel
theorem dX10_demands_176 : decode cX10_demands 176 = .ok (.sipush 9999, 3) := by decide +kernel
theorem dX10_demands_179 : decode cX10_demands 179 = .ok (.iastore, 1) := by decide +kernel
theorem dX10_demands_180 : decode cX10_demands 180 = .ok (.aload_n 0, 1) := by decide +kernel
theorem dX10_demands_181 : decode cX10_demands 181 = .ok (.getfield 35, 3) := by decide +kernel
theorem dX10_demands_184 : decode cX10_demands 184 = .ok (.bipush 9, 2) := by decide +kernel
theorem dX10_demands_186 : decode cX10_demands 186 = .ok (.iload 6, 2) := by decide +kernel
theorem dX10_demands_188 : decode cX10_demands 188 = .ok (.imul, 1) := by decide +kernel
theorem dX10_demands_189 : decode cX10_demands 189 = .ok (.iload 5, 2) := by decide +kernel
theorem dX10_demands_191 : decode cX10_demands 191 = .ok (.iadd, 1) := by decide +kernel
theorem dX10_demands_192 : decode cX10_demands 192 = .ok (.iconst 4, 1) := by decide +kernel
theorem dX10_demands_193 : decode cX10_demands 193 = .ok (.iastore, 1) := by decide +kernel
theorem dX10_demands_194 : decode cX10_demands 194 = .ok (.iinc 6 1, 3) := by decide +kernel
theorem dX10_demands_197 : decode cX10_demands 197 = .ok (.goto (-118), 3) := by decide +kernel
theorem dX10_demands_200 : decode cX10_demands 200 = .ok (.return_, 1) := by decide +kernel
theorem dX10_merges_0 : decode cX10_merges 0 = .ok (.aload_n 0, 1) := by decide +kernel
theorem dX10_merges_1 : decode cX10_merges 1 = .ok (.iconst 0, 1) := by decide +kernel
theorem dX10_merges_2 : decode cX10_merges 2 = .ok (.putfield 291, 3) := by decide +kernel
theorem dX10_merges_5 : decode cX10_merges 5 = .ok (.aload_n 0, 1) := by decide +kernel
theorem dX10_merges_6 : decode cX10_merges 6 = .ok (.iconst 0, 1) := by decide +kernel
theorem dX10_merges_7 : decode cX10_merges 7 = .ok (.putfield 323, 3) := by decide +kernel
theorem dX10_merges_10 : decode cX10_merges 10 = .ok (.aload_n 0, 1) := by decide +kernel
theorem dX10_merges_11 : decode cX10_merges 11 = .ok (.iconst 0, 1) := by decide +kernel
theorem dX10_merges_12 : decode cX10_merges 12 = .ok (.putfield 282, 3) := by decide +kernel
theorem dX10_merges_15 : decode cX10_merges 15 = .ok (.iconst 0, 1) := by decide +kernel
theorem dX10_merges_16 : decode cX10_merges 16 = .ok (.istore_n 2, 1) := by decide +kernel
theorem dX10_merges_17 : decode cX10_merges 17 = .ok (.iload_n 2, 1) := by decide +kernel
theorem dX10_merges_18 : decode cX10_merges 18 = .ok (.sipush 316, 3) := by decide +kernel
theorem dX10_merges_21 : decode cX10_merges 21 = .ok (.if_icmp .ge 16, 3) := by decide +kernel
theorem dX10_merges_24 : decode cX10_merges 24 = .ok (.aload_n 0, 1) := by decide +kernel
theorem dX10_merges_25 : decode cX10_merges 25 = .ok (.getfield 44, 3) := by decide +kernel
theorem dX10_merges_28 : decode cX10_merges 28 = .ok (.iload_n 2, 1) := by decide +kernel
theorem dX10_merges_29 : decode cX10_merges 29 = .ok (.iconst 0, 1) := by decide +kernel
theorem dX10_merges_30 : decode cX10_merges 30 = .ok (.iastore, 1) := by decide +kernel
theorem dX10_merges_31 : decode cX10_merges 31 = .ok (.iinc 2 1, 3) := by decide +kernel
theorem dX10_merges_34 : decode cX10_merges 34 = .ok (.goto (-17), 3) := by decide +kernel
theorem dX10_merges_37 : decode cX10_merges 37 = .ok (.iconst 0, 1) := by decide +kernel
theorem dX10_merges_38 : decode cX10_merges 38 = .ok (.istore_n 2, 1) := by decide +kernel
theorem dX10_merges_39 : decode cX10_merges 39 = .ok (.iload_n 2, 1) := by decide +kernel
theorem dX10_merges_40 : decode cX10_merges 40 = .ok (.bipush 18, 2) := by decide +kernel
theorem dX10_merges_42 : decode cX10_merges 42 = .ok (.if_icmp .ge 16, 3) := by decide +kernel
theorem dX10_merges_45 : decode cX10_merges 45 = .ok (.aload_n 0, 1) := by decide +kernel
theorem dX10_merges_46 : decode cX10_merges 46 = .ok (.getfield 38, 3) := by decide +kernel
theorem dX10_merges_49 : decode cX10_merges 49 = .ok (.iload_n 2, 1) := by decide +kernel
theorem dX10_merges_50 : decode cX10_merges 50 = .ok (.iconst (-1), 1) := by decide +kernel
theorem dX10_merges_51 : decode cX10_merges 51 = .ok (.iastore, 1) := by decide +kernel
theorem dX10_merges_52 : decode cX10_merges 52 = .ok (.iinc 2 1, 3) := by decide +kernel
theorem dX10_merges_55 : decode cX10_merges 55 = .ok (.goto (-16), 3) := by decide +kernel
theorem dX10_merges_58 : decode cX10_merges 58 = .ok (.iconst 0, 1) := by decide +kernel
theorem dX10_merges_59 : decode cX10_merges 59 = .ok (.istore_n 2, 1) := by decide +kernel
theorem dX10_merges_60 : decode cX10_merges 60 = .ok (.iload_n 2, 1) := by decide +kernel
theorem dX10_merges_61 : decode cX10_merges 61 = .ok (.iconst 5, 1) := by decide +kernel
theorem dX10_merges_62 : decode cX10_merges 62 = .ok (.if_icmp .ge 15, 3) := by decide +kernel
theorem dX10_merges_65 : decode cX10_merges 65 = .ok (.aload_n 0, 1) := by decide +kernel
theorem dX10_merges_66 : decode cX10_merges 66 = .ok (.iload_n 1, 1) := by decide +kernel
theorem dX10_merges_67 : decode cX10_merges 67 = .ok (.iload_n 2, 1) := by decide +kernel
theorem dX10_merges_68 : decode cX10_merges 68 = .ok (.invokevirtual 335, 3) := by decide +kernel
theorem dX10_merges_71 : decode cX10_merges 71 = .ok (.iinc 2 1, 3) := by decide +kernel
theorem dX10_merges_74 : decode cX10_merges 74 = .ok (.goto (-14), 3) := by decide +kernel
theorem dX10_merges_77 : decode cX10_merges 77 = .ok (.aload_n 0, 1) := by decide +kernel
theorem dX10_merges_78 : decode cX10_merges 78 = .ok (.iload_n 1, 1) := by decide +kernel
theorem dX10_merges_79 : decode cX10_merges 79 = .ok (.invokevirtual 339, 3) := by decide +kernel
theorem dX10_merges_82 : decode cX10_merges 82 = .ok (.aload_n 0, 1) := by decide +kernel
theorem dX10_merges_83 : decode cX10_merges 83 = .ok (.iload_n 1, 1) := by decide +kernel
theorem dX10_merges_84 : decode cX10_merges 84 = .ok (.invokevirtual 342, 3) := by decide +kernel
theorem dX10_merges_87 : decode cX10_merges 87 = .ok (.iconst 0, 1) := by decide +kernel
theorem dX10_merges_88 : decode cX10_merges 88 = .ok (.istore_n 2, 1) := by decide +kernel
theorem dX10_merges_89 : decode cX10_merges 89 = .ok (.iload_n 2, 1) := by decide +kernel
theorem dX10_merges_90 : decode cX10_merges 90 = .ok (.bipush 20, 2) := by decide +kernel
theorem dX10_merges_92 : decode cX10_merges 92 = .ok (.if_icmp .ge 34, 3) := by decide +kernel
theorem dX10_merges_95 : decode cX10_merges 95 = .ok (.aload_n 0, 1) := by decide +kernel
theorem dX10_merges_96 : decode cX10_merges 96 = .ok (.dup, 1) := by decide +kernel
theorem dX10_merges_97 : decode cX10_merges 97 = .ok (.getfield 323, 3) := by decide +kernel
theorem dX10_merges_100 : decode cX10_merges 100 = .ok (.aload_n 0, 1) := by decide +kernel
theorem dX10_merges_101 : decode cX10_merges 101 = .ok (.iload_n 1, 1) := by decide +kernel
theorem dX10_merges_102 : decode cX10_merges 102 = .ok (.iload_n 2, 1) := by decide +kernel
theorem dX10_merges_103 : decode cX10_merges 103 = .ok (.invokevirtual 345, 3) := by decide +kernel
theorem dX10_merges_106 : decode cX10_merges 106 = .ok (.ifCond .eq 9, 3) := by decide +kernel
theorem dX10_merges_109 : decode cX10_merges 109 = .ok (.iconst 1, 1) := by decide +kernel
theorem dX10_merges_110 : decode cX10_merges 110 = .ok (.iload_n 2, 1) := by decide +kernel
theorem dX10_merges_111 : decode cX10_merges 111 = .ok (.ishl, 1) := by decide +kernel
theorem dX10_merges_112 : decode cX10_merges 112 = .ok (.goto 4, 3) := by decide +kernel
theorem dX10_merges_115 : decode cX10_merges 115 = .ok (.iconst 0, 1) := by decide +kernel
theorem dX10_merges_116 : decode cX10_merges 116 = .ok (.ior, 1) := by decide +kernel
theorem dX10_merges_117 : decode cX10_merges 117 = .ok (.putfield 323, 3) := by decide +kernel
theorem dX10_merges_120 : decode cX10_merges 120 = .ok (.iinc 2 1, 3) := by decide +kernel
theorem dX10_merges_123 : decode cX10_merges 123 = .ok (.goto (-34), 3) := by decide +kernel
theorem dX10_merges_126 : decode cX10_merges 126 = .ok (.iconst 0, 1) := by decide +kernel
theorem dX10_merges_127 : decode cX10_merges 127 = .ok (.istore_n 2, 1) := by decide +kernel
theorem dX10_merges_128 : decode cX10_merges 128 = .ok (.iload_n 2, 1) := by decide +kernel
theorem dX10_merges_129 : decode cX10_merges 129 = .ok (.bipush 20, 2) := by decide +kernel
theorem dX10_merges_131 : decode cX10_merges 131 = .ok (.if_icmp .ge 54, 3) := by decide +kernel
theorem dX10_merges_134 : decode cX10_merges 134 = .ok (.iconst 0, 1) := by decide +kernel
theorem dX10_merges_135 : decode cX10_merges 135 = .ok (.istore_n 3, 1) := by decide +kernel
theorem dX10_merges_136 : decode cX10_merges 136 = .ok (.iload_n 3, 1) := by decide +kernel
theorem dX10_merges_137 : decode cX10_merges 137 = .ok (.bipush 9, 2) := by decide +kernel
theorem dX10_merges_139 : decode cX10_merges 139 = .ok (.if_icmp .ge 40, 3) := by decide +kernel
theorem dX10_merges_142 : decode cX10_merges 142 = .ok (.aload_n 0, 1) := by decide +kernel
theorem dX10_merges_143 : decode cX10_merges 143 = .ok (.getfield 323, 3) := by decide +kernel
theorem dX10_merges_146 : decode cX10_merges 146 = .ok (.iload_n 2, 1) := by decide +kernel
theorem dX10_merges_147 : decode cX10_merges 147 = .ok (.ishr, 1) := by decide +kernel
theorem dX10_merges_148 : decode cX10_merges 148 = .ok (.iconst 1, 1) := by decide +kernel
theorem dX10_merges_149 : decode cX10_merges 149 = .ok (.iand, 1) := by decide +kernel
theorem dX10_merges_150 : decode cX10_merges 150 = .ok (.iconst 1, 1) := by decide +kernel
theorem dX10_merges_151 : decode cX10_merges 151 = .ok (.if_icmp .ne 22, 3) := by decide +kernel
theorem dX10_merges_154 : decode cX10_merges 154 = .ok (.aload_n 0, 1) := by decide +kernel
theorem dX10_merges_155 : decode cX10_merges 155 = .ok (.getfield 291, 3) := by decide +kernel
theorem dX10_merges_158 : decode cX10_merges 158 = .ok (.iload_n 3, 1) := by decide +kernel
theorem dX10_merges_159 : decode cX10_merges 159 = .ok (.ishr, 1) := by decide +kernel
theorem dX10_merges_160 : decode cX10_merges 160 = .ok (.iconst 1, 1) := by decide +kernel
theorem dX10_merges_161 : decode cX10_merges 161 = .ok (.iand, 1) := by decide +kernel
theorem dX10_merges_162 : decode cX10_merges 162 = .ok (.iconst 1, 1) := by decide +kernel
theorem dX10_merges_163 : decode cX10_merges 163 = .ok (.if_icmp .ne 10, 3) := by decide +kernel
theorem dX10_merges_166 : decode cX10_merges 166 = .ok (.aload_n 0, 1) := by decide +kernel
theorem dX10_merges_167 : decode cX10_merges 167 = .ok (.iload_n 1, 1) := by decide +kernel
theorem dX10_merges_168 : decode cX10_merges 168 = .ok (.iload_n 2, 1) := by decide +kernel
theorem dX10_merges_169 : decode cX10_merges 169 = .ok (.iload_n 3, 1) := by decide +kernel
theorem dX10_merges_170 : decode cX10_merges 170 = .ok (.invokevirtual 348, 3) := by decide +kernel
theorem dX10_merges_173 : decode cX10_merges 173 = .ok (.iinc 3 1, 3) := by decide +kernel
theorem dX10_merges_176 : decode cX10_merges 176 = .ok (.goto (-40), 3) := by decide +kernel
theorem dX10_merges_179 : decode cX10_merges 179 = .ok (.iinc 2 1, 3) := by decide +kernel
theorem dX10_merges_182 : decode cX10_merges 182 = .ok (.goto (-54), 3) := by decide +kernel
theorem dX10_merges_185 : decode cX10_merges 185 = .ok (.iconst 0, 1) := by decide +kernel
theorem dX10_merges_186 : decode cX10_merges 186 = .ok (.istore_n 2, 1) := by decide +kernel
theorem dX10_merges_187 : decode cX10_merges 187 = .ok (.iload_n 2, 1) := by decide +kernel
theorem dX10_merges_188 : decode cX10_merges 188 = .ok (.aload_n 0, 1) := by decide +kernel
theorem dX10_merges_189 : decode cX10_merges 189 = .ok (.getfield 20, 3) := by decide +kernel
theorem dX10_merges_192 : decode cX10_merges 192 = .ok (.iload_n 1, 1) := by decide +kernel
theorem dX10_merges_193 : decode cX10_merges 193 = .ok (.sipush 600, 3) := by decide +kernel
theorem dX10_merges_196 : decode cX10_merges 196 = .ok (.iadd, 1) := by decide +kernel
theorem dX10_merges_197 : decode cX10_merges 197 = .ok (.iaload, 1) := by decide +kernel
theorem dX10_merges_198 : decode cX10_merges 198 = .ok (.if_icmp .ge 15, 3) := by decide +kernel
theorem dX10_merges_201 : decode cX10_merges 201 = .ok (.aload_n 0, 1) := by decide +kernel
theorem dX10_merges_202 : decode cX10_merges 202 = .ok (.iload_n 1, 1) := by decide +kernel
theorem dX10_merges_203 : decode cX10_merges 203 = .ok (.iload_n 2, 1) := by decide +kernel
theorem dX10_merges_204 : decode cX10_merges 204 = .ok (.invokevirtual 351, 3) := by decide +kernel
theorem dX10_merges_207 : decode cX10_merges 207 = .ok (.iinc 2 1, 3) := by decide +kernel
theorem dX10_merges_210 : decode cX10_merges 210 = .ok (.goto (-23), 3) := by decide +kernel
theorem dX10_merges_213 : decode cX10_merges 213 = .ok (.return_, 1) := by decide +kernel
theorem dX10_choicesThere_0 : decode cX10_choicesThere 0 = .ok (.iconst 0, 1) := by decide +kernel
theorem dX10_choicesThere_1 : decode cX10_choicesThere 1 = .ok (.istore_n 1, 1) := by decide +kernel
theorem dX10_choicesThere_2 : decode cX10_choicesThere 2 = .ok (.iconst 0, 1) := by decide +kernel
theorem dX10_choicesThere_3 : decode cX10_choicesThere 3 = .ok (.istore_n 2, 1) := by decide +kernel
theorem dX10_choicesThere_4 : decode cX10_choicesThere 4 = .ok (.iload_n 2, 1) := by decide +kernel
theorem dX10_choicesThere_5 : decode cX10_choicesThere 5 = .ok (.sipush 316, 3) := by decide +kernel
theorem dX10_choicesThere_8 : decode cX10_choicesThere 8 = .ok (.if_icmp .ge 31, 3) := by decide +kernel
theorem dX10_choicesThere_11 : decode cX10_choicesThere 11 = .ok (.iload_n 1, 1) := by decide +kernel
theorem dX10_choicesThere_12 : decode cX10_choicesThere 12 = .ok (.aload_n 0, 1) := by decide +kernel
theorem dX10_choicesThere_13 : decode cX10_choicesThere 13 = .ok (.getfield 20, 3) := by decide +kernel
theorem dX10_choicesThere_16 : decode cX10_choicesThere 16 = .ok (.sipush 615, 3) := by decide +kernel
theorem dX10_choicesThere_19 : decode cX10_choicesThere 19 = .ok (.iload_n 2, 1) := by decide +kernel
theorem dX10_choicesThere_20 : decode cX10_choicesThere 20 = .ok (.iadd, 1) := by decide +kernel
theorem dX10_choicesThere_21 : decode cX10_choicesThere 21 = .ok (.iaload, 1) := by decide +kernel
theorem dX10_choicesThere_22 : decode cX10_choicesThere 22 = .ok (.iconst (-1), 1) := by decide +kernel
theorem dX10_choicesThere_23 : decode cX10_choicesThere 23 = .ok (.if_icmp .ne 7, 3) := by decide +kernel
theorem dX10_choicesThere_26 : decode cX10_choicesThere 26 = .ok (.iconst 0, 1) := by decide +kernel
theorem dX10_choicesThere_27 : decode cX10_choicesThere 27 = .ok (.goto 4, 3) := by decide +kernel
theorem dX10_choicesThere_30 : decode cX10_choicesThere 30 = .ok (.iconst 1, 1) := by decide +kernel
theorem dX10_choicesThere_31 : decode cX10_choicesThere 31 = .ok (.iadd, 1) := by decide +kernel
theorem dX10_choicesThere_32 : decode cX10_choicesThere 32 = .ok (.istore_n 1, 1) := by decide +kernel
theorem dX10_choicesThere_33 : decode cX10_choicesThere 33 = .ok (.iinc 2 1, 3) := by decide +kernel
theorem dX10_choicesThere_36 : decode cX10_choicesThere 36 = .ok (.goto (-32), 3) := by decide +kernel
theorem dX10_choicesThere_39 : decode cX10_choicesThere 39 = .ok (.iload_n 1, 1) := by decide +kernel
theorem dX10_choicesThere_40 : decode cX10_choicesThere 40 = .ok (.ireturn, 1) := by decide +kernel
theorem dX10_choicesWaiting_0 : decode cX10_choicesWaiting 0 = .ok (.iconst 0, 1) := by decide +kernel
theorem dX10_choicesWaiting_1 : decode cX10_choicesWaiting 1 = .ok (.istore_n 1, 1) := by decide +kernel
theorem dX10_choicesWaiting_2 : decode cX10_choicesWaiting 2 = .ok (.iconst 0, 1) := by decide +kernel
theorem dX10_choicesWaiting_3 : decode cX10_choicesWaiting 3 = .ok (.istore_n 2, 1) := by decide +kernel
theorem dX10_choicesWaiting_4 : decode cX10_choicesWaiting 4 = .ok (.iload_n 2, 1) := by decide +kernel
theorem dX10_choicesWaiting_5 : decode cX10_choicesWaiting 5 = .ok (.sipush 316, 3) := by decide +kernel
theorem dX10_choicesWaiting_8 : decode cX10_choicesWaiting 8 = .ok (.if_icmp .ge 41, 3) := by decide +kernel
theorem dX10_choicesWaiting_11 : decode cX10_choicesWaiting 11 = .ok (.iload_n 1, 1) := by decide +kernel
theorem dX10_choicesWaiting_12 : decode cX10_choicesWaiting 12 = .ok (.aload_n 0, 1) := by decide +kernel
theorem dX10_choicesWaiting_13 : decode cX10_choicesWaiting 13 = .ok (.getfield 20, 3) := by decide +kernel
theorem dX10_choicesWaiting_16 : decode cX10_choicesWaiting 16 = .ok (.sipush 615, 3) := by decide +kernel
theorem dX10_choicesWaiting_19 : decode cX10_choicesWaiting 19 = .ok (.iload_n 2, 1) := by decide +kernel
theorem dX10_choicesWaiting_20 : decode cX10_choicesWaiting 20 = .ok (.iadd, 1) := by decide +kernel
theorem dX10_choicesWaiting_21 : decode cX10_choicesWaiting 21 = .ok (.iaload, 1) := by decide +kernel
theorem dX10_choicesWaiting_22 : decode cX10_choicesWaiting 22 = .ok (.iconst (-1), 1) := by decide +kernel
theorem dX10_choicesWaiting_23 : decode cX10_choicesWaiting 23 = .ok (.if_icmp .eq 13, 3) := by decide +kernel
theorem dX10_choicesWaiting_26 : decode cX10_choicesWaiting 26 = .ok (.aload_n 0, 1) := by decide +kernel
theorem dX10_choicesWaiting_27 : decode cX10_choicesWaiting 27 = .ok (.getfield 44, 3) := by decide +kernel
theorem dX10_choicesWaiting_30 : decode cX10_choicesWaiting 30 = .ok (.iload_n 2, 1) := by decide +kernel
theorem dX10_choicesWaiting_31 : decode cX10_choicesWaiting 31 = .ok (.iaload, 1) := by decide +kernel
theorem dX10_choicesWaiting_32 : decode cX10_choicesWaiting 32 = .ok (.iconst 1, 1) := by decide +kernel
theorem dX10_choicesWaiting_33 : decode cX10_choicesWaiting 33 = .ok (.if_icmp .ne 7, 3) := by decide +kernel
theorem dX10_choicesWaiting_36 : decode cX10_choicesWaiting 36 = .ok (.iconst 0, 1) := by decide +kernel
theorem dX10_choicesWaiting_37 : decode cX10_choicesWaiting 37 = .ok (.goto 4, 3) := by decide +kernel
theorem dX10_choicesWaiting_40 : decode cX10_choicesWaiting 40 = .ok (.iconst 1, 1) := by decide +kernel
theorem dX10_choicesWaiting_41 : decode cX10_choicesWaiting 41 = .ok (.iadd, 1) := by decide +kernel
theorem dX10_choicesWaiting_42 : decode cX10_choicesWaiting 42 = .ok (.istore_n 1, 1) := by decide +kernel
theorem dX10_choicesWaiting_43 : decode cX10_choicesWaiting 43 = .ok (.iinc 2 1, 3) := by decide +kernel
theorem dX10_choicesWaiting_46 : decode cX10_choicesWaiting 46 = .ok (.goto (-42), 3) := by decide +kernel
theorem dX10_choicesWaiting_49 : decode cX10_choicesWaiting 49 = .ok (.iload_n 1, 1) := by decide +kernel
theorem dX10_choicesWaiting_50 : decode cX10_choicesWaiting 50 = .ok (.ireturn, 1) := by decide +kernel
theorem dX10_filled_0 : decode cX10_filled 0 = .ok (.iconst 0, 1) := by decide +kernel
theorem dX10_filled_1 : decode cX10_filled 1 = .ok (.istore_n 1, 1) := by decide +kernel
theorem dX10_filled_2 : decode cX10_filled 2 = .ok (.iconst 0, 1) := by decide +kernel
theorem dX10_filled_3 : decode cX10_filled 3 = .ok (.istore_n 2, 1) := by decide +kernel
theorem dX10_filled_4 : decode cX10_filled 4 = .ok (.iload_n 2, 1) := by decide +kernel
theorem dX10_filled_5 : decode cX10_filled 5 = .ok (.bipush 20, 2) := by decide +kernel
theorem dX10_filled_7 : decode cX10_filled 7 = .ok (.if_icmp .ge 67, 3) := by decide +kernel
theorem dX10_filled_10 : decode cX10_filled 10 = .ok (.iconst 0, 1) := by decide +kernel
theorem dX10_filled_11 : decode cX10_filled 11 = .ok (.istore_n 3, 1) := by decide +kernel
theorem dX10_filled_12 : decode cX10_filled 12 = .ok (.iload_n 3, 1) := by decide +kernel
theorem dX10_filled_13 : decode cX10_filled 13 = .ok (.bipush 9, 2) := by decide +kernel
theorem dX10_filled_15 : decode cX10_filled 15 = .ok (.if_icmp .ge 53, 3) := by decide +kernel
theorem dX10_filled_18 : decode cX10_filled 18 = .ok (.aload_n 0, 1) := by decide +kernel
theorem dX10_filled_19 : decode cX10_filled 19 = .ok (.getfield 323, 3) := by decide +kernel
theorem dX10_filled_22 : decode cX10_filled 22 = .ok (.iload_n 2, 1) := by decide +kernel
theorem dX10_filled_23 : decode cX10_filled 23 = .ok (.ishr, 1) := by decide +kernel
theorem dX10_filled_24 : decode cX10_filled 24 = .ok (.iconst 1, 1) := by decide +kernel
theorem dX10_filled_25 : decode cX10_filled 25 = .ok (.iand, 1) := by decide +kernel
theorem dX10_filled_26 : decode cX10_filled 26 = .ok (.iconst 1, 1) := by decide +kernel
theorem dX10_filled_27 : decode cX10_filled 27 = .ok (.if_icmp .ne 35, 3) := by decide +kernel
theorem dX10_filled_30 : decode cX10_filled 30 = .ok (.aload_n 0, 1) := by decide +kernel
theorem dX10_filled_31 : decode cX10_filled 31 = .ok (.getfield 291, 3) := by decide +kernel
theorem dX10_filled_34 : decode cX10_filled 34 = .ok (.iload_n 3, 1) := by decide +kernel
theorem dX10_filled_35 : decode cX10_filled 35 = .ok (.ishr, 1) := by decide +kernel
theorem dX10_filled_36 : decode cX10_filled 36 = .ok (.iconst 1, 1) := by decide +kernel
theorem dX10_filled_37 : decode cX10_filled 37 = .ok (.iand, 1) := by decide +kernel
theorem dX10_filled_38 : decode cX10_filled 38 = .ok (.iconst 1, 1) := by decide +kernel
theorem dX10_filled_39 : decode cX10_filled 39 = .ok (.if_icmp .ne 23, 3) := by decide +kernel
theorem dX10_filled_42 : decode cX10_filled 42 = .ok (.iload_n 1, 1) := by decide +kernel
theorem dX10_filled_43 : decode cX10_filled 43 = .ok (.aload_n 0, 1) := by decide +kernel
theorem dX10_filled_44 : decode cX10_filled 44 = .ok (.iload_n 2, 1) := by decide +kernel
theorem dX10_filled_45 : decode cX10_filled 45 = .ok (.iload_n 3, 1) := by decide +kernel
theorem dX10_filled_46 : decode cX10_filled 46 = .ok (.invokevirtual 326, 3) := by decide +kernel
theorem dX10_filled_49 : decode cX10_filled 49 = .ok (.sipush 9999, 3) := by decide +kernel
theorem dX10_filled_52 : decode cX10_filled 52 = .ok (.if_icmp .ne 7, 3) := by decide +kernel
theorem dX10_filled_55 : decode cX10_filled 55 = .ok (.iconst 0, 1) := by decide +kernel
theorem dX10_filled_56 : decode cX10_filled 56 = .ok (.goto 4, 3) := by decide +kernel
theorem dX10_filled_59 : decode cX10_filled 59 = .ok (.iconst 1, 1) := by decide +kernel
theorem dX10_filled_60 : decode cX10_filled 60 = .ok (.iadd, 1) := by decide +kernel
theorem dX10_filled_61 : decode cX10_filled 61 = .ok (.istore_n 1, 1) := by decide +kernel
theorem dX10_filled_62 : decode cX10_filled 62 = .ok (.iinc 3 1, 3) := by decide +kernel
theorem dX10_filled_65 : decode cX10_filled 65 = .ok (.goto (-53), 3) := by decide +kernel
theorem dX10_filled_68 : decode cX10_filled 68 = .ok (.iinc 2 1, 3) := by decide +kernel
theorem dX10_filled_71 : decode cX10_filled 71 = .ok (.goto (-67), 3) := by decide +kernel
theorem dX10_filled_74 : decode cX10_filled 74 = .ok (.iload_n 1, 1) := by decide +kernel
theorem dX10_filled_75 : decode cX10_filled 75 = .ok (.ireturn, 1) := by decide +kernel
theorem dX10_count_0 : decode cX10_count 0 = .ok (.aload_n 0, 1) := by decide +kernel
theorem dX10_count_1 : decode cX10_count 1 = .ok (.iconst 0, 1) := by decide +kernel
theorem dX10_count_2 : decode cX10_count 2 = .ok (.putfield 65, 3) := by decide +kernel
theorem dX10_count_5 : decode cX10_count 5 = .ok (.aload_n 0, 1) := by decide +kernel
theorem dX10_count_6 : decode cX10_count 6 = .ok (.iload_n 1, 1) := by decide +kernel
theorem dX10_count_7 : decode cX10_count 7 = .ok (.iconst 0, 1) := by decide +kernel
theorem dX10_count_8 : decode cX10_count 8 = .ok (.bipush 14, 2) := by decide +kernel
theorem dX10_count_10 : decode cX10_count 10 = .ok (.invokestatic 231, 3) := by decide +kernel
theorem dX10_count_13 : decode cX10_count 13 = .ok (.iconst 1, 1) := by decide +kernel
theorem dX10_count_14 : decode cX10_count 14 = .ok (.invokevirtual 214, 3) := by decide +kernel
theorem dX10_count_17 : decode cX10_count 17 = .ok (.ifCond .ne 5, 3) := by decide +kernel
theorem dX10_count_20 : decode cX10_count 20 = .ok (.iconst 0, 1) := by decide +kernel
theorem dX10_count_21 : decode cX10_count 21 = .ok (.ireturn, 1) := by decide +kernel
theorem dX10_count_22 : decode cX10_count 22 = .ok (.aload_n 0, 1) := by decide +kernel
theorem dX10_count_23 : decode cX10_count 23 = .ok (.iconst 0, 1) := by decide +kernel
theorem dX10_count_24 : decode cX10_count 24 = .ok (.invokevirtual 354, 3) := by decide +kernel
theorem dX10_count_27 : decode cX10_count 27 = .ok (.iload_n 1, 1) := by decide +kernel
theorem dX10_count_28 : decode cX10_count 28 = .ok (.tableswitch 148 0 11 #[64, 76, 88, 97, 105, 113, 118, 123, 128, 133, 138, 143], 64) := by decide +kernel
theorem dX10_count_92 : decode cX10_count 92 = .ok (.aload_n 0, 1) := by decide +kernel
theorem dX10_count_93 : decode cX10_count 93 = .ok (.getfield 20, 3) := by decide +kernel
theorem dX10_count_96 : decode cX10_count 96 = .ok (.sipush 400, 3) := by decide +kernel
theorem dX10_count_99 : decode cX10_count 99 = .ok (.iaload, 1) := by decide +kernel
theorem dX10_count_100 : decode cX10_count 100 = .ok (.invokestatic 240, 3) := by decide +kernel
theorem dX10_count_103 : decode cX10_count 103 = .ok (.ireturn, 1) := by decide +kernel
theorem dX10_count_104 : decode cX10_count 104 = .ok (.aload_n 0, 1) := by decide +kernel
theorem dX10_count_105 : decode cX10_count 105 = .ok (.getfield 20, 3) := by decide +kernel
theorem dX10_count_108 : decode cX10_count 108 = .ok (.sipush 401, 3) := by decide +kernel
theorem dX10_count_111 : decode cX10_count 111 = .ok (.iaload, 1) := by decide +kernel
theorem dX10_count_112 : decode cX10_count 112 = .ok (.invokestatic 240, 3) := by decide +kernel
theorem dX10_count_115 : decode cX10_count 115 = .ok (.ireturn, 1) := by decide +kernel
theorem dX10_count_116 : decode cX10_count 116 = .ok (.aload_n 0, 1) := by decide +kernel
theorem dX10_count_117 : decode cX10_count 117 = .ok (.getfield 20, 3) := by decide +kernel
theorem dX10_count_120 : decode cX10_count 120 = .ok (.sipush 600, 3) := by decide +kernel
theorem dX10_count_123 : decode cX10_count 123 = .ok (.iaload, 1) := by decide +kernel
theorem dX10_count_124 : decode cX10_count 124 = .ok (.ireturn, 1) := by decide +kernel
theorem dX10_count_125 : decode cX10_count 125 = .ok (.aload_n 0, 1) := by decide +kernel
theorem dX10_count_126 : decode cX10_count 126 = .ok (.getfield 291, 3) := by decide +kernel
theorem dX10_count_129 : decode cX10_count 129 = .ok (.invokestatic 240, 3) := by decide +kernel
theorem dX10_count_132 : decode cX10_count 132 = .ok (.ireturn, 1) := by decide +kernel
theorem dX10_count_133 : decode cX10_count 133 = .ok (.aload_n 0, 1) := by decide +kernel
theorem dX10_count_134 : decode cX10_count 134 = .ok (.getfield 323, 3) := by decide +kernel
theorem dX10_count_137 : decode cX10_count 137 = .ok (.invokestatic 240, 3) := by decide +kernel
theorem dX10_count_140 : decode cX10_count 140 = .ok (.ireturn, 1) := by decide +kernel
theorem dX10_count_141 : decode cX10_count 141 = .ok (.aload_n 0, 1) := by decide +kernel
theorem dX10_count_142 : decode cX10_count 142 = .ok (.getfield 282, 3) := by decide +kernel
theorem dX10_count_145 : decode cX10_count 145 = .ok (.ireturn, 1) := by decide +kernel
theorem dX10_count_146 : decode cX10_count 146 = .ok (.aload_n 0, 1) := by decide +kernel
theorem dX10_count_147 : decode cX10_count 147 = .ok (.invokevirtual 357, 3) := by decide +kernel
theorem dX10_count_150 : decode cX10_count 150 = .ok (.ireturn, 1) := by decide +kernel
theorem dX10_count_151 : decode cX10_count 151 = .ok (.aload_n 0, 1) := by decide +kernel
theorem dX10_count_152 : decode cX10_count 152 = .ok (.invokevirtual 360, 3) := by decide +kernel
theorem dX10_count_155 : decode cX10_count 155 = .ok (.ireturn, 1) := by decide +kernel
theorem dX10_count_156 : decode cX10_count 156 = .ok (.aload_n 0, 1) := by decide +kernel
theorem dX10_count_157 : decode cX10_count 157 = .ok (.invokevirtual 363, 3) := by decide +kernel
theorem dX10_count_160 : decode cX10_count 160 = .ok (.ireturn, 1) := by decide +kernel
theorem dX10_count_161 : decode cX10_count 161 = .ok (.aload_n 0, 1) := by decide +kernel
theorem dX10_count_162 : decode cX10_count 162 = .ok (.getfield 221, 3) := by decide +kernel
theorem dX10_count_165 : decode cX10_count 165 = .ok (.ireturn, 1) := by decide +kernel
theorem dX10_count_166 : decode cX10_count 166 = .ok (.aload_n 0, 1) := by decide +kernel
theorem dX10_count_167 : decode cX10_count 167 = .ok (.getfield 224, 3) := by decide +kernel
theorem dX10_count_170 : decode cX10_count 170 = .ok (.ireturn, 1) := by decide +kernel
theorem dX10_count_171 : decode cX10_count 171 = .ok (.aload_n 0, 1) := by decide +kernel
theorem dX10_count_172 : decode cX10_count 172 = .ok (.getfield 68, 3) := by decide +kernel
theorem dX10_count_175 : decode cX10_count 175 = .ok (.ireturn, 1) := by decide +kernel
theorem dX10_count_176 : decode cX10_count 176 = .ok (.aload_n 0, 1) := by decide +kernel
theorem dX10_count_177 : decode cX10_count 177 = .ok (.getfield 17, 3) := by decide +kernel
theorem dX10_count_180 : decode cX10_count 180 = .ok (.iload_n 1, 1) := by decide +kernel
theorem dX10_count_181 : decode cX10_count 181 = .ok (.bipush 12, 2) := by decide +kernel
theorem dX10_count_183 : decode cX10_count 183 = .ok (.isub, 1) := by decide +kernel
theorem dX10_count_184 : decode cX10_count 184 = .ok (.iaload, 1) := by decide +kernel
theorem dX10_count_185 : decode cX10_count 185 = .ok (.ireturn, 1) := by decide +kernel
theorem dX10_isTable_0 : decode cX10_isTable 0 = .ok (.aload_n 0, 1) := by decide +kernel
theorem dX10_isTable_1 : decode cX10_isTable 1 = .ok (.iload_n 1, 1) := by decide +kernel
theorem dX10_isTable_2 : decode cX10_isTable 2 = .ok (.iconst 0, 1) := by decide +kernel
theorem dX10_isTable_3 : decode cX10_isTable 3 = .ok (.iconst 3, 1) := by decide +kernel
theorem dX10_isTable_4 : decode cX10_isTable 4 = .ok (.invokestatic 231, 3) := by decide +kernel
theorem dX10_isTable_7 : decode cX10_isTable 7 = .ok (.iconst 1, 1) := by decide +kernel
theorem dX10_isTable_8 : decode cX10_isTable 8 = .ok (.invokevirtual 214, 3) := by decide +kernel
theorem dX10_isTable_11 : decode cX10_isTable 11 = .ok (.ifCond .ne 5, 3) := by decide +kernel
theorem dX10_isTable_14 : decode cX10_isTable 14 = .ok (.iconst 0, 1) := by decide +kernel
theorem dX10_isTable_15 : decode cX10_isTable 15 = .ok (.ireturn, 1) := by decide +kernel
theorem dX10_isTable_16 : decode cX10_isTable 16 = .ok (.iload_n 1, 1) := by decide +kernel
theorem dX10_isTable_17 : decode cX10_isTable 17 = .ok (.iconst 3, 1) := by decide +kernel
theorem dX10_isTable_18 : decode cX10_isTable 18 = .ok (.if_icmp .ne 8, 3) := by decide +kernel
theorem dX10_isTable_21 : decode cX10_isTable 21 = .ok (.aload_n 0, 1) := by decide +kernel
theorem dX10_isTable_22 : decode cX10_isTable 22 = .ok (.iconst 0, 1) := by decide +kernel
theorem dX10_isTable_23 : decode cX10_isTable 23 = .ok (.invokevirtual 354, 3) := by decide +kernel
theorem dX10_isTable_26 : decode cX10_isTable 26 = .ok (.iconst 1, 1) := by decide +kernel
theorem dX10_isTable_27 : decode cX10_isTable 27 = .ok (.ireturn, 1) := by decide +kernel
theorem dX10_hasOf_0 : decode cX10_hasOf 0 = .ok (.iload_n 1, 1) := by decide +kernel
theorem dX10_hasOf_1 : decode cX10_hasOf 1 = .ok (.iconst 3, 1) := by decide +kernel
theorem dX10_hasOf_2 : decode cX10_hasOf 2 = .ok (.if_icmp .ne 10, 3) := by decide +kernel
theorem dX10_hasOf_5 : decode cX10_hasOf 5 = .ok (.aload_n 0, 1) := by decide +kernel
theorem dX10_hasOf_6 : decode cX10_hasOf 6 = .ok (.getfield 291, 3) := by decide +kernel
theorem dX10_hasOf_9 : decode cX10_hasOf 9 = .ok (.goto 15, 3) := by decide +kernel
theorem dX10_hasOf_12 : decode cX10_hasOf 12 = .ok (.aload_n 0, 1) := by decide +kernel
theorem dX10_hasOf_13 : decode cX10_hasOf 13 = .ok (.getfield 20, 3) := by decide +kernel
theorem dX10_hasOf_16 : decode cX10_hasOf 16 = .ok (.sipush 200, 3) := by decide +kernel
theorem dX10_hasOf_19 : decode cX10_hasOf 19 = .ok (.iload_n 1, 1) := by decide +kernel
theorem dX10_hasOf_20 : decode cX10_hasOf 20 = .ok (.imul, 1) := by decide +kernel
theorem dX10_hasOf_21 : decode cX10_hasOf 21 = .ok (.iconst 0, 1) := by decide +kernel
theorem dX10_hasOf_22 : decode cX10_hasOf 22 = .ok (.iadd, 1) := by decide +kernel
theorem dX10_hasOf_23 : decode cX10_hasOf 23 = .ok (.iaload, 1) := by decide +kernel
theorem dX10_hasOf_24 : decode cX10_hasOf 24 = .ok (.ireturn, 1) := by decide +kernel
theorem dX10_keysOf_0 : decode cX10_keysOf 0 = .ok (.iload_n 1, 1) := by decide +kernel
theorem dX10_keysOf_1 : decode cX10_keysOf 1 = .ok (.iconst 3, 1) := by decide +kernel
theorem dX10_keysOf_2 : decode cX10_keysOf 2 = .ok (.if_icmp .ne 10, 3) := by decide +kernel
theorem dX10_keysOf_5 : decode cX10_keysOf 5 = .ok (.aload_n 0, 1) := by decide +kernel
theorem dX10_keysOf_6 : decode cX10_keysOf 6 = .ok (.getfield 323, 3) := by decide +kernel
theorem dX10_keysOf_9 : decode cX10_keysOf 9 = .ok (.goto 15, 3) := by decide +kernel
theorem dX10_keysOf_12 : decode cX10_keysOf 12 = .ok (.aload_n 0, 1) := by decide +kernel
theorem dX10_keysOf_13 : decode cX10_keysOf 13 = .ok (.getfield 20, 3) := by decide +kernel
theorem dX10_keysOf_16 : decode cX10_keysOf 16 = .ok (.sipush 200, 3) := by decide +kernel
theorem dX10_keysOf_19 : decode cX10_keysOf 19 = .ok (.iload_n 1, 1) := by decide +kernel
theorem dX10_keysOf_20 : decode cX10_keysOf 20 = .ok (.imul, 1) := by decide +kernel
theorem dX10_keysOf_21 : decode cX10_keysOf 21 = .ok (.iconst 1, 1) := by decide +kernel
theorem dX10_keysOf_22 : decode cX10_keysOf 22 = .ok (.iadd, 1) := by decide +kernel
theorem dX10_keysOf_23 : decode cX10_keysOf 23 = .ok (.iaload, 1) := by decide +kernel
theorem dX10_keysOf_24 : decode cX10_keysOf 24 = .ok (.ireturn, 1) := by decide +kernel
theorem dX10_isColumn_0 : decode cX10_isColumn 0 = .ok (.aload_n 0, 1) := by decide +kernel
theorem dX10_isColumn_1 : decode cX10_isColumn 1 = .ok (.iload_n 2, 1) := by decide +kernel
theorem dX10_isColumn_2 : decode cX10_isColumn 2 = .ok (.iconst 0, 1) := by decide +kernel
theorem dX10_isColumn_3 : decode cX10_isColumn 3 = .ok (.bipush 8, 2) := by decide +kernel
theorem dX10_isColumn_5 : decode cX10_isColumn 5 = .ok (.invokestatic 231, 3) := by decide +kernel
theorem dX10_isColumn_8 : decode cX10_isColumn 8 = .ok (.ifCond .eq 20, 3) := by decide +kernel
theorem dX10_isColumn_11 : decode cX10_isColumn 11 = .ok (.aload_n 0, 1) := by decide +kernel
theorem dX10_isColumn_12 : decode cX10_isColumn 12 = .ok (.iload_n 1, 1) := by decide +kernel
theorem dX10_isColumn_13 : decode cX10_isColumn 13 = .ok (.invokevirtual 366, 3) := by decide +kernel
theorem dX10_isColumn_16 : decode cX10_isColumn 16 = .ok (.iload_n 2, 1) := by decide +kernel
theorem dX10_isColumn_17 : decode cX10_isColumn 17 = .ok (.ishr, 1) := by decide +kernel
theorem dX10_isColumn_18 : decode cX10_isColumn 18 = .ok (.iconst 1, 1) := by decide +kernel
theorem dX10_isColumn_19 : decode cX10_isColumn 19 = .ok (.iand, 1) := by decide +kernel
theorem dX10_isColumn_20 : decode cX10_isColumn 20 = .ok (.iconst 1, 1) := by decide +kernel
theorem dX10_isColumn_21 : decode cX10_isColumn 21 = .ok (.if_icmp .ne 7, 3) := by decide +kernel
theorem dX10_isColumn_24 : decode cX10_isColumn 24 = .ok (.iconst 1, 1) := by decide +kernel
theorem dX10_isColumn_25 : decode cX10_isColumn 25 = .ok (.goto 4, 3) := by decide +kernel
theorem dX10_isColumn_28 : decode cX10_isColumn 28 = .ok (.iconst 0, 1) := by decide +kernel
theorem dX10_isColumn_29 : decode cX10_isColumn 29 = .ok (.iconst 1, 1) := by decide +kernel
theorem dX10_isColumn_30 : decode cX10_isColumn 30 = .ok (.invokevirtual 214, 3) := by decide +kernel
theorem dX10_isColumn_33 : decode cX10_isColumn 33 = .ok (.ireturn, 1) := by decide +kernel
theorem dX10_isKey_0 : decode cX10_isKey 0 = .ok (.aload_n 0, 1) := by decide +kernel
theorem dX10_isKey_1 : decode cX10_isKey 1 = .ok (.iload_n 2, 1) := by decide +kernel
theorem dX10_isKey_2 : decode cX10_isKey 2 = .ok (.iconst 0, 1) := by decide +kernel
theorem dX10_isKey_3 : decode cX10_isKey 3 = .ok (.bipush 19, 2) := by decide +kernel
theorem dX10_isKey_5 : decode cX10_isKey 5 = .ok (.invokestatic 231, 3) := by decide +kernel
theorem dX10_isKey_8 : decode cX10_isKey 8 = .ok (.ifCond .eq 20, 3) := by decide +kernel
theorem dX10_isKey_11 : decode cX10_isKey 11 = .ok (.aload_n 0, 1) := by decide +kernel
theorem dX10_isKey_12 : decode cX10_isKey 12 = .ok (.iload_n 1, 1) := by decide +kernel
theorem dX10_isKey_13 : decode cX10_isKey 13 = .ok (.invokevirtual 369, 3) := by decide +kernel
theorem dX10_isKey_16 : decode cX10_isKey 16 = .ok (.iload_n 2, 1) := by decide +kernel
theorem dX10_isKey_17 : decode cX10_isKey 17 = .ok (.ishr, 1) := by decide +kernel
theorem dX10_isKey_18 : decode cX10_isKey 18 = .ok (.iconst 1, 1) := by decide +kernel
theorem dX10_isKey_19 : decode cX10_isKey 19 = .ok (.iand, 1) := by decide +kernel
theorem dX10_isKey_20 : decode cX10_isKey 20 = .ok (.iconst 1, 1) := by decide +kernel
theorem dX10_isKey_21 : decode cX10_isKey 21 = .ok (.if_icmp .ne 7, 3) := by decide +kernel
theorem dX10_isKey_24 : decode cX10_isKey 24 = .ok (.iconst 1, 1) := by decide +kernel
theorem dX10_isKey_25 : decode cX10_isKey 25 = .ok (.goto 4, 3) := by decide +kernel
theorem dX10_isKey_28 : decode cX10_isKey 28 = .ok (.iconst 0, 1) := by decide +kernel
theorem dX10_isKey_29 : decode cX10_isKey 29 = .ok (.iconst 1, 1) := by decide +kernel
theorem dX10_isKey_30 : decode cX10_isKey 30 = .ok (.invokevirtual 214, 3) := by decide +kernel
theorem dX10_isKey_33 : decode cX10_isKey 33 = .ok (.ireturn, 1) := by decide +kernel
theorem dX10_isWhat_0 : decode cX10_isWhat 0 = .ok (.aload_n 0, 1) := by decide +kernel
theorem dX10_isWhat_1 : decode cX10_isWhat 1 = .ok (.iload_n 1, 1) := by decide +kernel
theorem dX10_isWhat_2 : decode cX10_isWhat 2 = .ok (.iconst 0, 1) := by decide +kernel
theorem dX10_isWhat_3 : decode cX10_isWhat 3 = .ok (.iload_n 2, 1) := by decide +kernel
theorem dX10_isWhat_4 : decode cX10_isWhat 4 = .ok (.invokestatic 231, 3) := by decide +kernel
theorem dX10_isWhat_7 : decode cX10_isWhat 7 = .ok (.iconst 1, 1) := by decide +kernel
theorem dX10_isWhat_8 : decode cX10_isWhat 8 = .ok (.invokevirtual 214, 3) := by decide +kernel
theorem dX10_isWhat_11 : decode cX10_isWhat 11 = .ok (.ireturn, 1) := by decide +kernel
theorem dX10_table_0 : decode cX10_table 0 = .ok (.aload_n 0, 1) := by decide +kernel
theorem dX10_table_1 : decode cX10_table 1 = .ok (.iconst 0, 1) := by decide +kernel
theorem dX10_table_2 : decode cX10_table 2 = .ok (.putfield 65, 3) := by decide +kernel
theorem dX10_table_5 : decode cX10_table 5 = .ok (.aload_n 0, 1) := by decide +kernel
theorem dX10_table_6 : decode cX10_table 6 = .ok (.iload_n 1, 1) := by decide +kernel
theorem dX10_table_7 : decode cX10_table 7 = .ok (.invokevirtual 372, 3) := by decide +kernel
theorem dX10_table_10 : decode cX10_table 10 = .ok (.ifCond .eq 12, 3) := by decide +kernel
theorem dX10_table_13 : decode cX10_table 13 = .ok (.aload_n 0, 1) := by decide +kernel
theorem dX10_table_14 : decode cX10_table 14 = .ok (.iload_n 2, 1) := by decide +kernel
theorem dX10_table_15 : decode cX10_table 15 = .ok (.iconst 1, 1) := by decide +kernel
theorem dX10_table_16 : decode cX10_table 16 = .ok (.invokevirtual 375, 3) := by decide +kernel
theorem dX10_table_19 : decode cX10_table 19 = .ok (.ifCond .ne 5, 3) := by decide +kernel
theorem dX10_table_22 : decode cX10_table 22 = .ok (.iconst 0, 1) := by decide +kernel
theorem dX10_table_23 : decode cX10_table 23 = .ok (.ireturn, 1) := by decide +kernel
theorem dX10_table_24 : decode cX10_table 24 = .ok (.iload_n 2, 1) := by decide +kernel
theorem dX10_table_25 : decode cX10_table 25 = .ok (.ifCond .ne 11, 3) := by decide +kernel
theorem dX10_table_28 : decode cX10_table 28 = .ok (.aload_n 0, 1) := by decide +kernel
theorem dX10_table_29 : decode cX10_table 29 = .ok (.iload_n 1, 1) := by decide +kernel
theorem dX10_table_30 : decode cX10_table 30 = .ok (.invokevirtual 366, 3) := by decide +kernel
theorem dX10_table_33 : decode cX10_table 33 = .ok (.goto 8, 3) := by decide +kernel
theorem dX10_table_36 : decode cX10_table 36 = .ok (.aload_n 0, 1) := by decide +kernel
theorem dX10_table_37 : decode cX10_table 37 = .ok (.iload_n 1, 1) := by decide +kernel
theorem dX10_table_38 : decode cX10_table 38 = .ok (.invokevirtual 369, 3) := by decide +kernel
theorem dX10_table_41 : decode cX10_table 41 = .ok (.ireturn, 1) := by decide +kernel
theorem dX10_column_0 : decode cX10_column 0 = .ok (.aload_n 0, 1) := by decide +kernel
theorem dX10_column_1 : decode cX10_column 1 = .ok (.iconst 0, 1) := by decide +kernel
theorem dX10_column_2 : decode cX10_column 2 = .ok (.putfield 65, 3) := by decide +kernel
theorem dX10_column_5 : decode cX10_column 5 = .ok (.aload_n 0, 1) := by decide +kernel
theorem dX10_column_6 : decode cX10_column 6 = .ok (.iload_n 1, 1) := by decide +kernel
theorem dX10_column_7 : decode cX10_column 7 = .ok (.invokevirtual 372, 3) := by decide +kernel
theorem dX10_column_10 : decode cX10_column 10 = .ok (.ifCond .eq 21, 3) := by decide +kernel
theorem dX10_column_13 : decode cX10_column 13 = .ok (.aload_n 0, 1) := by decide +kernel
theorem dX10_column_14 : decode cX10_column 14 = .ok (.iload_n 1, 1) := by decide +kernel
theorem dX10_column_15 : decode cX10_column 15 = .ok (.iload_n 2, 1) := by decide +kernel
theorem dX10_column_16 : decode cX10_column 16 = .ok (.invokevirtual 378, 3) := by decide +kernel
theorem dX10_column_19 : decode cX10_column 19 = .ok (.ifCond .eq 12, 3) := by decide +kernel
theorem dX10_column_22 : decode cX10_column 22 = .ok (.aload_n 0, 1) := by decide +kernel
theorem dX10_column_23 : decode cX10_column 23 = .ok (.iload_n 3, 1) := by decide +kernel
theorem dX10_column_24 : decode cX10_column 24 = .ok (.iconst 1, 1) := by decide +kernel
theorem dX10_column_25 : decode cX10_column 25 = .ok (.invokevirtual 375, 3) := by decide +kernel
theorem dX10_column_28 : decode cX10_column 28 = .ok (.ifCond .ne 5, 3) := by decide +kernel
theorem dX10_column_31 : decode cX10_column 31 = .ok (.iconst 0, 1) := by decide +kernel
theorem dX10_column_32 : decode cX10_column 32 = .ok (.ireturn, 1) := by decide +kernel
theorem dX10_column_33 : decode cX10_column 33 = .ok (.iload_n 1, 1) := by decide +kernel
theorem dX10_column_34 : decode cX10_column 34 = .ok (.iconst 3, 1) := by decide +kernel
theorem dX10_column_35 : decode cX10_column 35 = .ok (.if_icmp .ne 23, 3) := by decide +kernel
theorem dX10_column_38 : decode cX10_column 38 = .ok (.iload_n 3, 1) := by decide +kernel
theorem dX10_column_39 : decode cX10_column 39 = .ok (.ifCond .ne 12, 3) := by decide +kernel
theorem dX10_column_42 : decode cX10_column 42 = .ok (.aload_n 0, 1) := by decide +kernel
theorem dX10_column_43 : decode cX10_column 43 = .ok (.getfield 26, 3) := by decide +kernel
theorem dX10_column_46 : decode cX10_column 46 = .ok (.iload_n 2, 1) := by decide +kernel
theorem dX10_column_47 : decode cX10_column 47 = .ok (.iaload, 1) := by decide +kernel
theorem dX10_column_48 : decode cX10_column 48 = .ok (.goto 9, 3) := by decide +kernel
theorem dX10_column_51 : decode cX10_column 51 = .ok (.aload_n 0, 1) := by decide +kernel
theorem dX10_column_52 : decode cX10_column 52 = .ok (.getfield 29, 3) := by decide +kernel
theorem dX10_column_55 : decode cX10_column 55 = .ok (.iload_n 2, 1) := by decide +kernel
theorem dX10_column_56 : decode cX10_column 56 = .ok (.iaload, 1) := by decide +kernel
theorem dX10_column_57 : decode cX10_column 57 = .ok (.ireturn, 1) := by decide +kernel
theorem dX10_column_58 : decode cX10_column 58 = .ok (.iload_n 3, 1) := by decide +kernel
theorem dX10_column_59 : decode cX10_column 59 = .ok (.ifCond .ne 13, 3) := by decide +kernel
theorem dX10_column_62 : decode cX10_column 62 = .ok (.aload_n 0, 1) := by decide +kernel
theorem dX10_column_63 : decode cX10_column 63 = .ok (.iconst 0, 1) := by decide +kernel
theorem dX10_column_64 : decode cX10_column 64 = .ok (.iload_n 1, 1) := by decide +kernel
theorem dX10_column_65 : decode cX10_column 65 = .ok (.iload_n 2, 1) := by decide +kernel
theorem dX10_column_66 : decode cX10_column 66 = .ok (.invokevirtual 237, 3) := by decide +kernel
theorem dX10_column_69 : decode cX10_column 69 = .ok (.goto 10, 3) := by decide +kernel
theorem dX10_column_72 : decode cX10_column 72 = .ok (.aload_n 0, 1) := by decide +kernel
theorem dX10_column_73 : decode cX10_column 73 = .ok (.iconst 0, 1) := by decide +kernel
theorem dX10_column_74 : decode cX10_column 74 = .ok (.iload_n 1, 1) := by decide +kernel
theorem dX10_column_75 : decode cX10_column 75 = .ok (.iload_n 2, 1) := by decide +kernel
theorem dX10_column_76 : decode cX10_column 76 = .ok (.invokevirtual 166, 3) := by decide +kernel
theorem dX10_column_79 : decode cX10_column 79 = .ok (.ireturn, 1) := by decide +kernel
theorem dX10_cell_0 : decode cX10_cell 0 = .ok (.aload_n 0, 1) := by decide +kernel
theorem dX10_cell_1 : decode cX10_cell 1 = .ok (.iconst 0, 1) := by decide +kernel
theorem dX10_cell_2 : decode cX10_cell 2 = .ok (.putfield 65, 3) := by decide +kernel
theorem dX10_cell_5 : decode cX10_cell 5 = .ok (.aload_n 0, 1) := by decide +kernel
theorem dX10_cell_6 : decode cX10_cell 6 = .ok (.iload_n 1, 1) := by decide +kernel
theorem dX10_cell_7 : decode cX10_cell 7 = .ok (.invokevirtual 372, 3) := by decide +kernel
theorem dX10_cell_10 : decode cX10_cell 10 = .ok (.ifCond .eq 21, 3) := by decide +kernel
theorem dX10_cell_13 : decode cX10_cell 13 = .ok (.aload_n 0, 1) := by decide +kernel
theorem dX10_cell_14 : decode cX10_cell 14 = .ok (.iload_n 1, 1) := by decide +kernel
theorem dX10_cell_15 : decode cX10_cell 15 = .ok (.iload_n 2, 1) := by decide +kernel
theorem dX10_cell_16 : decode cX10_cell 16 = .ok (.invokevirtual 381, 3) := by decide +kernel
theorem dX10_cell_19 : decode cX10_cell 19 = .ok (.ifCond .eq 12, 3) := by decide +kernel
theorem dX10_cell_22 : decode cX10_cell 22 = .ok (.aload_n 0, 1) := by decide +kernel
theorem dX10_cell_23 : decode cX10_cell 23 = .ok (.iload_n 1, 1) := by decide +kernel
theorem dX10_cell_24 : decode cX10_cell 24 = .ok (.iload_n 3, 1) := by decide +kernel
theorem dX10_cell_25 : decode cX10_cell 25 = .ok (.invokevirtual 378, 3) := by decide +kernel
theorem dX10_cell_28 : decode cX10_cell 28 = .ok (.ifCond .ne 5, 3) := by decide +kernel
theorem dX10_cell_31 : decode cX10_cell 31 = .ok (.iconst 0, 1) := by decide +kernel
theorem dX10_cell_32 : decode cX10_cell 32 = .ok (.ireturn, 1) := by decide +kernel
theorem dX10_cell_33 : decode cX10_cell 33 = .ok (.iload_n 1, 1) := by decide +kernel
theorem dX10_cell_34 : decode cX10_cell 34 = .ok (.iconst 3, 1) := by decide +kernel
theorem dX10_cell_35 : decode cX10_cell 35 = .ok (.if_icmp .ne 12, 3) := by decide +kernel
theorem dX10_cell_38 : decode cX10_cell 38 = .ok (.aload_n 0, 1) := by decide +kernel
theorem dX10_cell_39 : decode cX10_cell 39 = .ok (.iload_n 2, 1) := by decide +kernel
theorem dX10_cell_40 : decode cX10_cell 40 = .ok (.iload_n 3, 1) := by decide +kernel
theorem dX10_cell_41 : decode cX10_cell 41 = .ok (.invokevirtual 326, 3) := by decide +kernel
theorem dX10_cell_44 : decode cX10_cell 44 = .ok (.goto 15, 3) := by decide +kernel
theorem dX10_cell_47 : decode cX10_cell 47 = .ok (.aload_n 0, 1) := by decide +kernel
theorem dX10_cell_48 : decode cX10_cell 48 = .ok (.getfield 20, 3) := by decide +kernel
theorem dX10_cell_51 : decode cX10_cell 51 = .ok (.iconst 0, 1) := by decide +kernel
theorem dX10_cell_52 : decode cX10_cell 52 = .ok (.iload_n 1, 1) := by decide +kernel
theorem dX10_cell_53 : decode cX10_cell 53 = .ok (.iload_n 2, 1) := by decide +kernel
theorem dX10_cell_54 : decode cX10_cell 54 = .ok (.iload_n 3, 1) := by decide +kernel
theorem dX10_cell_55 : decode cX10_cell 55 = .ok (.invokestatic 174, 3) := by decide +kernel
theorem dX10_cell_58 : decode cX10_cell 58 = .ok (.iaload, 1) := by decide +kernel
theorem dX10_cell_59 : decode cX10_cell 59 = .ok (.ireturn, 1) := by decide +kernel
theorem dX10_whose_0 : decode cX10_whose 0 = .ok (.aload_n 0, 1) := by decide +kernel
theorem dX10_whose_1 : decode cX10_whose 1 = .ok (.iconst 0, 1) := by decide +kernel
theorem dX10_whose_2 : decode cX10_whose 2 = .ok (.putfield 65, 3) := by decide +kernel
theorem dX10_whose_5 : decode cX10_whose 5 = .ok (.aload_n 0, 1) := by decide +kernel
theorem dX10_whose_6 : decode cX10_whose 6 = .ok (.iconst 3, 1) := by decide +kernel
theorem dX10_whose_7 : decode cX10_whose 7 = .ok (.invokevirtual 372, 3) := by decide +kernel
theorem dX10_whose_10 : decode cX10_whose 10 = .ok (.ifCond .eq 21, 3) := by decide +kernel
theorem dX10_whose_13 : decode cX10_whose 13 = .ok (.aload_n 0, 1) := by decide +kernel
theorem dX10_whose_14 : decode cX10_whose 14 = .ok (.iconst 3, 1) := by decide +kernel
theorem dX10_whose_15 : decode cX10_whose 15 = .ok (.iload_n 1, 1) := by decide +kernel
theorem dX10_whose_16 : decode cX10_whose 16 = .ok (.invokevirtual 381, 3) := by decide +kernel
theorem dX10_whose_19 : decode cX10_whose 19 = .ok (.ifCond .eq 12, 3) := by decide +kernel
theorem dX10_whose_22 : decode cX10_whose 22 = .ok (.aload_n 0, 1) := by decide +kernel
theorem dX10_whose_23 : decode cX10_whose 23 = .ok (.iconst 3, 1) := by decide +kernel
theorem dX10_whose_24 : decode cX10_whose 24 = .ok (.iload_n 2, 1) := by decide +kernel
theorem dX10_whose_25 : decode cX10_whose 25 = .ok (.invokevirtual 378, 3) := by decide +kernel
theorem dX10_whose_28 : decode cX10_whose 28 = .ok (.ifCond .ne 5, 3) := by decide +kernel
theorem dX10_whose_31 : decode cX10_whose 31 = .ok (.iconst 0, 1) := by decide +kernel
theorem dX10_whose_32 : decode cX10_whose 32 = .ok (.ireturn, 1) := by decide +kernel
theorem dX10_whose_33 : decode cX10_whose 33 = .ok (.aload_n 0, 1) := by decide +kernel
theorem dX10_whose_34 : decode cX10_whose 34 = .ok (.getfield 35, 3) := by decide +kernel
theorem dX10_whose_37 : decode cX10_whose 37 = .ok (.bipush 9, 2) := by decide +kernel
theorem dX10_whose_39 : decode cX10_whose 39 = .ok (.iload_n 1, 1) := by decide +kernel
theorem dX10_whose_40 : decode cX10_whose 40 = .ok (.imul, 1) := by decide +kernel
theorem dX10_whose_41 : decode cX10_whose 41 = .ok (.iload_n 2, 1) := by decide +kernel
theorem dX10_whose_42 : decode cX10_whose 42 = .ok (.iadd, 1) := by decide +kernel
theorem dX10_whose_43 : decode cX10_whose 43 = .ok (.iaload, 1) := by decide +kernel
theorem dX10_whose_44 : decode cX10_whose 44 = .ok (.ireturn, 1) := by decide +kernel
theorem dX10_conflict_0 : decode cX10_conflict 0 = .ok (.aload_n 0, 1) := by decide +kernel
theorem dX10_conflict_1 : decode cX10_conflict 1 = .ok (.iconst 0, 1) := by decide +kernel
theorem dX10_conflict_2 : decode cX10_conflict 2 = .ok (.putfield 65, 3) := by decide +kernel
theorem dX10_conflict_5 : decode cX10_conflict 5 = .ok (.aload_n 0, 1) := by decide +kernel
theorem dX10_conflict_6 : decode cX10_conflict 6 = .ok (.iconst 0, 1) := by decide +kernel
theorem dX10_conflict_7 : decode cX10_conflict 7 = .ok (.invokevirtual 354, 3) := by decide +kernel
theorem dX10_conflict_10 : decode cX10_conflict 10 = .ok (.aload_n 0, 1) := by decide +kernel
theorem dX10_conflict_11 : decode cX10_conflict 11 = .ok (.iload_n 1, 1) := by decide +kernel
theorem dX10_conflict_12 : decode cX10_conflict 12 = .ok (.ifCond .lt 15, 3) := by decide +kernel
theorem dX10_conflict_15 : decode cX10_conflict 15 = .ok (.iload_n 1, 1) := by decide +kernel
theorem dX10_conflict_16 : decode cX10_conflict 16 = .ok (.aload_n 0, 1) := by decide +kernel
theorem dX10_conflict_17 : decode cX10_conflict 17 = .ok (.getfield 282, 3) := by decide +kernel
theorem dX10_conflict_20 : decode cX10_conflict 20 = .ok (.if_icmp .ge 7, 3) := by decide +kernel
theorem dX10_conflict_23 : decode cX10_conflict 23 = .ok (.iconst 1, 1) := by decide +kernel
theorem dX10_conflict_24 : decode cX10_conflict 24 = .ok (.goto 4, 3) := by decide +kernel
theorem dX10_conflict_27 : decode cX10_conflict 27 = .ok (.iconst 0, 1) := by decide +kernel
theorem dX10_conflict_28 : decode cX10_conflict 28 = .ok (.iconst 1, 1) := by decide +kernel
theorem dX10_conflict_29 : decode cX10_conflict 29 = .ok (.invokevirtual 214, 3) := by decide +kernel
theorem dX10_conflict_32 : decode cX10_conflict 32 = .ok (.ifCond .eq 12, 3) := by decide +kernel
theorem dX10_conflict_35 : decode cX10_conflict 35 = .ok (.aload_n 0, 1) := by decide +kernel
theorem dX10_conflict_36 : decode cX10_conflict 36 = .ok (.iload_n 2, 1) := by decide +kernel
theorem dX10_conflict_37 : decode cX10_conflict 37 = .ok (.iconst 5, 1) := by decide +kernel
theorem dX10_conflict_38 : decode cX10_conflict 38 = .ok (.invokevirtual 375, 3) := by decide +kernel
theorem dX10_conflict_41 : decode cX10_conflict 41 = .ok (.ifCond .ne 5, 3) := by decide +kernel
theorem dX10_conflict_44 : decode cX10_conflict 44 = .ok (.iconst 0, 1) := by decide +kernel
theorem dX10_conflict_45 : decode cX10_conflict 45 = .ok (.ireturn, 1) := by decide +kernel
theorem dX10_conflict_46 : decode cX10_conflict 46 = .ok (.iload_n 2, 1) := by decide +kernel
theorem dX10_conflict_47 : decode cX10_conflict 47 = .ok (.iconst 5, 1) := by decide +kernel
theorem dX10_conflict_48 : decode cX10_conflict 48 = .ok (.if_icmp .ne 17, 3) := by decide +kernel
theorem dX10_conflict_51 : decode cX10_conflict 51 = .ok (.aload_n 0, 1) := by decide +kernel
theorem dX10_conflict_52 : decode cX10_conflict 52 = .ok (.getfield 41, 3) := by decide +kernel
theorem dX10_conflict_55 : decode cX10_conflict 55 = .ok (.iconst 5, 1) := by decide +kernel
theorem dX10_conflict_56 : decode cX10_conflict 56 = .ok (.iload_n 1, 1) := by decide +kernel
theorem dX10_conflict_57 : decode cX10_conflict 57 = .ok (.imul, 1) := by decide +kernel
theorem dX10_conflict_58 : decode cX10_conflict 58 = .ok (.iaload, 1) := by decide +kernel
theorem dX10_conflict_59 : decode cX10_conflict 59 = .ok (.invokestatic 384, 3) := by decide +kernel
theorem dX10_conflict_62 : decode cX10_conflict 62 = .ok (.goto 13, 3) := by decide +kernel
theorem dX10_conflict_65 : decode cX10_conflict 65 = .ok (.aload_n 0, 1) := by decide +kernel
theorem dX10_conflict_66 : decode cX10_conflict 66 = .ok (.getfield 41, 3) := by decide +kernel
theorem dX10_conflict_69 : decode cX10_conflict 69 = .ok (.iconst 5, 1) := by decide +kernel
theorem dX10_conflict_70 : decode cX10_conflict 70 = .ok (.iload_n 1, 1) := by decide +kernel
theorem dX10_conflict_71 : decode cX10_conflict 71 = .ok (.imul, 1) := by decide +kernel
theorem dX10_conflict_72 : decode cX10_conflict 72 = .ok (.iload_n 2, 1) := by decide +kernel
theorem dX10_conflict_73 : decode cX10_conflict 73 = .ok (.iadd, 1) := by decide +kernel
theorem dX10_conflict_74 : decode cX10_conflict 74 = .ok (.iaload, 1) := by decide +kernel
theorem dX10_conflict_75 : decode cX10_conflict 75 = .ok (.ireturn, 1) := by decide +kernel
theorem dX10_isConflict_0 : decode cX10_isConflict 0 = .ok (.iconst 0, 1) := by decide +kernel
theorem dX10_isConflict_1 : decode cX10_isConflict 1 = .ok (.istore 4, 2) := by decide +kernel
theorem dX10_isConflict_3 : decode cX10_isConflict 3 = .ok (.iload 4, 2) := by decide +kernel
theorem dX10_isConflict_5 : decode cX10_isConflict 5 = .ok (.aload_n 0, 1) := by decide +kernel
theorem dX10_isConflict_6 : decode cX10_isConflict 6 = .ok (.getfield 282, 3) := by decide +kernel
theorem dX10_isConflict_9 : decode cX10_isConflict 9 = .ok (.if_icmp .ge 54, 3) := by decide +kernel
theorem dX10_isConflict_12 : decode cX10_isConflict 12 = .ok (.aload_n 0, 1) := by decide +kernel
theorem dX10_isConflict_13 : decode cX10_isConflict 13 = .ok (.getfield 41, 3) := by decide +kernel
theorem dX10_isConflict_16 : decode cX10_isConflict 16 = .ok (.iconst 5, 1) := by decide +kernel
theorem dX10_isConflict_17 : decode cX10_isConflict 17 = .ok (.iload 4, 2) := by decide +kernel
theorem dX10_isConflict_19 : decode cX10_isConflict 19 = .ok (.imul, 1) := by decide +kernel
theorem dX10_isConflict_20 : decode cX10_isConflict 20 = .ok (.iaload, 1) := by decide +kernel
theorem dX10_isConflict_21 : decode cX10_isConflict 21 = .ok (.iload_n 1, 1) := by decide +kernel
theorem dX10_isConflict_22 : decode cX10_isConflict 22 = .ok (.if_icmp .ne 35, 3) := by decide +kernel
theorem dX10_isConflict_25 : decode cX10_isConflict 25 = .ok (.aload_n 0, 1) := by decide +kernel
theorem dX10_isConflict_26 : decode cX10_isConflict 26 = .ok (.getfield 41, 3) := by decide +kernel
theorem dX10_isConflict_29 : decode cX10_isConflict 29 = .ok (.iconst 5, 1) := by decide +kernel
theorem dX10_isConflict_30 : decode cX10_isConflict 30 = .ok (.iload 4, 2) := by decide +kernel
theorem dX10_isConflict_32 : decode cX10_isConflict 32 = .ok (.imul, 1) := by decide +kernel
theorem dX10_isConflict_33 : decode cX10_isConflict 33 = .ok (.iconst 1, 1) := by decide +kernel
theorem dX10_isConflict_34 : decode cX10_isConflict 34 = .ok (.iadd, 1) := by decide +kernel
theorem dX10_isConflict_35 : decode cX10_isConflict 35 = .ok (.iaload, 1) := by decide +kernel
theorem dX10_isConflict_36 : decode cX10_isConflict 36 = .ok (.iload_n 2, 1) := by decide +kernel
theorem dX10_isConflict_37 : decode cX10_isConflict 37 = .ok (.if_icmp .ne 20, 3) := by decide +kernel
theorem dX10_isConflict_40 : decode cX10_isConflict 40 = .ok (.aload_n 0, 1) := by decide +kernel
theorem dX10_isConflict_41 : decode cX10_isConflict 41 = .ok (.getfield 41, 3) := by decide +kernel
theorem dX10_isConflict_44 : decode cX10_isConflict 44 = .ok (.iconst 5, 1) := by decide +kernel
theorem dX10_isConflict_45 : decode cX10_isConflict 45 = .ok (.iload 4, 2) := by decide +kernel
theorem dX10_isConflict_47 : decode cX10_isConflict 47 = .ok (.imul, 1) := by decide +kernel
theorem dX10_isConflict_48 : decode cX10_isConflict 48 = .ok (.iconst 2, 1) := by decide +kernel
theorem dX10_isConflict_49 : decode cX10_isConflict 49 = .ok (.iadd, 1) := by decide +kernel
theorem dX10_isConflict_50 : decode cX10_isConflict 50 = .ok (.iaload, 1) := by decide +kernel
theorem dX10_isConflict_51 : decode cX10_isConflict 51 = .ok (.iload_n 3, 1) := by decide +kernel
theorem dX10_isConflict_52 : decode cX10_isConflict 52 = .ok (.if_icmp .ne 5, 3) := by decide +kernel
theorem dX10_isConflict_55 : decode cX10_isConflict 55 = .ok (.iconst 1, 1) := by decide +kernel
theorem dX10_isConflict_56 : decode cX10_isConflict 56 = .ok (.ireturn, 1) := by decide +kernel
theorem dX10_isConflict_57 : decode cX10_isConflict 57 = .ok (.iinc 4 1, 3) := by decide +kernel
theorem dX10_isConflict_60 : decode cX10_isConflict 60 = .ok (.goto (-57), 3) := by decide +kernel
theorem dX10_isConflict_63 : decode cX10_isConflict 63 = .ok (.iconst 0, 1) := by decide +kernel
theorem dX10_isConflict_64 : decode cX10_isConflict 64 = .ok (.ireturn, 1) := by decide +kernel
theorem dX10_settle_0 : decode cX10_settle 0 = .ok (.aload_n 0, 1) := by decide +kernel
theorem dX10_settle_1 : decode cX10_settle 1 = .ok (.iconst 0, 1) := by decide +kernel
theorem dX10_settle_2 : decode cX10_settle 2 = .ok (.putfield 65, 3) := by decide +kernel
theorem dX10_settle_5 : decode cX10_settle 5 = .ok (.aload_n 0, 1) := by decide +kernel
theorem dX10_settle_6 : decode cX10_settle 6 = .ok (.iconst 0, 1) := by decide +kernel
theorem dX10_settle_7 : decode cX10_settle 7 = .ok (.invokevirtual 354, 3) := by decide +kernel
theorem dX10_settle_10 : decode cX10_settle 10 = .ok (.aload_n 0, 1) := by decide +kernel
theorem dX10_settle_11 : decode cX10_settle 11 = .ok (.iload_n 1, 1) := by decide +kernel
theorem dX10_settle_12 : decode cX10_settle 12 = .ok (.iload_n 2, 1) := by decide +kernel
theorem dX10_settle_13 : decode cX10_settle 13 = .ok (.iload_n 3, 1) := by decide +kernel
theorem dX10_settle_14 : decode cX10_settle 14 = .ok (.invokevirtual 387, 3) := by decide +kernel
theorem dX10_settle_17 : decode cX10_settle 17 = .ok (.ifCond .eq 18, 3) := by decide +kernel
theorem dX10_settle_20 : decode cX10_settle 20 = .ok (.iload 4, 2) := by decide +kernel
theorem dX10_settle_22 : decode cX10_settle 22 = .ok (.iconst 0, 1) := by decide +kernel
theorem dX10_settle_23 : decode cX10_settle 23 = .ok (.iload_n 1, 1) := by decide +kernel
theorem dX10_settle_24 : decode cX10_settle 24 = .ok (.invokestatic 384, 3) := by decide +kernel
theorem dX10_settle_27 : decode cX10_settle 27 = .ok (.iconst 1, 1) := by decide +kernel
theorem dX10_settle_28 : decode cX10_settle 28 = .ok (.isub, 1) := by decide +kernel
theorem dX10_settle_29 : decode cX10_settle 29 = .ok (.invokestatic 231, 3) := by decide +kernel
theorem dX10_settle_32 : decode cX10_settle 32 = .ok (.ifCond .ne 9, 3) := by decide +kernel
theorem dX10_settle_35 : decode cX10_settle 35 = .ok (.aload_n 0, 1) := by decide +kernel
theorem dX10_settle_36 : decode cX10_settle 36 = .ok (.iconst 1, 1) := by decide +kernel
theorem dX10_settle_37 : decode cX10_settle 37 = .ok (.invokevirtual 270, 3) := by decide +kernel
theorem dX10_settle_40 : decode cX10_settle 40 = .ok (.ireturn, 1) := by decide +kernel
theorem dX10_settle_41 : decode cX10_settle 41 = .ok (.aload_n 0, 1) := by decide +kernel
theorem dX10_settle_42 : decode cX10_settle 42 = .ok (.invokevirtual 273, 3) := by decide +kernel
theorem dX10_settle_45 : decode cX10_settle 45 = .ok (.aload_n 0, 1) := by decide +kernel
theorem dX10_settle_46 : decode cX10_settle 46 = .ok (.getfield 20, 3) := by decide +kernel
theorem dX10_settle_49 : decode cX10_settle 49 = .ok (.sipush 615, 3) := by decide +kernel
theorem dX10_settle_52 : decode cX10_settle 52 = .ok (.iload_n 1, 1) := by decide +kernel
theorem dX10_settle_53 : decode cX10_settle 53 = .ok (.iload_n 2, 1) := by decide +kernel
theorem dX10_settle_54 : decode cX10_settle 54 = .ok (.iload_n 3, 1) := by decide +kernel
theorem dX10_settle_55 : decode cX10_settle 55 = .ok (.invokestatic 279, 3) := by decide +kernel
theorem dX10_settle_58 : decode cX10_settle 58 = .ok (.iadd, 1) := by decide +kernel
theorem dX10_settle_59 : decode cX10_settle 59 = .ok (.iload 4, 2) := by decide +kernel
theorem dX10_settle_61 : decode cX10_settle 61 = .ok (.iastore, 1) := by decide +kernel
theorem dX10_settle_62 : decode cX10_settle 62 = .ok (.aload_n 0, 1) := by decide +kernel
theorem dX10_settle_63 : decode cX10_settle 63 = .ok (.iconst 0, 1) := by decide +kernel
theorem dX10_settle_64 : decode cX10_settle 64 = .ok (.invokevirtual 354, 3) := by decide +kernel
theorem dX10_settle_67 : decode cX10_settle 67 = .ok (.aload_n 0, 1) := by decide +kernel
theorem dX10_settle_68 : decode cX10_settle 68 = .ok (.getfield 282, 3) := by decide +kernel
theorem dX10_settle_71 : decode cX10_settle 71 = .ok (.ireturn, 1) := by decide +kernel
theorem dX10_unsettle_0 : decode cX10_unsettle 0 = .ok (.aload_n 0, 1) := by decide +kernel
theorem dX10_unsettle_1 : decode cX10_unsettle 1 = .ok (.iconst 0, 1) := by decide +kernel
theorem dX10_unsettle_2 : decode cX10_unsettle 2 = .ok (.putfield 65, 3) := by decide +kernel
theorem dX10_unsettle_5 : decode cX10_unsettle 5 = .ok (.iload_n 1, 1) := by decide +kernel
theorem dX10_unsettle_6 : decode cX10_unsettle 6 = .ok (.iload_n 2, 1) := by decide +kernel
theorem dX10_unsettle_7 : decode cX10_unsettle 7 = .ok (.iload_n 3, 1) := by decide +kernel
theorem dX10_unsettle_8 : decode cX10_unsettle 8 = .ok (.invokestatic 279, 3) := by decide +kernel
theorem dX10_unsettle_11 : decode cX10_unsettle 11 = .ok (.istore 4, 2) := by decide +kernel
theorem dX10_unsettle_13 : decode cX10_unsettle 13 = .ok (.iload 4, 2) := by decide +kernel
theorem dX10_unsettle_15 : decode cX10_unsettle 15 = .ok (.iconst (-1), 1) := by decide +kernel
theorem dX10_unsettle_16 : decode cX10_unsettle 16 = .ok (.if_icmp .ne 7, 3) := by decide +kernel
theorem dX10_unsettle_19 : decode cX10_unsettle 19 = .ok (.iconst (-1), 1) := by decide +kernel
theorem dX10_unsettle_20 : decode cX10_unsettle 20 = .ok (.goto 14, 3) := by decide +kernel
theorem dX10_unsettle_23 : decode cX10_unsettle 23 = .ok (.aload_n 0, 1) := by decide +kernel
theorem dX10_unsettle_24 : decode cX10_unsettle 24 = .ok (.getfield 20, 3) := by decide +kernel
theorem dX10_unsettle_27 : decode cX10_unsettle 27 = .ok (.sipush 615, 3) := by decide +kernel
theorem dX10_unsettle_30 : decode cX10_unsettle 30 = .ok (.iload 4, 2) := by decide +kernel
theorem dX10_unsettle_32 : decode cX10_unsettle 32 = .ok (.iadd, 1) := by decide +kernel
theorem dX10_unsettle_33 : decode cX10_unsettle 33 = .ok (.iaload, 1) := by decide +kernel
theorem dX10_unsettle_34 : decode cX10_unsettle 34 = .ok (.istore 5, 2) := by decide +kernel
theorem dX10_unsettle_36 : decode cX10_unsettle 36 = .ok (.iload 5, 2) := by decide +kernel
theorem dX10_unsettle_38 : decode cX10_unsettle 38 = .ok (.iconst (-1), 1) := by decide +kernel
theorem dX10_unsettle_39 : decode cX10_unsettle 39 = .ok (.if_icmp .ne 9, 3) := by decide +kernel
theorem dX10_unsettle_42 : decode cX10_unsettle 42 = .ok (.aload_n 0, 1) := by decide +kernel
theorem dX10_unsettle_43 : decode cX10_unsettle 43 = .ok (.iconst 1, 1) := by decide +kernel
theorem dX10_unsettle_44 : decode cX10_unsettle 44 = .ok (.invokevirtual 270, 3) := by decide +kernel
theorem dX10_unsettle_47 : decode cX10_unsettle 47 = .ok (.ireturn, 1) := by decide +kernel
theorem dX10_unsettle_48 : decode cX10_unsettle 48 = .ok (.aload_n 0, 1) := by decide +kernel
theorem dX10_unsettle_49 : decode cX10_unsettle 49 = .ok (.invokevirtual 273, 3) := by decide +kernel
theorem dX10_unsettle_52 : decode cX10_unsettle 52 = .ok (.aload_n 0, 1) := by decide +kernel
theorem dX10_unsettle_53 : decode cX10_unsettle 53 = .ok (.getfield 20, 3) := by decide +kernel
theorem dX10_unsettle_56 : decode cX10_unsettle 56 = .ok (.sipush 615, 3) := by decide +kernel
theorem dX10_unsettle_59 : decode cX10_unsettle 59 = .ok (.iload 4, 2) := by decide +kernel
theorem dX10_unsettle_61 : decode cX10_unsettle 61 = .ok (.iadd, 1) := by decide +kernel
theorem dX10_unsettle_62 : decode cX10_unsettle 62 = .ok (.iconst (-1), 1) := by decide +kernel
theorem dX10_unsettle_63 : decode cX10_unsettle 63 = .ok (.iastore, 1) := by decide +kernel
theorem dX10_unsettle_64 : decode cX10_unsettle 64 = .ok (.iload 5, 2) := by decide +kernel
theorem dX10_unsettle_66 : decode cX10_unsettle 66 = .ok (.ireturn, 1) := by decide +kernel
theorem dX10_flipped_0 : decode cX10_flipped 0 = .ok (.iload_n 0, 1) := by decide +kernel
theorem dX10_flipped_1 : decode cX10_flipped 1 = .ok (.iconst 5, 1) := by decide +kernel
theorem dX10_flipped_2 : decode cX10_flipped 2 = .ok (.if_icmp .ge 7, 3) := by decide +kernel
theorem dX10_flipped_5 : decode cX10_flipped 5 = .ok (.iload_n 0, 1) := by decide +kernel
theorem dX10_flipped_6 : decode cX10_flipped 6 = .ok (.goto 18, 3) := by decide +kernel
theorem dX10_flipped_9 : decode cX10_flipped 9 = .ok (.iload_n 0, 1) := by decide +kernel
theorem dX10_flipped_10 : decode cX10_flipped 10 = .ok (.bipush 7, 2) := by decide +kernel
theorem dX10_flipped_12 : decode cX10_flipped 12 = .ok (.if_icmp .ge 9, 3) := by decide +kernel
theorem dX10_flipped_15 : decode cX10_flipped 15 = .ok (.iload_n 0, 1) := by decide +kernel
theorem dX10_flipped_16 : decode cX10_flipped 16 = .ok (.iconst 2, 1) := by decide +kernel
theorem dX10_flipped_17 : decode cX10_flipped 17 = .ok (.iadd, 1) := by decide +kernel
theorem dX10_flipped_18 : decode cX10_flipped 18 = .ok (.goto 6, 3) := by decide +kernel
theorem dX10_flipped_21 : decode cX10_flipped 21 = .ok (.iload_n 0, 1) := by decide +kernel
theorem dX10_flipped_22 : decode cX10_flipped 22 = .ok (.iconst 2, 1) := by decide +kernel
theorem dX10_flipped_23 : decode cX10_flipped 23 = .ok (.isub, 1) := by decide +kernel
theorem dX10_flipped_24 : decode cX10_flipped 24 = .ok (.ireturn, 1) := by decide +kernel
theorem dX10_flipsTable_0 : decode cX10_flipsTable 0 = .ok (.sipush 200, 3) := by decide +kernel
theorem dX10_flipsTable_3 : decode cX10_flipsTable 3 = .ok (.iload_n 1, 1) := by decide +kernel
theorem dX10_flipsTable_4 : decode cX10_flipsTable 4 = .ok (.imul, 1) := by decide +kernel
theorem dX10_flipsTable_5 : decode cX10_flipsTable 5 = .ok (.istore_n 3, 1) := by decide +kernel
theorem dX10_flipsTable_6 : decode cX10_flipsTable 6 = .ok (.sipush 931, 3) := by decide +kernel
theorem dX10_flipsTable_9 : decode cX10_flipsTable 9 = .ok (.sipush 200, 3) := by decide +kernel
theorem dX10_flipsTable_12 : decode cX10_flipsTable 12 = .ok (.iload_n 2, 1) := by decide +kernel
theorem dX10_flipsTable_13 : decode cX10_flipsTable 13 = .ok (.imul, 1) := by decide +kernel
theorem dX10_flipsTable_14 : decode cX10_flipsTable 14 = .ok (.iadd, 1) := by decide +kernel
theorem dX10_flipsTable_15 : decode cX10_flipsTable 15 = .ok (.istore 4, 2) := by decide +kernel
theorem dX10_flipsTable_17 : decode cX10_flipsTable 17 = .ok (.aload_n 0, 1) := by decide +kernel
theorem dX10_flipsTable_18 : decode cX10_flipsTable 18 = .ok (.getfield 20, 3) := by decide +kernel
theorem dX10_flipsTable_21 : decode cX10_flipsTable 21 = .ok (.iload_n 3, 1) := by decide +kernel
theorem dX10_flipsTable_22 : decode cX10_flipsTable 22 = .ok (.iconst 1, 1) := by decide +kernel
theorem dX10_flipsTable_23 : decode cX10_flipsTable 23 = .ok (.iadd, 1) := by decide +kernel
theorem dX10_flipsTable_24 : decode cX10_flipsTable 24 = .ok (.aload_n 0, 1) := by decide +kernel
theorem dX10_flipsTable_25 : decode cX10_flipsTable 25 = .ok (.getfield 20, 3) := by decide +kernel
theorem dX10_flipsTable_28 : decode cX10_flipsTable 28 = .ok (.iload 4, 2) := by decide +kernel
theorem dX10_flipsTable_30 : decode cX10_flipsTable 30 = .ok (.iconst 1, 1) := by decide +kernel
theorem dX10_flipsTable_31 : decode cX10_flipsTable 31 = .ok (.iadd, 1) := by decide +kernel
theorem dX10_flipsTable_32 : decode cX10_flipsTable 32 = .ok (.iaload, 1) := by decide +kernel
theorem dX10_flipsTable_33 : decode cX10_flipsTable 33 = .ok (.iastore, 1) := by decide +kernel
theorem dX10_flipsTable_34 : decode cX10_flipsTable 34 = .ok (.aload_n 0, 1) := by decide +kernel
theorem dX10_flipsTable_35 : decode cX10_flipsTable 35 = .ok (.getfield 20, 3) := by decide +kernel
theorem dX10_flipsTable_38 : decode cX10_flipsTable 38 = .ok (.iload_n 3, 1) := by decide +kernel
theorem dX10_flipsTable_39 : decode cX10_flipsTable 39 = .ok (.iconst 0, 1) := by decide +kernel
theorem dX10_flipsTable_40 : decode cX10_flipsTable 40 = .ok (.iadd, 1) := by decide +kernel
theorem dX10_flipsTable_41 : decode cX10_flipsTable 41 = .ok (.iconst 0, 1) := by decide +kernel
theorem dX10_flipsTable_42 : decode cX10_flipsTable 42 = .ok (.iastore, 1) := by decide +kernel
theorem dX10_flipsTable_43 : decode cX10_flipsTable 43 = .ok (.iconst 0, 1) := by decide +kernel
theorem dX10_flipsTable_44 : decode cX10_flipsTable 44 = .ok (.istore 5, 2) := by decide +kernel
theorem dX10_flipsTable_46 : decode cX10_flipsTable 46 = .ok (.iload 5, 2) := by decide +kernel
theorem dX10_flipsTable_48 : decode cX10_flipsTable 48 = .ok (.bipush 9, 2) := by decide +kernel
theorem dX10_flipsTable_50 : decode cX10_flipsTable 50 = .ok (.if_icmp .ge 145, 3) := by decide +kernel
theorem dX10_flipsTable_53 : decode cX10_flipsTable 53 = .ok (.iload 5, 2) := by decide +kernel
theorem dX10_flipsTable_55 : decode cX10_flipsTable 55 = .ok (.invokestatic 390, 3) := by decide +kernel
theorem dX10_flipsTable_58 : decode cX10_flipsTable 58 = .ok (.istore 6, 2) := by decide +kernel
theorem dX10_flipsTable_60 : decode cX10_flipsTable 60 = .ok (.aload_n 0, 1) := by decide +kernel
theorem dX10_flipsTable_61 : decode cX10_flipsTable 61 = .ok (.getfield 20, 3) := by decide +kernel
theorem dX10_flipsTable_64 : decode cX10_flipsTable 64 = .ok (.iload_n 3, 1) := by decide +kernel
theorem dX10_flipsTable_65 : decode cX10_flipsTable 65 = .ok (.iconst 0, 1) := by decide +kernel
theorem dX10_flipsTable_66 : decode cX10_flipsTable 66 = .ok (.iadd, 1) := by decide +kernel
theorem dX10_flipsTable_67 : decode cX10_flipsTable 67 = .ok (.dup2, 1) := by decide +kernel
theorem dX10_flipsTable_68 : decode cX10_flipsTable 68 = .ok (.iaload, 1) := by decide +kernel
theorem dX10_flipsTable_69 : decode cX10_flipsTable 69 = .ok (.aload_n 0, 1) := by decide +kernel
theorem dX10_flipsTable_70 : decode cX10_flipsTable 70 = .ok (.getfield 20, 3) := by decide +kernel
theorem dX10_flipsTable_73 : decode cX10_flipsTable 73 = .ok (.iload 4, 2) := by decide +kernel
theorem dX10_flipsTable_75 : decode cX10_flipsTable 75 = .ok (.iconst 0, 1) := by decide +kernel
theorem dX10_flipsTable_76 : decode cX10_flipsTable 76 = .ok (.iadd, 1) := by decide +kernel
theorem dX10_flipsTable_77 : decode cX10_flipsTable 77 = .ok (.iaload, 1) := by decide +kernel
theorem dX10_flipsTable_78 : decode cX10_flipsTable 78 = .ok (.iload 6, 2) := by decide +kernel
theorem dX10_flipsTable_80 : decode cX10_flipsTable 80 = .ok (.ishr, 1) := by decide +kernel
theorem dX10_flipsTable_81 : decode cX10_flipsTable 81 = .ok (.iconst 1, 1) := by decide +kernel
theorem dX10_flipsTable_82 : decode cX10_flipsTable 82 = .ok (.iand, 1) := by decide +kernel
theorem dX10_flipsTable_83 : decode cX10_flipsTable 83 = .ok (.iload 5, 2) := by decide +kernel
theorem dX10_flipsTable_85 : decode cX10_flipsTable 85 = .ok (.ishl, 1) := by decide +kernel
theorem dX10_flipsTable_86 : decode cX10_flipsTable 86 = .ok (.ior, 1) := by decide +kernel
theorem dX10_flipsTable_87 : decode cX10_flipsTable 87 = .ok (.iastore, 1) := by decide +kernel
theorem dX10_flipsTable_88 : decode cX10_flipsTable 88 = .ok (.aload_n 0, 1) := by decide +kernel
theorem dX10_flipsTable_89 : decode cX10_flipsTable 89 = .ok (.getfield 20, 3) := by decide +kernel
theorem dX10_flipsTable_92 : decode cX10_flipsTable 92 = .ok (.iload_n 3, 1) := by decide +kernel
theorem dX10_flipsTable_93 : decode cX10_flipsTable 93 = .ok (.iconst 2, 1) := by decide +kernel
theorem dX10_flipsTable_94 : decode cX10_flipsTable 94 = .ok (.iadd, 1) := by decide +kernel
theorem dX10_flipsTable_95 : decode cX10_flipsTable 95 = .ok (.iload 5, 2) := by decide +kernel
theorem dX10_flipsTable_97 : decode cX10_flipsTable 97 = .ok (.iadd, 1) := by decide +kernel
theorem dX10_flipsTable_98 : decode cX10_flipsTable 98 = .ok (.aload_n 0, 1) := by decide +kernel
theorem dX10_flipsTable_99 : decode cX10_flipsTable 99 = .ok (.getfield 20, 3) := by decide +kernel
theorem dX10_flipsTable_102 : decode cX10_flipsTable 102 = .ok (.iload 4, 2) := by decide +kernel
theorem dX10_flipsTable_104 : decode cX10_flipsTable 104 = .ok (.iconst 2, 1) := by decide +kernel
theorem dX10_flipsTable_105 : decode cX10_flipsTable 105 = .ok (.iadd, 1) := by decide +kernel
theorem dX10_flipsTable_106 : decode cX10_flipsTable 106 = .ok (.iload 6, 2) := by decide +kernel
theorem dX10_flipsTable_108 : decode cX10_flipsTable 108 = .ok (.iadd, 1) := by decide +kernel
theorem dX10_flipsTable_109 : decode cX10_flipsTable 109 = .ok (.iaload, 1) := by decide +kernel
theorem dX10_flipsTable_110 : decode cX10_flipsTable 110 = .ok (.iastore, 1) := by decide +kernel
theorem dX10_flipsTable_111 : decode cX10_flipsTable 111 = .ok (.aload_n 0, 1) := by decide +kernel
theorem dX10_flipsTable_112 : decode cX10_flipsTable 112 = .ok (.getfield 20, 3) := by decide +kernel
theorem dX10_flipsTable_115 : decode cX10_flipsTable 115 = .ok (.iload_n 3, 1) := by decide +kernel
theorem dX10_flipsTable_116 : decode cX10_flipsTable 116 = .ok (.bipush 11, 2) := by decide +kernel
theorem dX10_flipsTable_118 : decode cX10_flipsTable 118 = .ok (.iadd, 1) := by decide +kernel
theorem dX10_flipsTable_119 : decode cX10_flipsTable 119 = .ok (.iload 5, 2) := by decide +kernel
theorem dX10_flipsTable_121 : decode cX10_flipsTable 121 = .ok (.iadd, 1) := by decide +kernel
theorem dX10_flipsTable_122 : decode cX10_flipsTable 122 = .ok (.aload_n 0, 1) := by decide +kernel
theorem dX10_flipsTable_123 : decode cX10_flipsTable 123 = .ok (.getfield 20, 3) := by decide +kernel
theorem dX10_flipsTable_126 : decode cX10_flipsTable 126 = .ok (.iload 4, 2) := by decide +kernel
theorem dX10_flipsTable_128 : decode cX10_flipsTable 128 = .ok (.bipush 11, 2) := by decide +kernel
theorem dX10_flipsTable_130 : decode cX10_flipsTable 130 = .ok (.iadd, 1) := by decide +kernel
theorem dX10_flipsTable_131 : decode cX10_flipsTable 131 = .ok (.iload 6, 2) := by decide +kernel
theorem dX10_flipsTable_133 : decode cX10_flipsTable 133 = .ok (.iadd, 1) := by decide +kernel
theorem dX10_flipsTable_134 : decode cX10_flipsTable 134 = .ok (.iaload, 1) := by decide +kernel
theorem dX10_flipsTable_135 : decode cX10_flipsTable 135 = .ok (.iastore, 1) := by decide +kernel
theorem dX10_flipsTable_136 : decode cX10_flipsTable 136 = .ok (.iconst 0, 1) := by decide +kernel
theorem dX10_flipsTable_137 : decode cX10_flipsTable 137 = .ok (.istore 7, 2) := by decide +kernel
theorem dX10_flipsTable_139 : decode cX10_flipsTable 139 = .ok (.iload 7, 2) := by decide +kernel
theorem dX10_flipsTable_141 : decode cX10_flipsTable 141 = .ok (.bipush 20, 2) := by decide +kernel
theorem dX10_flipsTable_143 : decode cX10_flipsTable 143 = .ok (.if_icmp .ge 46, 3) := by decide +kernel
theorem dX10_flipsTable_146 : decode cX10_flipsTable 146 = .ok (.aload_n 0, 1) := by decide +kernel
theorem dX10_flipsTable_147 : decode cX10_flipsTable 147 = .ok (.getfield 20, 3) := by decide +kernel
theorem dX10_flipsTable_150 : decode cX10_flipsTable 150 = .ok (.iload_n 3, 1) := by decide +kernel
theorem dX10_flipsTable_151 : decode cX10_flipsTable 151 = .ok (.bipush 20, 2) := by decide +kernel
theorem dX10_flipsTable_153 : decode cX10_flipsTable 153 = .ok (.iadd, 1) := by decide +kernel
theorem dX10_flipsTable_154 : decode cX10_flipsTable 154 = .ok (.bipush 9, 2) := by decide +kernel
theorem dX10_flipsTable_156 : decode cX10_flipsTable 156 = .ok (.iload 7, 2) := by decide +kernel
theorem dX10_flipsTable_158 : decode cX10_flipsTable 158 = .ok (.imul, 1) := by decide +kernel
theorem dX10_flipsTable_159 : decode cX10_flipsTable 159 = .ok (.iadd, 1) := by decide +kernel
theorem dX10_flipsTable_160 : decode cX10_flipsTable 160 = .ok (.iload 5, 2) := by decide +kernel
theorem dX10_flipsTable_162 : decode cX10_flipsTable 162 = .ok (.iadd, 1) := by decide +kernel
theorem dX10_flipsTable_163 : decode cX10_flipsTable 163 = .ok (.aload_n 0, 1) := by decide +kernel
theorem dX10_flipsTable_164 : decode cX10_flipsTable 164 = .ok (.getfield 20, 3) := by decide +kernel
theorem dX10_flipsTable_167 : decode cX10_flipsTable 167 = .ok (.iload 4, 2) := by decide +kernel
theorem dX10_flipsTable_169 : decode cX10_flipsTable 169 = .ok (.bipush 20, 2) := by decide +kernel
theorem dX10_flipsTable_171 : decode cX10_flipsTable 171 = .ok (.iadd, 1) := by decide +kernel
theorem dX10_flipsTable_172 : decode cX10_flipsTable 172 = .ok (.bipush 9, 2) := by decide +kernel
theorem dX10_flipsTable_174 : decode cX10_flipsTable 174 = .ok (.iload 7, 2) := by decide +kernel
theorem dX10_flipsTable_176 : decode cX10_flipsTable 176 = .ok (.imul, 1) := by decide +kernel
theorem dX10_flipsTable_177 : decode cX10_flipsTable 177 = .ok (.iadd, 1) := by decide +kernel
theorem dX10_flipsTable_178 : decode cX10_flipsTable 178 = .ok (.iload 6, 2) := by decide +kernel
theorem dX10_flipsTable_180 : decode cX10_flipsTable 180 = .ok (.iadd, 1) := by decide +kernel
theorem dX10_flipsTable_181 : decode cX10_flipsTable 181 = .ok (.iaload, 1) := by decide +kernel
theorem dX10_flipsTable_182 : decode cX10_flipsTable 182 = .ok (.iastore, 1) := by decide +kernel
theorem dX10_flipsTable_183 : decode cX10_flipsTable 183 = .ok (.iinc 7 1, 3) := by decide +kernel
theorem dX10_flipsTable_186 : decode cX10_flipsTable 186 = .ok (.goto (-47), 3) := by decide +kernel
theorem dX10_flipsTable_189 : decode cX10_flipsTable 189 = .ok (.iinc 5 1, 3) := by decide +kernel
theorem dX10_flipsTable_192 : decode cX10_flipsTable 192 = .ok (.goto (-146), 3) := by decide +kernel
theorem dX10_flipsTable_195 : decode cX10_flipsTable 195 = .ok (.return_, 1) := by decide +kernel
theorem dX10_flipsChoice_0 : decode cX10_flipsChoice 0 = .ok (.aload_n 0, 1) := by decide +kernel
theorem dX10_flipsChoice_1 : decode cX10_flipsChoice 1 = .ok (.getfield 20, 3) := by decide +kernel
theorem dX10_flipsChoice_4 : decode cX10_flipsChoice 4 = .ok (.sipush 1546, 3) := by decide +kernel
theorem dX10_flipsChoice_7 : decode cX10_flipsChoice 7 = .ok (.iload_n 1, 1) := by decide +kernel
theorem dX10_flipsChoice_8 : decode cX10_flipsChoice 8 = .ok (.iload 4, 2) := by decide +kernel
theorem dX10_flipsChoice_10 : decode cX10_flipsChoice 10 = .ok (.iload 5, 2) := by decide +kernel
theorem dX10_flipsChoice_12 : decode cX10_flipsChoice 12 = .ok (.invokestatic 279, 3) := by decide +kernel
theorem dX10_flipsChoice_15 : decode cX10_flipsChoice 15 = .ok (.iadd, 1) := by decide +kernel
theorem dX10_flipsChoice_16 : decode cX10_flipsChoice 16 = .ok (.iaload, 1) := by decide +kernel
theorem dX10_flipsChoice_17 : decode cX10_flipsChoice 17 = .ok (.istore 6, 2) := by decide +kernel
theorem dX10_flipsChoice_19 : decode cX10_flipsChoice 19 = .ok (.iload_n 1, 1) := by decide +kernel
theorem dX10_flipsChoice_20 : decode cX10_flipsChoice 20 = .ok (.invokestatic 384, 3) := by decide +kernel
theorem dX10_flipsChoice_23 : decode cX10_flipsChoice 23 = .ok (.iconst 3, 1) := by decide +kernel
theorem dX10_flipsChoice_24 : decode cX10_flipsChoice 24 = .ok (.if_icmp .ne 12, 3) := by decide +kernel
theorem dX10_flipsChoice_27 : decode cX10_flipsChoice 27 = .ok (.iload 6, 2) := by decide +kernel
theorem dX10_flipsChoice_29 : decode cX10_flipsChoice 29 = .ok (.ifCond .le 7, 3) := by decide +kernel
theorem dX10_flipsChoice_32 : decode cX10_flipsChoice 32 = .ok (.iconst 1, 1) := by decide +kernel
theorem dX10_flipsChoice_33 : decode cX10_flipsChoice 33 = .ok (.goto 4, 3) := by decide +kernel
theorem dX10_flipsChoice_36 : decode cX10_flipsChoice 36 = .ok (.iconst 0, 1) := by decide +kernel
theorem dX10_flipsChoice_37 : decode cX10_flipsChoice 37 = .ok (.istore 7, 2) := by decide +kernel
theorem dX10_flipsChoice_39 : decode cX10_flipsChoice 39 = .ok (.aload_n 0, 1) := by decide +kernel
theorem dX10_flipsChoice_40 : decode cX10_flipsChoice 40 = .ok (.getfield 20, 3) := by decide +kernel
theorem dX10_flipsChoice_43 : decode cX10_flipsChoice 43 = .ok (.sipush 615, 3) := by decide +kernel
theorem dX10_flipsChoice_46 : decode cX10_flipsChoice 46 = .ok (.iload_n 1, 1) := by decide +kernel
theorem dX10_flipsChoice_47 : decode cX10_flipsChoice 47 = .ok (.iload_n 2, 1) := by decide +kernel
theorem dX10_flipsChoice_48 : decode cX10_flipsChoice 48 = .ok (.iload_n 3, 1) := by decide +kernel
theorem dX10_flipsChoice_49 : decode cX10_flipsChoice 49 = .ok (.invokestatic 279, 3) := by decide +kernel
theorem dX10_flipsChoice_52 : decode cX10_flipsChoice 52 = .ok (.iadd, 1) := by decide +kernel
theorem dX10_flipsChoice_53 : decode cX10_flipsChoice 53 = .ok (.iload 7, 2) := by decide +kernel
theorem dX10_flipsChoice_55 : decode cX10_flipsChoice 55 = .ok (.ifCond .eq 10, 3) := by decide +kernel
theorem dX10_flipsChoice_58 : decode cX10_flipsChoice 58 = .ok (.iconst 3, 1) := by decide +kernel
theorem dX10_flipsChoice_59 : decode cX10_flipsChoice 59 = .ok (.iload 6, 2) := by decide +kernel
theorem dX10_flipsChoice_61 : decode cX10_flipsChoice 61 = .ok (.isub, 1) := by decide +kernel
theorem dX10_flipsChoice_62 : decode cX10_flipsChoice 62 = .ok (.goto 5, 3) := by decide +kernel
theorem dX10_flipsChoice_65 : decode cX10_flipsChoice 65 = .ok (.iload 6, 2) := by decide +kernel
theorem dX10_flipsChoice_67 : decode cX10_flipsChoice 67 = .ok (.iastore, 1) := by decide +kernel
theorem dX10_flipsChoice_68 : decode cX10_flipsChoice 68 = .ok (.return_, 1) := by decide +kernel
theorem dX10_flip_0 : decode cX10_flip 0 = .ok (.aload_n 0, 1) := by decide +kernel
theorem dX10_flip_1 : decode cX10_flip 1 = .ok (.iconst 0, 1) := by decide +kernel
theorem dX10_flip_2 : decode cX10_flip 2 = .ok (.putfield 65, 3) := by decide +kernel
theorem dX10_flip_5 : decode cX10_flip 5 = .ok (.aload_n 0, 1) := by decide +kernel
theorem dX10_flip_6 : decode cX10_flip 6 = .ok (.invokevirtual 273, 3) := by decide +kernel
theorem dX10_flip_9 : decode cX10_flip 9 = .ok (.aload_n 0, 1) := by decide +kernel
theorem dX10_flip_10 : decode cX10_flip 10 = .ok (.invokevirtual 267, 3) := by decide +kernel
theorem dX10_flip_13 : decode cX10_flip 13 = .ok (.aload_n 0, 1) := by decide +kernel
theorem dX10_flip_14 : decode cX10_flip 14 = .ok (.iconst 0, 1) := by decide +kernel
theorem dX10_flip_15 : decode cX10_flip 15 = .ok (.iconst 1, 1) := by decide +kernel
theorem dX10_flip_16 : decode cX10_flip 16 = .ok (.invokevirtual 393, 3) := by decide +kernel
theorem dX10_flip_19 : decode cX10_flip 19 = .ok (.aload_n 0, 1) := by decide +kernel
theorem dX10_flip_20 : decode cX10_flip 20 = .ok (.iconst 1, 1) := by decide +kernel
theorem dX10_flip_21 : decode cX10_flip 21 = .ok (.iconst 0, 1) := by decide +kernel
theorem dX10_flip_22 : decode cX10_flip 22 = .ok (.invokevirtual 393, 3) := by decide +kernel
theorem dX10_flip_25 : decode cX10_flip 25 = .ok (.aload_n 0, 1) := by decide +kernel
theorem dX10_flip_26 : decode cX10_flip 26 = .ok (.getfield 20, 3) := by decide +kernel
theorem dX10_flip_29 : decode cX10_flip 29 = .ok (.sipush 613, 3) := by decide +kernel
theorem dX10_flip_32 : decode cX10_flip 32 = .ok (.aload_n 0, 1) := by decide +kernel
theorem dX10_flip_33 : decode cX10_flip 33 = .ok (.getfield 20, 3) := by decide +kernel
theorem dX10_flip_36 : decode cX10_flip 36 = .ok (.sipush 1545, 3) := by decide +kernel
theorem dX10_flip_39 : decode cX10_flip 39 = .ok (.iaload, 1) := by decide +kernel
theorem dX10_flip_40 : decode cX10_flip 40 = .ok (.iastore, 1) := by decide +kernel
theorem dX10_flip_41 : decode cX10_flip 41 = .ok (.aload_n 0, 1) := by decide +kernel
theorem dX10_flip_42 : decode cX10_flip 42 = .ok (.getfield 20, 3) := by decide +kernel
theorem dX10_flip_45 : decode cX10_flip 45 = .ok (.sipush 614, 3) := by decide +kernel
theorem dX10_flip_48 : decode cX10_flip 48 = .ok (.aload_n 0, 1) := by decide +kernel
theorem dX10_flip_49 : decode cX10_flip 49 = .ok (.getfield 20, 3) := by decide +kernel
theorem dX10_flip_52 : decode cX10_flip 52 = .ok (.sipush 1544, 3) := by decide +kernel
theorem dX10_flip_55 : decode cX10_flip 55 = .ok (.iaload, 1) := by decide +kernel
theorem dX10_flip_56 : decode cX10_flip 56 = .ok (.iastore, 1) := by decide +kernel
theorem dX10_flip_57 : decode cX10_flip 57 = .ok (.iconst 0, 1) := by decide +kernel
theorem dX10_flip_58 : decode cX10_flip 58 = .ok (.istore_n 1, 1) := by decide +kernel
theorem dX10_flip_59 : decode cX10_flip 59 = .ok (.iload_n 1, 1) := by decide +kernel
theorem dX10_flip_60 : decode cX10_flip 60 = .ok (.iconst 4, 1) := by decide +kernel
theorem dX10_flip_61 : decode cX10_flip 61 = .ok (.if_icmp .ge 35, 3) := by decide +kernel
theorem dX10_flip_64 : decode cX10_flip 64 = .ok (.iconst 0, 1) := by decide +kernel
theorem dX10_flip_65 : decode cX10_flip 65 = .ok (.istore_n 2, 1) := by decide +kernel
theorem dX10_flip_66 : decode cX10_flip 66 = .ok (.iload_n 2, 1) := by decide +kernel
theorem dX10_flip_67 : decode cX10_flip 67 = .ok (.bipush 9, 2) := by decide +kernel
theorem dX10_flip_69 : decode cX10_flip 69 = .ok (.if_icmp .ge 21, 3) := by decide +kernel
theorem dX10_flip_72 : decode cX10_flip 72 = .ok (.aload_n 0, 1) := by decide +kernel
theorem dX10_flip_73 : decode cX10_flip 73 = .ok (.iload_n 1, 1) := by decide +kernel
theorem dX10_flip_74 : decode cX10_flip 74 = .ok (.iload_n 2, 1) := by decide +kernel
theorem dX10_flip_75 : decode cX10_flip 75 = .ok (.iconst 0, 1) := by decide +kernel
theorem dX10_flip_76 : decode cX10_flip 76 = .ok (.iload_n 2, 1) := by decide +kernel
theorem dX10_flip_77 : decode cX10_flip 77 = .ok (.invokestatic 390, 3) := by decide +kernel
theorem dX10_flip_80 : decode cX10_flip 80 = .ok (.iconst 0, 1) := by decide +kernel
theorem dX10_flip_81 : decode cX10_flip 81 = .ok (.invokevirtual 396, 3) := by decide +kernel
theorem dX10_flip_84 : decode cX10_flip 84 = .ok (.iinc 2 1, 3) := by decide +kernel
theorem dX10_flip_87 : decode cX10_flip 87 = .ok (.goto (-21), 3) := by decide +kernel
theorem dX10_flip_90 : decode cX10_flip 90 = .ok (.iinc 1 1, 3) := by decide +kernel
theorem dX10_flip_93 : decode cX10_flip 93 = .ok (.goto (-34), 3) := by decide +kernel
theorem dX10_flip_96 : decode cX10_flip 96 = .ok (.iconst 0, 1) := by decide +kernel
theorem dX10_flip_97 : decode cX10_flip 97 = .ok (.istore_n 1, 1) := by decide +kernel
theorem dX10_flip_98 : decode cX10_flip 98 = .ok (.iload_n 1, 1) := by decide +kernel
theorem dX10_flip_99 : decode cX10_flip 99 = .ok (.bipush 20, 2) := by decide +kernel
theorem dX10_flip_101 : decode cX10_flip 101 = .ok (.if_icmp .ge 35, 3) := by decide +kernel
theorem dX10_flip_104 : decode cX10_flip 104 = .ok (.iconst 0, 1) := by decide +kernel
theorem dX10_flip_105 : decode cX10_flip 105 = .ok (.istore_n 2, 1) := by decide +kernel
theorem dX10_flip_106 : decode cX10_flip 106 = .ok (.iload_n 2, 1) := by decide +kernel
theorem dX10_flip_107 : decode cX10_flip 107 = .ok (.bipush 9, 2) := by decide +kernel
theorem dX10_flip_109 : decode cX10_flip 109 = .ok (.if_icmp .ge 21, 3) := by decide +kernel
theorem dX10_flip_112 : decode cX10_flip 112 = .ok (.aload_n 0, 1) := by decide +kernel
theorem dX10_flip_113 : decode cX10_flip 113 = .ok (.iconst 5, 1) := by decide +kernel
theorem dX10_flip_114 : decode cX10_flip 114 = .ok (.iload_n 1, 1) := by decide +kernel
theorem dX10_flip_115 : decode cX10_flip 115 = .ok (.iload_n 2, 1) := by decide +kernel
theorem dX10_flip_116 : decode cX10_flip 116 = .ok (.iload_n 1, 1) := by decide +kernel
theorem dX10_flip_117 : decode cX10_flip 117 = .ok (.iload_n 2, 1) := by decide +kernel
theorem dX10_flip_118 : decode cX10_flip 118 = .ok (.invokestatic 390, 3) := by decide +kernel
theorem dX10_flip_121 : decode cX10_flip 121 = .ok (.invokevirtual 396, 3) := by decide +kernel
theorem dX10_flip_124 : decode cX10_flip 124 = .ok (.iinc 2 1, 3) := by decide +kernel
theorem dX10_flip_127 : decode cX10_flip 127 = .ok (.goto (-21), 3) := by decide +kernel
theorem dX10_flip_130 : decode cX10_flip 130 = .ok (.iinc 1 1, 3) := by decide +kernel
theorem dX10_flip_133 : decode cX10_flip 133 = .ok (.goto (-35), 3) := by decide +kernel
theorem dX10_flip_136 : decode cX10_flip 136 = .ok (.return_, 1) := by decide +kernel
theorem dX10_commitsTable_0 : decode cX10_commitsTable 0 = .ok (.sipush 400, 3) := by decide +kernel
theorem dX10_commitsTable_3 : decode cX10_commitsTable 3 = .ok (.istore_n 1, 1) := by decide +kernel
theorem dX10_commitsTable_4 : decode cX10_commitsTable 4 = .ok (.iconst 0, 1) := by decide +kernel
theorem dX10_commitsTable_5 : decode cX10_commitsTable 5 = .ok (.istore_n 2, 1) := by decide +kernel
theorem dX10_commitsTable_6 : decode cX10_commitsTable 6 = .ok (.aload_n 0, 1) := by decide +kernel
theorem dX10_commitsTable_7 : decode cX10_commitsTable 7 = .ok (.getfield 20, 3) := by decide +kernel
theorem dX10_commitsTable_10 : decode cX10_commitsTable 10 = .ok (.iload_n 1, 1) := by decide +kernel
theorem dX10_commitsTable_11 : decode cX10_commitsTable 11 = .ok (.iconst 0, 1) := by decide +kernel
theorem dX10_commitsTable_12 : decode cX10_commitsTable 12 = .ok (.iadd, 1) := by decide +kernel
theorem dX10_commitsTable_13 : decode cX10_commitsTable 13 = .ok (.iconst 0, 1) := by decide +kernel
theorem dX10_commitsTable_14 : decode cX10_commitsTable 14 = .ok (.iastore, 1) := by decide +kernel
theorem dX10_commitsTable_15 : decode cX10_commitsTable 15 = .ok (.aload_n 0, 1) := by decide +kernel
theorem dX10_commitsTable_16 : decode cX10_commitsTable 16 = .ok (.getfield 20, 3) := by decide +kernel
theorem dX10_commitsTable_19 : decode cX10_commitsTable 19 = .ok (.iload_n 1, 1) := by decide +kernel
theorem dX10_commitsTable_20 : decode cX10_commitsTable 20 = .ok (.iconst 1, 1) := by decide +kernel
theorem dX10_commitsTable_21 : decode cX10_commitsTable 21 = .ok (.iadd, 1) := by decide +kernel
theorem dX10_commitsTable_22 : decode cX10_commitsTable 22 = .ok (.aload_n 0, 1) := by decide +kernel
theorem dX10_commitsTable_23 : decode cX10_commitsTable 23 = .ok (.getfield 323, 3) := by decide +kernel
theorem dX10_commitsTable_26 : decode cX10_commitsTable 26 = .ok (.iastore, 1) := by decide +kernel
theorem dX10_commitsTable_27 : decode cX10_commitsTable 27 = .ok (.iconst 0, 1) := by decide +kernel
theorem dX10_commitsTable_28 : decode cX10_commitsTable 28 = .ok (.istore_n 3, 1) := by decide +kernel
theorem dX10_commitsTable_29 : decode cX10_commitsTable 29 = .ok (.iload_n 3, 1) := by decide +kernel
theorem dX10_commitsTable_30 : decode cX10_commitsTable 30 = .ok (.bipush 9, 2) := by decide +kernel
theorem dX10_commitsTable_32 : decode cX10_commitsTable 32 = .ok (.if_icmp .ge 136, 3) := by decide +kernel
theorem dX10_commitsTable_35 : decode cX10_commitsTable 35 = .ok (.aload_n 0, 1) := by decide +kernel
theorem dX10_commitsTable_36 : decode cX10_commitsTable 36 = .ok (.getfield 47, 3) := by decide +kernel
