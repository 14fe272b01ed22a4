theorem dX10_commitsTable_39 : decode cX10_commitsTable 39 = .ok (.iload_n 3, 1) := by decide +kernel
theorem dX10_commitsTable_40 : decode cX10_commitsTable 40 = .ok (.iconst (-1), 1) := by decide +kernel
theorem dX10_commitsTable_41 : decode cX10_commitsTable 41 = .ok (.iastore, 1) := by decide +kernel
theorem dX10_commitsTable_42 : decode cX10_commitsTable 42 = .ok (.aload_n 0, 1) := by decide +kernel
theorem dX10_commitsTable_43 : decode cX10_commitsTable 43 = .ok (.getfield 291, 3) := by decide +kernel
theorem dX10_commitsTable_46 : decode cX10_commitsTable 46 = .ok (.iload_n 3, 1) := by decide +kernel
theorem dX10_commitsTable_47 : decode cX10_commitsTable 47 = .ok (.ishr, 1) := by decide +kernel
theorem dX10_commitsTable_48 : decode cX10_commitsTable 48 = .ok (.iconst 1, 1) := by decide +kernel
theorem dX10_commitsTable_49 : decode cX10_commitsTable 49 = .ok (.iand, 1) := by decide +kernel
theorem dX10_commitsTable_50 : decode cX10_commitsTable 50 = .ok (.ifCond .ne 6, 3) := by decide +kernel
theorem dX10_commitsTable_53 : decode cX10_commitsTable 53 = .ok (.goto 109, 3) := by decide +kernel
theorem dX10_commitsTable_56 : decode cX10_commitsTable 56 = .ok (.aload_n 0, 1) := by decide +kernel
theorem dX10_commitsTable_57 : decode cX10_commitsTable 57 = .ok (.getfield 47, 3) := by decide +kernel
theorem dX10_commitsTable_60 : decode cX10_commitsTable 60 = .ok (.iload_n 3, 1) := by decide +kernel
theorem dX10_commitsTable_61 : decode cX10_commitsTable 61 = .ok (.iload_n 2, 1) := by decide +kernel
theorem dX10_commitsTable_62 : decode cX10_commitsTable 62 = .ok (.iastore, 1) := by decide +kernel
theorem dX10_commitsTable_63 : decode cX10_commitsTable 63 = .ok (.aload_n 0, 1) := by decide +kernel
theorem dX10_commitsTable_64 : decode cX10_commitsTable 64 = .ok (.getfield 20, 3) := by decide +kernel
theorem dX10_commitsTable_67 : decode cX10_commitsTable 67 = .ok (.iload_n 1, 1) := by decide +kernel
theorem dX10_commitsTable_68 : decode cX10_commitsTable 68 = .ok (.iconst 0, 1) := by decide +kernel
theorem dX10_commitsTable_69 : decode cX10_commitsTable 69 = .ok (.iadd, 1) := by decide +kernel
theorem dX10_commitsTable_70 : decode cX10_commitsTable 70 = .ok (.dup2, 1) := by decide +kernel
theorem dX10_commitsTable_71 : decode cX10_commitsTable 71 = .ok (.iaload, 1) := by decide +kernel
theorem dX10_commitsTable_72 : decode cX10_commitsTable 72 = .ok (.iconst 1, 1) := by decide +kernel
theorem dX10_commitsTable_73 : decode cX10_commitsTable 73 = .ok (.iload_n 2, 1) := by decide +kernel
theorem dX10_commitsTable_74 : decode cX10_commitsTable 74 = .ok (.ishl, 1) := by decide +kernel
theorem dX10_commitsTable_75 : decode cX10_commitsTable 75 = .ok (.ior, 1) := by decide +kernel
theorem dX10_commitsTable_76 : decode cX10_commitsTable 76 = .ok (.iastore, 1) := by decide +kernel
theorem dX10_commitsTable_77 : decode cX10_commitsTable 77 = .ok (.aload_n 0, 1) := by decide +kernel
theorem dX10_commitsTable_78 : decode cX10_commitsTable 78 = .ok (.getfield 20, 3) := by decide +kernel
theorem dX10_commitsTable_81 : decode cX10_commitsTable 81 = .ok (.iload_n 1, 1) := by decide +kernel
theorem dX10_commitsTable_82 : decode cX10_commitsTable 82 = .ok (.iconst 2, 1) := by decide +kernel
theorem dX10_commitsTable_83 : decode cX10_commitsTable 83 = .ok (.iadd, 1) := by decide +kernel
theorem dX10_commitsTable_84 : decode cX10_commitsTable 84 = .ok (.iload_n 2, 1) := by decide +kernel
theorem dX10_commitsTable_85 : decode cX10_commitsTable 85 = .ok (.iadd, 1) := by decide +kernel
theorem dX10_commitsTable_86 : decode cX10_commitsTable 86 = .ok (.aload_n 0, 1) := by decide +kernel
theorem dX10_commitsTable_87 : decode cX10_commitsTable 87 = .ok (.getfield 26, 3) := by decide +kernel
theorem dX10_commitsTable_90 : decode cX10_commitsTable 90 = .ok (.iload_n 3, 1) := by decide +kernel
theorem dX10_commitsTable_91 : decode cX10_commitsTable 91 = .ok (.iaload, 1) := by decide +kernel
theorem dX10_commitsTable_92 : decode cX10_commitsTable 92 = .ok (.iastore, 1) := by decide +kernel
theorem dX10_commitsTable_93 : decode cX10_commitsTable 93 = .ok (.aload_n 0, 1) := by decide +kernel
theorem dX10_commitsTable_94 : decode cX10_commitsTable 94 = .ok (.getfield 20, 3) := by decide +kernel
theorem dX10_commitsTable_97 : decode cX10_commitsTable 97 = .ok (.iload_n 1, 1) := by decide +kernel
theorem dX10_commitsTable_98 : decode cX10_commitsTable 98 = .ok (.bipush 11, 2) := by decide +kernel
theorem dX10_commitsTable_100 : decode cX10_commitsTable 100 = .ok (.iadd, 1) := by decide +kernel
theorem dX10_commitsTable_101 : decode cX10_commitsTable 101 = .ok (.iload_n 2, 1) := by decide +kernel
theorem dX10_commitsTable_102 : decode cX10_commitsTable 102 = .ok (.iadd, 1) := by decide +kernel
theorem dX10_commitsTable_103 : decode cX10_commitsTable 103 = .ok (.aload_n 0, 1) := by decide +kernel
theorem dX10_commitsTable_104 : decode cX10_commitsTable 104 = .ok (.getfield 29, 3) := by decide +kernel
theorem dX10_commitsTable_107 : decode cX10_commitsTable 107 = .ok (.iload_n 3, 1) := by decide +kernel
theorem dX10_commitsTable_108 : decode cX10_commitsTable 108 = .ok (.iaload, 1) := by decide +kernel
theorem dX10_commitsTable_109 : decode cX10_commitsTable 109 = .ok (.iastore, 1) := by decide +kernel
theorem dX10_commitsTable_110 : decode cX10_commitsTable 110 = .ok (.iconst 0, 1) := by decide +kernel
theorem dX10_commitsTable_111 : decode cX10_commitsTable 111 = .ok (.istore 4, 2) := by decide +kernel
theorem dX10_commitsTable_113 : decode cX10_commitsTable 113 = .ok (.iload 4, 2) := by decide +kernel
theorem dX10_commitsTable_115 : decode cX10_commitsTable 115 = .ok (.bipush 20, 2) := by decide +kernel
theorem dX10_commitsTable_117 : decode cX10_commitsTable 117 = .ok (.if_icmp .ge 42, 3) := by decide +kernel
theorem dX10_commitsTable_120 : decode cX10_commitsTable 120 = .ok (.aload_n 0, 1) := by decide +kernel
theorem dX10_commitsTable_121 : decode cX10_commitsTable 121 = .ok (.getfield 323, 3) := by decide +kernel
theorem dX10_commitsTable_124 : decode cX10_commitsTable 124 = .ok (.iload 4, 2) := by decide +kernel
theorem dX10_commitsTable_126 : decode cX10_commitsTable 126 = .ok (.ishr, 1) := by decide +kernel
theorem dX10_commitsTable_127 : decode cX10_commitsTable 127 = .ok (.iconst 1, 1) := by decide +kernel
theorem dX10_commitsTable_128 : decode cX10_commitsTable 128 = .ok (.iand, 1) := by decide +kernel
theorem dX10_commitsTable_129 : decode cX10_commitsTable 129 = .ok (.iconst 1, 1) := by decide +kernel
theorem dX10_commitsTable_130 : decode cX10_commitsTable 130 = .ok (.if_icmp .ne 23, 3) := by decide +kernel
theorem dX10_commitsTable_133 : decode cX10_commitsTable 133 = .ok (.aload_n 0, 1) := by decide +kernel
theorem dX10_commitsTable_134 : decode cX10_commitsTable 134 = .ok (.getfield 20, 3) := by decide +kernel
theorem dX10_commitsTable_137 : decode cX10_commitsTable 137 = .ok (.iconst 0, 1) := by decide +kernel
theorem dX10_commitsTable_138 : decode cX10_commitsTable 138 = .ok (.iconst 2, 1) := by decide +kernel
theorem dX10_commitsTable_139 : decode cX10_commitsTable 139 = .ok (.iload 4, 2) := by decide +kernel
theorem dX10_commitsTable_141 : decode cX10_commitsTable 141 = .ok (.iload_n 2, 1) := by decide +kernel
theorem dX10_commitsTable_142 : decode cX10_commitsTable 142 = .ok (.invokestatic 174, 3) := by decide +kernel
theorem dX10_commitsTable_145 : decode cX10_commitsTable 145 = .ok (.aload_n 0, 1) := by decide +kernel
theorem dX10_commitsTable_146 : decode cX10_commitsTable 146 = .ok (.iload 4, 2) := by decide +kernel
theorem dX10_commitsTable_148 : decode cX10_commitsTable 148 = .ok (.iload_n 3, 1) := by decide +kernel
theorem dX10_commitsTable_149 : decode cX10_commitsTable 149 = .ok (.invokevirtual 326, 3) := by decide +kernel
theorem dX10_commitsTable_152 : decode cX10_commitsTable 152 = .ok (.iastore, 1) := by decide +kernel
theorem dX10_commitsTable_153 : decode cX10_commitsTable 153 = .ok (.iinc 4 1, 3) := by decide +kernel
theorem dX10_commitsTable_156 : decode cX10_commitsTable 156 = .ok (.goto (-43), 3) := by decide +kernel
theorem dX10_commitsTable_159 : decode cX10_commitsTable 159 = .ok (.iinc 2 1, 3) := by decide +kernel
theorem dX10_commitsTable_162 : decode cX10_commitsTable 162 = .ok (.iinc 3 1, 3) := by decide +kernel
theorem dX10_commitsTable_165 : decode cX10_commitsTable 165 = .ok (.goto (-136), 3) := by decide +kernel
theorem dX10_commitsTable_168 : decode cX10_commitsTable 168 = .ok (.return_, 1) := by decide +kernel
theorem dX10_commitsDemands_0 : decode cX10_commitsDemands 0 = .ok (.iconst 0, 1) := by decide +kernel
theorem dX10_commitsDemands_1 : decode cX10_commitsDemands 1 = .ok (.istore_n 1, 1) := by decide +kernel
theorem dX10_commitsDemands_2 : decode cX10_commitsDemands 2 = .ok (.iconst 0, 1) := by decide +kernel
theorem dX10_commitsDemands_3 : decode cX10_commitsDemands 3 = .ok (.istore_n 2, 1) := by decide +kernel
theorem dX10_commitsDemands_4 : decode cX10_commitsDemands 4 = .ok (.iload_n 2, 1) := by decide +kernel
theorem dX10_commitsDemands_5 : decode cX10_commitsDemands 5 = .ok (.aload_n 0, 1) := by decide +kernel
theorem dX10_commitsDemands_6 : decode cX10_commitsDemands 6 = .ok (.getfield 20, 3) := by decide +kernel
theorem dX10_commitsDemands_9 : decode cX10_commitsDemands 9 = .ok (.sipush 600, 3) := by decide +kernel
theorem dX10_commitsDemands_12 : decode cX10_commitsDemands 12 = .ok (.iaload, 1) := by decide +kernel
theorem dX10_commitsDemands_13 : decode cX10_commitsDemands 13 = .ok (.if_icmp .ge 116, 3) := by decide +kernel
theorem dX10_commitsDemands_16 : decode cX10_commitsDemands 16 = .ok (.aload_n 0, 1) := by decide +kernel
theorem dX10_commitsDemands_17 : decode cX10_commitsDemands 17 = .ok (.getfield 20, 3) := by decide +kernel
theorem dX10_commitsDemands_20 : decode cX10_commitsDemands 20 = .ok (.sipush 601, 3) := by decide +kernel
theorem dX10_commitsDemands_23 : decode cX10_commitsDemands 23 = .ok (.iload_n 2, 1) := by decide +kernel
theorem dX10_commitsDemands_24 : decode cX10_commitsDemands 24 = .ok (.iadd, 1) := by decide +kernel
theorem dX10_commitsDemands_25 : decode cX10_commitsDemands 25 = .ok (.iaload, 1) := by decide +kernel
theorem dX10_commitsDemands_26 : decode cX10_commitsDemands 26 = .ok (.istore_n 3, 1) := by decide +kernel
theorem dX10_commitsDemands_27 : decode cX10_commitsDemands 27 = .ok (.aload_n 0, 1) := by decide +kernel
theorem dX10_commitsDemands_28 : decode cX10_commitsDemands 28 = .ok (.getfield 47, 3) := by decide +kernel
theorem dX10_commitsDemands_31 : decode cX10_commitsDemands 31 = .ok (.aload_n 0, 1) := by decide +kernel
theorem dX10_commitsDemands_32 : decode cX10_commitsDemands 32 = .ok (.getfield 20, 3) := by decide +kernel
theorem dX10_commitsDemands_35 : decode cX10_commitsDemands 35 = .ok (.sipush 605, 3) := by decide +kernel
theorem dX10_commitsDemands_38 : decode cX10_commitsDemands 38 = .ok (.iload_n 2, 1) := by decide +kernel
theorem dX10_commitsDemands_39 : decode cX10_commitsDemands 39 = .ok (.iadd, 1) := by decide +kernel
theorem dX10_commitsDemands_40 : decode cX10_commitsDemands 40 = .ok (.iaload, 1) := by decide +kernel
theorem dX10_commitsDemands_41 : decode cX10_commitsDemands 41 = .ok (.iaload, 1) := by decide +kernel
theorem dX10_commitsDemands_42 : decode cX10_commitsDemands 42 = .ok (.istore 4, 2) := by decide +kernel
theorem dX10_commitsDemands_44 : decode cX10_commitsDemands 44 = .ok (.iload_n 3, 1) := by decide +kernel
theorem dX10_commitsDemands_45 : decode cX10_commitsDemands 45 = .ok (.iconst 2, 1) := by decide +kernel
theorem dX10_commitsDemands_46 : decode cX10_commitsDemands 46 = .ok (.if_icmp .ne 21, 3) := by decide +kernel
theorem dX10_commitsDemands_49 : decode cX10_commitsDemands 49 = .ok (.aload_n 0, 1) := by decide +kernel
theorem dX10_commitsDemands_50 : decode cX10_commitsDemands 50 = .ok (.getfield 47, 3) := by decide +kernel
theorem dX10_commitsDemands_53 : decode cX10_commitsDemands 53 = .ok (.aload_n 0, 1) := by decide +kernel
theorem dX10_commitsDemands_54 : decode cX10_commitsDemands 54 = .ok (.getfield 20, 3) := by decide +kernel
theorem dX10_commitsDemands_57 : decode cX10_commitsDemands 57 = .ok (.sipush 609, 3) := by decide +kernel
theorem dX10_commitsDemands_60 : decode cX10_commitsDemands 60 = .ok (.iload_n 2, 1) := by decide +kernel
theorem dX10_commitsDemands_61 : decode cX10_commitsDemands 61 = .ok (.iadd, 1) := by decide +kernel
theorem dX10_commitsDemands_62 : decode cX10_commitsDemands 62 = .ok (.iaload, 1) := by decide +kernel
theorem dX10_commitsDemands_63 : decode cX10_commitsDemands 63 = .ok (.iaload, 1) := by decide +kernel
theorem dX10_commitsDemands_64 : decode cX10_commitsDemands 64 = .ok (.goto 4, 3) := by decide +kernel
theorem dX10_commitsDemands_67 : decode cX10_commitsDemands 67 = .ok (.iconst 0, 1) := by decide +kernel
theorem dX10_commitsDemands_68 : decode cX10_commitsDemands 68 = .ok (.istore 5, 2) := by decide +kernel
theorem dX10_commitsDemands_70 : decode cX10_commitsDemands 70 = .ok (.iload 4, 2) := by decide +kernel
theorem dX10_commitsDemands_72 : decode cX10_commitsDemands 72 = .ok (.iconst (-1), 1) := by decide +kernel
theorem dX10_commitsDemands_73 : decode cX10_commitsDemands 73 = .ok (.if_icmp .eq 50, 3) := by decide +kernel
theorem dX10_commitsDemands_76 : decode cX10_commitsDemands 76 = .ok (.iload 5, 2) := by decide +kernel
theorem dX10_commitsDemands_78 : decode cX10_commitsDemands 78 = .ok (.iconst (-1), 1) := by decide +kernel
theorem dX10_commitsDemands_79 : decode cX10_commitsDemands 79 = .ok (.if_icmp .ne 6, 3) := by decide +kernel
theorem dX10_commitsDemands_82 : decode cX10_commitsDemands 82 = .ok (.goto 41, 3) := by decide +kernel
theorem dX10_commitsDemands_85 : decode cX10_commitsDemands 85 = .ok (.aload_n 0, 1) := by decide +kernel
theorem dX10_commitsDemands_86 : decode cX10_commitsDemands 86 = .ok (.getfield 20, 3) := by decide +kernel
theorem dX10_commitsDemands_89 : decode cX10_commitsDemands 89 = .ok (.sipush 601, 3) := by decide +kernel
theorem dX10_commitsDemands_92 : decode cX10_commitsDemands 92 = .ok (.iload_n 1, 1) := by decide +kernel
theorem dX10_commitsDemands_93 : decode cX10_commitsDemands 93 = .ok (.iadd, 1) := by decide +kernel
theorem dX10_commitsDemands_94 : decode cX10_commitsDemands 94 = .ok (.iload_n 3, 1) := by decide +kernel
theorem dX10_commitsDemands_95 : decode cX10_commitsDemands 95 = .ok (.iastore, 1) := by decide +kernel
theorem dX10_commitsDemands_96 : decode cX10_commitsDemands 96 = .ok (.aload_n 0, 1) := by decide +kernel
theorem dX10_commitsDemands_97 : decode cX10_commitsDemands 97 = .ok (.getfield 20, 3) := by decide +kernel
theorem dX10_commitsDemands_100 : decode cX10_commitsDemands 100 = .ok (.sipush 605, 3) := by decide +kernel
theorem dX10_commitsDemands_103 : decode cX10_commitsDemands 103 = .ok (.iload_n 1, 1) := by decide +kernel
theorem dX10_commitsDemands_104 : decode cX10_commitsDemands 104 = .ok (.iadd, 1) := by decide +kernel
theorem dX10_commitsDemands_105 : decode cX10_commitsDemands 105 = .ok (.iload 4, 2) := by decide +kernel
theorem dX10_commitsDemands_107 : decode cX10_commitsDemands 107 = .ok (.iastore, 1) := by decide +kernel
theorem dX10_commitsDemands_108 : decode cX10_commitsDemands 108 = .ok (.aload_n 0, 1) := by decide +kernel
theorem dX10_commitsDemands_109 : decode cX10_commitsDemands 109 = .ok (.getfield 20, 3) := by decide +kernel
theorem dX10_commitsDemands_112 : decode cX10_commitsDemands 112 = .ok (.sipush 609, 3) := by decide +kernel
theorem dX10_commitsDemands_115 : decode cX10_commitsDemands 115 = .ok (.iload_n 1, 1) := by decide +kernel
theorem dX10_commitsDemands_116 : decode cX10_commitsDemands 116 = .ok (.iadd, 1) := by decide +kernel
theorem dX10_commitsDemands_117 : decode cX10_commitsDemands 117 = .ok (.iload 5, 2) := by decide +kernel
theorem dX10_commitsDemands_119 : decode cX10_commitsDemands 119 = .ok (.iastore, 1) := by decide +kernel
theorem dX10_commitsDemands_120 : decode cX10_commitsDemands 120 = .ok (.iinc 1 1, 3) := by decide +kernel
theorem dX10_commitsDemands_123 : decode cX10_commitsDemands 123 = .ok (.iinc 2 1, 3) := by decide +kernel
theorem dX10_commitsDemands_126 : decode cX10_commitsDemands 126 = .ok (.goto (-122), 3) := by decide +kernel
theorem dX10_commitsDemands_129 : decode cX10_commitsDemands 129 = .ok (.aload_n 0, 1) := by decide +kernel
theorem dX10_commitsDemands_130 : decode cX10_commitsDemands 130 = .ok (.getfield 20, 3) := by decide +kernel
theorem dX10_commitsDemands_133 : decode cX10_commitsDemands 133 = .ok (.sipush 600, 3) := by decide +kernel
theorem dX10_commitsDemands_136 : decode cX10_commitsDemands 136 = .ok (.iload_n 1, 1) := by decide +kernel
theorem dX10_commitsDemands_137 : decode cX10_commitsDemands 137 = .ok (.iastore, 1) := by decide +kernel
theorem dX10_commitsDemands_138 : decode cX10_commitsDemands 138 = .ok (.return_, 1) := by decide +kernel
theorem dX10_commit_0 : decode cX10_commit 0 = .ok (.aload_n 0, 1) := by decide +kernel
theorem dX10_commit_1 : decode cX10_commit 1 = .ok (.iconst 0, 1) := by decide +kernel
theorem dX10_commit_2 : decode cX10_commit 2 = .ok (.putfield 65, 3) := by decide +kernel
theorem dX10_commit_5 : decode cX10_commit 5 = .ok (.aload_n 0, 1) := by decide +kernel
theorem dX10_commit_6 : decode cX10_commit 6 = .ok (.iconst 0, 1) := by decide +kernel
theorem dX10_commit_7 : decode cX10_commit 7 = .ok (.invokevirtual 354, 3) := by decide +kernel
theorem dX10_commit_10 : decode cX10_commit 10 = .ok (.aload_n 0, 1) := by decide +kernel
theorem dX10_commit_11 : decode cX10_commit 11 = .ok (.getfield 282, 3) := by decide +kernel
theorem dX10_commit_14 : decode cX10_commit 14 = .ok (.ifCond .gt 26, 3) := by decide +kernel
theorem dX10_commit_17 : decode cX10_commit 17 = .ok (.aload_n 0, 1) := by decide +kernel
theorem dX10_commit_18 : decode cX10_commit 18 = .ok (.getfield 291, 3) := by decide +kernel
theorem dX10_commit_21 : decode cX10_commit 21 = .ok (.invokestatic 240, 3) := by decide +kernel
theorem dX10_commit_24 : decode cX10_commit 24 = .ok (.iconst 5, 1) := by decide +kernel
theorem dX10_commit_25 : decode cX10_commit 25 = .ok (.if_icmp .gt 15, 3) := by decide +kernel
theorem dX10_commit_28 : decode cX10_commit 28 = .ok (.aload_n 0, 1) := by decide +kernel
theorem dX10_commit_29 : decode cX10_commit 29 = .ok (.getfield 323, 3) := by decide +kernel
theorem dX10_commit_32 : decode cX10_commit 32 = .ok (.invokestatic 240, 3) := by decide +kernel
theorem dX10_commit_35 : decode cX10_commit 35 = .ok (.bipush 12, 2) := by decide +kernel
theorem dX10_commit_37 : decode cX10_commit 37 = .ok (.if_icmp .le 9, 3) := by decide +kernel
theorem dX10_commit_40 : decode cX10_commit 40 = .ok (.aload_n 0, 1) := by decide +kernel
theorem dX10_commit_41 : decode cX10_commit 41 = .ok (.iconst 1, 1) := by decide +kernel
theorem dX10_commit_42 : decode cX10_commit 42 = .ok (.invokevirtual 270, 3) := by decide +kernel
theorem dX10_commit_45 : decode cX10_commit 45 = .ok (.ireturn, 1) := by decide +kernel
theorem dX10_commit_46 : decode cX10_commit 46 = .ok (.aload_n 0, 1) := by decide +kernel
theorem dX10_commit_47 : decode cX10_commit 47 = .ok (.invokevirtual 273, 3) := by decide +kernel
theorem dX10_commit_50 : decode cX10_commit 50 = .ok (.aload_n 0, 1) := by decide +kernel
theorem dX10_commit_51 : decode cX10_commit 51 = .ok (.invokevirtual 400, 3) := by decide +kernel
theorem dX10_commit_54 : decode cX10_commit 54 = .ok (.aload_n 0, 1) := by decide +kernel
theorem dX10_commit_55 : decode cX10_commit 55 = .ok (.invokevirtual 403, 3) := by decide +kernel
theorem dX10_commit_58 : decode cX10_commit 58 = .ok (.aload_n 0, 1) := by decide +kernel
theorem dX10_commit_59 : decode cX10_commit 59 = .ok (.iconst 0, 1) := by decide +kernel
theorem dX10_commit_60 : decode cX10_commit 60 = .ok (.invokevirtual 187, 3) := by decide +kernel
theorem dX10_commit_63 : decode cX10_commit 63 = .ok (.aload_n 0, 1) := by decide +kernel
theorem dX10_commit_64 : decode cX10_commit 64 = .ok (.getfield 20, 3) := by decide +kernel
theorem dX10_commit_67 : decode cX10_commit 67 = .ok (.sipush 613, 3) := by decide +kernel
theorem dX10_commit_70 : decode cX10_commit 70 = .ok (.iconst 0, 1) := by decide +kernel
theorem dX10_commit_71 : decode cX10_commit 71 = .ok (.iastore, 1) := by decide +kernel
theorem dX10_commit_72 : decode cX10_commit 72 = .ok (.aload_n 0, 1) := by decide +kernel
theorem dX10_commit_73 : decode cX10_commit 73 = .ok (.getfield 20, 3) := by decide +kernel
theorem dX10_commit_76 : decode cX10_commit 76 = .ok (.sipush 614, 3) := by decide +kernel
theorem dX10_commit_79 : decode cX10_commit 79 = .ok (.iconst 0, 1) := by decide +kernel
theorem dX10_commit_80 : decode cX10_commit 80 = .ok (.iastore, 1) := by decide +kernel
theorem dX10_commit_81 : decode cX10_commit 81 = .ok (.iconst 0, 1) := by decide +kernel
theorem dX10_commit_82 : decode cX10_commit 82 = .ok (.istore_n 1, 1) := by decide +kernel
theorem dX10_commit_83 : decode cX10_commit 83 = .ok (.iload_n 1, 1) := by decide +kernel
theorem dX10_commit_84 : decode cX10_commit 84 = .ok (.sipush 316, 3) := by decide +kernel
theorem dX10_commit_87 : decode cX10_commit 87 = .ok (.if_icmp .ge 20, 3) := by decide +kernel
theorem dX10_commit_90 : decode cX10_commit 90 = .ok (.aload_n 0, 1) := by decide +kernel
theorem dX10_commit_91 : decode cX10_commit 91 = .ok (.getfield 20, 3) := by decide +kernel
theorem dX10_commit_94 : decode cX10_commit 94 = .ok (.sipush 615, 3) := by decide +kernel
theorem dX10_commit_97 : decode cX10_commit 97 = .ok (.iload_n 1, 1) := by decide +kernel
theorem dX10_commit_98 : decode cX10_commit 98 = .ok (.iadd, 1) := by decide +kernel
theorem dX10_commit_99 : decode cX10_commit 99 = .ok (.iconst (-1), 1) := by decide +kernel
theorem dX10_commit_100 : decode cX10_commit 100 = .ok (.iastore, 1) := by decide +kernel
theorem dX10_commit_101 : decode cX10_commit 101 = .ok (.iinc 1 1, 3) := by decide +kernel
theorem dX10_commit_104 : decode cX10_commit 104 = .ok (.goto (-21), 3) := by decide +kernel
theorem dX10_commit_107 : decode cX10_commit 107 = .ok (.aload_n 0, 1) := by decide +kernel
theorem dX10_commit_108 : decode cX10_commit 108 = .ok (.getfield 20, 3) := by decide +kernel
theorem dX10_commit_111 : decode cX10_commit 111 = .ok (.sipush 401, 3) := by decide +kernel
theorem dX10_commit_114 : decode cX10_commit 114 = .ok (.iaload, 1) := by decide +kernel
theorem dX10_commit_115 : decode cX10_commit 115 = .ok (.invokestatic 240, 3) := by decide +kernel
theorem dX10_commit_118 : decode cX10_commit 118 = .ok (.ireturn, 1) := by decide +kernel
theorem dX10_isSide_0 : decode cX10_isSide 0 = .ok (.aload_n 0, 1) := by decide +kernel
theorem dX10_isSide_1 : decode cX10_isSide 1 = .ok (.iload_n 1, 1) := by decide +kernel
theorem dX10_isSide_2 : decode cX10_isSide 2 = .ok (.iconst 0, 1) := by decide +kernel
theorem dX10_isSide_3 : decode cX10_isSide 3 = .ok (.iconst 1, 1) := by decide +kernel
theorem dX10_isSide_4 : decode cX10_isSide 4 = .ok (.invokestatic 231, 3) := by decide +kernel
theorem dX10_isSide_7 : decode cX10_isSide 7 = .ok (.iconst 1, 1) := by decide +kernel
theorem dX10_isSide_8 : decode cX10_isSide 8 = .ok (.invokevirtual 214, 3) := by decide +kernel
theorem dX10_isSide_11 : decode cX10_isSide 11 = .ok (.ireturn, 1) := by decide +kernel
theorem dX10_changedCells_0 : decode cX10_changedCells 0 = .ok (.iconst 0, 1) := by decide +kernel
theorem dX10_changedCells_1 : decode cX10_changedCells 1 = .ok (.istore_n 2, 1) := by decide +kernel
theorem dX10_changedCells_2 : decode cX10_changedCells 2 = .ok (.iconst 0, 1) := by decide +kernel
theorem dX10_changedCells_3 : decode cX10_changedCells 3 = .ok (.istore_n 3, 1) := by decide +kernel
theorem dX10_changedCells_4 : decode cX10_changedCells 4 = .ok (.iload_n 3, 1) := by decide +kernel
theorem dX10_changedCells_5 : decode cX10_changedCells 5 = .ok (.bipush 20, 2) := by decide +kernel
theorem dX10_changedCells_7 : decode cX10_changedCells 7 = .ok (.if_icmp .ge 65, 3) := by decide +kernel
theorem dX10_changedCells_10 : decode cX10_changedCells 10 = .ok (.iconst 0, 1) := by decide +kernel
theorem dX10_changedCells_11 : decode cX10_changedCells 11 = .ok (.istore 4, 2) := by decide +kernel
theorem dX10_changedCells_13 : decode cX10_changedCells 13 = .ok (.iload 4, 2) := by decide +kernel
theorem dX10_changedCells_15 : decode cX10_changedCells 15 = .ok (.iconst 5, 1) := by decide +kernel
theorem dX10_changedCells_16 : decode cX10_changedCells 16 = .ok (.if_icmp .ge 50, 3) := by decide +kernel
theorem dX10_changedCells_19 : decode cX10_changedCells 19 = .ok (.iload_n 2, 1) := by decide +kernel
theorem dX10_changedCells_20 : decode cX10_changedCells 20 = .ok (.aload_n 0, 1) := by decide +kernel
theorem dX10_changedCells_21 : decode cX10_changedCells 21 = .ok (.iconst 0, 1) := by decide +kernel
theorem dX10_changedCells_22 : decode cX10_changedCells 22 = .ok (.iconst 2, 1) := by decide +kernel
theorem dX10_changedCells_23 : decode cX10_changedCells 23 = .ok (.iload_n 3, 1) := by decide +kernel
theorem dX10_changedCells_24 : decode cX10_changedCells 24 = .ok (.invokevirtual 160, 3) := by decide +kernel
theorem dX10_changedCells_27 : decode cX10_changedCells 27 = .ok (.ifCond .eq 30, 3) := by decide +kernel
theorem dX10_changedCells_30 : decode cX10_changedCells 30 = .ok (.aload_n 0, 1) := by decide +kernel
theorem dX10_changedCells_31 : decode cX10_changedCells 31 = .ok (.iconst 0, 1) := by decide +kernel
theorem dX10_changedCells_32 : decode cX10_changedCells 32 = .ok (.iconst 2, 1) := by decide +kernel
theorem dX10_changedCells_33 : decode cX10_changedCells 33 = .ok (.iload 4, 2) := by decide +kernel
theorem dX10_changedCells_35 : decode cX10_changedCells 35 = .ok (.invokevirtual 234, 3) := by decide +kernel
theorem dX10_changedCells_38 : decode cX10_changedCells 38 = .ok (.ifCond .eq 19, 3) := by decide +kernel
theorem dX10_changedCells_41 : decode cX10_changedCells 41 = .ok (.aload_n 0, 1) := by decide +kernel
theorem dX10_changedCells_42 : decode cX10_changedCells 42 = .ok (.iconst 0, 1) := by decide +kernel
theorem dX10_changedCells_43 : decode cX10_changedCells 43 = .ok (.iload_n 1, 1) := by decide +kernel
theorem dX10_changedCells_44 : decode cX10_changedCells 44 = .ok (.iload_n 3, 1) := by decide +kernel
theorem dX10_changedCells_45 : decode cX10_changedCells 45 = .ok (.iload 4, 2) := by decide +kernel
theorem dX10_changedCells_47 : decode cX10_changedCells 47 = .ok (.invokevirtual 288, 3) := by decide +kernel
theorem dX10_changedCells_50 : decode cX10_changedCells 50 = .ok (.ifCond .eq 7, 3) := by decide +kernel
theorem dX10_changedCells_53 : decode cX10_changedCells 53 = .ok (.iconst 1, 1) := by decide +kernel
theorem dX10_changedCells_54 : decode cX10_changedCells 54 = .ok (.goto 4, 3) := by decide +kernel
theorem dX10_changedCells_57 : decode cX10_changedCells 57 = .ok (.iconst 0, 1) := by decide +kernel
theorem dX10_changedCells_58 : decode cX10_changedCells 58 = .ok (.iadd, 1) := by decide +kernel
theorem dX10_changedCells_59 : decode cX10_changedCells 59 = .ok (.istore_n 2, 1) := by decide +kernel
theorem dX10_changedCells_60 : decode cX10_changedCells 60 = .ok (.iinc 4 1, 3) := by decide +kernel
theorem dX10_changedCells_63 : decode cX10_changedCells 63 = .ok (.goto (-50), 3) := by decide +kernel
theorem dX10_changedCells_66 : decode cX10_changedCells 66 = .ok (.iinc 3 1, 3) := by decide +kernel
theorem dX10_changedCells_69 : decode cX10_changedCells 69 = .ok (.goto (-65), 3) := by decide +kernel
theorem dX10_changedCells_72 : decode cX10_changedCells 72 = .ok (.iload_n 2, 1) := by decide +kernel
theorem dX10_changedCells_73 : decode cX10_changedCells 73 = .ok (.ireturn, 1) := by decide +kernel
theorem dX10_changedColumns_0 : decode cX10_changedColumns 0 = .ok (.iconst 0, 1) := by decide +kernel
theorem dX10_changedColumns_1 : decode cX10_changedColumns 1 = .ok (.istore_n 3, 1) := by decide +kernel
theorem dX10_changedColumns_2 : decode cX10_changedColumns 2 = .ok (.iconst 0, 1) := by decide +kernel
theorem dX10_changedColumns_3 : decode cX10_changedColumns 3 = .ok (.istore 4, 2) := by decide +kernel
theorem dX10_changedColumns_5 : decode cX10_changedColumns 5 = .ok (.iload 4, 2) := by decide +kernel
theorem dX10_changedColumns_7 : decode cX10_changedColumns 7 = .ok (.iconst 5, 1) := by decide +kernel
theorem dX10_changedColumns_8 : decode cX10_changedColumns 8 = .ok (.if_icmp .ge 70, 3) := by decide +kernel
theorem dX10_changedColumns_11 : decode cX10_changedColumns 11 = .ok (.iload_n 3, 1) := by decide +kernel
theorem dX10_changedColumns_12 : decode cX10_changedColumns 12 = .ok (.aload_n 0, 1) := by decide +kernel
theorem dX10_changedColumns_13 : decode cX10_changedColumns 13 = .ok (.iconst 0, 1) := by decide +kernel
theorem dX10_changedColumns_14 : decode cX10_changedColumns 14 = .ok (.iconst 2, 1) := by decide +kernel
theorem dX10_changedColumns_15 : decode cX10_changedColumns 15 = .ok (.iload 4, 2) := by decide +kernel
theorem dX10_changedColumns_17 : decode cX10_changedColumns 17 = .ok (.invokevirtual 234, 3) := by decide +kernel
theorem dX10_changedColumns_20 : decode cX10_changedColumns 20 = .ok (.ifCond .eq 49, 3) := by decide +kernel
theorem dX10_changedColumns_23 : decode cX10_changedColumns 23 = .ok (.aload_n 0, 1) := by decide +kernel
theorem dX10_changedColumns_24 : decode cX10_changedColumns 24 = .ok (.iconst 0, 1) := by decide +kernel
theorem dX10_changedColumns_25 : decode cX10_changedColumns 25 = .ok (.iload_n 1, 1) := by decide +kernel
theorem dX10_changedColumns_26 : decode cX10_changedColumns 26 = .ok (.iload 4, 2) := by decide +kernel
theorem dX10_changedColumns_28 : decode cX10_changedColumns 28 = .ok (.invokevirtual 234, 3) := by decide +kernel
theorem dX10_changedColumns_31 : decode cX10_changedColumns 31 = .ok (.ifCond .eq 38, 3) := by decide +kernel
theorem dX10_changedColumns_34 : decode cX10_changedColumns 34 = .ok (.aload_n 0, 1) := by decide +kernel
theorem dX10_changedColumns_35 : decode cX10_changedColumns 35 = .ok (.getfield 20, 3) := by decide +kernel
theorem dX10_changedColumns_38 : decode cX10_changedColumns 38 = .ok (.sipush 200, 3) := by decide +kernel
theorem dX10_changedColumns_41 : decode cX10_changedColumns 41 = .ok (.iload_n 1, 1) := by decide +kernel
theorem dX10_changedColumns_42 : decode cX10_changedColumns 42 = .ok (.imul, 1) := by decide +kernel
theorem dX10_changedColumns_43 : decode cX10_changedColumns 43 = .ok (.iload_n 2, 1) := by decide +kernel
theorem dX10_changedColumns_44 : decode cX10_changedColumns 44 = .ok (.iadd, 1) := by decide +kernel
theorem dX10_changedColumns_45 : decode cX10_changedColumns 45 = .ok (.iload 4, 2) := by decide +kernel
theorem dX10_changedColumns_47 : decode cX10_changedColumns 47 = .ok (.iadd, 1) := by decide +kernel
theorem dX10_changedColumns_48 : decode cX10_changedColumns 48 = .ok (.iaload, 1) := by decide +kernel
theorem dX10_changedColumns_49 : decode cX10_changedColumns 49 = .ok (.aload_n 0, 1) := by decide +kernel
theorem dX10_changedColumns_50 : decode cX10_changedColumns 50 = .ok (.getfield 20, 3) := by decide +kernel
theorem dX10_changedColumns_53 : decode cX10_changedColumns 53 = .ok (.sipush 400, 3) := by decide +kernel
theorem dX10_changedColumns_56 : decode cX10_changedColumns 56 = .ok (.iload_n 2, 1) := by decide +kernel
theorem dX10_changedColumns_57 : decode cX10_changedColumns 57 = .ok (.iadd, 1) := by decide +kernel
theorem dX10_changedColumns_58 : decode cX10_changedColumns 58 = .ok (.iload 4, 2) := by decide +kernel
theorem dX10_changedColumns_60 : decode cX10_changedColumns 60 = .ok (.iadd, 1) := by decide +kernel
theorem dX10_changedColumns_61 : decode cX10_changedColumns 61 = .ok (.iaload, 1) := by decide +kernel
theorem dX10_changedColumns_62 : decode cX10_changedColumns 62 = .ok (.if_icmp .eq 7, 3) := by decide +kernel
theorem dX10_changedColumns_65 : decode cX10_changedColumns 65 = .ok (.iconst 1, 1) := by decide +kernel
theorem dX10_changedColumns_66 : decode cX10_changedColumns 66 = .ok (.goto 4, 3) := by decide +kernel
theorem dX10_changedColumns_69 : decode cX10_changedColumns 69 = .ok (.iconst 0, 1) := by decide +kernel
theorem dX10_changedColumns_70 : decode cX10_changedColumns 70 = .ok (.iadd, 1) := by decide +kernel
theorem dX10_changedColumns_71 : decode cX10_changedColumns 71 = .ok (.istore_n 3, 1) := by decide +kernel
theorem dX10_changedColumns_72 : decode cX10_changedColumns 72 = .ok (.iinc 4 1, 3) := by decide +kernel
theorem dX10_changedColumns_75 : decode cX10_changedColumns 75 = .ok (.goto (-70), 3) := by decide +kernel
theorem dX10_changedColumns_78 : decode cX10_changedColumns 78 = .ok (.iload_n 3, 1) := by decide +kernel
theorem dX10_changedColumns_79 : decode cX10_changedColumns 79 = .ok (.ireturn, 1) := by decide +kernel
theorem dX10_difference_0 : decode cX10_difference 0 = .ok (.aload_n 0, 1) := by decide +kernel
theorem dX10_difference_1 : decode cX10_difference 1 = .ok (.iconst 0, 1) := by decide +kernel
theorem dX10_difference_2 : decode cX10_difference 2 = .ok (.putfield 65, 3) := by decide +kernel
theorem dX10_difference_5 : decode cX10_difference 5 = .ok (.aload_n 0, 1) := by decide +kernel
theorem dX10_difference_6 : decode cX10_difference 6 = .ok (.iload_n 1, 1) := by decide +kernel
theorem dX10_difference_7 : decode cX10_difference 7 = .ok (.invokevirtual 406, 3) := by decide +kernel
theorem dX10_difference_10 : decode cX10_difference 10 = .ok (.ifCond .eq 13, 3) := by decide +kernel
theorem dX10_difference_13 : decode cX10_difference 13 = .ok (.aload_n 0, 1) := by decide +kernel
theorem dX10_difference_14 : decode cX10_difference 14 = .ok (.iload_n 2, 1) := by decide +kernel
theorem dX10_difference_15 : decode cX10_difference 15 = .ok (.bipush 6, 2) := by decide +kernel
theorem dX10_difference_17 : decode cX10_difference 17 = .ok (.invokevirtual 375, 3) := by decide +kernel
theorem dX10_difference_20 : decode cX10_difference 20 = .ok (.ifCond .ne 5, 3) := by decide +kernel
theorem dX10_difference_23 : decode cX10_difference 23 = .ok (.iconst 0, 1) := by decide +kernel
theorem dX10_difference_24 : decode cX10_difference 24 = .ok (.ireturn, 1) := by decide +kernel
theorem dX10_difference_25 : decode cX10_difference 25 = .ok (.aload_n 0, 1) := by decide +kernel
theorem dX10_difference_26 : decode cX10_difference 26 = .ok (.getfield 20, 3) := by decide +kernel
theorem dX10_difference_29 : decode cX10_difference 29 = .ok (.sipush 200, 3) := by decide +kernel
theorem dX10_difference_32 : decode cX10_difference 32 = .ok (.iload_n 1, 1) := by decide +kernel
theorem dX10_difference_33 : decode cX10_difference 33 = .ok (.imul, 1) := by decide +kernel
theorem dX10_difference_34 : decode cX10_difference 34 = .ok (.iconst 1, 1) := by decide +kernel
theorem dX10_difference_35 : decode cX10_difference 35 = .ok (.iadd, 1) := by decide +kernel
theorem dX10_difference_36 : decode cX10_difference 36 = .ok (.iaload, 1) := by decide +kernel
theorem dX10_difference_37 : decode cX10_difference 37 = .ok (.istore_n 3, 1) := by decide +kernel
theorem dX10_difference_38 : decode cX10_difference 38 = .ok (.aload_n 0, 1) := by decide +kernel
theorem dX10_difference_39 : decode cX10_difference 39 = .ok (.getfield 20, 3) := by decide +kernel
theorem dX10_difference_42 : decode cX10_difference 42 = .ok (.sipush 401, 3) := by decide +kernel
theorem dX10_difference_45 : decode cX10_difference 45 = .ok (.iaload, 1) := by decide +kernel
theorem dX10_difference_46 : decode cX10_difference 46 = .ok (.istore 4, 2) := by decide +kernel
theorem dX10_difference_48 : decode cX10_difference 48 = .ok (.aload_n 0, 1) := by decide +kernel
theorem dX10_difference_49 : decode cX10_difference 49 = .ok (.getfield 20, 3) := by decide +kernel
theorem dX10_difference_52 : decode cX10_difference 52 = .ok (.sipush 200, 3) := by decide +kernel
theorem dX10_difference_55 : decode cX10_difference 55 = .ok (.iload_n 1, 1) := by decide +kernel
theorem dX10_difference_56 : decode cX10_difference 56 = .ok (.imul, 1) := by decide +kernel
theorem dX10_difference_57 : decode cX10_difference 57 = .ok (.iconst 0, 1) := by decide +kernel
theorem dX10_difference_58 : decode cX10_difference 58 = .ok (.iadd, 1) := by decide +kernel
theorem dX10_difference_59 : decode cX10_difference 59 = .ok (.iaload, 1) := by decide +kernel
theorem dX10_difference_60 : decode cX10_difference 60 = .ok (.istore 5, 2) := by decide +kernel
theorem dX10_difference_62 : decode cX10_difference 62 = .ok (.aload_n 0, 1) := by decide +kernel
theorem dX10_difference_63 : decode cX10_difference 63 = .ok (.getfield 20, 3) := by decide +kernel
theorem dX10_difference_66 : decode cX10_difference 66 = .ok (.sipush 400, 3) := by decide +kernel
theorem dX10_difference_69 : decode cX10_difference 69 = .ok (.iaload, 1) := by decide +kernel
theorem dX10_difference_70 : decode cX10_difference 70 = .ok (.istore 6, 2) := by decide +kernel
theorem dX10_difference_72 : decode cX10_difference 72 = .ok (.iload_n 2, 1) := by decide +kernel
theorem dX10_difference_73 : decode cX10_difference 73 = .ok (.tableswitch 94 0 5 #[39, 45, 55, 65, 76, 87], 39) := by decide +kernel
theorem dX10_difference_112 : decode cX10_difference 112 = .ok (.aload_n 0, 1) := by decide +kernel
theorem dX10_difference_113 : decode cX10_difference 113 = .ok (.iload_n 1, 1) := by decide +kernel
theorem dX10_difference_114 : decode cX10_difference 114 = .ok (.invokevirtual 409, 3) := by decide +kernel
theorem dX10_difference_117 : decode cX10_difference 117 = .ok (.ireturn, 1) := by decide +kernel
theorem dX10_difference_118 : decode cX10_difference 118 = .ok (.iload_n 3, 1) := by decide +kernel
theorem dX10_difference_119 : decode cX10_difference 119 = .ok (.iload 4, 2) := by decide +kernel
theorem dX10_difference_121 : decode cX10_difference 121 = .ok (.iconst (-1), 1) := by decide +kernel
theorem dX10_difference_122 : decode cX10_difference 122 = .ok (.ixor, 1) := by decide +kernel
theorem dX10_difference_123 : decode cX10_difference 123 = .ok (.iand, 1) := by decide +kernel
theorem dX10_difference_124 : decode cX10_difference 124 = .ok (.invokestatic 240, 3) := by decide +kernel
theorem dX10_difference_127 : decode cX10_difference 127 = .ok (.ireturn, 1) := by decide +kernel
theorem dX10_difference_128 : decode cX10_difference 128 = .ok (.iload 4, 2) := by decide +kernel
theorem dX10_difference_130 : decode cX10_difference 130 = .ok (.iload_n 3, 1) := by decide +kernel
theorem dX10_difference_131 : decode cX10_difference 131 = .ok (.iconst (-1), 1) := by decide +kernel
theorem dX10_difference_132 : decode cX10_difference 132 = .ok (.ixor, 1) := by decide +kernel
theorem dX10_difference_133 : decode cX10_difference 133 = .ok (.iand, 1) := by decide +kernel
theorem dX10_difference_134 : decode cX10_difference 134 = .ok (.invokestatic 240, 3) := by decide +kernel
theorem dX10_difference_137 : decode cX10_difference 137 = .ok (.ireturn, 1) := by decide +kernel
theorem dX10_difference_138 : decode cX10_difference 138 = .ok (.iload 5, 2) := by decide +kernel
theorem dX10_difference_140 : decode cX10_difference 140 = .ok (.iload 6, 2) := by decide +kernel
theorem dX10_difference_142 : decode cX10_difference 142 = .ok (.iconst (-1), 1) := by decide +kernel
theorem dX10_difference_143 : decode cX10_difference 143 = .ok (.ixor, 1) := by decide +kernel
theorem dX10_difference_144 : decode cX10_difference 144 = .ok (.iand, 1) := by decide +kernel
theorem dX10_difference_145 : decode cX10_difference 145 = .ok (.invokestatic 240, 3) := by decide +kernel
theorem dX10_difference_148 : decode cX10_difference 148 = .ok (.ireturn, 1) := by decide +kernel
theorem dX10_difference_149 : decode cX10_difference 149 = .ok (.iload 6, 2) := by decide +kernel
theorem dX10_difference_151 : decode cX10_difference 151 = .ok (.iload 5, 2) := by decide +kernel
theorem dX10_difference_153 : decode cX10_difference 153 = .ok (.iconst (-1), 1) := by decide +kernel
theorem dX10_difference_154 : decode cX10_difference 154 = .ok (.ixor, 1) := by decide +kernel
theorem dX10_difference_155 : decode cX10_difference 155 = .ok (.iand, 1) := by decide +kernel
theorem dX10_difference_156 : decode cX10_difference 156 = .ok (.invokestatic 240, 3) := by decide +kernel
theorem dX10_difference_159 : decode cX10_difference 159 = .ok (.ireturn, 1) := by decide +kernel
theorem dX10_difference_160 : decode cX10_difference 160 = .ok (.aload_n 0, 1) := by decide +kernel
theorem dX10_difference_161 : decode cX10_difference 161 = .ok (.iload_n 1, 1) := by decide +kernel
theorem dX10_difference_162 : decode cX10_difference 162 = .ok (.iconst 2, 1) := by decide +kernel
theorem dX10_difference_163 : decode cX10_difference 163 = .ok (.invokevirtual 412, 3) := by decide +kernel
theorem dX10_difference_166 : decode cX10_difference 166 = .ok (.ireturn, 1) := by decide +kernel
theorem dX10_difference_167 : decode cX10_difference 167 = .ok (.aload_n 0, 1) := by decide +kernel
theorem dX10_difference_168 : decode cX10_difference 168 = .ok (.iload_n 1, 1) := by decide +kernel
theorem dX10_difference_169 : decode cX10_difference 169 = .ok (.bipush 11, 2) := by decide +kernel
theorem dX10_difference_171 : decode cX10_difference 171 = .ok (.invokevirtual 412, 3) := by decide +kernel
theorem dX10_difference_174 : decode cX10_difference 174 = .ok (.ireturn, 1) := by decide +kernel
theorem dX10_along_0 : decode cX10_along 0 = .ok (.aload_n 0, 1) := by decide +kernel
theorem dX10_along_1 : decode cX10_along 1 = .ok (.iconst 0, 1) := by decide +kernel
theorem dX10_along_2 : decode cX10_along 2 = .ok (.putfield 65, 3) := by decide +kernel
theorem dX10_along_5 : decode cX10_along 5 = .ok (.aload_n 0, 1) := by decide +kernel
theorem dX10_along_6 : decode cX10_along 6 = .ok (.iload_n 2, 1) := by decide +kernel
theorem dX10_along_7 : decode cX10_along 7 = .ok (.iconst 2, 1) := by decide +kernel
theorem dX10_along_8 : decode cX10_along 8 = .ok (.invokevirtual 375, 3) := by decide +kernel
theorem dX10_along_11 : decode cX10_along 11 = .ok (.ifCond .eq 17, 3) := by decide +kernel
theorem dX10_along_14 : decode cX10_along 14 = .ok (.aload_n 0, 1) := by decide +kernel
theorem dX10_along_15 : decode cX10_along 15 = .ok (.iload_n 1, 1) := by decide +kernel
theorem dX10_along_16 : decode cX10_along 16 = .ok (.iconst 0, 1) := by decide +kernel
theorem dX10_along_17 : decode cX10_along 17 = .ok (.iconst 2, 1) := by decide +kernel
theorem dX10_along_18 : decode cX10_along 18 = .ok (.invokestatic 231, 3) := by decide +kernel
theorem dX10_along_21 : decode cX10_along 21 = .ok (.iconst 2, 1) := by decide +kernel
theorem dX10_along_22 : decode cX10_along 22 = .ok (.invokevirtual 214, 3) := by decide +kernel
theorem dX10_along_25 : decode cX10_along 25 = .ok (.ifCond .ne 5, 3) := by decide +kernel
theorem dX10_along_28 : decode cX10_along 28 = .ok (.iconst 0, 1) := by decide +kernel
theorem dX10_along_29 : decode cX10_along 29 = .ok (.ireturn, 1) := by decide +kernel
theorem dX10_along_30 : decode cX10_along 30 = .ok (.aload_n 0, 1) := by decide +kernel
theorem dX10_along_31 : decode cX10_along 31 = .ok (.invokevirtual 267, 3) := by decide +kernel
theorem dX10_along_34 : decode cX10_along 34 = .ok (.iconst 0, 1) := by decide +kernel
theorem dX10_along_35 : decode cX10_along 35 = .ok (.istore_n 3, 1) := by decide +kernel
theorem dX10_along_36 : decode cX10_along 36 = .ok (.aload_n 0, 1) := by decide +kernel
theorem dX10_along_37 : decode cX10_along 37 = .ok (.sipush 931, 3) := by decide +kernel
theorem dX10_along_40 : decode cX10_along 40 = .ok (.invokevirtual 354, 3) := by decide +kernel
theorem dX10_along_43 : decode cX10_along 43 = .ok (.aload_n 0, 1) := by decide +kernel
theorem dX10_along_44 : decode cX10_along 44 = .ok (.getfield 282, 3) := by decide +kernel
theorem dX10_along_47 : decode cX10_along 47 = .ok (.ifCond .le 72, 3) := by decide +kernel
theorem dX10_along_50 : decode cX10_along 50 = .ok (.iload_n 3, 1) := by decide +kernel
theorem dX10_along_51 : decode cX10_along 51 = .ok (.sipush 200, 3) := by decide +kernel
theorem dX10_along_54 : decode cX10_along 54 = .ok (.if_icmp .ge 65, 3) := by decide +kernel
theorem dX10_along_57 : decode cX10_along 57 = .ok (.aload_n 0, 1) := by decide +kernel
theorem dX10_along_58 : decode cX10_along 58 = .ok (.getfield 41, 3) := by decide +kernel
theorem dX10_along_61 : decode cX10_along 61 = .ok (.iconst 0, 1) := by decide +kernel
theorem dX10_along_62 : decode cX10_along 62 = .ok (.iaload, 1) := by decide +kernel
theorem dX10_along_63 : decode cX10_along 63 = .ok (.invokestatic 384, 3) := by decide +kernel
theorem dX10_along_66 : decode cX10_along 66 = .ok (.iconst 1, 1) := by decide +kernel
theorem dX10_along_67 : decode cX10_along 67 = .ok (.isub, 1) := by decide +kernel
theorem dX10_along_68 : decode cX10_along 68 = .ok (.istore 4, 2) := by decide +kernel
theorem dX10_along_70 : decode cX10_along 70 = .ok (.aload_n 0, 1) := by decide +kernel
theorem dX10_along_71 : decode cX10_along 71 = .ok (.getfield 20, 3) := by decide +kernel
theorem dX10_along_74 : decode cX10_along 74 = .ok (.sipush 1546, 3) := by decide +kernel
theorem dX10_along_77 : decode cX10_along 77 = .ok (.aload_n 0, 1) := by decide +kernel
theorem dX10_along_78 : decode cX10_along 78 = .ok (.getfield 41, 3) := by decide +kernel
theorem dX10_along_81 : decode cX10_along 81 = .ok (.iconst 0, 1) := by decide +kernel
theorem dX10_along_82 : decode cX10_along 82 = .ok (.iaload, 1) := by decide +kernel
theorem dX10_along_83 : decode cX10_along 83 = .ok (.aload_n 0, 1) := by decide +kernel
theorem dX10_along_84 : decode cX10_along 84 = .ok (.getfield 41, 3) := by decide +kernel
theorem dX10_along_87 : decode cX10_along 87 = .ok (.iconst 1, 1) := by decide +kernel
theorem dX10_along_88 : decode cX10_along 88 = .ok (.iaload, 1) := by decide +kernel
theorem dX10_along_89 : decode cX10_along 89 = .ok (.aload_n 0, 1) := by decide +kernel
theorem dX10_along_90 : decode cX10_along 90 = .ok (.getfield 41, 3) := by decide +kernel
theorem dX10_along_93 : decode cX10_along 93 = .ok (.iconst 2, 1) := by decide +kernel
theorem dX10_along_94 : decode cX10_along 94 = .ok (.iaload, 1) := by decide +kernel
theorem dX10_along_95 : decode cX10_along 95 = .ok (.invokestatic 279, 3) := by decide +kernel
theorem dX10_along_98 : decode cX10_along 98 = .ok (.iadd, 1) := by decide +kernel
theorem dX10_along_99 : decode cX10_along 99 = .ok (.iload_n 1, 1) := by decide +kernel
theorem dX10_along_100 : decode cX10_along 100 = .ok (.iload 4, 2) := by decide +kernel
theorem dX10_along_102 : decode cX10_along 102 = .ok (.invokestatic 415, 3) := by decide +kernel
theorem dX10_along_105 : decode cX10_along 105 = .ok (.iastore, 1) := by decide +kernel
theorem dX10_along_106 : decode cX10_along 106 = .ok (.iinc 3 1, 3) := by decide +kernel
theorem dX10_along_109 : decode cX10_along 109 = .ok (.aload_n 0, 1) := by decide +kernel
theorem dX10_along_110 : decode cX10_along 110 = .ok (.sipush 931, 3) := by decide +kernel
theorem dX10_along_113 : decode cX10_along 113 = .ok (.invokevirtual 354, 3) := by decide +kernel
theorem dX10_along_116 : decode cX10_along 116 = .ok (.goto (-73), 3) := by decide +kernel
theorem dX10_along_119 : decode cX10_along 119 = .ok (.iload_n 2, 1) := by decide +kernel
theorem dX10_along_120 : decode cX10_along 120 = .ok (.ifCond .ne 7, 3) := by decide +kernel
theorem dX10_along_123 : decode cX10_along 123 = .ok (.iload_n 3, 1) := by decide +kernel
theorem dX10_along_124 : decode cX10_along 124 = .ok (.goto 22, 3) := by decide +kernel
theorem dX10_along_127 : decode cX10_along 127 = .ok (.iload_n 2, 1) := by decide +kernel
theorem dX10_along_128 : decode cX10_along 128 = .ok (.iconst 1, 1) := by decide +kernel
theorem dX10_along_129 : decode cX10_along 129 = .ok (.if_icmp .ne 10, 3) := by decide +kernel
theorem dX10_along_132 : decode cX10_along 132 = .ok (.aload_n 0, 1) := by decide +kernel
theorem dX10_along_133 : decode cX10_along 133 = .ok (.getfield 282, 3) := by decide +kernel
theorem dX10_along_136 : decode cX10_along 136 = .ok (.goto 10, 3) := by decide +kernel
theorem dX10_along_139 : decode cX10_along 139 = .ok (.aload_n 0, 1) := by decide +kernel
theorem dX10_along_140 : decode cX10_along 140 = .ok (.getfield 323, 3) := by decide +kernel
theorem dX10_along_143 : decode cX10_along 143 = .ok (.invokestatic 240, 3) := by decide +kernel
theorem dX10_along_146 : decode cX10_along 146 = .ok (.ireturn, 1) := by decide +kernel
theorem dX10_laysAlone_0 : decode cX10_laysAlone 0 = .ok (.aload_n 0, 1) := by decide +kernel
theorem dX10_laysAlone_1 : decode cX10_laysAlone 1 = .ok (.iconst 0, 1) := by decide +kernel
theorem dX10_laysAlone_2 : decode cX10_laysAlone 2 = .ok (.invokevirtual 354, 3) := by decide +kernel
theorem dX10_laysAlone_5 : decode cX10_laysAlone 5 = .ok (.iconst 0, 1) := by decide +kernel
theorem dX10_laysAlone_6 : decode cX10_laysAlone 6 = .ok (.istore_n 2, 1) := by decide +kernel
theorem dX10_laysAlone_7 : decode cX10_laysAlone 7 = .ok (.iconst 0, 1) := by decide +kernel
theorem dX10_laysAlone_8 : decode cX10_laysAlone 8 = .ok (.istore_n 3, 1) := by decide +kernel
theorem dX10_laysAlone_9 : decode cX10_laysAlone 9 = .ok (.iload_n 3, 1) := by decide +kernel
theorem dX10_laysAlone_10 : decode cX10_laysAlone 10 = .ok (.bipush 20, 2) := by decide +kernel
theorem dX10_laysAlone_12 : decode cX10_laysAlone 12 = .ok (.if_icmp .ge 139, 3) := by decide +kernel
theorem dX10_laysAlone_15 : decode cX10_laysAlone 15 = .ok (.iconst 0, 1) := by decide +kernel
theorem dX10_laysAlone_16 : decode cX10_laysAlone 16 = .ok (.istore 4, 2) := by decide +kernel
theorem dX10_laysAlone_18 : decode cX10_laysAlone 18 = .ok (.iload 4, 2) := by decide +kernel
theorem dX10_laysAlone_20 : decode cX10_laysAlone 20 = .ok (.bipush 9, 2) := by decide +kernel
theorem dX10_laysAlone_22 : decode cX10_laysAlone 22 = .ok (.if_icmp .ge 123, 3) := by decide +kernel
theorem dX10_laysAlone_25 : decode cX10_laysAlone 25 = .ok (.iconst 0, 1) := by decide +kernel
theorem dX10_laysAlone_26 : decode cX10_laysAlone 26 = .ok (.istore 5, 2) := by decide +kernel
theorem dX10_laysAlone_28 : decode cX10_laysAlone 28 = .ok (.iconst 0, 1) := by decide +kernel
theorem dX10_laysAlone_29 : decode cX10_laysAlone 29 = .ok (.istore 6, 2) := by decide +kernel
theorem dX10_laysAlone_31 : decode cX10_laysAlone 31 = .ok (.iload 6, 2) := by decide +kernel
theorem dX10_laysAlone_33 : decode cX10_laysAlone 33 = .ok (.bipush 9, 2) := by decide +kernel
theorem dX10_laysAlone_35 : decode cX10_laysAlone 35 = .ok (.if_icmp .ge 51, 3) := by decide +kernel
theorem dX10_laysAlone_38 : decode cX10_laysAlone 38 = .ok (.iload 5, 2) := by decide +kernel
theorem dX10_laysAlone_40 : decode cX10_laysAlone 40 = .ok (.ifCond .ne 33, 3) := by decide +kernel
theorem dX10_laysAlone_43 : decode cX10_laysAlone 43 = .ok (.aload_n 0, 1) := by decide +kernel
theorem dX10_laysAlone_44 : decode cX10_laysAlone 44 = .ok (.getfield 38, 3) := by decide +kernel
theorem dX10_laysAlone_47 : decode cX10_laysAlone 47 = .ok (.bipush 9, 2) := by decide +kernel
theorem dX10_laysAlone_49 : decode cX10_laysAlone 49 = .ok (.iload_n 1, 1) := by decide +kernel
theorem dX10_laysAlone_50 : decode cX10_laysAlone 50 = .ok (.imul, 1) := by decide +kernel
theorem dX10_laysAlone_51 : decode cX10_laysAlone 51 = .ok (.iload 6, 2) := by decide +kernel
theorem dX10_laysAlone_53 : decode cX10_laysAlone 53 = .ok (.iadd, 1) := by decide +kernel
theorem dX10_laysAlone_54 : decode cX10_laysAlone 54 = .ok (.iaload, 1) := by decide +kernel
theorem dX10_laysAlone_55 : decode cX10_laysAlone 55 = .ok (.iload 4, 2) := by decide +kernel
theorem dX10_laysAlone_57 : decode cX10_laysAlone 57 = .ok (.if_icmp .ne 20, 3) := by decide +kernel
theorem dX10_laysAlone_60 : decode cX10_laysAlone 60 = .ok (.aload_n 0, 1) := by decide +kernel
theorem dX10_laysAlone_61 : decode cX10_laysAlone 61 = .ok (.getfield 291, 3) := by decide +kernel
theorem dX10_laysAlone_64 : decode cX10_laysAlone 64 = .ok (.iload 6, 2) := by decide +kernel
theorem dX10_laysAlone_66 : decode cX10_laysAlone 66 = .ok (.ishr, 1) := by decide +kernel
theorem dX10_laysAlone_67 : decode cX10_laysAlone 67 = .ok (.iconst 1, 1) := by decide +kernel
theorem dX10_laysAlone_68 : decode cX10_laysAlone 68 = .ok (.iand, 1) := by decide +kernel
theorem dX10_laysAlone_69 : decode cX10_laysAlone 69 = .ok (.iconst 1, 1) := by decide +kernel
theorem dX10_laysAlone_70 : decode cX10_laysAlone 70 = .ok (.if_icmp .ne 7, 3) := by decide +kernel
theorem dX10_laysAlone_73 : decode cX10_laysAlone 73 = .ok (.iconst 1, 1) := by decide +kernel
theorem dX10_laysAlone_74 : decode cX10_laysAlone 74 = .ok (.goto 4, 3) := by decide +kernel
theorem dX10_laysAlone_77 : decode cX10_laysAlone 77 = .ok (.iconst 0, 1) := by decide +kernel
theorem dX10_laysAlone_78 : decode cX10_laysAlone 78 = .ok (.istore 5, 2) := by decide +kernel
theorem dX10_laysAlone_80 : decode cX10_laysAlone 80 = .ok (.iinc 6 1, 3) := by decide +kernel
theorem dX10_laysAlone_83 : decode cX10_laysAlone 83 = .ok (.goto (-52), 3) := by decide +kernel
theorem dX10_laysAlone_86 : decode cX10_laysAlone 86 = .ok (.iload_n 2, 1) := by decide +kernel
theorem dX10_laysAlone_87 : decode cX10_laysAlone 87 = .ok (.bipush 10, 2) := by decide +kernel
theorem dX10_laysAlone_89 : decode cX10_laysAlone 89 = .ok (.if_icmp .eq 50, 3) := by decide +kernel
theorem dX10_laysAlone_92 : decode cX10_laysAlone 92 = .ok (.iload 5, 2) := by decide +kernel
theorem dX10_laysAlone_94 : decode cX10_laysAlone 94 = .ok (.ifCond .eq 45, 3) := by decide +kernel
theorem dX10_laysAlone_97 : decode cX10_laysAlone 97 = .ok (.aload_n 0, 1) := by decide +kernel
theorem dX10_laysAlone_98 : decode cX10_laysAlone 98 = .ok (.getfield 323, 3) := by decide +kernel
theorem dX10_laysAlone_101 : decode cX10_laysAlone 101 = .ok (.iload_n 3, 1) := by decide +kernel
theorem dX10_laysAlone_102 : decode cX10_laysAlone 102 = .ok (.ishr, 1) := by decide +kernel
theorem dX10_laysAlone_103 : decode cX10_laysAlone 103 = .ok (.iconst 1, 1) := by decide +kernel
theorem dX10_laysAlone_104 : decode cX10_laysAlone 104 = .ok (.iand, 1) := by decide +kernel
theorem dX10_laysAlone_105 : decode cX10_laysAlone 105 = .ok (.ifCond .eq 34, 3) := by decide +kernel
theorem dX10_laysAlone_108 : decode cX10_laysAlone 108 = .ok (.aload_n 0, 1) := by decide +kernel
theorem dX10_laysAlone_109 : decode cX10_laysAlone 109 = .ok (.iconst 0, 1) := by decide +kernel
theorem dX10_laysAlone_110 : decode cX10_laysAlone 110 = .ok (.iload_n 1, 1) := by decide +kernel
theorem dX10_laysAlone_111 : decode cX10_laysAlone 111 = .ok (.iload_n 3, 1) := by decide +kernel
theorem dX10_laysAlone_112 : decode cX10_laysAlone 112 = .ok (.iload 4, 2) := by decide +kernel
theorem dX10_laysAlone_114 : decode cX10_laysAlone 114 = .ok (.invokevirtual 288, 3) := by decide +kernel
theorem dX10_laysAlone_117 : decode cX10_laysAlone 117 = .ok (.ifCond .ne 6, 3) := by decide +kernel
theorem dX10_laysAlone_120 : decode cX10_laysAlone 120 = .ok (.goto 19, 3) := by decide +kernel
theorem dX10_laysAlone_123 : decode cX10_laysAlone 123 = .ok (.aload_n 0, 1) := by decide +kernel
theorem dX10_laysAlone_124 : decode cX10_laysAlone 124 = .ok (.getfield 50, 3) := by decide +kernel
theorem dX10_laysAlone_127 : decode cX10_laysAlone 127 = .ok (.iload_n 2, 1) := by decide +kernel
theorem dX10_laysAlone_128 : decode cX10_laysAlone 128 = .ok (.bipush 9, 2) := by decide +kernel
theorem dX10_laysAlone_130 : decode cX10_laysAlone 130 = .ok (.iload_n 3, 1) := by decide +kernel
theorem dX10_laysAlone_131 : decode cX10_laysAlone 131 = .ok (.imul, 1) := by decide +kernel
theorem dX10_laysAlone_132 : decode cX10_laysAlone 132 = .ok (.iload 4, 2) := by decide +kernel
theorem dX10_laysAlone_134 : decode cX10_laysAlone 134 = .ok (.iadd, 1) := by decide +kernel
theorem dX10_laysAlone_135 : decode cX10_laysAlone 135 = .ok (.iastore, 1) := by decide +kernel
theorem dX10_laysAlone_136 : decode cX10_laysAlone 136 = .ok (.iinc 2 1, 3) := by decide +kernel
theorem dX10_laysAlone_139 : decode cX10_laysAlone 139 = .ok (.iinc 4 1, 3) := by decide +kernel
theorem dX10_laysAlone_142 : decode cX10_laysAlone 142 = .ok (.goto (-124), 3) := by decide +kernel
theorem dX10_laysAlone_145 : decode cX10_laysAlone 145 = .ok (.iinc 3 1, 3) := by decide +kernel
theorem dX10_laysAlone_148 : decode cX10_laysAlone 148 = .ok (.goto (-139), 3) := by decide +kernel
theorem dX10_laysAlone_151 : decode cX10_laysAlone 151 = .ok (.iload_n 2, 1) := by decide +kernel
theorem dX10_laysAlone_152 : decode cX10_laysAlone 152 = .ok (.ireturn, 1) := by decide +kernel
theorem dX10_alone_0 : decode cX10_alone 0 = .ok (.aload_n 0, 1) := by decide +kernel
theorem dX10_alone_1 : decode cX10_alone 1 = .ok (.iconst 0, 1) := by decide +kernel
theorem dX10_alone_2 : decode cX10_alone 2 = .ok (.putfield 65, 3) := by decide +kernel
theorem dX10_alone_5 : decode cX10_alone 5 = .ok (.aload_n 0, 1) := by decide +kernel
theorem dX10_alone_6 : decode cX10_alone 6 = .ok (.iload_n 1, 1) := by decide +kernel
theorem dX10_alone_7 : decode cX10_alone 7 = .ok (.invokevirtual 406, 3) := by decide +kernel
theorem dX10_alone_10 : decode cX10_alone 10 = .ok (.ifCond .eq 12, 3) := by decide +kernel
theorem dX10_alone_13 : decode cX10_alone 13 = .ok (.aload_n 0, 1) := by decide +kernel
theorem dX10_alone_14 : decode cX10_alone 14 = .ok (.iload_n 2, 1) := by decide +kernel
theorem dX10_alone_15 : decode cX10_alone 15 = .ok (.iconst 2, 1) := by decide +kernel
theorem dX10_alone_16 : decode cX10_alone 16 = .ok (.invokevirtual 375, 3) := by decide +kernel
theorem dX10_alone_19 : decode cX10_alone 19 = .ok (.ifCond .ne 5, 3) := by decide +kernel
theorem dX10_alone_22 : decode cX10_alone 22 = .ok (.iconst 0, 1) := by decide +kernel
theorem dX10_alone_23 : decode cX10_alone 23 = .ok (.ireturn, 1) := by decide +kernel
theorem dX10_alone_24 : decode cX10_alone 24 = .ok (.aload_n 0, 1) := by decide +kernel
theorem dX10_alone_25 : decode cX10_alone 25 = .ok (.iload_n 1, 1) := by decide +kernel
theorem dX10_alone_26 : decode cX10_alone 26 = .ok (.invokevirtual 418, 3) := by decide +kernel
theorem dX10_alone_29 : decode cX10_alone 29 = .ok (.istore_n 3, 1) := by decide +kernel
theorem dX10_alone_30 : decode cX10_alone 30 = .ok (.iconst (-1), 1) := by decide +kernel
theorem dX10_alone_31 : decode cX10_alone 31 = .ok (.istore 4, 2) := by decide +kernel
theorem dX10_alone_33 : decode cX10_alone 33 = .ok (.iconst 0, 1) := by decide +kernel
theorem dX10_alone_34 : decode cX10_alone 34 = .ok (.istore 5, 2) := by decide +kernel
theorem dX10_alone_36 : decode cX10_alone 36 = .ok (.iconst 0, 1) := by decide +kernel
theorem dX10_alone_37 : decode cX10_alone 37 = .ok (.istore 6, 2) := by decide +kernel
theorem dX10_alone_39 : decode cX10_alone 39 = .ok (.iload 6, 2) := by decide +kernel
theorem dX10_alone_41 : decode cX10_alone 41 = .ok (.iconst 1, 1) := by decide +kernel
theorem dX10_alone_42 : decode cX10_alone 42 = .ok (.iload_n 3, 1) := by decide +kernel
theorem dX10_alone_43 : decode cX10_alone 43 = .ok (.ishl, 1) := by decide +kernel
theorem dX10_alone_44 : decode cX10_alone 44 = .ok (.if_icmp .ge 155, 3) := by decide +kernel
theorem dX10_alone_47 : decode cX10_alone 47 = .ok (.aload_n 0, 1) := by decide +kernel
theorem dX10_alone_48 : decode cX10_alone 48 = .ok (.invokevirtual 267, 3) := by decide +kernel
theorem dX10_alone_51 : decode cX10_alone 51 = .ok (.iconst 0, 1) := by decide +kernel
theorem dX10_alone_52 : decode cX10_alone 52 = .ok (.istore 7, 2) := by decide +kernel
theorem dX10_alone_54 : decode cX10_alone 54 = .ok (.iload 7, 2) := by decide +kernel
theorem dX10_alone_56 : decode cX10_alone 56 = .ok (.iload_n 3, 1) := by decide +kernel
theorem dX10_alone_57 : decode cX10_alone 57 = .ok (.if_icmp .ge 79, 3) := by decide +kernel
theorem dX10_alone_60 : decode cX10_alone 60 = .ok (.aload_n 0, 1) := by decide +kernel
theorem dX10_alone_61 : decode cX10_alone 61 = .ok (.getfield 50, 3) := by decide +kernel
theorem dX10_alone_64 : decode cX10_alone 64 = .ok (.iload 7, 2) := by decide +kernel
theorem dX10_alone_66 : decode cX10_alone 66 = .ok (.iaload, 1) := by decide +kernel
theorem dX10_alone_67 : decode cX10_alone 67 = .ok (.bipush 9, 2) := by decide +kernel
theorem dX10_alone_69 : decode cX10_alone 69 = .ok (.idiv, 1) := by decide +kernel
theorem dX10_alone_70 : decode cX10_alone 70 = .ok (.istore 8, 2) := by decide +kernel
theorem dX10_alone_72 : decode cX10_alone 72 = .ok (.aload_n 0, 1) := by decide +kernel
theorem dX10_alone_73 : decode cX10_alone 73 = .ok (.getfield 50, 3) := by decide +kernel
theorem dX10_alone_76 : decode cX10_alone 76 = .ok (.iload 7, 2) := by decide +kernel
theorem dX10_alone_78 : decode cX10_alone 78 = .ok (.iaload, 1) := by decide +kernel
theorem dX10_alone_79 : decode cX10_alone 79 = .ok (.bipush 9, 2) := by decide +kernel
theorem dX10_alone_81 : decode cX10_alone 81 = .ok (.irem, 1) := by decide +kernel
theorem dX10_alone_82 : decode cX10_alone 82 = .ok (.istore 9, 2) := by decide +kernel
theorem dX10_alone_84 : decode cX10_alone 84 = .ok (.iload 6, 2) := by decide +kernel
theorem dX10_alone_86 : decode cX10_alone 86 = .ok (.iload 7, 2) := by decide +kernel
theorem dX10_alone_88 : decode cX10_alone 88 = .ok (.ishr, 1) := by decide +kernel
theorem dX10_alone_89 : decode cX10_alone 89 = .ok (.iconst 1, 1) := by decide +kernel
theorem dX10_alone_90 : decode cX10_alone 90 = .ok (.iand, 1) := by decide +kernel
theorem dX10_alone_91 : decode cX10_alone 91 = .ok (.ifCond .ne 39, 3) := by decide +kernel
theorem dX10_alone_94 : decode cX10_alone 94 = .ok (.aload_n 0, 1) := by decide +kernel
theorem dX10_alone_95 : decode cX10_alone 95 = .ok (.getfield 20, 3) := by decide +kernel
theorem dX10_alone_98 : decode cX10_alone 98 = .ok (.sipush 931, 3) := by decide +kernel
theorem dX10_alone_101 : decode cX10_alone 101 = .ok (.iload_n 1, 1) := by decide +kernel
theorem dX10_alone_102 : decode cX10_alone 102 = .ok (.iload 8, 2) := by decide +kernel
theorem dX10_alone_104 : decode cX10_alone 104 = .ok (.iload 9, 2) := by decide +kernel
theorem dX10_alone_106 : decode cX10_alone 106 = .ok (.invokestatic 174, 3) := by decide +kernel
theorem dX10_alone_109 : decode cX10_alone 109 = .ok (.aload_n 0, 1) := by decide +kernel
theorem dX10_alone_110 : decode cX10_alone 110 = .ok (.iconst 0, 1) := by decide +kernel
theorem dX10_alone_111 : decode cX10_alone 111 = .ok (.iload_n 1, 1) := by decide +kernel
theorem dX10_alone_112 : decode cX10_alone 112 = .ok (.iload 9, 2) := by decide +kernel
theorem dX10_alone_114 : decode cX10_alone 114 = .ok (.invokevirtual 166, 3) := by decide +kernel
theorem dX10_alone_117 : decode cX10_alone 117 = .ok (.aload_n 0, 1) := by decide +kernel
theorem dX10_alone_118 : decode cX10_alone 118 = .ok (.iconst 0, 1) := by decide +kernel
theorem dX10_alone_119 : decode cX10_alone 119 = .ok (.iload 8, 2) := by decide +kernel
theorem dX10_alone_121 : decode cX10_alone 121 = .ok (.iload 9, 2) := by decide +kernel
theorem dX10_alone_123 : decode cX10_alone 123 = .ok (.invokevirtual 285, 3) := by decide +kernel
theorem dX10_alone_126 : decode cX10_alone 126 = .ok (.invokestatic 243, 3) := by decide +kernel
theorem dX10_alone_129 : decode cX10_alone 129 = .ok (.iastore, 1) := by decide +kernel
theorem dX10_alone_130 : decode cX10_alone 130 = .ok (.iinc 7 1, 3) := by decide +kernel
theorem dX10_alone_133 : decode cX10_alone 133 = .ok (.goto (-79), 3) := by decide +kernel
theorem dX10_alone_136 : decode cX10_alone 136 = .ok (.aload_n 0, 1) := by decide +kernel
theorem dX10_alone_137 : decode cX10_alone 137 = .ok (.sipush 931, 3) := by decide +kernel
theorem dX10_alone_140 : decode cX10_alone 140 = .ok (.invokevirtual 354, 3) := by decide +kernel
theorem dX10_alone_143 : decode cX10_alone 143 = .ok (.iload 4, 2) := by decide +kernel
theorem dX10_alone_145 : decode cX10_alone 145 = .ok (.iconst (-1), 1) := by decide +kernel
theorem dX10_alone_146 : decode cX10_alone 146 = .ok (.if_icmp .eq 37, 3) := by decide +kernel
theorem dX10_alone_149 : decode cX10_alone 149 = .ok (.aload_n 0, 1) := by decide +kernel
theorem dX10_alone_150 : decode cX10_alone 150 = .ok (.getfield 282, 3) := by decide +kernel
theorem dX10_alone_153 : decode cX10_alone 153 = .ok (.iload 4, 2) := by decide +kernel
theorem dX10_alone_155 : decode cX10_alone 155 = .ok (.if_icmp .gt 38, 3) := by decide +kernel
theorem dX10_alone_158 : decode cX10_alone 158 = .ok (.aload_n 0, 1) := by decide +kernel
theorem dX10_alone_159 : decode cX10_alone 159 = .ok (.getfield 282, 3) := by decide +kernel
theorem dX10_alone_162 : decode cX10_alone 162 = .ok (.iload 4, 2) := by decide +kernel
theorem dX10_alone_164 : decode cX10_alone 164 = .ok (.if_icmp .ne 19, 3) := by decide +kernel
theorem dX10_alone_167 : decode cX10_alone 167 = .ok (.iload 6, 2) := by decide +kernel
theorem dX10_alone_169 : decode cX10_alone 169 = .ok (.invokestatic 240, 3) := by decide +kernel
theorem dX10_alone_172 : decode cX10_alone 172 = .ok (.iload 5, 2) := by decide +kernel
theorem dX10_alone_174 : decode cX10_alone 174 = .ok (.invokestatic 240, 3) := by decide +kernel
theorem dX10_alone_177 : decode cX10_alone 177 = .ok (.if_icmp .gt 6, 3) := by decide +kernel
theorem dX10_alone_180 : decode cX10_alone 180 = .ok (.goto 13, 3) := by decide +kernel
theorem dX10_alone_183 : decode cX10_alone 183 = .ok (.aload_n 0, 1) := by decide +kernel
theorem dX10_alone_184 : decode cX10_alone 184 = .ok (.getfield 282, 3) := by decide +kernel
theorem dX10_alone_187 : decode cX10_alone 187 = .ok (.istore 4, 2) := by decide +kernel
theorem dX10_alone_189 : decode cX10_alone 189 = .ok (.iload 6, 2) := by decide +kernel
theorem dX10_alone_191 : decode cX10_alone 191 = .ok (.istore 5, 2) := by decide +kernel
theorem dX10_alone_193 : decode cX10_alone 193 = .ok (.iinc 6 1, 3) := by decide +kernel
theorem dX10_alone_196 : decode cX10_alone 196 = .ok (.goto (-157), 3) := by decide +kernel
theorem dX10_alone_199 : decode cX10_alone 199 = .ok (.iload_n 2, 1) := by decide +kernel
theorem dX10_alone_200 : decode cX10_alone 200 = .ok (.ifCond .ne 8, 3) := by decide +kernel
theorem dX10_alone_203 : decode cX10_alone 203 = .ok (.iload 4, 2) := by decide +kernel
theorem dX10_alone_205 : decode cX10_alone 205 = .ok (.goto 18, 3) := by decide +kernel
theorem dX10_alone_208 : decode cX10_alone 208 = .ok (.iload_n 2, 1) := by decide +kernel
theorem dX10_alone_209 : decode cX10_alone 209 = .ok (.iconst 1, 1) := by decide +kernel
theorem dX10_alone_210 : decode cX10_alone 210 = .ok (.if_icmp .ne 11, 3) := by decide +kernel
theorem dX10_alone_213 : decode cX10_alone 213 = .ok (.iload 5, 2) := by decide +kernel
theorem dX10_alone_215 : decode cX10_alone 215 = .ok (.invokestatic 240, 3) := by decide +kernel
theorem dX10_alone_218 : decode cX10_alone 218 = .ok (.goto 5, 3) := by decide +kernel
theorem dX10_alone_221 : decode cX10_alone 221 = .ok (.iload 5, 2) := by decide +kernel
theorem dX10_alone_223 : decode cX10_alone 223 = .ok (.ireturn, 1) := by decide +kernel
theorem dX10_see_0 : decode cX10_see 0 = .ok (.aload_n 0, 1) := by decide +kernel
theorem dX10_see_1 : decode cX10_see 1 = .ok (.iconst 0, 1) := by decide +kernel
theorem dX10_see_2 : decode cX10_see 2 = .ok (.putfield 65, 3) := by decide +kernel
theorem dX10_see_5 : decode cX10_see 5 = .ok (.aload_n 0, 1) := by decide +kernel
theorem dX10_see_6 : decode cX10_see 6 = .ok (.getfield 224, 3) := by decide +kernel
theorem dX10_see_9 : decode cX10_see 9 = .ok (.bipush 8, 2) := by decide +kernel
theorem dX10_see_11 : decode cX10_see 11 = .ok (.if_icmp .eq 43, 3) := by decide +kernel
theorem dX10_see_14 : decode cX10_see 14 = .ok (.iload_n 1, 1) := by decide +kernel
theorem dX10_see_15 : decode cX10_see 15 = .ok (.iconst 0, 1) := by decide +kernel
theorem dX10_see_16 : decode cX10_see 16 = .ok (.bipush 19, 2) := by decide +kernel
theorem dX10_see_18 : decode cX10_see 18 = .ok (.invokestatic 231, 3) := by decide +kernel
theorem dX10_see_21 : decode cX10_see 21 = .ok (.ifCond .eq 33, 3) := by decide +kernel
theorem dX10_see_24 : decode cX10_see 24 = .ok (.iload_n 2, 1) := by decide +kernel
theorem dX10_see_25 : decode cX10_see 25 = .ok (.iconst 0, 1) := by decide +kernel
theorem dX10_see_26 : decode cX10_see 26 = .ok (.bipush 8, 2) := by decide +kernel
theorem dX10_see_28 : decode cX10_see 28 = .ok (.invokestatic 231, 3) := by decide +kernel
theorem dX10_see_31 : decode cX10_see 31 = .ok (.ifCond .eq 23, 3) := by decide +kernel
theorem dX10_see_34 : decode cX10_see 34 = .ok (.iload_n 3, 1) := by decide +kernel
theorem dX10_see_35 : decode cX10_see 35 = .ok (.sipush 9999, 3) := by decide +kernel
theorem dX10_see_38 : decode cX10_see 38 = .ok (.if_icmp .eq 22, 3) := by decide +kernel
theorem dX10_see_41 : decode cX10_see 41 = .ok (.iload_n 3, 1) := by decide +kernel
theorem dX10_see_42 : decode cX10_see 42 = .ok (.sipush (-999), 3) := by decide +kernel
theorem dX10_see_45 : decode cX10_see 45 = .ok (.sipush 999, 3) := by decide +kernel
theorem dX10_see_48 : decode cX10_see 48 = .ok (.invokestatic 231, 3) := by decide +kernel
theorem dX10_see_51 : decode cX10_see 51 = .ok (.ifCond .ne 9, 3) := by decide +kernel
theorem dX10_see_54 : decode cX10_see 54 = .ok (.aload_n 0, 1) := by decide +kernel
theorem dX10_see_55 : decode cX10_see 55 = .ok (.iconst 2, 1) := by decide +kernel
theorem dX10_see_56 : decode cX10_see 56 = .ok (.invokevirtual 270, 3) := by decide +kernel
theorem dX10_see_59 : decode cX10_see 59 = .ok (.ireturn, 1) := by decide +kernel
theorem dX10_see_60 : decode cX10_see 60 = .ok (.aload_n 0, 1) := by decide +kernel
theorem dX10_see_61 : decode cX10_see 61 = .ok (.getfield 53, 3) := by decide +kernel
theorem dX10_see_64 : decode cX10_see 64 = .ok (.iconst 3, 1) := by decide +kernel
theorem dX10_see_65 : decode cX10_see 65 = .ok (.aload_n 0, 1) := by decide +kernel
theorem dX10_see_66 : decode cX10_see 66 = .ok (.getfield 224, 3) := by decide +kernel
theorem dX10_see_69 : decode cX10_see 69 = .ok (.imul, 1) := by decide +kernel
theorem dX10_see_70 : decode cX10_see 70 = .ok (.iload_n 1, 1) := by decide +kernel
theorem dX10_see_71 : decode cX10_see 71 = .ok (.iastore, 1) := by decide +kernel
theorem dX10_see_72 : decode cX10_see 72 = .ok (.aload_n 0, 1) := by decide +kernel
theorem dX10_see_73 : decode cX10_see 73 = .ok (.getfield 53, 3) := by decide +kernel
theorem dX10_see_76 : decode cX10_see 76 = .ok (.iconst 3, 1) := by decide +kernel
theorem dX10_see_77 : decode cX10_see 77 = .ok (.aload_n 0, 1) := by decide +kernel
theorem dX10_see_78 : decode cX10_see 78 = .ok (.getfield 224, 3) := by decide +kernel
theorem dX10_see_81 : decode cX10_see 81 = .ok (.imul, 1) := by decide +kernel
theorem dX10_see_82 : decode cX10_see 82 = .ok (.iconst 1, 1) := by decide +kernel
theorem dX10_see_83 : decode cX10_see 83 = .ok (.iadd, 1) := by decide +kernel
theorem dX10_see_84 : decode cX10_see 84 = .ok (.iload_n 2, 1) := by decide +kernel
theorem dX10_see_85 : decode cX10_see 85 = .ok (.iastore, 1) := by decide +kernel
theorem dX10_see_86 : decode cX10_see 86 = .ok (.aload_n 0, 1) := by decide +kernel
theorem dX10_see_87 : decode cX10_see 87 = .ok (.getfield 53, 3) := by decide +kernel
theorem dX10_see_90 : decode cX10_see 90 = .ok (.iconst 3, 1) := by decide +kernel
theorem dX10_see_91 : decode cX10_see 91 = .ok (.aload_n 0, 1) := by decide +kernel
theorem dX10_see_92 : decode cX10_see 92 = .ok (.getfield 224, 3) := by decide +kernel
theorem dX10_see_95 : decode cX10_see 95 = .ok (.imul, 1) := by decide +kernel
theorem dX10_see_96 : decode cX10_see 96 = .ok (.iconst 2, 1) := by decide +kernel
theorem dX10_see_97 : decode cX10_see 97 = .ok (.iadd, 1) := by decide +kernel
theorem dX10_see_98 : decode cX10_see 98 = .ok (.iload_n 3, 1) := by decide +kernel
theorem dX10_see_99 : decode cX10_see 99 = .ok (.iastore, 1) := by decide +kernel
theorem dX10_see_100 : decode cX10_see 100 = .ok (.aload_n 0, 1) := by decide +kernel
theorem dX10_see_101 : decode cX10_see 101 = .ok (.dup, 1) := by decide +kernel
theorem dX10_see_102 : decode cX10_see 102 = .ok (.getfield 224, 3) := by decide +kernel
theorem dX10_see_105 : decode cX10_see 105 = .ok (.iconst 1, 1) := by decide +kernel
theorem dX10_see_106 : decode cX10_see 106 = .ok (.iadd, 1) := by decide +kernel
theorem dX10_see_107 : decode cX10_see 107 = .ok (.putfield 224, 3) := by decide +kernel
theorem dX10_see_110 : decode cX10_see 110 = .ok (.aload_n 0, 1) := by decide +kernel
theorem dX10_see_111 : decode cX10_see 111 = .ok (.getfield 224, 3) := by decide +kernel
theorem dX10_see_114 : decode cX10_see 114 = .ok (.ireturn, 1) := by decide +kernel
theorem dX10_forget_0 : decode cX10_forget 0 = .ok (.aload_n 0, 1) := by decide +kernel
theorem dX10_forget_1 : decode cX10_forget 1 = .ok (.iconst 0, 1) := by decide +kernel
theorem dX10_forget_2 : decode cX10_forget 2 = .ok (.putfield 65, 3) := by decide +kernel
theorem dX10_forget_5 : decode cX10_forget 5 = .ok (.aload_n 0, 1) := by decide +kernel
theorem dX10_forget_6 : decode cX10_forget 6 = .ok (.iconst 0, 1) := by decide +kernel
theorem dX10_forget_7 : decode cX10_forget 7 = .ok (.putfield 224, 3) := by decide +kernel
theorem dX10_forget_10 : decode cX10_forget 10 = .ok (.return_, 1) := by decide +kernel
theorem dX10_isSeen_0 : decode cX10_isSeen 0 = .ok (.aload_n 0, 1) := by decide +kernel
theorem dX10_isSeen_1 : decode cX10_isSeen 1 = .ok (.iload_n 1, 1) := by decide +kernel
theorem dX10_isSeen_2 : decode cX10_isSeen 2 = .ok (.invokevirtual 354, 3) := by decide +kernel
theorem dX10_isSeen_5 : decode cX10_isSeen 5 = .ok (.iconst 0, 1) := by decide +kernel
theorem dX10_isSeen_6 : decode cX10_isSeen 6 = .ok (.istore_n 2, 1) := by decide +kernel
theorem dX10_isSeen_7 : decode cX10_isSeen 7 = .ok (.iload_n 2, 1) := by decide +kernel
theorem dX10_isSeen_8 : decode cX10_isSeen 8 = .ok (.aload_n 0, 1) := by decide +kernel
theorem dX10_isSeen_9 : decode cX10_isSeen 9 = .ok (.getfield 224, 3) := by decide +kernel
theorem dX10_isSeen_12 : decode cX10_isSeen 12 = .ok (.if_icmp .ge 75, 3) := by decide +kernel
theorem dX10_isSeen_15 : decode cX10_isSeen 15 = .ok (.aload_n 0, 1) := by decide +kernel
theorem dX10_isSeen_16 : decode cX10_isSeen 16 = .ok (.getfield 53, 3) := by decide +kernel
theorem dX10_isSeen_19 : decode cX10_isSeen 19 = .ok (.iconst 3, 1) := by decide +kernel
theorem dX10_isSeen_20 : decode cX10_isSeen 20 = .ok (.iload_n 2, 1) := by decide +kernel
theorem dX10_isSeen_21 : decode cX10_isSeen 21 = .ok (.imul, 1) := by decide +kernel
theorem dX10_isSeen_22 : decode cX10_isSeen 22 = .ok (.iaload, 1) := by decide +kernel
theorem dX10_isSeen_23 : decode cX10_isSeen 23 = .ok (.istore_n 3, 1) := by decide +kernel
theorem dX10_isSeen_24 : decode cX10_isSeen 24 = .ok (.aload_n 0, 1) := by decide +kernel
theorem dX10_isSeen_25 : decode cX10_isSeen 25 = .ok (.getfield 53, 3) := by decide +kernel
theorem dX10_isSeen_28 : decode cX10_isSeen 28 = .ok (.iconst 3, 1) := by decide +kernel
theorem dX10_isSeen_29 : decode cX10_isSeen 29 = .ok (.iload_n 2, 1) := by decide +kernel
theorem dX10_isSeen_30 : decode cX10_isSeen 30 = .ok (.imul, 1) := by decide +kernel
theorem dX10_isSeen_31 : decode cX10_isSeen 31 = .ok (.iconst 1, 1) := by decide +kernel
theorem dX10_isSeen_32 : decode cX10_isSeen 32 = .ok (.iadd, 1) := by decide +kernel
theorem dX10_isSeen_33 : decode cX10_isSeen 33 = .ok (.iaload, 1) := by decide +kernel
theorem dX10_isSeen_34 : decode cX10_isSeen 34 = .ok (.istore 4, 2) := by decide +kernel
theorem dX10_isSeen_36 : decode cX10_isSeen 36 = .ok (.aload_n 0, 1) := by decide +kernel
theorem dX10_isSeen_37 : decode cX10_isSeen 37 = .ok (.getfield 323, 3) := by decide +kernel
theorem dX10_isSeen_40 : decode cX10_isSeen 40 = .ok (.iload_n 3, 1) := by decide +kernel
theorem dX10_isSeen_41 : decode cX10_isSeen 41 = .ok (.ishr, 1) := by decide +kernel
theorem dX10_isSeen_42 : decode cX10_isSeen 42 = .ok (.iconst 1, 1) := by decide +kernel
theorem dX10_isSeen_43 : decode cX10_isSeen 43 = .ok (.iand, 1) := by decide +kernel
theorem dX10_isSeen_44 : decode cX10_isSeen 44 = .ok (.ifCond .eq 35, 3) := by decide +kernel
theorem dX10_isSeen_47 : decode cX10_isSeen 47 = .ok (.aload_n 0, 1) := by decide +kernel
theorem dX10_isSeen_48 : decode cX10_isSeen 48 = .ok (.getfield 291, 3) := by decide +kernel
theorem dX10_isSeen_51 : decode cX10_isSeen 51 = .ok (.iload 4, 2) := by decide +kernel
theorem dX10_isSeen_53 : decode cX10_isSeen 53 = .ok (.ishr, 1) := by decide +kernel
theorem dX10_isSeen_54 : decode cX10_isSeen 54 = .ok (.iconst 1, 1) := by decide +kernel
theorem dX10_isSeen_55 : decode cX10_isSeen 55 = .ok (.iand, 1) := by decide +kernel
theorem dX10_isSeen_56 : decode cX10_isSeen 56 = .ok (.ifCond .eq 23, 3) := by decide +kernel
theorem dX10_isSeen_59 : decode cX10_isSeen 59 = .ok (.aload_n 0, 1) := by decide +kernel
theorem dX10_isSeen_60 : decode cX10_isSeen 60 = .ok (.iload_n 3, 1) := by decide +kernel
theorem dX10_isSeen_61 : decode cX10_isSeen 61 = .ok (.iload 4, 2) := by decide +kernel
theorem dX10_isSeen_63 : decode cX10_isSeen 63 = .ok (.invokevirtual 326, 3) := by decide +kernel
theorem dX10_isSeen_66 : decode cX10_isSeen 66 = .ok (.aload_n 0, 1) := by decide +kernel
theorem dX10_isSeen_67 : decode cX10_isSeen 67 = .ok (.getfield 53, 3) := by decide +kernel
theorem dX10_isSeen_70 : decode cX10_isSeen 70 = .ok (.iconst 3, 1) := by decide +kernel
theorem dX10_isSeen_71 : decode cX10_isSeen 71 = .ok (.iload_n 2, 1) := by decide +kernel
theorem dX10_isSeen_72 : decode cX10_isSeen 72 = .ok (.imul, 1) := by decide +kernel
theorem dX10_isSeen_73 : decode cX10_isSeen 73 = .ok (.iconst 2, 1) := by decide +kernel
theorem dX10_isSeen_74 : decode cX10_isSeen 74 = .ok (.iadd, 1) := by decide +kernel
theorem dX10_isSeen_75 : decode cX10_isSeen 75 = .ok (.iaload, 1) := by decide +kernel
theorem dX10_isSeen_76 : decode cX10_isSeen 76 = .ok (.if_icmp .eq 5, 3) := by decide +kernel
theorem dX10_isSeen_79 : decode cX10_isSeen 79 = .ok (.iconst 0, 1) := by decide +kernel
theorem dX10_isSeen_80 : decode cX10_isSeen 80 = .ok (.ireturn, 1) := by decide +kernel
theorem dX10_isSeen_81 : decode cX10_isSeen 81 = .ok (.iinc 2 1, 3) := by decide +kernel
theorem dX10_isSeen_84 : decode cX10_isSeen 84 = .ok (.goto (-77), 3) := by decide +kernel
theorem dX10_isSeen_87 : decode cX10_isSeen 87 = .ok (.iconst 1, 1) := by decide +kernel
theorem dX10_isSeen_88 : decode cX10_isSeen 88 = .ok (.ireturn, 1) := by decide +kernel
theorem dX10_edited_0 : decode cX10_edited 0 = .ok (.aload_n 0, 1) := by decide +kernel
theorem dX10_edited_1 : decode cX10_edited 1 = .ok (.iconst 0, 1) := by decide +kernel
theorem dX10_edited_2 : decode cX10_edited 2 = .ok (.putfield 65, 3) := by decide +kernel
theorem dX10_edited_5 : decode cX10_edited 5 = .ok (.aload_n 0, 1) := by decide +kernel
theorem dX10_edited_6 : decode cX10_edited 6 = .ok (.iload_n 1, 1) := by decide +kernel
theorem dX10_edited_7 : decode cX10_edited 7 = .ok (.iconst 2, 1) := by decide +kernel
theorem dX10_edited_8 : decode cX10_edited 8 = .ok (.invokevirtual 375, 3) := by decide +kernel
theorem dX10_edited_11 : decode cX10_edited 11 = .ok (.ifCond .ne 5, 3) := by decide +kernel
theorem dX10_edited_14 : decode cX10_edited 14 = .ok (.iconst 0, 1) := by decide +kernel
theorem dX10_edited_15 : decode cX10_edited 15 = .ok (.ireturn, 1) := by decide +kernel
theorem dX10_edited_16 : decode cX10_edited 16 = .ok (.iload_n 1, 1) := by decide +kernel
theorem dX10_edited_17 : decode cX10_edited 17 = .ok (.iconst 2, 1) := by decide +kernel
theorem dX10_edited_18 : decode cX10_edited 18 = .ok (.if_icmp .ne 17, 3) := by decide +kernel
theorem dX10_edited_21 : decode cX10_edited 21 = .ok (.aload_n 0, 1) := by decide +kernel
theorem dX10_edited_22 : decode cX10_edited 22 = .ok (.iconst 0, 1) := by decide +kernel
theorem dX10_edited_23 : decode cX10_edited 23 = .ok (.invokevirtual 421, 3) := by decide +kernel
theorem dX10_edited_26 : decode cX10_edited 26 = .ok (.ifCond .eq 7, 3) := by decide +kernel
theorem dX10_edited_29 : decode cX10_edited 29 = .ok (.iconst 1, 1) := by decide +kernel
theorem dX10_edited_30 : decode cX10_edited 30 = .ok (.goto 4, 3) := by decide +kernel
theorem dX10_edited_33 : decode cX10_edited 33 = .ok (.iconst 0, 1) := by decide +kernel
theorem dX10_edited_34 : decode cX10_edited 34 = .ok (.ireturn, 1) := by decide +kernel
theorem dX10_edited_35 : decode cX10_edited 35 = .ok (.iconst 0, 1) := by decide +kernel
theorem dX10_edited_36 : decode cX10_edited 36 = .ok (.istore_n 2, 1) := by decide +kernel
theorem dX10_edited_37 : decode cX10_edited 37 = .ok (.iconst (-1), 1) := by decide +kernel
theorem dX10_edited_38 : decode cX10_edited 38 = .ok (.istore_n 3, 1) := by decide +kernel
theorem dX10_edited_39 : decode cX10_edited 39 = .ok (.iconst 0, 1) := by decide +kernel
theorem dX10_edited_40 : decode cX10_edited 40 = .ok (.istore 4, 2) := by decide +kernel
theorem dX10_edited_42 : decode cX10_edited 42 = .ok (.iload 4, 2) := by decide +kernel
theorem dX10_edited_44 : decode cX10_edited 44 = .ok (.bipush 20, 2) := by decide +kernel
theorem dX10_edited_46 : decode cX10_edited 46 = .ok (.if_icmp .ge 127, 3) := by decide +kernel
theorem dX10_edited_49 : decode cX10_edited 49 = .ok (.iconst 0, 1) := by decide +kernel
theorem dX10_edited_50 : decode cX10_edited 50 = .ok (.istore 5, 2) := by decide +kernel
theorem dX10_edited_52 : decode cX10_edited 52 = .ok (.iload 5, 2) := by decide +kernel
theorem dX10_edited_54 : decode cX10_edited 54 = .ok (.iconst 5, 1) := by decide +kernel
theorem dX10_edited_55 : decode cX10_edited 55 = .ok (.if_icmp .ge 112, 3) := by decide +kernel
theorem dX10_edited_58 : decode cX10_edited 58 = .ok (.aload_n 0, 1) := by decide +kernel
theorem dX10_edited_59 : decode cX10_edited 59 = .ok (.iconst 0, 1) := by decide +kernel
theorem dX10_edited_60 : decode cX10_edited 60 = .ok (.iconst 2, 1) := by decide +kernel
theorem dX10_edited_61 : decode cX10_edited 61 = .ok (.iload 4, 2) := by decide +kernel
theorem dX10_edited_63 : decode cX10_edited 63 = .ok (.invokevirtual 160, 3) := by decide +kernel
theorem dX10_edited_66 : decode cX10_edited 66 = .ok (.ifCond .eq 95, 3) := by decide +kernel
theorem dX10_edited_69 : decode cX10_edited 69 = .ok (.aload_n 0, 1) := by decide +kernel
theorem dX10_edited_70 : decode cX10_edited 70 = .ok (.iconst 0, 1) := by decide +kernel
theorem dX10_edited_71 : decode cX10_edited 71 = .ok (.iconst 2, 1) := by decide +kernel
theorem dX10_edited_72 : decode cX10_edited 72 = .ok (.iload 5, 2) := by decide +kernel
theorem dX10_edited_74 : decode cX10_edited 74 = .ok (.invokevirtual 234, 3) := by decide +kernel
theorem dX10_edited_77 : decode cX10_edited 77 = .ok (.ifCond .ne 6, 3) := by decide +kernel
theorem dX10_edited_80 : decode cX10_edited 80 = .ok (.goto 81, 3) := by decide +kernel
theorem dX10_edited_83 : decode cX10_edited 83 = .ok (.bipush (-9), 2) := by decide +kernel
theorem dX10_edited_85 : decode cX10_edited 85 = .ok (.istore 6, 2) := by decide +kernel
theorem dX10_edited_87 : decode cX10_edited 87 = .ok (.iload 6, 2) := by decide +kernel
theorem dX10_edited_89 : decode cX10_edited 89 = .ok (.bipush 10, 2) := by decide +kernel
theorem dX10_edited_91 : decode cX10_edited 91 = .ok (.if_icmp .ge 70, 3) := by decide +kernel
theorem dX10_edited_94 : decode cX10_edited 94 = .ok (.aload_n 0, 1) := by decide +kernel
theorem dX10_edited_95 : decode cX10_edited 95 = .ok (.invokevirtual 267, 3) := by decide +kernel
theorem dX10_edited_98 : decode cX10_edited 98 = .ok (.aload_n 0, 1) := by decide +kernel
theorem dX10_edited_99 : decode cX10_edited 99 = .ok (.sipush 931, 3) := by decide +kernel
theorem dX10_edited_102 : decode cX10_edited 102 = .ok (.iconst 1, 1) := by decide +kernel
theorem dX10_edited_103 : decode cX10_edited 103 = .ok (.iload 4, 2) := by decide +kernel
theorem dX10_edited_105 : decode cX10_edited 105 = .ok (.iload 5, 2) := by decide +kernel
theorem dX10_edited_107 : decode cX10_edited 107 = .ok (.iload 6, 2) := by decide +kernel
theorem dX10_edited_109 : decode cX10_edited 109 = .ok (.invokevirtual 250, 3) := by decide +kernel
theorem dX10_edited_112 : decode cX10_edited 112 = .ok (.ifCond .eq 43, 3) := by decide +kernel
theorem dX10_edited_115 : decode cX10_edited 115 = .ok (.aload_n 0, 1) := by decide +kernel
theorem dX10_edited_116 : decode cX10_edited 116 = .ok (.sipush 931, 3) := by decide +kernel
theorem dX10_edited_119 : decode cX10_edited 119 = .ok (.invokevirtual 421, 3) := by decide +kernel
theorem dX10_edited_122 : decode cX10_edited 122 = .ok (.ifCond .ne 6, 3) := by decide +kernel
theorem dX10_edited_125 : decode cX10_edited 125 = .ok (.goto 30, 3) := by decide +kernel
theorem dX10_edited_128 : decode cX10_edited 128 = .ok (.iinc 2 1, 3) := by decide +kernel
theorem dX10_edited_131 : decode cX10_edited 131 = .ok (.iload_n 3, 1) := by decide +kernel
theorem dX10_edited_132 : decode cX10_edited 132 = .ok (.iconst (-1), 1) := by decide +kernel
theorem dX10_edited_133 : decode cX10_edited 133 = .ok (.if_icmp .ne 22, 3) := by decide +kernel
theorem dX10_edited_136 : decode cX10_edited 136 = .ok (.sipush 1000, 3) := by decide +kernel
theorem dX10_edited_139 : decode cX10_edited 139 = .ok (.iload 4, 2) := by decide +kernel
theorem dX10_edited_141 : decode cX10_edited 141 = .ok (.imul, 1) := by decide +kernel
theorem dX10_edited_142 : decode cX10_edited 142 = .ok (.bipush 100, 2) := by decide +kernel
theorem dX10_edited_144 : decode cX10_edited 144 = .ok (.iload 5, 2) := by decide +kernel
theorem dX10_edited_146 : decode cX10_edited 146 = .ok (.imul, 1) := by decide +kernel
theorem dX10_edited_147 : decode cX10_edited 147 = .ok (.iadd, 1) := by decide +kernel
theorem dX10_edited_148 : decode cX10_edited 148 = .ok (.iload 6, 2) := by decide +kernel
theorem dX10_edited_150 : decode cX10_edited 150 = .ok (.iadd, 1) := by decide +kernel
theorem dX10_edited_151 : decode cX10_edited 151 = .ok (.bipush 50, 2) := by decide +kernel
theorem dX10_edited_153 : decode cX10_edited 153 = .ok (.iadd, 1) := by decide +kernel
theorem dX10_edited_154 : decode cX10_edited 154 = .ok (.istore_n 3, 1) := by decide +kernel
theorem dX10_edited_155 : decode cX10_edited 155 = .ok (.iinc 6 1, 3) := by decide +kernel
theorem dX10_edited_158 : decode cX10_edited 158 = .ok (.goto (-71), 3) := by decide +kernel
theorem dX10_edited_161 : decode cX10_edited 161 = .ok (.iinc 5 1, 3) := by decide +kernel
theorem dX10_edited_164 : decode cX10_edited 164 = .ok (.goto (-112), 3) := by decide +kernel
theorem dX10_edited_167 : decode cX10_edited 167 = .ok (.iinc 4 1, 3) := by decide +kernel
theorem dX10_edited_170 : decode cX10_edited 170 = .ok (.goto (-128), 3) := by decide +kernel
theorem dX10_edited_173 : decode cX10_edited 173 = .ok (.iload_n 1, 1) := by decide +kernel
theorem dX10_edited_174 : decode cX10_edited 174 = .ok (.ifCond .ne 7, 3) := by decide +kernel
theorem dX10_edited_177 : decode cX10_edited 177 = .ok (.iload_n 2, 1) := by decide +kernel
theorem dX10_edited_178 : decode cX10_edited 178 = .ok (.goto 4, 3) := by decide +kernel
theorem dX10_edited_181 : decode cX10_edited 181 = .ok (.iload_n 3, 1) := by decide +kernel
theorem dX10_edited_182 : decode cX10_edited 182 = .ok (.ireturn, 1) := by decide +kernel
theorem dX10_draw_0 : decode cX10_draw 0 = .ok (.aload_n 0, 1) := by decide +kernel
theorem dX10_draw_1 : decode cX10_draw 1 = .ok (.aload_n 0, 1) := by decide +kernel
theorem dX10_draw_2 : decode cX10_draw 2 = .ok (.getfield 424, 3) := by decide +kernel
theorem dX10_draw_5 : decode cX10_draw 5 = .ok (.ldc_w 427, 3) := by decide +kernel
theorem dX10_draw_8 : decode cX10_draw 8 = .ok (.imul, 1) := by decide +kernel
theorem dX10_draw_9 : decode cX10_draw 9 = .ok (.sipush 12345, 3) := by decide +kernel
theorem dX10_draw_12 : decode cX10_draw 12 = .ok (.iadd, 1) := by decide +kernel
theorem dX10_draw_13 : decode cX10_draw 13 = .ok (.putfield 424, 3) := by decide +kernel
theorem dX10_draw_16 : decode cX10_draw 16 = .ok (.aload_n 0, 1) := by decide +kernel
theorem dX10_draw_17 : decode cX10_draw 17 = .ok (.getfield 424, 3) := by decide +kernel
theorem dX10_draw_20 : decode cX10_draw 20 = .ok (.bipush 16, 2) := by decide +kernel
theorem dX10_draw_22 : decode cX10_draw 22 = .ok (.ishr, 1) := by decide +kernel
theorem dX10_draw_23 : decode cX10_draw 23 = .ok (.sipush 32767, 3) := by decide +kernel
theorem dX10_draw_26 : decode cX10_draw 26 = .ok (.iand, 1) := by decide +kernel
theorem dX10_draw_27 : decode cX10_draw 27 = .ok (.iload_n 1, 1) := by decide +kernel
theorem dX10_draw_28 : decode cX10_draw 28 = .ok (.irem, 1) := by decide +kernel
theorem dX10_draw_29 : decode cX10_draw 29 = .ok (.ireturn, 1) := by decide +kernel
theorem dX10_happens_0 : decode cX10_happens 0 = .ok (.aload_n 0, 1) := by decide +kernel
theorem dX10_happens_1 : decode cX10_happens 1 = .ok (.iconst 2, 1) := by decide +kernel
theorem dX10_happens_2 : decode cX10_happens 2 = .ok (.invokevirtual 428, 3) := by decide +kernel
theorem dX10_happens_5 : decode cX10_happens 5 = .ok (.istore_n 1, 1) := by decide +kernel
theorem dX10_happens_6 : decode cX10_happens 6 = .ok (.aload_n 0, 1) := by decide +kernel
theorem dX10_happens_7 : decode cX10_happens 7 = .ok (.iconst 4, 1) := by decide +kernel
theorem dX10_happens_8 : decode cX10_happens 8 = .ok (.invokevirtual 428, 3) := by decide +kernel
theorem dX10_happens_11 : decode cX10_happens 11 = .ok (.istore_n 2, 1) := by decide +kernel
theorem dX10_happens_12 : decode cX10_happens 12 = .ok (.aload_n 0, 1) := by decide +kernel
theorem dX10_happens_13 : decode cX10_happens 13 = .ok (.iload_n 2, 1) := by decide +kernel
theorem dX10_happens_14 : decode cX10_happens 14 = .ok (.iconst 3, 1) := by decide +kernel
theorem dX10_happens_15 : decode cX10_happens 15 = .ok (.if_icmp .ne 8, 3) := by decide +kernel
theorem dX10_happens_18 : decode cX10_happens 18 = .ok (.bipush 9, 2) := by decide +kernel
theorem dX10_happens_20 : decode cX10_happens 20 = .ok (.goto 5, 3) := by decide +kernel
theorem dX10_happens_23 : decode cX10_happens 23 = .ok (.bipush 20, 2) := by decide +kernel
theorem dX10_happens_25 : decode cX10_happens 25 = .ok (.invokevirtual 428, 3) := by decide +kernel
theorem dX10_happens_28 : decode cX10_happens 28 = .ok (.istore_n 3, 1) := by decide +kernel
theorem dX10_happens_29 : decode cX10_happens 29 = .ok (.iload_n 2, 1) := by decide +kernel
theorem dX10_happens_30 : decode cX10_happens 30 = .ok (.iconst 3, 1) := by decide +kernel
theorem dX10_happens_31 : decode cX10_happens 31 = .ok (.if_icmp .ne 21, 3) := by decide +kernel
theorem dX10_happens_34 : decode cX10_happens 34 = .ok (.aload_n 0, 1) := by decide +kernel
theorem dX10_happens_35 : decode cX10_happens 35 = .ok (.sipush 931, 3) := by decide +kernel
theorem dX10_happens_38 : decode cX10_happens 38 = .ok (.iload_n 1, 1) := by decide +kernel
theorem dX10_happens_39 : decode cX10_happens 39 = .ok (.bipush 15, 2) := by decide +kernel
theorem dX10_happens_41 : decode cX10_happens 41 = .ok (.iload_n 3, 1) := by decide +kernel
theorem dX10_happens_42 : decode cX10_happens 42 = .ok (.aload_n 0, 1) := by decide +kernel
theorem dX10_happens_43 : decode cX10_happens 43 = .ok (.iconst 4, 1) := by decide +kernel
theorem dX10_happens_44 : decode cX10_happens 44 = .ok (.invokevirtual 428, 3) := by decide +kernel
theorem dX10_happens_47 : decode cX10_happens 47 = .ok (.iconst 0, 1) := by decide +kernel
theorem dX10_happens_48 : decode cX10_happens 48 = .ok (.invokevirtual 190, 3) := by decide +kernel
theorem dX10_happens_51 : decode cX10_happens 51 = .ok (.ireturn, 1) := by decide +kernel
theorem dX10_happens_52 : decode cX10_happens 52 = .ok (.iload_n 2, 1) := by decide +kernel
theorem dX10_happens_53 : decode cX10_happens 53 = .ok (.ifCond .le 27, 3) := by decide +kernel
theorem dX10_happens_56 : decode cX10_happens 56 = .ok (.aload_n 0, 1) := by decide +kernel
theorem dX10_happens_57 : decode cX10_happens 57 = .ok (.sipush 931, 3) := by decide +kernel
theorem dX10_happens_60 : decode cX10_happens 60 = .ok (.iload_n 1, 1) := by decide +kernel
theorem dX10_happens_61 : decode cX10_happens 61 = .ok (.iload_n 2, 1) := by decide +kernel
theorem dX10_happens_62 : decode cX10_happens 62 = .ok (.iconst 1, 1) := by decide +kernel
theorem dX10_happens_63 : decode cX10_happens 63 = .ok (.if_icmp .ne 8, 3) := by decide +kernel
theorem dX10_happens_66 : decode cX10_happens 66 = .ok (.bipush 12, 2) := by decide +kernel
theorem dX10_happens_68 : decode cX10_happens 68 = .ok (.goto 5, 3) := by decide +kernel
theorem dX10_happens_71 : decode cX10_happens 71 = .ok (.bipush 13, 2) := by decide +kernel
theorem dX10_happens_73 : decode cX10_happens 73 = .ok (.iload_n 3, 1) := by decide +kernel
theorem dX10_happens_74 : decode cX10_happens 74 = .ok (.iconst 0, 1) := by decide +kernel
theorem dX10_happens_75 : decode cX10_happens 75 = .ok (.iconst 0, 1) := by decide +kernel
theorem dX10_happens_76 : decode cX10_happens 76 = .ok (.invokevirtual 190, 3) := by decide +kernel
theorem dX10_happens_79 : decode cX10_happens 79 = .ok (.ireturn, 1) := by decide +kernel
theorem dX10_happens_80 : decode cX10_happens 80 = .ok (.aload_n 0, 1) := by decide +kernel
theorem dX10_happens_81 : decode cX10_happens 81 = .ok (.bipush 9, 2) := by decide +kernel
theorem dX10_happens_83 : decode cX10_happens 83 = .ok (.invokevirtual 428, 3) := by decide +kernel
theorem dX10_happens_86 : decode cX10_happens 86 = .ok (.istore 4, 2) := by decide +kernel
theorem dX10_happens_88 : decode cX10_happens 88 = .ok (.aload_n 0, 1) := by decide +kernel
theorem dX10_happens_89 : decode cX10_happens 89 = .ok (.sipush 931, 3) := by decide +kernel
theorem dX10_happens_92 : decode cX10_happens 92 = .ok (.iload_n 1, 1) := by decide +kernel
theorem dX10_happens_93 : decode cX10_happens 93 = .ok (.bipush 11, 2) := by decide +kernel
theorem dX10_happens_95 : decode cX10_happens 95 = .ok (.iload_n 3, 1) := by decide +kernel
theorem dX10_happens_96 : decode cX10_happens 96 = .ok (.iload 4, 2) := by decide +kernel
theorem dX10_happens_98 : decode cX10_happens 98 = .ok (.aload_n 0, 1) := by decide +kernel
theorem dX10_happens_99 : decode cX10_happens 99 = .ok (.bipush 10, 2) := by decide +kernel
theorem dX10_happens_101 : decode cX10_happens 101 = .ok (.invokevirtual 428, 3) := by decide +kernel
theorem dX10_happens_104 : decode cX10_happens 104 = .ok (.invokevirtual 190, 3) := by decide +kernel
theorem dX10_happens_107 : decode cX10_happens 107 = .ok (.ireturn, 1) := by decide +kernel
theorem dX10_years_0 : decode cX10_years 0 = .ok (.aload_n 0, 1) := by decide +kernel
theorem dX10_years_1 : decode cX10_years 1 = .ok (.iconst 0, 1) := by decide +kernel
theorem dX10_years_2 : decode cX10_years 2 = .ok (.putfield 65, 3) := by decide +kernel
theorem dX10_years_5 : decode cX10_years 5 = .ok (.aload_n 0, 1) := by decide +kernel
theorem dX10_years_6 : decode cX10_years 6 = .ok (.iload_n 3, 1) := by decide +kernel
theorem dX10_years_7 : decode cX10_years 7 = .ok (.iconst 2, 1) := by decide +kernel
theorem dX10_years_8 : decode cX10_years 8 = .ok (.invokevirtual 375, 3) := by decide +kernel
theorem dX10_years_11 : decode cX10_years 11 = .ok (.ifCond .eq 18, 3) := by decide +kernel
theorem dX10_years_14 : decode cX10_years 14 = .ok (.aload_n 0, 1) := by decide +kernel
theorem dX10_years_15 : decode cX10_years 15 = .ok (.iload_n 2, 1) := by decide +kernel
theorem dX10_years_16 : decode cX10_years 16 = .ok (.iconst 0, 1) := by decide +kernel
theorem dX10_years_17 : decode cX10_years 17 = .ok (.bipush 60, 2) := by decide +kernel
theorem dX10_years_19 : decode cX10_years 19 = .ok (.invokestatic 231, 3) := by decide +kernel
theorem dX10_years_22 : decode cX10_years 22 = .ok (.iconst 2, 1) := by decide +kernel
theorem dX10_years_23 : decode cX10_years 23 = .ok (.invokevirtual 214, 3) := by decide +kernel
theorem dX10_years_26 : decode cX10_years 26 = .ok (.ifCond .ne 5, 3) := by decide +kernel
theorem dX10_years_29 : decode cX10_years 29 = .ok (.iconst 0, 1) := by decide +kernel
theorem dX10_years_30 : decode cX10_years 30 = .ok (.ireturn, 1) := by decide +kernel
theorem dX10_years_31 : decode cX10_years 31 = .ok (.aload_n 0, 1) := by decide +kernel
theorem dX10_years_32 : decode cX10_years 32 = .ok (.invokevirtual 267, 3) := by decide +kernel
theorem dX10_years_35 : decode cX10_years 35 = .ok (.aload_n 0, 1) := by decide +kernel
theorem dX10_years_36 : decode cX10_years 36 = .ok (.iload_n 1, 1) := by decide +kernel
theorem dX10_years_37 : decode cX10_years 37 = .ok (.putfield 424, 3) := by decide +kernel
theorem dX10_years_40 : decode cX10_years 40 = .ok (.iconst 0, 1) := by decide +kernel
theorem dX10_years_41 : decode cX10_years 41 = .ok (.istore 4, 2) := by decide +kernel
theorem dX10_years_43 : decode cX10_years 43 = .ok (.iconst 0, 1) := by decide +kernel
theorem dX10_years_44 : decode cX10_years 44 = .ok (.istore 5, 2) := by decide +kernel
theorem dX10_years_46 : decode cX10_years 46 = .ok (.iload 5, 2) := by decide +kernel
theorem dX10_years_48 : decode cX10_years 48 = .ok (.iload_n 2, 1) := by decide +kernel
theorem dX10_years_49 : decode cX10_years 49 = .ok (.if_icmp .ge 26, 3) := by decide +kernel
theorem dX10_years_52 : decode cX10_years 52 = .ok (.iload 4, 2) := by decide +kernel
theorem dX10_years_54 : decode cX10_years 54 = .ok (.aload_n 0, 1) := by decide +kernel
theorem dX10_years_55 : decode cX10_years 55 = .ok (.invokevirtual 431, 3) := by decide +kernel
theorem dX10_years_58 : decode cX10_years 58 = .ok (.ifCond .eq 7, 3) := by decide +kernel
theorem dX10_years_61 : decode cX10_years 61 = .ok (.iconst 1, 1) := by decide +kernel
theorem dX10_years_62 : decode cX10_years 62 = .ok (.goto 4, 3) := by decide +kernel
theorem dX10_years_65 : decode cX10_years 65 = .ok (.iconst 0, 1) := by decide +kernel
theorem dX10_years_66 : decode cX10_years 66 = .ok (.iadd, 1) := by decide +kernel
theorem dX10_years_67 : decode cX10_years 67 = .ok (.istore 4, 2) := by decide +kernel
theorem dX10_years_69 : decode cX10_years 69 = .ok (.iinc 5 1, 3) := by decide +kernel
theorem dX10_years_72 : decode cX10_years 72 = .ok (.goto (-26), 3) := by decide +kernel
theorem dX10_years_75 : decode cX10_years 75 = .ok (.aload_n 0, 1) := by decide +kernel
theorem dX10_years_76 : decode cX10_years 76 = .ok (.sipush 931, 3) := by decide +kernel
theorem dX10_years_79 : decode cX10_years 79 = .ok (.invokevirtual 354, 3) := by decide +kernel
theorem dX10_years_82 : decode cX10_years 82 = .ok (.iload_n 3, 1) := by decide +kernel
theorem dX10_years_83 : decode cX10_years 83 = .ok (.ifCond .ne 8, 3) := by decide +kernel
theorem dX10_years_86 : decode cX10_years 86 = .ok (.iload 4, 2) := by decide +kernel
theorem dX10_years_88 : decode cX10_years 88 = .ok (.goto 22, 3) := by decide +kernel
theorem dX10_years_91 : decode cX10_years 91 = .ok (.iload_n 3, 1) := by decide +kernel
theorem dX10_years_92 : decode cX10_years 92 = .ok (.iconst 1, 1) := by decide +kernel
theorem dX10_years_93 : decode cX10_years 93 = .ok (.if_icmp .ne 10, 3) := by decide +kernel
theorem dX10_years_96 : decode cX10_years 96 = .ok (.aload_n 0, 1) := by decide +kernel
theorem dX10_years_97 : decode cX10_years 97 = .ok (.getfield 282, 3) := by decide +kernel
theorem dX10_years_100 : decode cX10_years 100 = .ok (.goto 10, 3) := by decide +kernel
theorem dX10_years_103 : decode cX10_years 103 = .ok (.aload_n 0, 1) := by decide +kernel
theorem dX10_years_104 : decode cX10_years 104 = .ok (.getfield 323, 3) := by decide +kernel
theorem dX10_years_107 : decode cX10_years 107 = .ok (.invokestatic 240, 3) := by decide +kernel
theorem dX10_years_110 : decode cX10_years 110 = .ok (.ireturn, 1) := by decide +kernel
theorem dX10_copies_0 : decode cX10_copies 0 = .ok (.iconst 0, 1) := by decide +kernel
theorem dX10_copies_1 : decode cX10_copies 1 = .ok (.istore_n 3, 1) := by decide +kernel
theorem dX10_copies_2 : decode cX10_copies 2 = .ok (.iload_n 3, 1) := by decide +kernel
theorem dX10_copies_3 : decode cX10_copies 3 = .ok (.aload_n 1, 1) := by decide +kernel
theorem dX10_copies_4 : decode cX10_copies 4 = .ok (.arraylength, 1) := by decide +kernel
theorem dX10_copies_5 : decode cX10_copies 5 = .ok (.if_icmp .ge 15, 3) := by decide +kernel
theorem dX10_copies_8 : decode cX10_copies 8 = .ok (.aload_n 2, 1) := by decide +kernel
theorem dX10_copies_9 : decode cX10_copies 9 = .ok (.iload_n 3, 1) := by decide +kernel
theorem dX10_copies_10 : decode cX10_copies 10 = .ok (.aload_n 1, 1) := by decide +kernel
theorem dX10_copies_11 : decode cX10_copies 11 = .ok (.iload_n 3, 1) := by decide +kernel
theorem dX10_copies_12 : decode cX10_copies 12 = .ok (.iaload, 1) := by decide +kernel
theorem dX10_copies_13 : decode cX10_copies 13 = .ok (.iastore, 1) := by decide +kernel
theorem dX10_copies_14 : decode cX10_copies 14 = .ok (.iinc 3 1, 3) := by decide +kernel
theorem dX10_copies_17 : decode cX10_copies 17 = .ok (.goto (-15), 3) := by decide +kernel
theorem dX10_copies_20 : decode cX10_copies 20 = .ok (.return_, 1) := by decide +kernel
theorem dX10_image_0 : decode cX10_image 0 = .ok (.aload_n 0, 1) := by decide +kernel
theorem dX10_image_1 : decode cX10_image 1 = .ok (.iconst 0, 1) := by decide +kernel
theorem dX10_image_2 : decode cX10_image 2 = .ok (.putfield 65, 3) := by decide +kernel
theorem dX10_image_5 : decode cX10_image 5 = .ok (.aload_n 0, 1) := by decide +kernel
theorem dX10_image_6 : decode cX10_image 6 = .ok (.iconst 1, 1) := by decide +kernel
theorem dX10_image_7 : decode cX10_image 7 = .ok (.putfield 227, 3) := by decide +kernel
theorem dX10_image_10 : decode cX10_image 10 = .ok (.aload_n 0, 1) := by decide +kernel
theorem dX10_image_11 : decode cX10_image 11 = .ok (.aload_n 0, 1) := by decide +kernel
theorem dX10_image_12 : decode cX10_image 12 = .ok (.getfield 221, 3) := by decide +kernel
theorem dX10_image_15 : decode cX10_image 15 = .ok (.putfield 434, 3) := by decide +kernel
theorem dX10_image_18 : decode cX10_image 18 = .ok (.aload_n 0, 1) := by decide +kernel
theorem dX10_image_19 : decode cX10_image 19 = .ok (.aload_n 0, 1) := by decide +kernel
theorem dX10_image_20 : decode cX10_image 20 = .ok (.getfield 224, 3) := by decide +kernel
theorem dX10_image_23 : decode cX10_image 23 = .ok (.putfield 437, 3) := by decide +kernel
theorem dX10_image_26 : decode cX10_image 26 = .ok (.iconst 0, 1) := by decide +kernel
theorem dX10_image_27 : decode cX10_image 27 = .ok (.istore_n 1, 1) := by decide +kernel
theorem dX10_image_28 : decode cX10_image 28 = .ok (.iload_n 1, 1) := by decide +kernel
theorem dX10_image_29 : decode cX10_image 29 = .ok (.sipush 931, 3) := by decide +kernel
theorem dX10_image_32 : decode cX10_image 32 = .ok (.if_icmp .ge 21, 3) := by decide +kernel
theorem dX10_image_35 : decode cX10_image 35 = .ok (.aload_n 0, 1) := by decide +kernel
theorem dX10_image_36 : decode cX10_image 36 = .ok (.getfield 56, 3) := by decide +kernel
theorem dX10_image_39 : decode cX10_image 39 = .ok (.iload_n 1, 1) := by decide +kernel
theorem dX10_image_40 : decode cX10_image 40 = .ok (.aload_n 0, 1) := by decide +kernel
theorem dX10_image_41 : decode cX10_image 41 = .ok (.getfield 20, 3) := by decide +kernel
theorem dX10_image_44 : decode cX10_image 44 = .ok (.iload_n 1, 1) := by decide +kernel
theorem dX10_image_45 : decode cX10_image 45 = .ok (.iaload, 1) := by decide +kernel
theorem dX10_image_46 : decode cX10_image 46 = .ok (.iastore, 1) := by decide +kernel
theorem dX10_image_47 : decode cX10_image 47 = .ok (.iinc 1 1, 3) := by decide +kernel
theorem dX10_image_50 : decode cX10_image 50 = .ok (.goto (-22), 3) := by decide +kernel
theorem dX10_image_53 : decode cX10_image 53 = .ok (.aload_n 0, 1) := by decide +kernel
theorem dX10_image_54 : decode cX10_image 54 = .ok (.aload_n 0, 1) := by decide +kernel
theorem dX10_image_55 : decode cX10_image 55 = .ok (.getfield 23, 3) := by decide +kernel
theorem dX10_image_58 : decode cX10_image 58 = .ok (.aload_n 0, 1) := by decide +kernel
theorem dX10_image_59 : decode cX10_image 59 = .ok (.getfield 59, 3) := by decide +kernel
theorem dX10_image_62 : decode cX10_image 62 = .ok (.invokevirtual 440, 3) := by decide +kernel
theorem dX10_image_65 : decode cX10_image 65 = .ok (.aload_n 0, 1) := by decide +kernel
theorem dX10_image_66 : decode cX10_image 66 = .ok (.aload_n 0, 1) := by decide +kernel
theorem dX10_image_67 : decode cX10_image 67 = .ok (.getfield 53, 3) := by decide +kernel
theorem dX10_image_70 : decode cX10_image 70 = .ok (.aload_n 0, 1) := by decide +kernel
theorem dX10_image_71 : decode cX10_image 71 = .ok (.getfield 62, 3) := by decide +kernel
theorem dX10_image_74 : decode cX10_image 74 = .ok (.invokevirtual 440, 3) := by decide +kernel
theorem dX10_image_77 : decode cX10_image 77 = .ok (.return_, 1) := by decide +kernel
theorem dX10_restore_0 : decode cX10_restore 0 = .ok (.aload_n 0, 1) := by decide +kernel
theorem dX10_restore_1 : decode cX10_restore 1 = .ok (.iconst 0, 1) := by decide +kernel
theorem dX10_restore_2 : decode cX10_restore 2 = .ok (.putfield 65, 3) := by decide +kernel
theorem dX10_restore_5 : decode cX10_restore 5 = .ok (.aload_n 0, 1) := by decide +kernel
theorem dX10_restore_6 : decode cX10_restore 6 = .ok (.getfield 227, 3) := by decide +kernel
theorem dX10_restore_9 : decode cX10_restore 9 = .ok (.ifCond .ne 5, 3) := by decide +kernel
theorem dX10_restore_12 : decode cX10_restore 12 = .ok (.iconst 0, 1) := by decide +kernel
theorem dX10_restore_13 : decode cX10_restore 13 = .ok (.ireturn, 1) := by decide +kernel
theorem dX10_restore_14 : decode cX10_restore 14 = .ok (.aload_n 0, 1) := by decide +kernel
theorem dX10_restore_15 : decode cX10_restore 15 = .ok (.aload_n 0, 1) := by decide +kernel
theorem dX10_restore_16 : decode cX10_restore 16 = .ok (.getfield 434, 3) := by decide +kernel
theorem dX10_restore_19 : decode cX10_restore 19 = .ok (.putfield 221, 3) := by decide +kernel
theorem dX10_restore_22 : decode cX10_restore 22 = .ok (.aload_n 0, 1) := by decide +kernel
theorem dX10_restore_23 : decode cX10_restore 23 = .ok (.aload_n 0, 1) := by decide +kernel
theorem dX10_restore_24 : decode cX10_restore 24 = .ok (.getfield 437, 3) := by decide +kernel
theorem dX10_restore_27 : decode cX10_restore 27 = .ok (.putfield 224, 3) := by decide +kernel
theorem dX10_restore_30 : decode cX10_restore 30 = .ok (.iconst 0, 1) := by decide +kernel
theorem dX10_restore_31 : decode cX10_restore 31 = .ok (.istore_n 1, 1) := by decide +kernel
theorem dX10_restore_32 : decode cX10_restore 32 = .ok (.iload_n 1, 1) := by decide +kernel
theorem dX10_restore_33 : decode cX10_restore 33 = .ok (.sipush 931, 3) := by decide +kernel
theorem dX10_restore_36 : decode cX10_restore 36 = .ok (.if_icmp .ge 21, 3) := by decide +kernel
theorem dX10_restore_39 : decode cX10_restore 39 = .ok (.aload_n 0, 1) := by decide +kernel
theorem dX10_restore_40 : decode cX10_restore 40 = .ok (.getfield 20, 3) := by decide +kernel
theorem dX10_restore_43 : decode cX10_restore 43 = .ok (.iload_n 1, 1) := by decide +kernel
theorem dX10_restore_44 : decode cX10_restore 44 = .ok (.aload_n 0, 1) := by decide +kernel
theorem dX10_restore_45 : decode cX10_restore 45 = .ok (.getfield 56, 3) := by decide +kernel
theorem dX10_restore_48 : decode cX10_restore 48 = .ok (.iload_n 1, 1) := by decide +kernel
theorem dX10_restore_49 : decode cX10_restore 49 = .ok (.iaload, 1) := by decide +kernel
theorem dX10_restore_50 : decode cX10_restore 50 = .ok (.iastore, 1) := by decide +kernel
theorem dX10_restore_51 : decode cX10_restore 51 = .ok (.iinc 1 1, 3) := by decide +kernel
theorem dX10_restore_54 : decode cX10_restore 54 = .ok (.goto (-22), 3) := by decide +kernel
theorem dX10_restore_57 : decode cX10_restore 57 = .ok (.aload_n 0, 1) := by decide +kernel
theorem dX10_restore_58 : decode cX10_restore 58 = .ok (.aload_n 0, 1) := by decide +kernel
theorem dX10_restore_59 : decode cX10_restore 59 = .ok (.getfield 59, 3) := by decide +kernel
theorem dX10_restore_62 : decode cX10_restore 62 = .ok (.aload_n 0, 1) := by decide +kernel
theorem dX10_restore_63 : decode cX10_restore 63 = .ok (.getfield 23, 3) := by decide +kernel
theorem dX10_restore_66 : decode cX10_restore 66 = .ok (.invokevirtual 440, 3) := by decide +kernel
theorem dX10_restore_69 : decode cX10_restore 69 = .ok (.aload_n 0, 1) := by decide +kernel
theorem dX10_restore_70 : decode cX10_restore 70 = .ok (.aload_n 0, 1) := by decide +kernel
theorem dX10_restore_71 : decode cX10_restore 71 = .ok (.getfield 62, 3) := by decide +kernel
theorem dX10_restore_74 : decode cX10_restore 74 = .ok (.aload_n 0, 1) := by decide +kernel
theorem dX10_restore_75 : decode cX10_restore 75 = .ok (.getfield 53, 3) := by decide +kernel
theorem dX10_restore_78 : decode cX10_restore 78 = .ok (.invokevirtual 440, 3) := by decide +kernel
theorem dX10_restore_81 : decode cX10_restore 81 = .ok (.iconst 1, 1) := by decide +kernel
theorem dX10_restore_82 : decode cX10_restore 82 = .ok (.ireturn, 1) := by decide +kernel
theorem dJ6_bitCount_0f7a4_0 : decode cJ6_bitCount_0f7a4 0 = .ok (.iload_n 0, 1) := by decide +kernel
theorem dJ6_bitCount_0f7a4_1 : decode cJ6_bitCount_0f7a4 1 = .ok (.iload_n 0, 1) := by decide +kernel
theorem dJ6_bitCount_0f7a4_2 : decode cJ6_bitCount_0f7a4 2 = .ok (.iconst 1, 1) := by decide +kernel
theorem dJ6_bitCount_0f7a4_3 : decode cJ6_bitCount_0f7a4 3 = .ok (.iushr, 1) := by decide +kernel
theorem dJ6_bitCount_0f7a4_4 : decode cJ6_bitCount_0f7a4 4 = .ok (.ldc_w 265, 3) := by decide +kernel
theorem dJ6_bitCount_0f7a4_7 : decode cJ6_bitCount_0f7a4 7 = .ok (.iand, 1) := by decide +kernel
theorem dJ6_bitCount_0f7a4_8 : decode cJ6_bitCount_0f7a4 8 = .ok (.isub, 1) := by decide +kernel
theorem dJ6_bitCount_0f7a4_9 : decode cJ6_bitCount_0f7a4 9 = .ok (.istore_n 0, 1) := by decide +kernel
theorem dJ6_bitCount_0f7a4_10 : decode cJ6_bitCount_0f7a4 10 = .ok (.iload_n 0, 1) := by decide +kernel
theorem dJ6_bitCount_0f7a4_11 : decode cJ6_bitCount_0f7a4 11 = .ok (.ldc_w 266, 3) := by decide +kernel
theorem dJ6_bitCount_0f7a4_14 : decode cJ6_bitCount_0f7a4 14 = .ok (.iand, 1) := by decide +kernel
theorem dJ6_bitCount_0f7a4_15 : decode cJ6_bitCount_0f7a4 15 = .ok (.iload_n 0, 1) := by decide +kernel
theorem dJ6_bitCount_0f7a4_16 : decode cJ6_bitCount_0f7a4 16 = .ok (.iconst 2, 1) := by decide +kernel
theorem dJ6_bitCount_0f7a4_17 : decode cJ6_bitCount_0f7a4 17 = .ok (.iushr, 1) := by decide +kernel
theorem dJ6_bitCount_0f7a4_18 : decode cJ6_bitCount_0f7a4 18 = .ok (.ldc_w 266, 3) := by decide +kernel
theorem dJ6_bitCount_0f7a4_21 : decode cJ6_bitCount_0f7a4 21 = .ok (.iand, 1) := by decide +kernel
theorem dJ6_bitCount_0f7a4_22 : decode cJ6_bitCount_0f7a4 22 = .ok (.iadd, 1) := by decide +kernel
theorem dJ6_bitCount_0f7a4_23 : decode cJ6_bitCount_0f7a4 23 = .ok (.istore_n 0, 1) := by decide +kernel
theorem dJ6_bitCount_0f7a4_24 : decode cJ6_bitCount_0f7a4 24 = .ok (.iload_n 0, 1) := by decide +kernel
theorem dJ6_bitCount_0f7a4_25 : decode cJ6_bitCount_0f7a4 25 = .ok (.iload_n 0, 1) := by decide +kernel
theorem dJ6_bitCount_0f7a4_26 : decode cJ6_bitCount_0f7a4 26 = .ok (.iconst 4, 1) := by decide +kernel
theorem dJ6_bitCount_0f7a4_27 : decode cJ6_bitCount_0f7a4 27 = .ok (.iushr, 1) := by decide +kernel
theorem dJ6_bitCount_0f7a4_28 : decode cJ6_bitCount_0f7a4 28 = .ok (.iadd, 1) := by decide +kernel
theorem dJ6_bitCount_0f7a4_29 : decode cJ6_bitCount_0f7a4 29 = .ok (.ldc_w 267, 3) := by decide +kernel
theorem dJ6_bitCount_0f7a4_32 : decode cJ6_bitCount_0f7a4 32 = .ok (.iand, 1) := by decide +kernel
theorem dJ6_bitCount_0f7a4_33 : decode cJ6_bitCount_0f7a4 33 = .ok (.istore_n 0, 1) := by decide +kernel
theorem dJ6_bitCount_0f7a4_34 : decode cJ6_bitCount_0f7a4 34 = .ok (.iload_n 0, 1) := by decide +kernel
theorem dJ6_bitCount_0f7a4_35 : decode cJ6_bitCount_0f7a4 35 = .ok (.iload_n 0, 1) := by decide +kernel
theorem dJ6_bitCount_0f7a4_36 : decode cJ6_bitCount_0f7a4 36 = .ok (.bipush 8, 2) := by decide +kernel
theorem dJ6_bitCount_0f7a4_38 : decode cJ6_bitCount_0f7a4 38 = .ok (.iushr, 1) := by decide +kernel
theorem dJ6_bitCount_0f7a4_39 : decode cJ6_bitCount_0f7a4 39 = .ok (.iadd, 1) := by decide +kernel
theorem dJ6_bitCount_0f7a4_40 : decode cJ6_bitCount_0f7a4 40 = .ok (.istore_n 0, 1) := by decide +kernel
theorem dJ6_bitCount_0f7a4_41 : decode cJ6_bitCount_0f7a4 41 = .ok (.iload_n 0, 1) := by decide +kernel
theorem dJ6_bitCount_0f7a4_42 : decode cJ6_bitCount_0f7a4 42 = .ok (.iload_n 0, 1) := by decide +kernel
theorem dJ6_bitCount_0f7a4_43 : decode cJ6_bitCount_0f7a4 43 = .ok (.bipush 16, 2) := by decide +kernel
theorem dJ6_bitCount_0f7a4_45 : decode cJ6_bitCount_0f7a4 45 = .ok (.iushr, 1) := by decide +kernel
theorem dJ6_bitCount_0f7a4_46 : decode cJ6_bitCount_0f7a4 46 = .ok (.iadd, 1) := by decide +kernel
theorem dJ6_bitCount_0f7a4_47 : decode cJ6_bitCount_0f7a4 47 = .ok (.istore_n 0, 1) := by decide +kernel
theorem dJ6_bitCount_0f7a4_48 : decode cJ6_bitCount_0f7a4 48 = .ok (.iload_n 0, 1) := by decide +kernel
theorem dJ6_bitCount_0f7a4_49 : decode cJ6_bitCount_0f7a4 49 = .ok (.bipush 63, 2) := by decide +kernel
theorem dJ6_bitCount_0f7a4_51 : decode cJ6_bitCount_0f7a4 51 = .ok (.iand, 1) := by decide +kernel
theorem dJ6_bitCount_0f7a4_52 : decode cJ6_bitCount_0f7a4 52 = .ok (.ireturn, 1) := by decide +kernel
theorem dJ9_floorMod_7cf53_0 : decode cJ9_floorMod_7cf53 0 = .ok (.iload_n 0, 1) := by decide +kernel
theorem dJ9_floorMod_7cf53_1 : decode cJ9_floorMod_7cf53 1 = .ok (.iload_n 1, 1) := by decide +kernel
theorem dJ9_floorMod_7cf53_2 : decode cJ9_floorMod_7cf53 2 = .ok (.irem, 1) := by decide +kernel
theorem dJ9_floorMod_7cf53_3 : decode cJ9_floorMod_7cf53 3 = .ok (.istore_n 2, 1) := by decide +kernel
theorem dJ9_floorMod_7cf53_4 : decode cJ9_floorMod_7cf53 4 = .ok (.iload_n 0, 1) := by decide +kernel
theorem dJ9_floorMod_7cf53_5 : decode cJ9_floorMod_7cf53 5 = .ok (.iload_n 1, 1) := by decide +kernel
theorem dJ9_floorMod_7cf53_6 : decode cJ9_floorMod_7cf53 6 = .ok (.ixor, 1) := by decide +kernel
theorem dJ9_floorMod_7cf53_7 : decode cJ9_floorMod_7cf53 7 = .ok (.ifCond .ge 11, 3) := by decide +kernel
theorem dJ9_floorMod_7cf53_10 : decode cJ9_floorMod_7cf53 10 = .ok (.iload_n 2, 1) := by decide +kernel
theorem dJ9_floorMod_7cf53_11 : decode cJ9_floorMod_7cf53 11 = .ok (.ifCond .eq 7, 3) := by decide +kernel
theorem dJ9_floorMod_7cf53_14 : decode cJ9_floorMod_7cf53 14 = .ok (.iload_n 2, 1) := by decide +kernel
theorem dJ9_floorMod_7cf53_15 : decode cJ9_floorMod_7cf53 15 = .ok (.iload_n 1, 1) := by decide +kernel
theorem dJ9_floorMod_7cf53_16 : decode cJ9_floorMod_7cf53 16 = .ok (.iadd, 1) := by decide +kernel
theorem dJ9_floorMod_7cf53_17 : decode cJ9_floorMod_7cf53 17 = .ok (.ireturn, 1) := by decide +kernel
theorem dJ9_floorMod_7cf53_18 : decode cJ9_floorMod_7cf53 18 = .ok (.iload_n 2, 1) := by decide +kernel
theorem dJ9_floorMod_7cf53_19 : decode cJ9_floorMod_7cf53 19 = .ok (.ireturn, 1) := by decide +kernel
theorem dJ9_max_7cf53_0 : decode cJ9_max_7cf53 0 = .ok (.iload_n 0, 1) := by decide +kernel
theorem dJ9_max_7cf53_1 : decode cJ9_max_7cf53 1 = .ok (.iload_n 1, 1) := by decide +kernel
theorem dJ9_max_7cf53_2 : decode cJ9_max_7cf53 2 = .ok (.if_icmp .lt 7, 3) := by decide +kernel
theorem dJ9_max_7cf53_5 : decode cJ9_max_7cf53 5 = .ok (.iload_n 0, 1) := by decide +kernel
theorem dJ9_max_7cf53_6 : decode cJ9_max_7cf53 6 = .ok (.goto 4, 3) := by decide +kernel
theorem dJ9_max_7cf53_9 : decode cJ9_max_7cf53 9 = .ok (.iload_n 1, 1) := by decide +kernel
theorem dJ9_max_7cf53_10 : decode cJ9_max_7cf53 10 = .ok (.ireturn, 1) := by decide +kernel
theorem dJ9_min_7cf53_0 : decode cJ9_min_7cf53 0 = .ok (.iload_n 0, 1) := by decide +kernel
theorem dJ9_min_7cf53_1 : decode cJ9_min_7cf53 1 = .ok (.iload_n 1, 1) := by decide +kernel
theorem dJ9_min_7cf53_2 : decode cJ9_min_7cf53 2 = .ok (.if_icmp .gt 7, 3) := by decide +kernel
theorem dJ9_min_7cf53_5 : decode cJ9_min_7cf53 5 = .ok (.iload_n 0, 1) := by decide +kernel
theorem dJ9_min_7cf53_6 : decode cJ9_min_7cf53 6 = .ok (.goto 4, 3) := by decide +kernel
theorem dJ9_min_7cf53_9 : decode cJ9_min_7cf53 9 = .ok (.iload_n 1, 1) := by decide +kernel
theorem dJ9_min_7cf53_10 : decode cJ9_min_7cf53 10 = .ok (.ireturn, 1) := by decide +kernel
theorem dJ0_length_8abf5_0 : decode cJ0_length_8abf5 0 = .ok (.aload_n 0, 1) := by decide +kernel
theorem dJ0_length_8abf5_1 : decode cJ0_length_8abf5 1 = .ok (.getfield 9, 3) := by decide +kernel
theorem dJ0_length_8abf5_4 : decode cJ0_length_8abf5 4 = .ok (.arraylength, 1) := by decide +kernel
theorem dJ0_length_8abf5_5 : decode cJ0_length_8abf5 5 = .ok (.aload_n 0, 1) := by decide +kernel
theorem dJ0_length_8abf5_6 : decode cJ0_length_8abf5 6 = .ok (.invokevirtual 335, 3) := by decide +kernel
theorem dJ0_length_8abf5_9 : decode cJ0_length_8abf5 9 = .ok (.ishr, 1) := by decide +kernel
theorem dJ0_length_8abf5_10 : decode cJ0_length_8abf5 10 = .ok (.ireturn, 1) := by decide +kernel
theorem dJ0_charAt_5068e_0 : decode cJ0_charAt_5068e 0 = .ok (.aload_n 0, 1) := by decide +kernel
theorem dJ0_charAt_5068e_1 : decode cJ0_charAt_5068e 1 = .ok (.invokevirtual 492, 3) := by decide +kernel
theorem dJ0_charAt_5068e_4 : decode cJ0_charAt_5068e 4 = .ok (.ifCond .eq 12, 3) := by decide +kernel
theorem dJ0_charAt_5068e_7 : decode cJ0_charAt_5068e 7 = .ok (.aload_n 0, 1) := by decide +kernel
theorem dJ0_charAt_5068e_8 : decode cJ0_charAt_5068e 8 = .ok (.getfield 9, 3) := by decide +kernel
theorem dJ0_charAt_5068e_11 : decode cJ0_charAt_5068e 11 = .ok (.iload_n 1, 1) := by decide +kernel
theorem dJ0_charAt_5068e_12 : decode cJ0_charAt_5068e 12 = .ok (.invokestatic 495, 3) := by decide +kernel
theorem dJ0_charAt_5068e_15 : decode cJ0_charAt_5068e 15 = .ok (.ireturn, 1) := by decide +kernel
theorem dJ0_charAt_5068e_16 : decode cJ0_charAt_5068e 16 = .ok (.aload_n 0, 1) := by decide +kernel
theorem dJ0_charAt_5068e_17 : decode cJ0_charAt_5068e 17 = .ok (.getfield 9, 3) := by decide +kernel
theorem dJ0_charAt_5068e_20 : decode cJ0_charAt_5068e 20 = .ok (.iload_n 1, 1) := by decide +kernel
theorem dJ0_charAt_5068e_21 : decode cJ0_charAt_5068e 21 = .ok (.invokestatic 498, 3) := by decide +kernel
theorem dJ0_charAt_5068e_24 : decode cJ0_charAt_5068e 24 = .ok (.ireturn, 1) := by decide +kernel
theorem dJ0_coder_7d493_0 : decode cJ0_coder_7d493 0 = .ok (.getstatic 38, 3) := by decide +kernel
theorem dJ0_coder_7d493_3 : decode cJ0_coder_7d493 3 = .ok (.ifCond .eq 10, 3) := by decide +kernel
theorem dJ0_coder_7d493_6 : decode cJ0_coder_7d493 6 = .ok (.aload_n 0, 1) := by decide +kernel
theorem dJ0_coder_7d493_7 : decode cJ0_coder_7d493 7 = .ok (.getfield 15, 3) := by decide +kernel
theorem dJ0_coder_7d493_10 : decode cJ0_coder_7d493 10 = .ok (.goto 4, 3) := by decide +kernel
theorem dJ0_coder_7d493_13 : decode cJ0_coder_7d493 13 = .ok (.iconst 1, 1) := by decide +kernel
theorem dJ0_coder_7d493_14 : decode cJ0_coder_7d493 14 = .ok (.ireturn, 1) := by decide +kernel
theorem dJ0_isLatin1_aae02_0 : decode cJ0_isLatin1_aae02 0 = .ok (.getstatic 38, 3) := by decide +kernel
theorem dJ0_isLatin1_aae02_3 : decode cJ0_isLatin1_aae02 3 = .ok (.ifCond .eq 14, 3) := by decide +kernel
theorem dJ0_isLatin1_aae02_6 : decode cJ0_isLatin1_aae02 6 = .ok (.aload_n 0, 1) := by decide +kernel
theorem dJ0_isLatin1_aae02_7 : decode cJ0_isLatin1_aae02 7 = .ok (.getfield 15, 3) := by decide +kernel
theorem dJ0_isLatin1_aae02_10 : decode cJ0_isLatin1_aae02 10 = .ok (.ifCond .ne 7, 3) := by decide +kernel
theorem dJ0_isLatin1_aae02_13 : decode cJ0_isLatin1_aae02 13 = .ok (.iconst 1, 1) := by decide +kernel
theorem dJ0_isLatin1_aae02_14 : decode cJ0_isLatin1_aae02 14 = .ok (.goto 4, 3) := by decide +kernel
theorem dJ0_isLatin1_aae02_17 : decode cJ0_isLatin1_aae02 17 = .ok (.iconst 0, 1) := by decide +kernel
theorem dJ0_isLatin1_aae02_18 : decode cJ0_isLatin1_aae02 18 = .ok (.ireturn, 1) := by decide +kernel
theorem dJ0_checkIndex_df160_0 : decode cJ0_checkIndex_df160 0 = .ok (.iload_n 0, 1) := by decide +kernel
theorem dJ0_checkIndex_df160_1 : decode cJ0_checkIndex_df160 1 = .ok (.iload_n 1, 1) := by decide +kernel
theorem dJ0_checkIndex_df160_2 : decode cJ0_checkIndex_df160 2 = .ok (.getstatic 1053, 3) := by decide +kernel
theorem dJ0_checkIndex_df160_5 : decode cJ0_checkIndex_df160 5 = .ok (.invokestatic 1059, 3) := by decide +kernel
theorem dJ0_checkIndex_df160_8 : decode cJ0_checkIndex_df160 8 = .ok (.pop, 1) := by decide +kernel
theorem dJ0_checkIndex_df160_9 : decode cJ0_checkIndex_df160 9 = .ok (.return_, 1) := by decide +kernel
theorem dJ1_charAt_3b067_0 : decode cJ1_charAt_3b067 0 = .ok (.iload_n 1, 1) := by decide +kernel
theorem dJ1_charAt_3b067_1 : decode cJ1_charAt_3b067 1 = .ok (.aload_n 0, 1) := by decide +kernel
theorem dJ1_charAt_3b067_2 : decode cJ1_charAt_3b067 2 = .ok (.arraylength, 1) := by decide +kernel
theorem dJ1_charAt_3b067_3 : decode cJ1_charAt_3b067 3 = .ok (.invokestatic 9, 3) := by decide +kernel
theorem dJ1_charAt_3b067_6 : decode cJ1_charAt_3b067 6 = .ok (.aload_n 0, 1) := by decide +kernel
theorem dJ1_charAt_3b067_7 : decode cJ1_charAt_3b067 7 = .ok (.iload_n 1, 1) := by decide +kernel
theorem dJ1_charAt_3b067_8 : decode cJ1_charAt_3b067 8 = .ok (.baload, 1) := by decide +kernel
theorem dJ1_charAt_3b067_9 : decode cJ1_charAt_3b067 9 = .ok (.sipush 255, 3) := by decide +kernel
theorem dJ1_charAt_3b067_12 : decode cJ1_charAt_3b067 12 = .ok (.iand, 1) := by decide +kernel
theorem dJ1_charAt_3b067_13 : decode cJ1_charAt_3b067 13 = .ok (.i2c, 1) := by decide +kernel
theorem dJ1_charAt_3b067_14 : decode cJ1_charAt_3b067 14 = .ok (.ireturn, 1) := by decide +kernel
theorem dJ2_getChar_3b067_0 : decode cJ2_getChar_3b067 0 = .ok (.getstatic 44, 3) := by decide +kernel
theorem dJ2_getChar_3b067_3 : decode cJ2_getChar_3b067 3 = .ok (.ifCond .ne 25, 3) := by decide +kernel
theorem dJ2_getChar_3b067_6 : decode cJ2_getChar_3b067 6 = .ok (.iload_n 1, 1) := by decide +kernel
theorem dJ2_getChar_3b067_7 : decode cJ2_getChar_3b067 7 = .ok (.ifCond .lt 11, 3) := by decide +kernel
theorem dJ2_getChar_3b067_10 : decode cJ2_getChar_3b067 10 = .ok (.iload_n 1, 1) := by decide +kernel
theorem dJ2_getChar_3b067_11 : decode cJ2_getChar_3b067 11 = .ok (.aload_n 0, 1) := by decide +kernel
theorem dJ2_getChar_3b067_12 : decode cJ2_getChar_3b067 12 = .ok (.invokestatic 48, 3) := by decide +kernel
theorem dJ2_getChar_3b067_15 : decode cJ2_getChar_3b067 15 = .ok (.if_icmp .lt 13, 3) := by decide +kernel
theorem dJ2_getChar_3b067_18 : decode cJ2_getChar_3b067 18 = .ok (.new 52, 3) := by decide +kernel
theorem dJ2_getChar_3b067_21 : decode cJ2_getChar_3b067 21 = .ok (.dup, 1) := by decide +kernel
theorem dJ2_getChar_3b067_22 : decode cJ2_getChar_3b067 22 = .ok (.ldc 54, 2) := by decide +kernel
theorem dJ2_getChar_3b067_24 : decode cJ2_getChar_3b067 24 = .ok (.invokespecial 56, 3) := by decide +kernel
theorem dJ2_getChar_3b067_27 : decode cJ2_getChar_3b067 27 = .ok (.athrow, 1) := by decide +kernel
theorem dJ2_getChar_3b067_28 : decode cJ2_getChar_3b067 28 = .ok (.iload_n 1, 1) := by decide +kernel
theorem dJ2_getChar_3b067_29 : decode cJ2_getChar_3b067 29 = .ok (.iconst 1, 1) := by decide +kernel
theorem dJ2_getChar_3b067_30 : decode cJ2_getChar_3b067 30 = .ok (.ishl, 1) := by decide +kernel
theorem dJ2_getChar_3b067_31 : decode cJ2_getChar_3b067 31 = .ok (.istore_n 1, 1) := by decide +kernel
theorem dJ2_getChar_3b067_32 : decode cJ2_getChar_3b067 32 = .ok (.aload_n 0, 1) := by decide +kernel
theorem dJ2_getChar_3b067_33 : decode cJ2_getChar_3b067 33 = .ok (.iload_n 1, 1) := by decide +kernel
theorem dJ2_getChar_3b067_34 : decode cJ2_getChar_3b067 34 = .ok (.iinc 1 1, 3) := by decide +kernel
theorem dJ2_getChar_3b067_37 : decode cJ2_getChar_3b067 37 = .ok (.baload, 1) := by decide +kernel
theorem dJ2_getChar_3b067_38 : decode cJ2_getChar_3b067 38 = .ok (.sipush 255, 3) := by decide +kernel
theorem dJ2_getChar_3b067_41 : decode cJ2_getChar_3b067 41 = .ok (.iand, 1) := by decide +kernel
theorem dJ2_getChar_3b067_42 : decode cJ2_getChar_3b067 42 = .ok (.getstatic 59, 3) := by decide +kernel
theorem dJ2_getChar_3b067_45 : decode cJ2_getChar_3b067 45 = .ok (.ishl, 1) := by decide +kernel
theorem dJ2_getChar_3b067_46 : decode cJ2_getChar_3b067 46 = .ok (.aload_n 0, 1) := by decide +kernel
theorem dJ2_getChar_3b067_47 : decode cJ2_getChar_3b067 47 = .ok (.iload_n 1, 1) := by decide +kernel
theorem dJ2_getChar_3b067_48 : decode cJ2_getChar_3b067 48 = .ok (.baload, 1) := by decide +kernel
theorem dJ2_getChar_3b067_49 : decode cJ2_getChar_3b067 49 = .ok (.sipush 255, 3) := by decide +kernel
theorem dJ2_getChar_3b067_52 : decode cJ2_getChar_3b067 52 = .ok (.iand, 1) := by decide +kernel
theorem dJ2_getChar_3b067_53 : decode cJ2_getChar_3b067 53 = .ok (.getstatic 63, 3) := by decide +kernel
theorem dJ2_getChar_3b067_56 : decode cJ2_getChar_3b067 56 = .ok (.ishl, 1) := by decide +kernel
theorem dJ2_getChar_3b067_57 : decode cJ2_getChar_3b067 57 = .ok (.ior, 1) := by decide +kernel
theorem dJ2_getChar_3b067_58 : decode cJ2_getChar_3b067 58 = .ok (.i2c, 1) := by decide +kernel
theorem dJ2_getChar_3b067_59 : decode cJ2_getChar_3b067 59 = .ok (.ireturn, 1) := by decide +kernel
theorem dJ2_length_9d52b_0 : decode cJ2_length_9d52b 0 = .ok (.aload_n 0, 1) := by decide +kernel
theorem dJ2_length_9d52b_1 : decode cJ2_length_9d52b 1 = .ok (.arraylength, 1) := by decide +kernel
theorem dJ2_length_9d52b_2 : decode cJ2_length_9d52b 2 = .ok (.iconst 1, 1) := by decide +kernel
theorem dJ2_length_9d52b_3 : decode cJ2_length_9d52b 3 = .ok (.ishr, 1) := by decide +kernel
theorem dJ2_length_9d52b_4 : decode cJ2_length_9d52b 4 = .ok (.ireturn, 1) := by decide +kernel
theorem dJ2_charAt_3b067_0 : decode cJ2_charAt_3b067 0 = .ok (.iload_n 1, 1) := by decide +kernel
theorem dJ2_charAt_3b067_1 : decode cJ2_charAt_3b067 1 = .ok (.aload_n 0, 1) := by decide +kernel
theorem dJ2_charAt_3b067_2 : decode cJ2_charAt_3b067 2 = .ok (.invokestatic 67, 3) := by decide +kernel
theorem dJ2_charAt_3b067_5 : decode cJ2_charAt_3b067 5 = .ok (.aload_n 0, 1) := by decide +kernel
theorem dJ2_charAt_3b067_6 : decode cJ2_charAt_3b067 6 = .ok (.iload_n 1, 1) := by decide +kernel
theorem dJ2_charAt_3b067_7 : decode cJ2_charAt_3b067 7 = .ok (.invokestatic 71, 3) := by decide +kernel
theorem dJ2_charAt_3b067_10 : decode cJ2_charAt_3b067 10 = .ok (.ireturn, 1) := by decide +kernel
theorem dJ2_checkIndex_2214a_0 : decode cJ2_checkIndex_2214a 0 = .ok (.iload_n 0, 1) := by decide +kernel
theorem dJ2_checkIndex_2214a_1 : decode cJ2_checkIndex_2214a 1 = .ok (.aload_n 1, 1) := by decide +kernel
theorem dJ2_checkIndex_2214a_2 : decode cJ2_checkIndex_2214a 2 = .ok (.invokestatic 48, 3) := by decide +kernel
theorem dJ2_checkIndex_2214a_5 : decode cJ2_checkIndex_2214a 5 = .ok (.invokestatic 414, 3) := by decide +kernel
theorem dJ2_checkIndex_2214a_8 : decode cJ2_checkIndex_2214a 8 = .ok (.return_, 1) := by decide +kernel
theorem dJ7_fill_53178_0 : decode cJ7_fill_53178 0 = .ok (.iconst 0, 1) := by decide +kernel
theorem dJ7_fill_53178_1 : decode cJ7_fill_53178 1 = .ok (.istore_n 2, 1) := by decide +kernel
theorem dJ7_fill_53178_2 : decode cJ7_fill_53178 2 = .ok (.aload_n 0, 1) := by decide +kernel
theorem dJ7_fill_53178_3 : decode cJ7_fill_53178 3 = .ok (.arraylength, 1) := by decide +kernel
theorem dJ7_fill_53178_4 : decode cJ7_fill_53178 4 = .ok (.istore_n 3, 1) := by decide +kernel
theorem dJ7_fill_53178_5 : decode cJ7_fill_53178 5 = .ok (.iload_n 2, 1) := by decide +kernel
theorem dJ7_fill_53178_6 : decode cJ7_fill_53178 6 = .ok (.iload_n 3, 1) := by decide +kernel
theorem dJ7_fill_53178_7 : decode cJ7_fill_53178 7 = .ok (.if_icmp .ge 13, 3) := by decide +kernel
theorem dJ7_fill_53178_10 : decode cJ7_fill_53178 10 = .ok (.aload_n 0, 1) := by decide +kernel
theorem dJ7_fill_53178_11 : decode cJ7_fill_53178 11 = .ok (.iload_n 2, 1) := by decide +kernel
theorem dJ7_fill_53178_12 : decode cJ7_fill_53178 12 = .ok (.iload_n 1, 1) := by decide +kernel
theorem dJ7_fill_53178_13 : decode cJ7_fill_53178 13 = .ok (.iastore, 1) := by decide +kernel
theorem dJ7_fill_53178_14 : decode cJ7_fill_53178 14 = .ok (.iinc 2 1, 3) := by decide +kernel
theorem dJ7_fill_53178_17 : decode cJ7_fill_53178 17 = .ok (.goto (-12), 3) := by decide +kernel
theorem dJ7_fill_53178_20 : decode cJ7_fill_53178 20 = .ok (.return_, 1) := by decide +kernel
theorem dJ3_checkIndex_8e157_0 : decode cJ3_checkIndex_8e157 0 = .ok (.iload_n 0, 1) := by decide +kernel
theorem dJ3_checkIndex_8e157_1 : decode cJ3_checkIndex_8e157 1 = .ok (.ifCond .lt 8, 3) := by decide +kernel
theorem dJ3_checkIndex_8e157_4 : decode cJ3_checkIndex_8e157 4 = .ok (.iload_n 0, 1) := by decide +kernel
theorem dJ3_checkIndex_8e157_5 : decode cJ3_checkIndex_8e157 5 = .ok (.iload_n 1, 1) := by decide +kernel
theorem dJ3_checkIndex_8e157_6 : decode cJ3_checkIndex_8e157 6 = .ok (.if_icmp .lt 10, 3) := by decide +kernel
theorem dJ3_checkIndex_8e157_9 : decode cJ3_checkIndex_8e157 9 = .ok (.aload_n 2, 1) := by decide +kernel
theorem dJ3_checkIndex_8e157_10 : decode cJ3_checkIndex_8e157 10 = .ok (.iload_n 0, 1) := by decide +kernel
theorem dJ3_checkIndex_8e157_11 : decode cJ3_checkIndex_8e157 11 = .ok (.iload_n 1, 1) := by decide +kernel
theorem dJ3_checkIndex_8e157_12 : decode cJ3_checkIndex_8e157 12 = .ok (.invokestatic 95, 3) := by decide +kernel
theorem dJ3_checkIndex_8e157_15 : decode cJ3_checkIndex_8e157 15 = .ok (.athrow, 1) := by decide +kernel
theorem dJ3_checkIndex_8e157_16 : decode cJ3_checkIndex_8e157 16 = .ok (.iload_n 0, 1) := by decide +kernel
theorem dJ3_checkIndex_8e157_17 : decode cJ3_checkIndex_8e157 17 = .ok (.ireturn, 1) := by decide +kernel
theorem dL_tables_0 : decode cL_tables 0 = .ok (.aload_n 2, 1) := by decide +kernel
theorem dL_tables_1 : decode cL_tables 1 = .ok (.iconst 0, 1) := by decide +kernel
theorem dL_tables_2 : decode cL_tables 2 = .ok (.aload_n 0, 1) := by decide +kernel
theorem dL_tables_3 : decode cL_tables 3 = .ok (.iload_n 1, 1) := by decide +kernel
theorem dL_tables_4 : decode cL_tables 4 = .ok (.invokevirtual 7, 3) := by decide +kernel
theorem dL_tables_7 : decode cL_tables 7 = .ok (.i2l, 1) := by decide +kernel
theorem dL_tables_8 : decode cL_tables 8 = .ok (.lastore, 1) := by decide +kernel
theorem dL_tables_9 : decode cL_tables 9 = .ok (.goto 6, 3) := by decide +kernel
theorem dL_tables_12 : decode cL_tables 12 = .ok (.astore_n 3, 1) := by decide +kernel
theorem dL_tables_13 : decode cL_tables 13 = .ok (.iconst 1, 1) := by decide +kernel
theorem dL_tables_14 : decode cL_tables 14 = .ok (.ireturn, 1) := by decide +kernel
theorem dL_tables_15 : decode cL_tables 15 = .ok (.iconst 0, 1) := by decide +kernel
theorem dL_tables_16 : decode cL_tables 16 = .ok (.ireturn, 1) := by decide +kernel
theorem dL_count_0 : decode cL_count 0 = .ok (.aload_n 2, 1) := by decide +kernel
theorem dL_count_1 : decode cL_count 1 = .ok (.iconst 0, 1) := by decide +kernel
theorem dL_count_2 : decode cL_count 2 = .ok (.aload_n 0, 1) := by decide +kernel
theorem dL_count_3 : decode cL_count 3 = .ok (.iload_n 1, 1) := by decide +kernel
theorem dL_count_4 : decode cL_count 4 = .ok (.invokevirtual 15, 3) := by decide +kernel
theorem dL_count_7 : decode cL_count 7 = .ok (.i2l, 1) := by decide +kernel
theorem dL_count_8 : decode cL_count 8 = .ok (.lastore, 1) := by decide +kernel
theorem dL_count_9 : decode cL_count 9 = .ok (.goto 6, 3) := by decide +kernel
theorem dL_count_12 : decode cL_count 12 = .ok (.astore_n 3, 1) := by decide +kernel
theorem dL_count_13 : decode cL_count 13 = .ok (.iconst 1, 1) := by decide +kernel
theorem dL_count_14 : decode cL_count 14 = .ok (.ireturn, 1) := by decide +kernel
theorem dL_count_15 : decode cL_count 15 = .ok (.iconst 0, 1) := by decide +kernel
theorem dL_count_16 : decode cL_count 16 = .ok (.ireturn, 1) := by decide +kernel
theorem dL_table_0 : decode cL_table 0 = .ok (.aload_n 3, 1) := by decide +kernel
theorem dL_table_1 : decode cL_table 1 = .ok (.iconst 0, 1) := by decide +kernel
theorem dL_table_2 : decode cL_table 2 = .ok (.aload_n 0, 1) := by decide +kernel
theorem dL_table_3 : decode cL_table 3 = .ok (.iload_n 1, 1) := by decide +kernel
theorem dL_table_4 : decode cL_table 4 = .ok (.iload_n 2, 1) := by decide +kernel
theorem dL_table_5 : decode cL_table 5 = .ok (.invokevirtual 20, 3) := by decide +kernel
theorem dL_table_8 : decode cL_table 8 = .ok (.i2l, 1) := by decide +kernel
theorem dL_table_9 : decode cL_table 9 = .ok (.lastore, 1) := by decide +kernel
theorem dL_table_10 : decode cL_table 10 = .ok (.goto 7, 3) := by decide +kernel
theorem dL_table_13 : decode cL_table 13 = .ok (.astore 4, 2) := by decide +kernel
theorem dL_table_15 : decode cL_table 15 = .ok (.iconst 1, 1) := by decide +kernel
theorem dL_table_16 : decode cL_table 16 = .ok (.ireturn, 1) := by decide +kernel
theorem dL_table_17 : decode cL_table 17 = .ok (.iconst 0, 1) := by decide +kernel
theorem dL_table_18 : decode cL_table 18 = .ok (.ireturn, 1) := by decide +kernel
theorem dL_column_0 : decode cL_column 0 = .ok (.aload 4, 2) := by decide +kernel
theorem dL_column_2 : decode cL_column 2 = .ok (.iconst 0, 1) := by decide +kernel
theorem dL_column_3 : decode cL_column 3 = .ok (.aload_n 0, 1) := by decide +kernel
theorem dL_column_4 : decode cL_column 4 = .ok (.iload_n 1, 1) := by decide +kernel
theorem dL_column_5 : decode cL_column 5 = .ok (.iload_n 2, 1) := by decide +kernel
theorem dL_column_6 : decode cL_column 6 = .ok (.iload_n 3, 1) := by decide +kernel
theorem dL_column_7 : decode cL_column 7 = .ok (.invokevirtual 24, 3) := by decide +kernel
theorem dL_column_10 : decode cL_column 10 = .ok (.i2l, 1) := by decide +kernel
theorem dL_column_11 : decode cL_column 11 = .ok (.lastore, 1) := by decide +kernel
theorem dL_column_12 : decode cL_column 12 = .ok (.goto 7, 3) := by decide +kernel
theorem dL_column_15 : decode cL_column 15 = .ok (.astore 5, 2) := by decide +kernel
theorem dL_column_17 : decode cL_column 17 = .ok (.iconst 1, 1) := by decide +kernel
theorem dL_column_18 : decode cL_column 18 = .ok (.ireturn, 1) := by decide +kernel
theorem dL_column_19 : decode cL_column 19 = .ok (.iconst 0, 1) := by decide +kernel
theorem dL_column_20 : decode cL_column 20 = .ok (.ireturn, 1) := by decide +kernel
theorem dL_cell_0 : decode cL_cell 0 = .ok (.aload 4, 2) := by decide +kernel
theorem dL_cell_2 : decode cL_cell 2 = .ok (.iconst 0, 1) := by decide +kernel
theorem dL_cell_3 : decode cL_cell 3 = .ok (.aload_n 0, 1) := by decide +kernel
theorem dL_cell_4 : decode cL_cell 4 = .ok (.iload_n 1, 1) := by decide +kernel
theorem dL_cell_5 : decode cL_cell 5 = .ok (.iload_n 2, 1) := by decide +kernel
theorem dL_cell_6 : decode cL_cell 6 = .ok (.iload_n 3, 1) := by decide +kernel
theorem dL_cell_7 : decode cL_cell 7 = .ok (.invokevirtual 28, 3) := by decide +kernel
theorem dL_cell_10 : decode cL_cell 10 = .ok (.i2l, 1) := by decide +kernel
theorem dL_cell_11 : decode cL_cell 11 = .ok (.lastore, 1) := by decide +kernel
theorem dL_cell_12 : decode cL_cell 12 = .ok (.goto 7, 3) := by decide +kernel
theorem dL_cell_15 : decode cL_cell 15 = .ok (.astore 5, 2) := by decide +kernel
theorem dL_cell_17 : decode cL_cell 17 = .ok (.iconst 1, 1) := by decide +kernel
theorem dL_cell_18 : decode cL_cell 18 = .ok (.ireturn, 1) := by decide +kernel
theorem dL_cell_19 : decode cL_cell 19 = .ok (.iconst 0, 1) := by decide +kernel
theorem dL_cell_20 : decode cL_cell 20 = .ok (.ireturn, 1) := by decide +kernel
theorem dL_whose_0 : decode cL_whose 0 = .ok (.aload_n 3, 1) := by decide +kernel
theorem dL_whose_1 : decode cL_whose 1 = .ok (.iconst 0, 1) := by decide +kernel
theorem dL_whose_2 : decode cL_whose 2 = .ok (.aload_n 0, 1) := by decide +kernel
theorem dL_whose_3 : decode cL_whose 3 = .ok (.iload_n 1, 1) := by decide +kernel
theorem dL_whose_4 : decode cL_whose 4 = .ok (.iload_n 2, 1) := by decide +kernel
theorem dL_whose_5 : decode cL_whose 5 = .ok (.invokevirtual 31, 3) := by decide +kernel
theorem dL_whose_8 : decode cL_whose 8 = .ok (.i2l, 1) := by decide +kernel
theorem dL_whose_9 : decode cL_whose 9 = .ok (.lastore, 1) := by decide +kernel
theorem dL_whose_10 : decode cL_whose 10 = .ok (.goto 7, 3) := by decide +kernel
theorem dL_whose_13 : decode cL_whose 13 = .ok (.astore 4, 2) := by decide +kernel
theorem dL_whose_15 : decode cL_whose 15 = .ok (.iconst 1, 1) := by decide +kernel
theorem dL_whose_16 : decode cL_whose 16 = .ok (.ireturn, 1) := by decide +kernel
theorem dL_whose_17 : decode cL_whose 17 = .ok (.iconst 0, 1) := by decide +kernel
theorem dL_whose_18 : decode cL_whose 18 = .ok (.ireturn, 1) := by decide +kernel
theorem dL_conflict_0 : decode cL_conflict 0 = .ok (.aload_n 3, 1) := by decide +kernel
theorem dL_conflict_1 : decode cL_conflict 1 = .ok (.iconst 0, 1) := by decide +kernel
theorem dL_conflict_2 : decode cL_conflict 2 = .ok (.aload_n 0, 1) := by decide +kernel
theorem dL_conflict_3 : decode cL_conflict 3 = .ok (.iload_n 1, 1) := by decide +kernel
theorem dL_conflict_4 : decode cL_conflict 4 = .ok (.iload_n 2, 1) := by decide +kernel
theorem dL_conflict_5 : decode cL_conflict 5 = .ok (.invokevirtual 34, 3) := by decide +kernel
theorem dL_conflict_8 : decode cL_conflict 8 = .ok (.i2l, 1) := by decide +kernel
theorem dL_conflict_9 : decode cL_conflict 9 = .ok (.lastore, 1) := by decide +kernel
theorem dL_conflict_10 : decode cL_conflict 10 = .ok (.goto 7, 3) := by decide +kernel
theorem dL_conflict_13 : decode cL_conflict 13 = .ok (.astore 4, 2) := by decide +kernel
theorem dL_conflict_15 : decode cL_conflict 15 = .ok (.iconst 1, 1) := by decide +kernel
theorem dL_conflict_16 : decode cL_conflict 16 = .ok (.ireturn, 1) := by decide +kernel
theorem dL_conflict_17 : decode cL_conflict 17 = .ok (.iconst 0, 1) := by decide +kernel
theorem dL_conflict_18 : decode cL_conflict 18 = .ok (.ireturn, 1) := by decide +kernel
theorem dL_set_0 : decode cL_set 0 = .ok (.aload 5, 2) := by decide +kernel
theorem dL_set_2 : decode cL_set 2 = .ok (.iconst 0, 1) := by decide +kernel
theorem dL_set_3 : decode cL_set 3 = .ok (.aload_n 0, 1) := by decide +kernel
theorem dL_set_4 : decode cL_set 4 = .ok (.iload_n 1, 1) := by decide +kernel
theorem dL_set_5 : decode cL_set 5 = .ok (.iload_n 2, 1) := by decide +kernel
theorem dL_set_6 : decode cL_set 6 = .ok (.iload_n 3, 1) := by decide +kernel
theorem dL_set_7 : decode cL_set 7 = .ok (.iload 4, 2) := by decide +kernel
theorem dL_set_9 : decode cL_set 9 = .ok (.invokevirtual 37, 3) := by decide +kernel
theorem dL_set_12 : decode cL_set 12 = .ok (.ifCond .eq 7, 3) := by decide +kernel
theorem dL_set_15 : decode cL_set 15 = .ok (.lconst 1, 1) := by decide +kernel
theorem dL_set_16 : decode cL_set 16 = .ok (.goto 4, 3) := by decide +kernel
theorem dL_set_19 : decode cL_set 19 = .ok (.lconst 0, 1) := by decide +kernel
theorem dL_set_20 : decode cL_set 20 = .ok (.lastore, 1) := by decide +kernel
theorem dL_set_21 : decode cL_set 21 = .ok (.goto 7, 3) := by decide +kernel
theorem dL_set_24 : decode cL_set 24 = .ok (.astore 6, 2) := by decide +kernel
theorem dL_set_26 : decode cL_set 26 = .ok (.iconst 1, 1) := by decide +kernel
theorem dL_set_27 : decode cL_set 27 = .ok (.ireturn, 1) := by decide +kernel
theorem dL_set_28 : decode cL_set 28 = .ok (.iconst 0, 1) := by decide +kernel
theorem dL_set_29 : decode cL_set 29 = .ok (.ireturn, 1) := by decide +kernel
theorem dL_insert_0 : decode cL_insert 0 = .ok (.aload_n 3, 1) := by decide +kernel
theorem dL_insert_1 : decode cL_insert 1 = .ok (.iconst 0, 1) := by decide +kernel
theorem dL_insert_2 : decode cL_insert 2 = .ok (.aload_n 0, 1) := by decide +kernel
theorem dL_insert_3 : decode cL_insert 3 = .ok (.iload_n 1, 1) := by decide +kernel
theorem dL_insert_4 : decode cL_insert 4 = .ok (.iload_n 2, 1) := by decide +kernel
theorem dL_insert_5 : decode cL_insert 5 = .ok (.invokevirtual 41, 3) := by decide +kernel
theorem dL_insert_8 : decode cL_insert 8 = .ok (.ifCond .eq 7, 3) := by decide +kernel
theorem dL_insert_11 : decode cL_insert 11 = .ok (.lconst 1, 1) := by decide +kernel
theorem dL_insert_12 : decode cL_insert 12 = .ok (.goto 4, 3) := by decide +kernel
theorem dL_insert_15 : decode cL_insert 15 = .ok (.lconst 0, 1) := by decide +kernel
theorem dL_insert_16 : decode cL_insert 16 = .ok (.lastore, 1) := by decide +kernel
theorem dL_insert_17 : decode cL_insert 17 = .ok (.goto 7, 3) := by decide +kernel
theorem dL_insert_20 : decode cL_insert 20 = .ok (.astore 4, 2) := by decide +kernel
theorem dL_insert_22 : decode cL_insert 22 = .ok (.iconst 1, 1) := by decide +kernel
theorem dL_insert_23 : decode cL_insert 23 = .ok (.ireturn, 1) := by decide +kernel
theorem dL_insert_24 : decode cL_insert 24 = .ok (.iconst 0, 1) := by decide +kernel
theorem dL_insert_25 : decode cL_insert 25 = .ok (.ireturn, 1) := by decide +kernel
theorem dL_delete_0 : decode cL_delete 0 = .ok (.aload_n 3, 1) := by decide +kernel
theorem dL_delete_1 : decode cL_delete 1 = .ok (.iconst 0, 1) := by decide +kernel
theorem dL_delete_2 : decode cL_delete 2 = .ok (.aload_n 0, 1) := by decide +kernel
theorem dL_delete_3 : decode cL_delete 3 = .ok (.iload_n 1, 1) := by decide +kernel
theorem dL_delete_4 : decode cL_delete 4 = .ok (.iload_n 2, 1) := by decide +kernel
theorem dL_delete_5 : decode cL_delete 5 = .ok (.invokevirtual 45, 3) := by decide +kernel
theorem dL_delete_8 : decode cL_delete 8 = .ok (.ifCond .eq 7, 3) := by decide +kernel
theorem dL_delete_11 : decode cL_delete 11 = .ok (.lconst 1, 1) := by decide +kernel
theorem dL_delete_12 : decode cL_delete 12 = .ok (.goto 4, 3) := by decide +kernel
theorem dL_delete_15 : decode cL_delete 15 = .ok (.lconst 0, 1) := by decide +kernel
theorem dL_delete_16 : decode cL_delete 16 = .ok (.lastore, 1) := by decide +kernel
theorem dL_delete_17 : decode cL_delete 17 = .ok (.goto 7, 3) := by decide +kernel
theorem dL_delete_20 : decode cL_delete 20 = .ok (.astore 4, 2) := by decide +kernel
theorem dL_delete_22 : decode cL_delete 22 = .ok (.iconst 1, 1) := by decide +kernel
theorem dL_delete_23 : decode cL_delete 23 = .ok (.ireturn, 1) := by decide +kernel
theorem dL_delete_24 : decode cL_delete 24 = .ok (.iconst 0, 1) := by decide +kernel
theorem dL_delete_25 : decode cL_delete 25 = .ok (.ireturn, 1) := by decide +kernel
theorem dL_rename_0 : decode cL_rename 0 = .ok (.aload 4, 2) := by decide +kernel
theorem dL_rename_2 : decode cL_rename 2 = .ok (.iconst 0, 1) := by decide +kernel
theorem dL_rename_3 : decode cL_rename 3 = .ok (.aload_n 0, 1) := by decide +kernel
theorem dL_rename_4 : decode cL_rename 4 = .ok (.iload_n 1, 1) := by decide +kernel
theorem dL_rename_5 : decode cL_rename 5 = .ok (.iload_n 2, 1) := by decide +kernel
theorem dL_rename_6 : decode cL_rename 6 = .ok (.iload_n 3, 1) := by decide +kernel
theorem dL_rename_7 : decode cL_rename 7 = .ok (.invokevirtual 48, 3) := by decide +kernel
theorem dL_rename_10 : decode cL_rename 10 = .ok (.ifCond .eq 7, 3) := by decide +kernel
theorem dL_rename_13 : decode cL_rename 13 = .ok (.lconst 1, 1) := by decide +kernel
theorem dL_rename_14 : decode cL_rename 14 = .ok (.goto 4, 3) := by decide +kernel
theorem dL_rename_17 : decode cL_rename 17 = .ok (.lconst 0, 1) := by decide +kernel
theorem dL_rename_18 : decode cL_rename 18 = .ok (.lastore, 1) := by decide +kernel
theorem dL_rename_19 : decode cL_rename 19 = .ok (.goto 7, 3) := by decide +kernel
theorem dL_rename_22 : decode cL_rename 22 = .ok (.astore 5, 2) := by decide +kernel
theorem dL_rename_24 : decode cL_rename 24 = .ok (.iconst 1, 1) := by decide +kernel
theorem dL_rename_25 : decode cL_rename 25 = .ok (.ireturn, 1) := by decide +kernel
theorem dL_rename_26 : decode cL_rename 26 = .ok (.iconst 0, 1) := by decide +kernel
theorem dL_rename_27 : decode cL_rename 27 = .ok (.ireturn, 1) := by decide +kernel
theorem dL_retype_0 : decode cL_retype 0 = .ok (.aload 4, 2) := by decide +kernel
theorem dL_retype_2 : decode cL_retype 2 = .ok (.iconst 0, 1) := by decide +kernel
theorem dL_retype_3 : decode cL_retype 3 = .ok (.aload_n 0, 1) := by decide +kernel
theorem dL_retype_4 : decode cL_retype 4 = .ok (.iload_n 1, 1) := by decide +kernel
theorem dL_retype_5 : decode cL_retype 5 = .ok (.iload_n 2, 1) := by decide +kernel
theorem dL_retype_6 : decode cL_retype 6 = .ok (.iload_n 3, 1) := by decide +kernel
theorem dL_retype_7 : decode cL_retype 7 = .ok (.invokevirtual 52, 3) := by decide +kernel
theorem dL_retype_10 : decode cL_retype 10 = .ok (.ifCond .eq 7, 3) := by decide +kernel
theorem dL_retype_13 : decode cL_retype 13 = .ok (.lconst 1, 1) := by decide +kernel
theorem dL_retype_14 : decode cL_retype 14 = .ok (.goto 4, 3) := by decide +kernel
theorem dL_retype_17 : decode cL_retype 17 = .ok (.lconst 0, 1) := by decide +kernel
theorem dL_retype_18 : decode cL_retype 18 = .ok (.lastore, 1) := by decide +kernel
theorem dL_retype_19 : decode cL_retype 19 = .ok (.goto 7, 3) := by decide +kernel
theorem dL_retype_22 : decode cL_retype 22 = .ok (.astore 5, 2) := by decide +kernel
theorem dL_retype_24 : decode cL_retype 24 = .ok (.iconst 1, 1) := by decide +kernel
theorem dL_retype_25 : decode cL_retype 25 = .ok (.ireturn, 1) := by decide +kernel
theorem dL_retype_26 : decode cL_retype 26 = .ok (.iconst 0, 1) := by decide +kernel
theorem dL_retype_27 : decode cL_retype 27 = .ok (.ireturn, 1) := by decide +kernel
theorem dL_add_0 : decode cL_add 0 = .ok (.aload 4, 2) := by decide +kernel
theorem dL_add_2 : decode cL_add 2 = .ok (.iconst 0, 1) := by decide +kernel
theorem dL_add_3 : decode cL_add 3 = .ok (.aload_n 0, 1) := by decide +kernel
theorem dL_add_4 : decode cL_add 4 = .ok (.iload_n 1, 1) := by decide +kernel
theorem dL_add_5 : decode cL_add 5 = .ok (.iload_n 2, 1) := by decide +kernel
theorem dL_add_6 : decode cL_add 6 = .ok (.iload_n 3, 1) := by decide +kernel
theorem dL_add_7 : decode cL_add 7 = .ok (.invokevirtual 55, 3) := by decide +kernel
theorem dL_add_10 : decode cL_add 10 = .ok (.i2l, 1) := by decide +kernel
theorem dL_add_11 : decode cL_add 11 = .ok (.lastore, 1) := by decide +kernel
theorem dL_add_12 : decode cL_add 12 = .ok (.goto 7, 3) := by decide +kernel
theorem dL_add_15 : decode cL_add 15 = .ok (.astore 5, 2) := by decide +kernel
theorem dL_add_17 : decode cL_add 17 = .ok (.iconst 1, 1) := by decide +kernel
theorem dL_add_18 : decode cL_add 18 = .ok (.ireturn, 1) := by decide +kernel
theorem dL_add_19 : decode cL_add 19 = .ok (.iconst 0, 1) := by decide +kernel
theorem dL_add_20 : decode cL_add 20 = .ok (.ireturn, 1) := by decide +kernel
theorem dL_drop_0 : decode cL_drop 0 = .ok (.aload_n 3, 1) := by decide +kernel
theorem dL_drop_1 : decode cL_drop 1 = .ok (.iconst 0, 1) := by decide +kernel
theorem dL_drop_2 : decode cL_drop 2 = .ok (.aload_n 0, 1) := by decide +kernel
theorem dL_drop_3 : decode cL_drop 3 = .ok (.iload_n 1, 1) := by decide +kernel
theorem dL_drop_4 : decode cL_drop 4 = .ok (.iload_n 2, 1) := by decide +kernel
theorem dL_drop_5 : decode cL_drop 5 = .ok (.invokevirtual 58, 3) := by decide +kernel
theorem dL_drop_8 : decode cL_drop 8 = .ok (.ifCond .eq 7, 3) := by decide +kernel
theorem dL_drop_11 : decode cL_drop 11 = .ok (.lconst 1, 1) := by decide +kernel
theorem dL_drop_12 : decode cL_drop 12 = .ok (.goto 4, 3) := by decide +kernel
theorem dL_drop_15 : decode cL_drop 15 = .ok (.lconst 0, 1) := by decide +kernel
theorem dL_drop_16 : decode cL_drop 16 = .ok (.lastore, 1) := by decide +kernel
theorem dL_drop_17 : decode cL_drop 17 = .ok (.goto 7, 3) := by decide +kernel
theorem dL_drop_20 : decode cL_drop 20 = .ok (.astore 4, 2) := by decide +kernel
theorem dL_drop_22 : decode cL_drop 22 = .ok (.iconst 1, 1) := by decide +kernel
theorem dL_drop_23 : decode cL_drop 23 = .ok (.ireturn, 1) := by decide +kernel
theorem dL_drop_24 : decode cL_drop 24 = .ok (.iconst 0, 1) := by decide +kernel
theorem dL_drop_25 : decode cL_drop 25 = .ok (.ireturn, 1) := by decide +kernel
theorem dL_difference_0 : decode cL_difference 0 = .ok (.aload_n 3, 1) := by decide +kernel
theorem dL_difference_1 : decode cL_difference 1 = .ok (.iconst 0, 1) := by decide +kernel
theorem dL_difference_2 : decode cL_difference 2 = .ok (.aload_n 0, 1) := by decide +kernel
theorem dL_difference_3 : decode cL_difference 3 = .ok (.iload_n 1, 1) := by decide +kernel
theorem dL_difference_4 : decode cL_difference 4 = .ok (.iload_n 2, 1) := by decide +kernel
theorem dL_difference_5 : decode cL_difference 5 = .ok (.invokevirtual 61, 3) := by decide +kernel
theorem dL_difference_8 : decode cL_difference 8 = .ok (.i2l, 1) := by decide +kernel
theorem dL_difference_9 : decode cL_difference 9 = .ok (.lastore, 1) := by decide +kernel
theorem dL_difference_10 : decode cL_difference 10 = .ok (.goto 7, 3) := by decide +kernel
theorem dL_difference_13 : decode cL_difference 13 = .ok (.astore 4, 2) := by decide +kernel
theorem dL_difference_15 : decode cL_difference 15 = .ok (.iconst 1, 1) := by decide +kernel
theorem dL_difference_16 : decode cL_difference 16 = .ok (.ireturn, 1) := by decide +kernel
theorem dL_difference_17 : decode cL_difference 17 = .ok (.iconst 0, 1) := by decide +kernel
theorem dL_difference_18 : decode cL_difference 18 = .ok (.ireturn, 1) := by decide +kernel
theorem dL_along_0 : decode cL_along 0 = .ok (.aload_n 3, 1) := by decide +kernel
theorem dL_along_1 : decode cL_along 1 = .ok (.iconst 0, 1) := by decide +kernel
theorem dL_along_2 : decode cL_along 2 = .ok (.aload_n 0, 1) := by decide +kernel
theorem dL_along_3 : decode cL_along 3 = .ok (.iload_n 1, 1) := by decide +kernel
theorem dL_along_4 : decode cL_along 4 = .ok (.iload_n 2, 1) := by decide +kernel
theorem dL_along_5 : decode cL_along 5 = .ok (.invokevirtual 64, 3) := by decide +kernel
theorem dL_along_8 : decode cL_along 8 = .ok (.i2l, 1) := by decide +kernel
theorem dL_along_9 : decode cL_along 9 = .ok (.lastore, 1) := by decide +kernel
theorem dL_along_10 : decode cL_along 10 = .ok (.goto 11, 3) := by decide +kernel
theorem dL_along_13 : decode cL_along 13 = .ok (.astore 4, 2) := by decide +kernel
theorem dL_along_15 : decode cL_along 15 = .ok (.iconst 1, 1) := by decide +kernel
theorem dL_along_16 : decode cL_along 16 = .ok (.ireturn, 1) := by decide +kernel
theorem dL_along_17 : decode cL_along 17 = .ok (.astore 4, 2) := by decide +kernel
theorem dL_along_19 : decode cL_along 19 = .ok (.iconst 2, 1) := by decide +kernel
theorem dL_along_20 : decode cL_along 20 = .ok (.ireturn, 1) := by decide +kernel
theorem dL_along_21 : decode cL_along 21 = .ok (.iconst 0, 1) := by decide +kernel
theorem dL_along_22 : decode cL_along 22 = .ok (.ireturn, 1) := by decide +kernel
theorem dL_alone_0 : decode cL_alone 0 = .ok (.aload_n 3, 1) := by decide +kernel
theorem dL_alone_1 : decode cL_alone 1 = .ok (.iconst 0, 1) := by decide +kernel
theorem dL_alone_2 : decode cL_alone 2 = .ok (.aload_n 0, 1) := by decide +kernel
theorem dL_alone_3 : decode cL_alone 3 = .ok (.iload_n 1, 1) := by decide +kernel
theorem dL_alone_4 : decode cL_alone 4 = .ok (.iload_n 2, 1) := by decide +kernel
theorem dL_alone_5 : decode cL_alone 5 = .ok (.invokevirtual 67, 3) := by decide +kernel
theorem dL_alone_8 : decode cL_alone 8 = .ok (.i2l, 1) := by decide +kernel
theorem dL_alone_9 : decode cL_alone 9 = .ok (.lastore, 1) := by decide +kernel
theorem dL_alone_10 : decode cL_alone 10 = .ok (.goto 7, 3) := by decide +kernel
theorem dL_alone_13 : decode cL_alone 13 = .ok (.astore 4, 2) := by decide +kernel
theorem dL_alone_15 : decode cL_alone 15 = .ok (.iconst 1, 1) := by decide +kernel
theorem dL_alone_16 : decode cL_alone 16 = .ok (.ireturn, 1) := by decide +kernel
theorem dL_alone_17 : decode cL_alone 17 = .ok (.iconst 0, 1) := by decide +kernel
theorem dL_alone_18 : decode cL_alone 18 = .ok (.ireturn, 1) := by decide +kernel
theorem dL_edited_0 : decode cL_edited 0 = .ok (.aload_n 2, 1) := by decide +kernel
theorem dL_edited_1 : decode cL_edited 1 = .ok (.iconst 0, 1) := by decide +kernel
theorem dL_edited_2 : decode cL_edited 2 = .ok (.aload_n 0, 1) := by decide +kernel
theorem dL_edited_3 : decode cL_edited 3 = .ok (.iload_n 1, 1) := by decide +kernel
theorem dL_edited_4 : decode cL_edited 4 = .ok (.invokevirtual 70, 3) := by decide +kernel
theorem dL_edited_7 : decode cL_edited 7 = .ok (.i2l, 1) := by decide +kernel
theorem dL_edited_8 : decode cL_edited 8 = .ok (.lastore, 1) := by decide +kernel
theorem dL_edited_9 : decode cL_edited 9 = .ok (.goto 6, 3) := by decide +kernel
theorem dL_edited_12 : decode cL_edited 12 = .ok (.astore_n 3, 1) := by decide +kernel
theorem dL_edited_13 : decode cL_edited 13 = .ok (.iconst 1, 1) := by decide +kernel
theorem dL_edited_14 : decode cL_edited 14 = .ok (.ireturn, 1) := by decide +kernel
theorem dL_edited_15 : decode cL_edited 15 = .ok (.iconst 0, 1) := by decide +kernel
theorem dL_edited_16 : decode cL_edited 16 = .ok (.ireturn, 1) := by decide +kernel
theorem dL_years_0 : decode cL_years 0 = .ok (.aload 4, 2) := by decide +kernel
theorem dL_years_2 : decode cL_years 2 = .ok (.iconst 0, 1) := by decide +kernel
theorem dL_years_3 : decode cL_years 3 = .ok (.aload_n 0, 1) := by decide +kernel
theorem dL_years_4 : decode cL_years 4 = .ok (.iload_n 1, 1) := by decide +kernel
theorem dL_years_5 : decode cL_years 5 = .ok (.iload_n 2, 1) := by decide +kernel
theorem dL_years_6 : decode cL_years 6 = .ok (.iload_n 3, 1) := by decide +kernel
theorem dL_years_7 : decode cL_years 7 = .ok (.invokevirtual 73, 3) := by decide +kernel
theorem dL_years_10 : decode cL_years 10 = .ok (.i2l, 1) := by decide +kernel
theorem dL_years_11 : decode cL_years 11 = .ok (.lastore, 1) := by decide +kernel
theorem dL_years_12 : decode cL_years 12 = .ok (.goto 11, 3) := by decide +kernel
theorem dL_years_15 : decode cL_years 15 = .ok (.astore 5, 2) := by decide +kernel
theorem dL_years_17 : decode cL_years 17 = .ok (.iconst 1, 1) := by decide +kernel
theorem dL_years_18 : decode cL_years 18 = .ok (.ireturn, 1) := by decide +kernel
theorem dL_years_19 : decode cL_years 19 = .ok (.astore 5, 2) := by decide +kernel
theorem dL_years_21 : decode cL_years 21 = .ok (.iconst 2, 1) := by decide +kernel
theorem dL_years_22 : decode cL_years 22 = .ok (.ireturn, 1) := by decide +kernel
theorem dL_years_23 : decode cL_years 23 = .ok (.iconst 0, 1) := by decide +kernel
theorem dL_years_24 : decode cL_years 24 = .ok (.ireturn, 1) := by decide +kernel
theorem dL_law_0 : decode cL_law 0 = .ok (.new 8, 3) := by decide +kernel
theorem dL_law_3 : decode cL_law 3 = .ok (.dup, 1) := by decide +kernel
theorem dL_law_4 : decode cL_law 4 = .ok (.invokespecial 76, 3) := by decide +kernel
theorem dL_law_7 : decode cL_law 7 = .ok (.astore_n 1, 1) := by decide +kernel
theorem dL_law_8 : decode cL_law 8 = .ok (.new 77, 3) := by decide +kernel
theorem dL_law_11 : decode cL_law 11 = .ok (.dup, 1) := by decide +kernel
theorem dL_law_12 : decode cL_law 12 = .ok (.invokespecial 79, 3) := by decide +kernel
theorem dL_law_15 : decode cL_law 15 = .ok (.astore_n 2, 1) := by decide +kernel
theorem dL_law_16 : decode cL_law 16 = .ok (.iconst 1, 1) := by decide +kernel
theorem dL_law_17 : decode cL_law 17 = .ok (.newarray .long, 2) := by decide +kernel
theorem dL_law_19 : decode cL_law 19 = .ok (.astore_n 3, 1) := by decide +kernel
theorem dL_law_20 : decode cL_law 20 = .ok (.iconst 0, 1) := by decide +kernel
theorem dL_law_21 : decode cL_law 21 = .ok (.istore 4, 2) := by decide +kernel
theorem dL_law_23 : decode cL_law 23 = .ok (.iload 4, 2) := by decide +kernel
theorem dL_law_25 : decode cL_law 25 = .ok (.aload_n 0, 1) := by decide +kernel
theorem dL_law_26 : decode cL_law 26 = .ok (.arraylength, 1) := by decide +kernel
theorem dL_law_27 : decode cL_law 27 = .ok (.bipush 6, 2) := by decide +kernel
theorem dL_law_29 : decode cL_law 29 = .ok (.isub, 1) := by decide +kernel
theorem dL_law_30 : decode cL_law 30 = .ok (.if_icmp .gt 1863, 3) := by decide +kernel
theorem dL_law_33 : decode cL_law 33 = .ok (.aload_n 0, 1) := by decide +kernel
theorem dL_law_34 : decode cL_law 34 = .ok (.iload 4, 2) := by decide +kernel
theorem dL_law_36 : decode cL_law 36 = .ok (.iaload, 1) := by decide +kernel
theorem dL_law_37 : decode cL_law 37 = .ok (.bipush 31, 2) := by decide +kernel
theorem dL_law_39 : decode cL_law 39 = .ok (.iand, 1) := by decide +kernel
theorem dL_law_40 : decode cL_law 40 = .ok (.tableswitch 1847 0 29 #[136, 209, 265, 278, 334, 402, 482, 562, 630, 698, 797, 872, 947, 1034, 1121, 1201, 1276, 1337, 1386, 1397, 1410, 1423, 1491, 1559, 1627, 1676, 1687, 1743, 1823, 1834], 136) := by decide +kernel
theorem dL_law_176 : decode cL_law 176 = .ok (.aload_n 1, 1) := by decide +kernel
theorem dL_law_177 : decode cL_law 177 = .ok (.aload_n 0, 1) := by decide +kernel
theorem dL_law_178 : decode cL_law 178 = .ok (.iload 4, 2) := by decide +kernel
theorem dL_law_180 : decode cL_law 180 = .ok (.iconst 1, 1) := by decide +kernel
theorem dL_law_181 : decode cL_law 181 = .ok (.iadd, 1) := by decide +kernel
theorem dL_law_182 : decode cL_law 182 = .ok (.iaload, 1) := by decide +kernel
theorem dL_law_183 : decode cL_law 183 = .ok (.aload_n 0, 1) := by decide +kernel
theorem dL_law_184 : decode cL_law 184 = .ok (.iload 4, 2) := by decide +kernel
theorem dL_law_186 : decode cL_law 186 = .ok (.iconst 2, 1) := by decide +kernel
theorem dL_law_187 : decode cL_law 187 = .ok (.iadd, 1) := by decide +kernel
theorem dL_law_188 : decode cL_law 188 = .ok (.iaload, 1) := by decide +kernel
theorem dL_law_189 : decode cL_law 189 = .ok (.aload_n 0, 1) := by decide +kernel
theorem dL_law_190 : decode cL_law 190 = .ok (.iload 4, 2) := by decide +kernel
theorem dL_law_192 : decode cL_law 192 = .ok (.iconst 3, 1) := by decide +kernel
theorem dL_law_193 : decode cL_law 193 = .ok (.iadd, 1) := by decide +kernel
theorem dL_law_194 : decode cL_law 194 = .ok (.iaload, 1) := by decide +kernel
theorem dL_law_195 : decode cL_law 195 = .ok (.aload_n 0, 1) := by decide +kernel
theorem dL_law_196 : decode cL_law 196 = .ok (.iload 4, 2) := by decide +kernel
theorem dL_law_198 : decode cL_law 198 = .ok (.iconst 4, 1) := by decide +kernel
theorem dL_law_199 : decode cL_law 199 = .ok (.iadd, 1) := by decide +kernel
theorem dL_law_200 : decode cL_law 200 = .ok (.iaload, 1) := by decide +kernel
theorem dL_law_201 : decode cL_law 201 = .ok (.aload_n 0, 1) := by decide +kernel
theorem dL_law_202 : decode cL_law 202 = .ok (.iload 4, 2) := by decide +kernel
theorem dL_law_204 : decode cL_law 204 = .ok (.iconst 5, 1) := by decide +kernel
theorem dL_law_205 : decode cL_law 205 = .ok (.iadd, 1) := by decide +kernel
theorem dL_law_206 : decode cL_law 206 = .ok (.iaload, 1) := by decide +kernel
theorem dL_law_207 : decode cL_law 207 = .ok (.invokevirtual 80, 3) := by decide +kernel
theorem dL_law_210 : decode cL_law 210 = .ok (.aload_n 2, 1) := by decide +kernel
theorem dL_law_211 : decode cL_law 211 = .ok (.aload_n 0, 1) := by decide +kernel
theorem dL_law_212 : decode cL_law 212 = .ok (.iload 4, 2) := by decide +kernel
theorem dL_law_214 : decode cL_law 214 = .ok (.iconst 1, 1) := by decide +kernel
theorem dL_law_215 : decode cL_law 215 = .ok (.iadd, 1) := by decide +kernel
theorem dL_law_216 : decode cL_law 216 = .ok (.iaload, 1) := by decide +kernel
theorem dL_law_217 : decode cL_law 217 = .ok (.aload_n 0, 1) := by decide +kernel
theorem dL_law_218 : decode cL_law 218 = .ok (.iload 4, 2) := by decide +kernel
theorem dL_law_220 : decode cL_law 220 = .ok (.iconst 2, 1) := by decide +kernel
theorem dL_law_221 : decode cL_law 221 = .ok (.iadd, 1) := by decide +kernel
theorem dL_law_222 : decode cL_law 222 = .ok (.iaload, 1) := by decide +kernel
theorem dL_law_223 : decode cL_law 223 = .ok (.aload_n 0, 1) := by decide +kernel
theorem dL_law_224 : decode cL_law 224 = .ok (.iload 4, 2) := by decide +kernel
theorem dL_law_226 : decode cL_law 226 = .ok (.iconst 3, 1) := by decide +kernel
theorem dL_law_227 : decode cL_law 227 = .ok (.iadd, 1) := by decide +kernel
theorem dL_law_228 : decode cL_law 228 = .ok (.iaload, 1) := by decide +kernel
theorem dL_law_229 : decode cL_law 229 = .ok (.aload_n 0, 1) := by decide +kernel
theorem dL_law_230 : decode cL_law 230 = .ok (.iload 4, 2) := by decide +kernel
theorem dL_law_232 : decode cL_law 232 = .ok (.iconst 4, 1) := by decide +kernel
theorem dL_law_233 : decode cL_law 233 = .ok (.iadd, 1) := by decide +kernel
theorem dL_law_234 : decode cL_law 234 = .ok (.iaload, 1) := by decide +kernel
theorem dL_law_235 : decode cL_law 235 = .ok (.aload_n 0, 1) := by decide +kernel
theorem dL_law_236 : decode cL_law 236 = .ok (.iload 4, 2) := by decide +kernel
theorem dL_law_238 : decode cL_law 238 = .ok (.iconst 5, 1) := by decide +kernel
theorem dL_law_239 : decode cL_law 239 = .ok (.iadd, 1) := by decide +kernel
theorem dL_law_240 : decode cL_law 240 = .ok (.iaload, 1) := by decide +kernel
theorem dL_law_241 : decode cL_law 241 = .ok (.invokevirtual 84, 3) := by decide +kernel
theorem dL_law_244 : decode cL_law 244 = .ok (.if_icmp .eq 1643, 3) := by decide +kernel
theorem dL_law_247 : decode cL_law 247 = .ok (.iconst 0, 1) := by decide +kernel
theorem dL_law_248 : decode cL_law 248 = .ok (.ireturn, 1) := by decide +kernel
theorem dL_law_249 : decode cL_law 249 = .ok (.aload_n 1, 1) := by decide +kernel
theorem dL_law_250 : decode cL_law 250 = .ok (.aload_n 0, 1) := by decide +kernel
theorem dL_law_251 : decode cL_law 251 = .ok (.iload 4, 2) := by decide +kernel
theorem dL_law_253 : decode cL_law 253 = .ok (.iconst 1, 1) := by decide +kernel
theorem dL_law_254 : decode cL_law 254 = .ok (.iadd, 1) := by decide +kernel
theorem dL_law_255 : decode cL_law 255 = .ok (.iaload, 1) := by decide +kernel
theorem dL_law_256 : decode cL_law 256 = .ok (.aload_n 3, 1) := by decide +kernel
theorem dL_law_257 : decode cL_law 257 = .ok (.invokestatic 85, 3) := by decide +kernel
theorem dL_law_260 : decode cL_law 260 = .ok (.istore 5, 2) := by decide +kernel
theorem dL_law_262 : decode cL_law 262 = .ok (.aload_n 2, 1) := by decide +kernel
theorem dL_law_263 : decode cL_law 263 = .ok (.aload_n 0, 1) := by decide +kernel
theorem dL_law_264 : decode cL_law 264 = .ok (.iload 4, 2) := by decide +kernel
theorem dL_law_266 : decode cL_law 266 = .ok (.iconst 1, 1) := by decide +kernel
theorem dL_law_267 : decode cL_law 267 = .ok (.iadd, 1) := by decide +kernel
theorem dL_law_268 : decode cL_law 268 = .ok (.iaload, 1) := by decide +kernel
theorem dL_law_269 : decode cL_law 269 = .ok (.invokevirtual 90, 3) := by decide +kernel
theorem dL_law_272 : decode cL_law 272 = .ok (.istore 6, 2) := by decide +kernel
theorem dL_law_274 : decode cL_law 274 = .ok (.aload_n 2, 1) := by decide +kernel
theorem dL_law_275 : decode cL_law 275 = .ok (.invokevirtual 91, 3) := by decide +kernel
theorem dL_law_278 : decode cL_law 278 = .ok (.iload 5, 2) := by decide +kernel
theorem dL_law_280 : decode cL_law 280 = .ok (.if_icmp .eq 5, 3) := by decide +kernel
theorem dL_law_283 : decode cL_law 283 = .ok (.iconst 0, 1) := by decide +kernel
theorem dL_law_284 : decode cL_law 284 = .ok (.ireturn, 1) := by decide +kernel
theorem dL_law_285 : decode cL_law 285 = .ok (.iload 5, 2) := by decide +kernel
theorem dL_law_287 : decode cL_law 287 = .ok (.ifCond .ne 15, 3) := by decide +kernel
theorem dL_law_290 : decode cL_law 290 = .ok (.aload_n 3, 1) := by decide +kernel
theorem dL_law_291 : decode cL_law 291 = .ok (.iconst 0, 1) := by decide +kernel
theorem dL_law_292 : decode cL_law 292 = .ok (.laload, 1) := by decide +kernel
theorem dL_law_293 : decode cL_law 293 = .ok (.iload 6, 2) := by decide +kernel
theorem dL_law_295 : decode cL_law 295 = .ok (.i2l, 1) := by decide +kernel
theorem dL_law_296 : decode cL_law 296 = .ok (.lcmp, 1) := by decide +kernel
theorem dL_law_297 : decode cL_law 297 = .ok (.ifCond .eq 5, 3) := by decide +kernel
theorem dL_law_300 : decode cL_law 300 = .ok (.iconst 0, 1) := by decide +kernel
theorem dL_law_301 : decode cL_law 301 = .ok (.ireturn, 1) := by decide +kernel
theorem dL_law_302 : decode cL_law 302 = .ok (.goto 1585, 3) := by decide +kernel
theorem dL_law_305 : decode cL_law 305 = .ok (.aload_n 1, 1) := by decide +kernel
theorem dL_law_306 : decode cL_law 306 = .ok (.invokevirtual 95, 3) := by decide +kernel
theorem dL_law_309 : decode cL_law 309 = .ok (.aload_n 2, 1) := by decide +kernel
theorem dL_law_310 : decode cL_law 310 = .ok (.invokevirtual 98, 3) := by decide +kernel
theorem dL_law_313 : decode cL_law 313 = .ok (.if_icmp .eq 1574, 3) := by decide +kernel
theorem dL_law_316 : decode cL_law 316 = .ok (.iconst 0, 1) := by decide +kernel
theorem dL_law_317 : decode cL_law 317 = .ok (.ireturn, 1) := by decide +kernel
theorem dL_law_318 : decode cL_law 318 = .ok (.aload_n 1, 1) := by decide +kernel
theorem dL_law_319 : decode cL_law 319 = .ok (.aload_n 0, 1) := by decide +kernel
theorem dL_law_320 : decode cL_law 320 = .ok (.iload 4, 2) := by decide +kernel
theorem dL_law_322 : decode cL_law 322 = .ok (.iconst 1, 1) := by decide +kernel
theorem dL_law_323 : decode cL_law 323 = .ok (.iadd, 1) := by decide +kernel
theorem dL_law_324 : decode cL_law 324 = .ok (.iaload, 1) := by decide +kernel
theorem dL_law_325 : decode cL_law 325 = .ok (.aload_n 3, 1) := by decide +kernel
theorem dL_law_326 : decode cL_law 326 = .ok (.invokestatic 99, 3) := by decide +kernel
theorem dL_law_329 : decode cL_law 329 = .ok (.istore 5, 2) := by decide +kernel
theorem dL_law_331 : decode cL_law 331 = .ok (.aload_n 2, 1) := by decide +kernel
theorem dL_law_332 : decode cL_law 332 = .ok (.aload_n 0, 1) := by decide +kernel
theorem dL_law_333 : decode cL_law 333 = .ok (.iload 4, 2) := by decide +kernel
theorem dL_law_335 : decode cL_law 335 = .ok (.iconst 1, 1) := by decide +kernel
theorem dL_law_336 : decode cL_law 336 = .ok (.iadd, 1) := by decide +kernel
theorem dL_law_337 : decode cL_law 337 = .ok (.iaload, 1) := by decide +kernel
theorem dL_law_338 : decode cL_law 338 = .ok (.invokevirtual 101, 3) := by decide +kernel
theorem dL_law_341 : decode cL_law 341 = .ok (.istore 6, 2) := by decide +kernel
theorem dL_law_343 : decode cL_law 343 = .ok (.aload_n 2, 1) := by decide +kernel
theorem dL_law_344 : decode cL_law 344 = .ok (.invokevirtual 91, 3) := by decide +kernel
theorem dL_law_347 : decode cL_law 347 = .ok (.iload 5, 2) := by decide +kernel
theorem dL_law_349 : decode cL_law 349 = .ok (.if_icmp .eq 5, 3) := by decide +kernel
theorem dL_law_352 : decode cL_law 352 = .ok (.iconst 0, 1) := by decide +kernel
theorem dL_law_353 : decode cL_law 353 = .ok (.ireturn, 1) := by decide +kernel
theorem dL_law_354 : decode cL_law 354 = .ok (.iload 5, 2) := by decide +kernel
theorem dL_law_356 : decode cL_law 356 = .ok (.ifCond .ne 15, 3) := by decide +kernel
theorem dL_law_359 : decode cL_law 359 = .ok (.aload_n 3, 1) := by decide +kernel
theorem dL_law_360 : decode cL_law 360 = .ok (.iconst 0, 1) := by decide +kernel
theorem dL_law_361 : decode cL_law 361 = .ok (.laload, 1) := by decide +kernel
theorem dL_law_362 : decode cL_law 362 = .ok (.iload 6, 2) := by decide +kernel
theorem dL_law_364 : decode cL_law 364 = .ok (.i2l, 1) := by decide +kernel
theorem dL_law_365 : decode cL_law 365 = .ok (.lcmp, 1) := by decide +kernel
theorem dL_law_366 : decode cL_law 366 = .ok (.ifCond .eq 5, 3) := by decide +kernel
theorem dL_law_369 : decode cL_law 369 = .ok (.iconst 0, 1) := by decide +kernel
theorem dL_law_370 : decode cL_law 370 = .ok (.ireturn, 1) := by decide +kernel
theorem dL_law_371 : decode cL_law 371 = .ok (.goto 1516, 3) := by decide +kernel
theorem dL_law_374 : decode cL_law 374 = .ok (.aload_n 1, 1) := by decide +kernel
theorem dL_law_375 : decode cL_law 375 = .ok (.aload_n 0, 1) := by decide +kernel
theorem dL_law_376 : decode cL_law 376 = .ok (.iload 4, 2) := by decide +kernel
theorem dL_law_378 : decode cL_law 378 = .ok (.iconst 1, 1) := by decide +kernel
theorem dL_law_379 : decode cL_law 379 = .ok (.iadd, 1) := by decide +kernel
theorem dL_law_380 : decode cL_law 380 = .ok (.iaload, 1) := by decide +kernel
theorem dL_law_381 : decode cL_law 381 = .ok (.aload_n 0, 1) := by decide +kernel
theorem dL_law_382 : decode cL_law 382 = .ok (.iload 4, 2) := by decide +kernel
theorem dL_law_384 : decode cL_law 384 = .ok (.iconst 2, 1) := by decide +kernel
theorem dL_law_385 : decode cL_law 385 = .ok (.iadd, 1) := by decide +kernel
theorem dL_law_386 : decode cL_law 386 = .ok (.iaload, 1) := by decide +kernel
theorem dL_law_387 : decode cL_law 387 = .ok (.aload_n 3, 1) := by decide +kernel
theorem dL_law_388 : decode cL_law 388 = .ok (.invokestatic 102, 3) := by decide +kernel
theorem dL_law_391 : decode cL_law 391 = .ok (.istore 5, 2) := by decide +kernel
theorem dL_law_393 : decode cL_law 393 = .ok (.aload_n 2, 1) := by decide +kernel
theorem dL_law_394 : decode cL_law 394 = .ok (.aload_n 0, 1) := by decide +kernel
theorem dL_law_395 : decode cL_law 395 = .ok (.iload 4, 2) := by decide +kernel
theorem dL_law_397 : decode cL_law 397 = .ok (.iconst 1, 1) := by decide +kernel
theorem dL_law_398 : decode cL_law 398 = .ok (.iadd, 1) := by decide +kernel
theorem dL_law_399 : decode cL_law 399 = .ok (.iaload, 1) := by decide +kernel
theorem dL_law_400 : decode cL_law 400 = .ok (.aload_n 0, 1) := by decide +kernel
theorem dL_law_401 : decode cL_law 401 = .ok (.iload 4, 2) := by decide +kernel
theorem dL_law_403 : decode cL_law 403 = .ok (.iconst 2, 1) := by decide +kernel
theorem dL_law_404 : decode cL_law 404 = .ok (.iadd, 1) := by decide +kernel
theorem dL_law_405 : decode cL_law 405 = .ok (.iaload, 1) := by decide +kernel
theorem dL_law_406 : decode cL_law 406 = .ok (.invokevirtual 105, 3) := by decide +kernel
theorem dL_law_409 : decode cL_law 409 = .ok (.istore 6, 2) := by decide +kernel
theorem dL_law_411 : decode cL_law 411 = .ok (.aload_n 2, 1) := by decide +kernel
theorem dL_law_412 : decode cL_law 412 = .ok (.invokevirtual 91, 3) := by decide +kernel
theorem dL_law_415 : decode cL_law 415 = .ok (.iload 5, 2) := by decide +kernel
theorem dL_law_417 : decode cL_law 417 = .ok (.if_icmp .eq 5, 3) := by decide +kernel
theorem dL_law_420 : decode cL_law 420 = .ok (.iconst 0, 1) := by decide +kernel
theorem dL_law_421 : decode cL_law 421 = .ok (.ireturn, 1) := by decide +kernel
theorem dL_law_422 : decode cL_law 422 = .ok (.iload 5, 2) := by decide +kernel
theorem dL_law_424 : decode cL_law 424 = .ok (.ifCond .ne 15, 3) := by decide +kernel
theorem dL_law_427 : decode cL_law 427 = .ok (.aload_n 3, 1) := by decide +kernel
theorem dL_law_428 : decode cL_law 428 = .ok (.iconst 0, 1) := by decide +kernel
theorem dL_law_429 : decode cL_law 429 = .ok (.laload, 1) := by decide +kernel
theorem dL_law_430 : decode cL_law 430 = .ok (.iload 6, 2) := by decide +kernel
theorem dL_law_432 : decode cL_law 432 = .ok (.i2l, 1) := by decide +kernel
theorem dL_law_433 : decode cL_law 433 = .ok (.lcmp, 1) := by decide +kernel
theorem dL_law_434 : decode cL_law 434 = .ok (.ifCond .eq 5, 3) := by decide +kernel
theorem dL_law_437 : decode cL_law 437 = .ok (.iconst 0, 1) := by decide +kernel
theorem dL_law_438 : decode cL_law 438 = .ok (.ireturn, 1) := by decide +kernel
theorem dL_law_439 : decode cL_law 439 = .ok (.goto 1448, 3) := by decide +kernel
theorem dL_law_442 : decode cL_law 442 = .ok (.aload_n 1, 1) := by decide +kernel
theorem dL_law_443 : decode cL_law 443 = .ok (.aload_n 0, 1) := by decide +kernel
theorem dL_law_444 : decode cL_law 444 = .ok (.iload 4, 2) := by decide +kernel
theorem dL_law_446 : decode cL_law 446 = .ok (.iconst 1, 1) := by decide +kernel
theorem dL_law_447 : decode cL_law 447 = .ok (.iadd, 1) := by decide +kernel
theorem dL_law_448 : decode cL_law 448 = .ok (.iaload, 1) := by decide +kernel
theorem dL_law_449 : decode cL_law 449 = .ok (.aload_n 0, 1) := by decide +kernel
theorem dL_law_450 : decode cL_law 450 = .ok (.iload 4, 2) := by decide +kernel
theorem dL_law_452 : decode cL_law 452 = .ok (.iconst 2, 1) := by decide +kernel
theorem dL_law_453 : decode cL_law 453 = .ok (.iadd, 1) := by decide +kernel
theorem dL_law_454 : decode cL_law 454 = .ok (.iaload, 1) := by decide +kernel
theorem dL_law_455 : decode cL_law 455 = .ok (.aload_n 0, 1) := by decide +kernel
theorem dL_law_456 : decode cL_law 456 = .ok (.iload 4, 2) := by decide +kernel
theorem dL_law_458 : decode cL_law 458 = .ok (.iconst 3, 1) := by decide +kernel
theorem dL_law_459 : decode cL_law 459 = .ok (.iadd, 1) := by decide +kernel
theorem dL_law_460 : decode cL_law 460 = .ok (.iaload, 1) := by decide +kernel
theorem dL_law_461 : decode cL_law 461 = .ok (.aload_n 3, 1) := by decide +kernel
theorem dL_law_462 : decode cL_law 462 = .ok (.invokestatic 106, 3) := by decide +kernel
theorem dL_law_465 : decode cL_law 465 = .ok (.istore 5, 2) := by decide +kernel
theorem dL_law_467 : decode cL_law 467 = .ok (.aload_n 2, 1) := by decide +kernel
theorem dL_law_468 : decode cL_law 468 = .ok (.aload_n 0, 1) := by decide +kernel
theorem dL_law_469 : decode cL_law 469 = .ok (.iload 4, 2) := by decide +kernel
theorem dL_law_471 : decode cL_law 471 = .ok (.iconst 1, 1) := by decide +kernel
theorem dL_law_472 : decode cL_law 472 = .ok (.iadd, 1) := by decide +kernel
theorem dL_law_473 : decode cL_law 473 = .ok (.iaload, 1) := by decide +kernel
theorem dL_law_474 : decode cL_law 474 = .ok (.aload_n 0, 1) := by decide +kernel
theorem dL_law_475 : decode cL_law 475 = .ok (.iload 4, 2) := by decide +kernel
theorem dL_law_477 : decode cL_law 477 = .ok (.iconst 2, 1) := by decide +kernel
theorem dL_law_478 : decode cL_law 478 = .ok (.iadd, 1) := by decide +kernel
theorem dL_law_479 : decode cL_law 479 = .ok (.iaload, 1) := by decide +kernel
theorem dL_law_480 : decode cL_law 480 = .ok (.aload_n 0, 1) := by decide +kernel
theorem dL_law_481 : decode cL_law 481 = .ok (.iload 4, 2) := by decide +kernel
theorem dL_law_483 : decode cL_law 483 = .ok (.iconst 3, 1) := by decide +kernel
theorem dL_law_484 : decode cL_law 484 = .ok (.iadd, 1) := by decide +kernel
theorem dL_law_485 : decode cL_law 485 = .ok (.iaload, 1) := by decide +kernel
theorem dL_law_486 : decode cL_law 486 = .ok (.invokevirtual 109, 3) := by decide +kernel
theorem dL_law_489 : decode cL_law 489 = .ok (.istore 6, 2) := by decide +kernel
theorem dL_law_491 : decode cL_law 491 = .ok (.aload_n 2, 1) := by decide +kernel
theorem dL_law_492 : decode cL_law 492 = .ok (.invokevirtual 91, 3) := by decide +kernel
theorem dL_law_495 : decode cL_law 495 = .ok (.iload 5, 2) := by decide +kernel
theorem dL_law_497 : decode cL_law 497 = .ok (.if_icmp .eq 5, 3) := by decide +kernel
theorem dL_law_500 : decode cL_law 500 = .ok (.iconst 0, 1) := by decide +kernel
theorem dL_law_501 : decode cL_law 501 = .ok (.ireturn, 1) := by decide +kernel
theorem dL_law_502 : decode cL_law 502 = .ok (.iload 5, 2) := by decide +kernel
theorem dL_law_504 : decode cL_law 504 = .ok (.ifCond .ne 15, 3) := by decide +kernel
theorem dL_law_507 : decode cL_law 507 = .ok (.aload_n 3, 1) := by decide +kernel
theorem dL_law_508 : decode cL_law 508 = .ok (.iconst 0, 1) := by decide +kernel
theorem dL_law_509 : decode cL_law 509 = .ok (.laload, 1) := by decide +kernel
theorem dL_law_510 : decode cL_law 510 = .ok (.iload 6, 2) := by decide +kernel
theorem dL_law_512 : decode cL_law 512 = .ok (.i2l, 1) := by decide +kernel
theorem dL_law_513 : decode cL_law 513 = .ok (.lcmp, 1) := by decide +kernel
theorem dL_law_514 : decode cL_law 514 = .ok (.ifCond .eq 5, 3) := by decide +kernel
theorem dL_law_517 : decode cL_law 517 = .ok (.iconst 0, 1) := by decide +kernel
theorem dL_law_518 : decode cL_law 518 = .ok (.ireturn, 1) := by decide +kernel
theorem dL_law_519 : decode cL_law 519 = .ok (.goto 1368, 3) := by decide +kernel
theorem dL_law_522 : decode cL_law 522 = .ok (.aload_n 1, 1) := by decide +kernel
theorem dL_law_523 : decode cL_law 523 = .ok (.aload_n 0, 1) := by decide +kernel
theorem dL_law_524 : decode cL_law 524 = .ok (.iload 4, 2) := by decide +kernel
theorem dL_law_526 : decode cL_law 526 = .ok (.iconst 1, 1) := by decide +kernel
theorem dL_law_527 : decode cL_law 527 = .ok (.iadd, 1) := by decide +kernel
theorem dL_law_528 : decode cL_law 528 = .ok (.iaload, 1) := by decide +kernel
theorem dL_law_529 : decode cL_law 529 = .ok (.aload_n 0, 1) := by decide +kernel
theorem dL_law_530 : decode cL_law 530 = .ok (.iload 4, 2) := by decide +kernel
theorem dL_law_532 : decode cL_law 532 = .ok (.iconst 2, 1) := by decide +kernel
theorem dL_law_533 : decode cL_law 533 = .ok (.iadd, 1) := by decide +kernel
theorem dL_law_534 : decode cL_law 534 = .ok (.iaload, 1) := by decide +kernel
theorem dL_law_535 : decode cL_law 535 = .ok (.aload_n 0, 1) := by decide +kernel
theorem dL_law_536 : decode cL_law 536 = .ok (.iload 4, 2) := by decide +kernel
theorem dL_law_538 : decode cL_law 538 = .ok (.iconst 3, 1) := by decide +kernel
theorem dL_law_539 : decode cL_law 539 = .ok (.iadd, 1) := by decide +kernel
theorem dL_law_540 : decode cL_law 540 = .ok (.iaload, 1) := by decide +kernel
theorem dL_law_541 : decode cL_law 541 = .ok (.aload_n 3, 1) := by decide +kernel
theorem dL_law_542 : decode cL_law 542 = .ok (.invokestatic 110, 3) := by decide +kernel
theorem dL_law_545 : decode cL_law 545 = .ok (.istore 5, 2) := by decide +kernel
theorem dL_law_547 : decode cL_law 547 = .ok (.aload_n 2, 1) := by decide +kernel
theorem dL_law_548 : decode cL_law 548 = .ok (.aload_n 0, 1) := by decide +kernel
theorem dL_law_549 : decode cL_law 549 = .ok (.iload 4, 2) := by decide +kernel
theorem dL_law_551 : decode cL_law 551 = .ok (.iconst 1, 1) := by decide +kernel
theorem dL_law_552 : decode cL_law 552 = .ok (.iadd, 1) := by decide +kernel
theorem dL_law_553 : decode cL_law 553 = .ok (.iaload, 1) := by decide +kernel
theorem dL_law_554 : decode cL_law 554 = .ok (.aload_n 0, 1) := by decide +kernel
theorem dL_law_555 : decode cL_law 555 = .ok (.iload 4, 2) := by decide +kernel
theorem dL_law_557 : decode cL_law 557 = .ok (.iconst 2, 1) := by decide +kernel
theorem dL_law_558 : decode cL_law 558 = .ok (.iadd, 1) := by decide +kernel
theorem dL_law_559 : decode cL_law 559 = .ok (.iaload, 1) := by decide +kernel
theorem dL_law_560 : decode cL_law 560 = .ok (.aload_n 0, 1) := by decide +kernel
theorem dL_law_561 : decode cL_law 561 = .ok (.iload 4, 2) := by decide +kernel
theorem dL_law_563 : decode cL_law 563 = .ok (.iconst 3, 1) := by decide +kernel
theorem dL_law_564 : decode cL_law 564 = .ok (.iadd, 1) := by decide +kernel
theorem dL_law_565 : decode cL_law 565 = .ok (.iaload, 1) := by decide +kernel
theorem dL_law_566 : decode cL_law 566 = .ok (.invokevirtual 112, 3) := by decide +kernel
theorem dL_law_569 : decode cL_law 569 = .ok (.istore 6, 2) := by decide +kernel
theorem dL_law_571 : decode cL_law 571 = .ok (.aload_n 2, 1) := by decide +kernel
theorem dL_law_572 : decode cL_law 572 = .ok (.invokevirtual 91, 3) := by decide +kernel
theorem dL_law_575 : decode cL_law 575 = .ok (.iload 5, 2) := by decide +kernel
theorem dL_law_577 : decode cL_law 577 = .ok (.if_icmp .eq 5, 3) := by decide +kernel
theorem dL_law_580 : decode cL_law 580 = .ok (.iconst 0, 1) := by decide +kernel
theorem dL_law_581 : decode cL_law 581 = .ok (.ireturn, 1) := by decide +kernel
theorem dL_law_582 : decode cL_law 582 = .ok (.iload 5, 2) := by decide +kernel
theorem dL_law_584 : decode cL_law 584 = .ok (.ifCond .ne 15, 3) := by decide +kernel
theorem dL_law_587 : decode cL_law 587 = .ok (.aload_n 3, 1) := by decide +kernel
theorem dL_law_588 : decode cL_law 588 = .ok (.iconst 0, 1) := by decide +kernel
theorem dL_law_589 : decode cL_law 589 = .ok (.laload, 1) := by decide +kernel
theorem dL_law_590 : decode cL_law 590 = .ok (.iload 6, 2) := by decide +kernel
theorem dL_law_592 : decode cL_law 592 = .ok (.i2l, 1) := by decide +kernel
theorem dL_law_593 : decode cL_law 593 = .ok (.lcmp, 1) := by decide +kernel
theorem dL_law_594 : decode cL_law 594 = .ok (.ifCond .eq 5, 3) := by decide +kernel
theorem dL_law_597 : decode cL_law 597 = .ok (.iconst 0, 1) := by decide +kernel
theorem dL_law_598 : decode cL_law 598 = .ok (.ireturn, 1) := by decide +kernel
theorem dL_law_599 : decode cL_law 599 = .ok (.goto 1288, 3) := by decide +kernel
theorem dL_law_602 : decode cL_law 602 = .ok (.aload_n 1, 1) := by decide +kernel
theorem dL_law_603 : decode cL_law 603 = .ok (.aload_n 0, 1) := by decide +kernel
theorem dL_law_604 : decode cL_law 604 = .ok (.iload 4, 2) := by decide +kernel
theorem dL_law_606 : decode cL_law 606 = .ok (.iconst 1, 1) := by decide +kernel
theorem dL_law_607 : decode cL_law 607 = .ok (.iadd, 1) := by decide +kernel
theorem dL_law_608 : decode cL_law 608 = .ok (.iaload, 1) := by decide +kernel
theorem dL_law_609 : decode cL_law 609 = .ok (.aload_n 0, 1) := by decide +kernel
theorem dL_law_610 : decode cL_law 610 = .ok (.iload 4, 2) := by decide +kernel
theorem dL_law_612 : decode cL_law 612 = .ok (.iconst 2, 1) := by decide +kernel
theorem dL_law_613 : decode cL_law 613 = .ok (.iadd, 1) := by decide +kernel
theorem dL_law_614 : decode cL_law 614 = .ok (.iaload, 1) := by decide +kernel
theorem dL_law_615 : decode cL_law 615 = .ok (.aload_n 3, 1) := by decide +kernel
theorem dL_law_616 : decode cL_law 616 = .ok (.invokestatic 113, 3) := by decide +kernel
theorem dL_law_619 : decode cL_law 619 = .ok (.istore 5, 2) := by decide +kernel
theorem dL_law_621 : decode cL_law 621 = .ok (.aload_n 2, 1) := by decide +kernel
theorem dL_law_622 : decode cL_law 622 = .ok (.aload_n 0, 1) := by decide +kernel
theorem dL_law_623 : decode cL_law 623 = .ok (.iload 4, 2) := by decide +kernel
theorem dL_law_625 : decode cL_law 625 = .ok (.iconst 1, 1) := by decide +kernel
theorem dL_law_626 : decode cL_law 626 = .ok (.iadd, 1) := by decide +kernel
theorem dL_law_627 : decode cL_law 627 = .ok (.iaload, 1) := by decide +kernel
theorem dL_law_628 : decode cL_law 628 = .ok (.aload_n 0, 1) := by decide +kernel
theorem dL_law_629 : decode cL_law 629 = .ok (.iload 4, 2) := by decide +kernel
theorem dL_law_631 : decode cL_law 631 = .ok (.iconst 2, 1) := by decide +kernel
theorem dL_law_632 : decode cL_law 632 = .ok (.iadd, 1) := by decide +kernel
theorem dL_law_633 : decode cL_law 633 = .ok (.iaload, 1) := by decide +kernel
theorem dL_law_634 : decode cL_law 634 = .ok (.invokevirtual 115, 3) := by decide +kernel
theorem dL_law_637 : decode cL_law 637 = .ok (.istore 6, 2) := by decide +kernel
theorem dL_law_639 : decode cL_law 639 = .ok (.aload_n 2, 1) := by decide +kernel
theorem dL_law_640 : decode cL_law 640 = .ok (.invokevirtual 91, 3) := by decide +kernel
theorem dL_law_643 : decode cL_law 643 = .ok (.iload 5, 2) := by decide +kernel
theorem dL_law_645 : decode cL_law 645 = .ok (.if_icmp .eq 5, 3) := by decide +kernel
theorem dL_law_648 : decode cL_law 648 = .ok (.iconst 0, 1) := by decide +kernel
theorem dL_law_649 : decode cL_law 649 = .ok (.ireturn, 1) := by decide +kernel
theorem dL_law_650 : decode cL_law 650 = .ok (.iload 5, 2) := by decide +kernel
theorem dL_law_652 : decode cL_law 652 = .ok (.ifCond .ne 15, 3) := by decide +kernel
theorem dL_law_655 : decode cL_law 655 = .ok (.aload_n 3, 1) := by decide +kernel
theorem dL_law_656 : decode cL_law 656 = .ok (.iconst 0, 1) := by decide +kernel
theorem dL_law_657 : decode cL_law 657 = .ok (.laload, 1) := by decide +kernel
theorem dL_law_658 : decode cL_law 658 = .ok (.iload 6, 2) := by decide +kernel
theorem dL_law_660 : decode cL_law 660 = .ok (.i2l, 1) := by decide +kernel
theorem dL_law_661 : decode cL_law 661 = .ok (.lcmp, 1) := by decide +kernel
theorem dL_law_662 : decode cL_law 662 = .ok (.ifCond .eq 5, 3) := by decide +kernel
theorem dL_law_665 : decode cL_law 665 = .ok (.iconst 0, 1) := by decide +kernel
theorem dL_law_666 : decode cL_law 666 = .ok (.ireturn, 1) := by decide +kernel
theorem dL_law_667 : decode cL_law 667 = .ok (.goto 1220, 3) := by decide +kernel
theorem dL_law_670 : decode cL_law 670 = .ok (.aload_n 1, 1) := by decide +kernel
theorem dL_law_671 : decode cL_law 671 = .ok (.aload_n 0, 1) := by decide +kernel
theorem dL_law_672 : decode cL_law 672 = .ok (.iload 4, 2) := by decide +kernel
theorem dL_law_674 : decode cL_law 674 = .ok (.iconst 1, 1) := by decide +kernel
theorem dL_law_675 : decode cL_law 675 = .ok (.iadd, 1) := by decide +kernel
theorem dL_law_676 : decode cL_law 676 = .ok (.iaload, 1) := by decide +kernel
theorem dL_law_677 : decode cL_law 677 = .ok (.aload_n 0, 1) := by decide +kernel
theorem dL_law_678 : decode cL_law 678 = .ok (.iload 4, 2) := by decide +kernel
theorem dL_law_680 : decode cL_law 680 = .ok (.iconst 2, 1) := by decide +kernel
theorem dL_law_681 : decode cL_law 681 = .ok (.iadd, 1) := by decide +kernel
theorem dL_law_682 : decode cL_law 682 = .ok (.iaload, 1) := by decide +kernel
theorem dL_law_683 : decode cL_law 683 = .ok (.aload_n 3, 1) := by decide +kernel
theorem dL_law_684 : decode cL_law 684 = .ok (.invokestatic 116, 3) := by decide +kernel
theorem dL_law_687 : decode cL_law 687 = .ok (.istore 5, 2) := by decide +kernel
theorem dL_law_689 : decode cL_law 689 = .ok (.aload_n 2, 1) := by decide +kernel
theorem dL_law_690 : decode cL_law 690 = .ok (.aload_n 0, 1) := by decide +kernel
theorem dL_law_691 : decode cL_law 691 = .ok (.iload 4, 2) := by decide +kernel
theorem dL_law_693 : decode cL_law 693 = .ok (.iconst 1, 1) := by decide +kernel
theorem dL_law_694 : decode cL_law 694 = .ok (.iadd, 1) := by decide +kernel
theorem dL_law_695 : decode cL_law 695 = .ok (.iaload, 1) := by decide +kernel
theorem dL_law_696 : decode cL_law 696 = .ok (.aload_n 0, 1) := by decide +kernel
theorem dL_law_697 : decode cL_law 697 = .ok (.iload 4, 2) := by decide +kernel
theorem dL_law_699 : decode cL_law 699 = .ok (.iconst 2, 1) := by decide +kernel
theorem dL_law_700 : decode cL_law 700 = .ok (.iadd, 1) := by decide +kernel
theorem dL_law_701 : decode cL_law 701 = .ok (.iaload, 1) := by decide +kernel
theorem dL_law_702 : decode cL_law 702 = .ok (.invokevirtual 118, 3) := by decide +kernel
theorem dL_law_705 : decode cL_law 705 = .ok (.istore 6, 2) := by decide +kernel
theorem dL_law_707 : decode cL_law 707 = .ok (.aload_n 2, 1) := by decide +kernel
theorem dL_law_708 : decode cL_law 708 = .ok (.invokevirtual 91, 3) := by decide +kernel
theorem dL_law_711 : decode cL_law 711 = .ok (.iload 5, 2) := by decide +kernel
theorem dL_law_713 : decode cL_law 713 = .ok (.if_icmp .eq 5, 3) := by decide +kernel
theorem dL_law_716 : decode cL_law 716 = .ok (.iconst 0, 1) := by decide +kernel
theorem dL_law_717 : decode cL_law 717 = .ok (.ireturn, 1) := by decide +kernel
theorem dL_law_718 : decode cL_law 718 = .ok (.iload 5, 2) := by decide +kernel
theorem dL_law_720 : decode cL_law 720 = .ok (.ifCond .ne 15, 3) := by decide +kernel
theorem dL_law_723 : decode cL_law 723 = .ok (.aload_n 3, 1) := by decide +kernel
theorem dL_law_724 : decode cL_law 724 = .ok (.iconst 0, 1) := by decide +kernel
theorem dL_law_725 : decode cL_law 725 = .ok (.laload, 1) := by decide +kernel
theorem dL_law_726 : decode cL_law 726 = .ok (.iload 6, 2) := by decide +kernel
theorem dL_law_728 : decode cL_law 728 = .ok (.i2l, 1) := by decide +kernel
theorem dL_law_729 : decode cL_law 729 = .ok (.lcmp, 1) := by decide +kernel
theorem dL_law_730 : decode cL_law 730 = .ok (.ifCond .eq 5, 3) := by decide +kernel
theorem dL_law_733 : decode cL_law 733 = .ok (.iconst 0, 1) := by decide +kernel
theorem dL_law_734 : decode cL_law 734 = .ok (.ireturn, 1) := by decide +kernel
theorem dL_law_735 : decode cL_law 735 = .ok (.goto 1152, 3) := by decide +kernel
theorem dL_law_738 : decode cL_law 738 = .ok (.aload_n 1, 1) := by decide +kernel
theorem dL_law_739 : decode cL_law 739 = .ok (.aload_n 0, 1) := by decide +kernel
theorem dL_law_740 : decode cL_law 740 = .ok (.iload 4, 2) := by decide +kernel
theorem dL_law_742 : decode cL_law 742 = .ok (.iconst 1, 1) := by decide +kernel
theorem dL_law_743 : decode cL_law 743 = .ok (.iadd, 1) := by decide +kernel
theorem dL_law_744 : decode cL_law 744 = .ok (.iaload, 1) := by decide +kernel
theorem dL_law_745 : decode cL_law 745 = .ok (.aload_n 0, 1) := by decide +kernel
theorem dL_law_746 : decode cL_law 746 = .ok (.iload 4, 2) := by decide +kernel
theorem dL_law_748 : decode cL_law 748 = .ok (.iconst 2, 1) := by decide +kernel
theorem dL_law_749 : decode cL_law 749 = .ok (.iadd, 1) := by decide +kernel
theorem dL_law_750 : decode cL_law 750 = .ok (.iaload, 1) := by decide +kernel
theorem dL_law_751 : decode cL_law 751 = .ok (.aload_n 0, 1) := by decide +kernel
theorem dL_law_752 : decode cL_law 752 = .ok (.iload 4, 2) := by decide +kernel
theorem dL_law_754 : decode cL_law 754 = .ok (.iconst 3, 1) := by decide +kernel
theorem dL_law_755 : decode cL_law 755 = .ok (.iadd, 1) := by decide +kernel
theorem dL_law_756 : decode cL_law 756 = .ok (.iaload, 1) := by decide +kernel
theorem dL_law_757 : decode cL_law 757 = .ok (.aload_n 0, 1) := by decide +kernel
theorem dL_law_758 : decode cL_law 758 = .ok (.iload 4, 2) := by decide +kernel
theorem dL_law_760 : decode cL_law 760 = .ok (.iconst 4, 1) := by decide +kernel
theorem dL_law_761 : decode cL_law 761 = .ok (.iadd, 1) := by decide +kernel
theorem dL_law_762 : decode cL_law 762 = .ok (.iaload, 1) := by decide +kernel
theorem dL_law_763 : decode cL_law 763 = .ok (.aload_n 3, 1) := by decide +kernel
theorem dL_law_764 : decode cL_law 764 = .ok (.invokestatic 119, 3) := by decide +kernel
theorem dL_law_767 : decode cL_law 767 = .ok (.istore 5, 2) := by decide +kernel
theorem dL_law_769 : decode cL_law 769 = .ok (.aload_n 2, 1) := by decide +kernel
theorem dL_law_770 : decode cL_law 770 = .ok (.aload_n 0, 1) := by decide +kernel
theorem dL_law_771 : decode cL_law 771 = .ok (.iload 4, 2) := by decide +kernel
theorem dL_law_773 : decode cL_law 773 = .ok (.iconst 1, 1) := by decide +kernel
theorem dL_law_774 : decode cL_law 774 = .ok (.iadd, 1) := by decide +kernel
theorem dL_law_775 : decode cL_law 775 = .ok (.iaload, 1) := by decide +kernel
theorem dL_law_776 : decode cL_law 776 = .ok (.aload_n 0, 1) := by decide +kernel
theorem dL_law_777 : decode cL_law 777 = .ok (.iload 4, 2) := by decide +kernel
theorem dL_law_779 : decode cL_law 779 = .ok (.iconst 2, 1) := by decide +kernel
theorem dL_law_780 : decode cL_law 780 = .ok (.iadd, 1) := by decide +kernel
theorem dL_law_781 : decode cL_law 781 = .ok (.iaload, 1) := by decide +kernel
theorem dL_law_782 : decode cL_law 782 = .ok (.aload_n 0, 1) := by decide +kernel
theorem dL_law_783 : decode cL_law 783 = .ok (.iload 4, 2) := by decide +kernel
theorem dL_law_785 : decode cL_law 785 = .ok (.iconst 3, 1) := by decide +kernel
theorem dL_law_786 : decode cL_law 786 = .ok (.iadd, 1) := by decide +kernel
theorem dL_law_787 : decode cL_law 787 = .ok (.iaload, 1) := by decide +kernel
theorem dL_law_788 : decode cL_law 788 = .ok (.aload_n 0, 1) := by decide +kernel
theorem dL_law_789 : decode cL_law 789 = .ok (.iload 4, 2) := by decide +kernel
theorem dL_law_791 : decode cL_law 791 = .ok (.iconst 4, 1) := by decide +kernel
theorem dL_law_792 : decode cL_law 792 = .ok (.iadd, 1) := by decide +kernel
theorem dL_law_793 : decode cL_law 793 = .ok (.iaload, 1) := by decide +kernel
theorem dL_law_794 : decode cL_law 794 = .ok (.invokevirtual 122, 3) := by decide +kernel
theorem dL_law_797 : decode cL_law 797 = .ok (.istore 6, 2) := by decide +kernel
theorem dL_law_799 : decode cL_law 799 = .ok (.aload_n 2, 1) := by decide +kernel
theorem dL_law_800 : decode cL_law 800 = .ok (.invokevirtual 91, 3) := by decide +kernel
theorem dL_law_803 : decode cL_law 803 = .ok (.iload 5, 2) := by decide +kernel
theorem dL_law_805 : decode cL_law 805 = .ok (.if_icmp .eq 5, 3) := by decide +kernel
theorem dL_law_808 : decode cL_law 808 = .ok (.iconst 0, 1) := by decide +kernel
theorem dL_law_809 : decode cL_law 809 = .ok (.ireturn, 1) := by decide +kernel
theorem dL_law_810 : decode cL_law 810 = .ok (.iload 5, 2) := by decide +kernel
theorem dL_law_812 : decode cL_law 812 = .ok (.ifCond .ne 22, 3) := by decide +kernel
theorem dL_law_815 : decode cL_law 815 = .ok (.aload_n 3, 1) := by decide +kernel
theorem dL_law_816 : decode cL_law 816 = .ok (.iconst 0, 1) := by decide +kernel
theorem dL_law_817 : decode cL_law 817 = .ok (.laload, 1) := by decide +kernel
theorem dL_law_818 : decode cL_law 818 = .ok (.iload 6, 2) := by decide +kernel
theorem dL_law_820 : decode cL_law 820 = .ok (.ifCond .eq 7, 3) := by decide +kernel
theorem dL_law_823 : decode cL_law 823 = .ok (.lconst 1, 1) := by decide +kernel
theorem dL_law_824 : decode cL_law 824 = .ok (.goto 4, 3) := by decide +kernel
theorem dL_law_827 : decode cL_law 827 = .ok (.lconst 0, 1) := by decide +kernel
theorem dL_law_828 : decode cL_law 828 = .ok (.lcmp, 1) := by decide +kernel
theorem dL_law_829 : decode cL_law 829 = .ok (.ifCond .eq 5, 3) := by decide +kernel
theorem dL_law_832 : decode cL_law 832 = .ok (.iconst 0, 1) := by decide +kernel
theorem dL_law_833 : decode cL_law 833 = .ok (.ireturn, 1) := by decide +kernel
theorem dL_law_834 : decode cL_law 834 = .ok (.goto 1053, 3) := by decide +kernel
theorem dL_law_837 : decode cL_law 837 = .ok (.aload_n 1, 1) := by decide +kernel
theorem dL_law_838 : decode cL_law 838 = .ok (.aload_n 0, 1) := by decide +kernel
theorem dL_law_839 : decode cL_law 839 = .ok (.iload 4, 2) := by decide +kernel
theorem dL_law_841 : decode cL_law 841 = .ok (.iconst 1, 1) := by decide +kernel
theorem dL_law_842 : decode cL_law 842 = .ok (.iadd, 1) := by decide +kernel
theorem dL_law_843 : decode cL_law 843 = .ok (.iaload, 1) := by decide +kernel
theorem dL_law_844 : decode cL_law 844 = .ok (.aload_n 0, 1) := by decide +kernel
theorem dL_law_845 : decode cL_law 845 = .ok (.iload 4, 2) := by decide +kernel
theorem dL_law_847 : decode cL_law 847 = .ok (.iconst 2, 1) := by decide +kernel
theorem dL_law_848 : decode cL_law 848 = .ok (.iadd, 1) := by decide +kernel
theorem dL_law_849 : decode cL_law 849 = .ok (.iaload, 1) := by decide +kernel
theorem dL_law_850 : decode cL_law 850 = .ok (.aload_n 3, 1) := by decide +kernel
theorem dL_law_851 : decode cL_law 851 = .ok (.invokestatic 123, 3) := by decide +kernel
theorem dL_law_854 : decode cL_law 854 = .ok (.istore 5, 2) := by decide +kernel
theorem dL_law_856 : decode cL_law 856 = .ok (.aload_n 2, 1) := by decide +kernel
theorem dL_law_857 : decode cL_law 857 = .ok (.aload_n 0, 1) := by decide +kernel
theorem dL_law_858 : decode cL_law 858 = .ok (.iload 4, 2) := by decide +kernel
theorem dL_law_860 : decode cL_law 860 = .ok (.iconst 1, 1) := by decide +kernel
theorem dL_law_861 : decode cL_law 861 = .ok (.iadd, 1) := by decide +kernel
theorem dL_law_862 : decode cL_law 862 = .ok (.iaload, 1) := by decide +kernel
theorem dL_law_863 : decode cL_law 863 = .ok (.aload_n 0, 1) := by decide +kernel
theorem dL_law_864 : decode cL_law 864 = .ok (.iload 4, 2) := by decide +kernel
theorem dL_law_866 : decode cL_law 866 = .ok (.iconst 2, 1) := by decide +kernel
theorem dL_law_867 : decode cL_law 867 = .ok (.iadd, 1) := by decide +kernel
theorem dL_law_868 : decode cL_law 868 = .ok (.iaload, 1) := by decide +kernel
theorem dL_law_869 : decode cL_law 869 = .ok (.invokevirtual 125, 3) := by decide +kernel
theorem dL_law_872 : decode cL_law 872 = .ok (.istore 6, 2) := by decide +kernel
theorem dL_law_874 : decode cL_law 874 = .ok (.aload_n 2, 1) := by decide +kernel
theorem dL_law_875 : decode cL_law 875 = .ok (.invokevirtual 91, 3) := by decide +kernel
theorem dL_law_878 : decode cL_law 878 = .ok (.iload 5, 2) := by decide +kernel
theorem dL_law_880 : decode cL_law 880 = .ok (.if_icmp .eq 5, 3) := by decide +kernel
theorem dL_law_883 : decode cL_law 883 = .ok (.iconst 0, 1) := by decide +kernel
theorem dL_law_884 : decode cL_law 884 = .ok (.ireturn, 1) := by decide +kernel
theorem dL_law_885 : decode cL_law 885 = .ok (.iload 5, 2) := by decide +kernel
theorem dL_law_887 : decode cL_law 887 = .ok (.ifCond .ne 22, 3) := by decide +kernel
theorem dL_law_890 : decode cL_law 890 = .ok (.aload_n 3, 1) := by decide +kernel
theorem dL_law_891 : decode cL_law 891 = .ok (.iconst 0, 1) := by decide +kernel
theorem dL_law_892 : decode cL_law 892 = .ok (.laload, 1) := by decide +kernel
theorem dL_law_893 : decode cL_law 893 = .ok (.iload 6, 2) := by decide +kernel
theorem dL_law_895 : decode cL_law 895 = .ok (.ifCond .eq 7, 3) := by decide +kernel
theorem dL_law_898 : decode cL_law 898 = .ok (.lconst 1, 1) := by decide +kernel
theorem dL_law_899 : decode cL_law 899 = .ok (.goto 4, 3) := by decide +kernel
theorem dL_law_902 : decode cL_law 902 = .ok (.lconst 0, 1) := by decide +kernel
theorem dL_law_903 : decode cL_law 903 = .ok (.lcmp, 1) := by decide +kernel
theorem dL_law_904 : decode cL_law 904 = .ok (.ifCond .eq 5, 3) := by decide +kernel
theorem dL_law_907 : decode cL_law 907 = .ok (.iconst 0, 1) := by decide +kernel
theorem dL_law_908 : decode cL_law 908 = .ok (.ireturn, 1) := by decide +kernel
theorem dL_law_909 : decode cL_law 909 = .ok (.goto 978, 3) := by decide +kernel
theorem dL_law_912 : decode cL_law 912 = .ok (.aload_n 1, 1) := by decide +kernel
theorem dL_law_913 : decode cL_law 913 = .ok (.aload_n 0, 1) := by decide +kernel
theorem dL_law_914 : decode cL_law 914 = .ok (.iload 4, 2) := by decide +kernel
theorem dL_law_916 : decode cL_law 916 = .ok (.iconst 1, 1) := by decide +kernel
theorem dL_law_917 : decode cL_law 917 = .ok (.iadd, 1) := by decide +kernel
theorem dL_law_918 : decode cL_law 918 = .ok (.iaload, 1) := by decide +kernel
theorem dL_law_919 : decode cL_law 919 = .ok (.aload_n 0, 1) := by decide +kernel
theorem dL_law_920 : decode cL_law 920 = .ok (.iload 4, 2) := by decide +kernel
theorem dL_law_922 : decode cL_law 922 = .ok (.iconst 2, 1) := by decide +kernel
theorem dL_law_923 : decode cL_law 923 = .ok (.iadd, 1) := by decide +kernel
theorem dL_law_924 : decode cL_law 924 = .ok (.iaload, 1) := by decide +kernel
theorem dL_law_925 : decode cL_law 925 = .ok (.aload_n 3, 1) := by decide +kernel
theorem dL_law_926 : decode cL_law 926 = .ok (.invokestatic 126, 3) := by decide +kernel
theorem dL_law_929 : decode cL_law 929 = .ok (.istore 5, 2) := by decide +kernel
theorem dL_law_931 : decode cL_law 931 = .ok (.aload_n 2, 1) := by decide +kernel
theorem dL_law_932 : decode cL_law 932 = .ok (.aload_n 0, 1) := by decide +kernel
theorem dL_law_933 : decode cL_law 933 = .ok (.iload 4, 2) := by decide +kernel
theorem dL_law_935 : decode cL_law 935 = .ok (.iconst 1, 1) := by decide +kernel
theorem dL_law_936 : decode cL_law 936 = .ok (.iadd, 1) := by decide +kernel
theorem dL_law_937 : decode cL_law 937 = .ok (.iaload, 1) := by decide +kernel
theorem dL_law_938 : decode cL_law 938 = .ok (.aload_n 0, 1) := by decide +kernel
theorem dL_law_939 : decode cL_law 939 = .ok (.iload 4, 2) := by decide +kernel
theorem dL_law_941 : decode cL_law 941 = .ok (.iconst 2, 1) := by decide +kernel
theorem dL_law_942 : decode cL_law 942 = .ok (.iadd, 1) := by decide +kernel
theorem dL_law_943 : decode cL_law 943 = .ok (.iaload, 1) := by decide +kernel
theorem dL_law_944 : decode cL_law 944 = .ok (.invokevirtual 128, 3) := by decide +kernel
theorem dL_law_947 : decode cL_law 947 = .ok (.istore 6, 2) := by decide +kernel
theorem dL_law_949 : decode cL_law 949 = .ok (.aload_n 2, 1) := by decide +kernel
theorem dL_law_950 : decode cL_law 950 = .ok (.invokevirtual 91, 3) := by decide +kernel
theorem dL_law_953 : decode cL_law 953 = .ok (.iload 5, 2) := by decide +kernel
theorem dL_law_955 : decode cL_law 955 = .ok (.if_icmp .eq 5, 3) := by decide +kernel
theorem dL_law_958 : decode cL_law 958 = .ok (.iconst 0, 1) := by decide +kernel
theorem dL_law_959 : decode cL_law 959 = .ok (.ireturn, 1) := by decide +kernel
theorem dL_law_960 : decode cL_law 960 = .ok (.iload 5, 2) := by decide +kernel
theorem dL_law_962 : decode cL_law 962 = .ok (.ifCond .ne 22, 3) := by decide +kernel
theorem dL_law_965 : decode cL_law 965 = .ok (.aload_n 3, 1) := by decide +kernel
theorem dL_law_966 : decode cL_law 966 = .ok (.iconst 0, 1) := by decide +kernel
theorem dL_law_967 : decode cL_law 967 = .ok (.laload, 1) := by decide +kernel
theorem dL_law_968 : decode cL_law 968 = .ok (.iload 6, 2) := by decide +kernel
theorem dL_law_970 : decode cL_law 970 = .ok (.ifCond .eq 7, 3) := by decide +kernel
theorem dL_law_973 : decode cL_law 973 = .ok (.lconst 1, 1) := by decide +kernel
theorem dL_law_974 : decode cL_law 974 = .ok (.goto 4, 3) := by decide +kernel
theorem dL_law_977 : decode cL_law 977 = .ok (.lconst 0, 1) := by decide +kernel
theorem dL_law_978 : decode cL_law 978 = .ok (.lcmp, 1) := by decide +kernel
theorem dL_law_979 : decode cL_law 979 = .ok (.ifCond .eq 5, 3) := by decide +kernel
theorem dL_law_982 : decode cL_law 982 = .ok (.iconst 0, 1) := by decide +kernel
theorem dL_law_983 : decode cL_law 983 = .ok (.ireturn, 1) := by decide +kernel
theorem dL_law_984 : decode cL_law 984 = .ok (.goto 903, 3) := by decide +kernel
theorem dL_law_987 : decode cL_law 987 = .ok (.aload_n 1, 1) := by decide +kernel
theorem dL_law_988 : decode cL_law 988 = .ok (.aload_n 0, 1) := by decide +kernel
theorem dL_law_989 : decode cL_law 989 = .ok (.iload 4, 2) := by decide +kernel
theorem dL_law_991 : decode cL_law 991 = .ok (.iconst 1, 1) := by decide +kernel
theorem dL_law_992 : decode cL_law 992 = .ok (.iadd, 1) := by decide +kernel
theorem dL_law_993 : decode cL_law 993 = .ok (.iaload, 1) := by decide +kernel
theorem dL_law_994 : decode cL_law 994 = .ok (.aload_n 0, 1) := by decide +kernel
theorem dL_law_995 : decode cL_law 995 = .ok (.iload 4, 2) := by decide +kernel
theorem dL_law_997 : decode cL_law 997 = .ok (.iconst 2, 1) := by decide +kernel
theorem dL_law_998 : decode cL_law 998 = .ok (.iadd, 1) := by decide +kernel
theorem dL_law_999 : decode cL_law 999 = .ok (.iaload, 1) := by decide +kernel
theorem dL_law_1000 : decode cL_law 1000 = .ok (.aload_n 0, 1) := by decide +kernel
theorem dL_law_1001 : decode cL_law 1001 = .ok (.iload 4, 2) := by decide +kernel
theorem dL_law_1003 : decode cL_law 1003 = .ok (.iconst 3, 1) := by decide +kernel
theorem dL_law_1004 : decode cL_law 1004 = .ok (.iadd, 1) := by decide +kernel
theorem dL_law_1005 : decode cL_law 1005 = .ok (.iaload, 1) := by decide +kernel
theorem dL_law_1006 : decode cL_law 1006 = .ok (.aload_n 3, 1) := by decide +kernel
theorem dL_law_1007 : decode cL_law 1007 = .ok (.invokestatic 129, 3) := by decide +kernel
theorem dL_law_1010 : decode cL_law 1010 = .ok (.istore 5, 2) := by decide +kernel
theorem dL_law_1012 : decode cL_law 1012 = .ok (.aload_n 2, 1) := by decide +kernel
theorem dL_law_1013 : decode cL_law 1013 = .ok (.aload_n 0, 1) := by decide +kernel
theorem dL_law_1014 : decode cL_law 1014 = .ok (.iload 4, 2) := by decide +kernel
theorem dL_law_1016 : decode cL_law 1016 = .ok (.iconst 1, 1) := by decide +kernel
theorem dL_law_1017 : decode cL_law 1017 = .ok (.iadd, 1) := by decide +kernel
theorem dL_law_1018 : decode cL_law 1018 = .ok (.iaload, 1) := by decide +kernel
theorem dL_law_1019 : decode cL_law 1019 = .ok (.aload_n 0, 1) := by decide +kernel
theorem dL_law_1020 : decode cL_law 1020 = .ok (.iload 4, 2) := by decide +kernel
theorem dL_law_1022 : decode cL_law 1022 = .ok (.iconst 2, 1) := by decide +kernel
theorem dL_law_1023 : decode cL_law 1023 = .ok (.iadd, 1) := by decide +kernel
theorem dL_law_1024 : decode cL_law 1024 = .ok (.iaload, 1) := by decide +kernel
theorem dL_law_1025 : decode cL_law 1025 = .ok (.aload_n 0, 1) := by decide +kernel
theorem dL_law_1026 : decode cL_law 1026 = .ok (.iload 4, 2) := by decide +kernel
theorem dL_law_1028 : decode cL_law 1028 = .ok (.iconst 3, 1) := by decide +kernel
theorem dL_law_1029 : decode cL_law 1029 = .ok (.iadd, 1) := by decide +kernel
theorem dL_law_1030 : decode cL_law 1030 = .ok (.iaload, 1) := by decide +kernel
theorem dL_law_1031 : decode cL_law 1031 = .ok (.invokevirtual 131, 3) := by decide +kernel
theorem dL_law_1034 : decode cL_law 1034 = .ok (.istore 6, 2) := by decide +kernel
theorem dL_law_1036 : decode cL_law 1036 = .ok (.aload_n 2, 1) := by decide +kernel
theorem dL_law_1037 : decode cL_law 1037 = .ok (.invokevirtual 91, 3) := by decide +kernel
theorem dL_law_1040 : decode cL_law 1040 = .ok (.iload 5, 2) := by decide +kernel
theorem dL_law_1042 : decode cL_law 1042 = .ok (.if_icmp .eq 5, 3) := by decide +kernel
theorem dL_law_1045 : decode cL_law 1045 = .ok (.iconst 0, 1) := by decide +kernel
theorem dL_law_1046 : decode cL_law 1046 = .ok (.ireturn, 1) := by decide +kernel
theorem dL_law_1047 : decode cL_law 1047 = .ok (.iload 5, 2) := by decide +kernel
theorem dL_law_1049 : decode cL_law 1049 = .ok (.ifCond .ne 22, 3) := by decide +kernel
theorem dL_law_1052 : decode cL_law 1052 = .ok (.aload_n 3, 1) := by decide +kernel
theorem dL_law_1053 : decode cL_law 1053 = .ok (.iconst 0, 1) := by decide +kernel
theorem dL_law_1054 : decode cL_law 1054 = .ok (.laload, 1) := by decide +kernel
theorem dL_law_1055 : decode cL_law 1055 = .ok (.iload 6, 2) := by decide +kernel
theorem dL_law_1057 : decode cL_law 1057 = .ok (.ifCond .eq 7, 3) := by decide +kernel
theorem dL_law_1060 : decode cL_law 1060 = .ok (.lconst 1, 1) := by decide +kernel
theorem dL_law_1061 : decode cL_law 1061 = .ok (.goto 4, 3) := by decide +kernel
theorem dL_law_1064 : decode cL_law 1064 = .ok (.lconst 0, 1) := by decide +kernel
theorem dL_law_1065 : decode cL_law 1065 = .ok (.lcmp, 1) := by decide +kernel
theorem dL_law_1066 : decode cL_law 1066 = .ok (.ifCond .eq 5, 3) := by decide +kernel
theorem dL_law_1069 : decode cL_law 1069 = .ok (.iconst 0, 1) := by decide +kernel
theorem dL_law_1070 : decode cL_law 1070 = .ok (.ireturn, 1) := by decide +kernel
theorem dL_law_1071 : decode cL_law 1071 = .ok (.goto 816, 3) := by decide +kernel
theorem dL_law_1074 : decode cL_law 1074 = .ok (.aload_n 1, 1) := by decide +kernel
theorem dL_law_1075 : decode cL_law 1075 = .ok (.aload_n 0, 1) := by decide +kernel
theorem dL_law_1076 : decode cL_law 1076 = .ok (.iload 4, 2) := by decide +kernel
theorem dL_law_1078 : decode cL_law 1078 = .ok (.iconst 1, 1) := by decide +kernel
theorem dL_law_1079 : decode cL_law 1079 = .ok (.iadd, 1) := by decide +kernel
theorem dL_law_1080 : decode cL_law 1080 = .ok (.iaload, 1) := by decide +kernel
theorem dL_law_1081 : decode cL_law 1081 = .ok (.aload_n 0, 1) := by decide +kernel
theorem dL_law_1082 : decode cL_law 1082 = .ok (.iload 4, 2) := by decide +kernel
theorem dL_law_1084 : decode cL_law 1084 = .ok (.iconst 2, 1) := by decide +kernel
theorem dL_law_1085 : decode cL_law 1085 = .ok (.iadd, 1) := by decide +kernel
theorem dL_law_1086 : decode cL_law 1086 = .ok (.iaload, 1) := by decide +kernel
theorem dL_law_1087 : decode cL_law 1087 = .ok (.aload_n 0, 1) := by decide +kernel
theorem dL_law_1088 : decode cL_law 1088 = .ok (.iload 4, 2) := by decide +kernel
theorem dL_law_1090 : decode cL_law 1090 = .ok (.iconst 3, 1) := by decide +kernel
theorem dL_law_1091 : decode cL_law 1091 = .ok (.iadd, 1) := by decide +kernel
theorem dL_law_1092 : decode cL_law 1092 = .ok (.iaload, 1) := by decide +kernel
theorem dL_law_1093 : decode cL_law 1093 = .ok (.aload_n 3, 1) := by decide +kernel
theorem dL_law_1094 : decode cL_law 1094 = .ok (.invokestatic 132, 3) := by decide +kernel
theorem dL_law_1097 : decode cL_law 1097 = .ok (.istore 5, 2) := by decide +kernel
theorem dL_law_1099 : decode cL_law 1099 = .ok (.aload_n 2, 1) := by decide +kernel
theorem dL_law_1100 : decode cL_law 1100 = .ok (.aload_n 0, 1) := by decide +kernel
theorem dL_law_1101 : decode cL_law 1101 = .ok (.iload 4, 2) := by decide +kernel
theorem dL_law_1103 : decode cL_law 1103 = .ok (.iconst 1, 1) := by decide +kernel
theorem dL_law_1104 : decode cL_law 1104 = .ok (.iadd, 1) := by decide +kernel
theorem dL_law_1105 : decode cL_law 1105 = .ok (.iaload, 1) := by decide +kernel
theorem dL_law_1106 : decode cL_law 1106 = .ok (.aload_n 0, 1) := by decide +kernel
theorem dL_law_1107 : decode cL_law 1107 = .ok (.iload 4, 2) := by decide +kernel
theorem dL_law_1109 : decode cL_law 1109 = .ok (.iconst 2, 1) := by decide +kernel
theorem dL_law_1110 : decode cL_law 1110 = .ok (.iadd, 1) := by decide +kernel
theorem dL_law_1111 : decode cL_law 1111 = .ok (.iaload, 1) := by decide +kernel
theorem dL_law_1112 : decode cL_law 1112 = .ok (.aload_n 0, 1) := by decide +kernel
theorem dL_law_1113 : decode cL_law 1113 = .ok (.iload 4, 2) := by decide +kernel
theorem dL_law_1115 : decode cL_law 1115 = .ok (.iconst 3, 1) := by decide +kernel
theorem dL_law_1116 : decode cL_law 1116 = .ok (.iadd, 1) := by decide +kernel
theorem dL_law_1117 : decode cL_law 1117 = .ok (.iaload, 1) := by decide +kernel
theorem dL_law_1118 : decode cL_law 1118 = .ok (.invokevirtual 134, 3) := by decide +kernel
theorem dL_law_1121 : decode cL_law 1121 = .ok (.istore 6, 2) := by decide +kernel
theorem dL_law_1123 : decode cL_law 1123 = .ok (.aload_n 2, 1) := by decide +kernel
theorem dL_law_1124 : decode cL_law 1124 = .ok (.invokevirtual 91, 3) := by decide +kernel
theorem dL_law_1127 : decode cL_law 1127 = .ok (.iload 5, 2) := by decide +kernel
theorem dL_law_1129 : decode cL_law 1129 = .ok (.if_icmp .eq 5, 3) := by decide +kernel
theorem dL_law_1132 : decode cL_law 1132 = .ok (.iconst 0, 1) := by decide +kernel
theorem dL_law_1133 : decode cL_law 1133 = .ok (.ireturn, 1) := by decide +kernel
theorem dL_law_1134 : decode cL_law 1134 = .ok (.iload 5, 2) := by decide +kernel
theorem dL_law_1136 : decode cL_law 1136 = .ok (.ifCond .ne 22, 3) := by decide +kernel
theorem dL_law_1139 : decode cL_law 1139 = .ok (.aload_n 3, 1) := by decide +kernel
theorem dL_law_1140 : decode cL_law 1140 = .ok (.iconst 0, 1) := by decide +kernel
theorem dL_law_1141 : decode cL_law 1141 = .ok (.laload, 1) := by decide +kernel
theorem dL_law_1142 : decode cL_law 1142 = .ok (.iload 6, 2) := by decide +kernel
theorem dL_law_1144 : decode cL_law 1144 = .ok (.ifCond .eq 7, 3) := by decide +kernel
theorem dL_law_1147 : decode cL_law 1147 = .ok (.lconst 1, 1) := by decide +kernel
theorem dL_law_1148 : decode cL_law 1148 = .ok (.goto 4, 3) := by decide +kernel
theorem dL_law_1151 : decode cL_law 1151 = .ok (.lconst 0, 1) := by decide +kernel
theorem dL_law_1152 : decode cL_law 1152 = .ok (.lcmp, 1) := by decide +kernel
theorem dL_law_1153 : decode cL_law 1153 = .ok (.ifCond .eq 5, 3) := by decide +kernel
theorem dL_law_1156 : decode cL_law 1156 = .ok (.iconst 0, 1) := by decide +kernel
theorem dL_law_1157 : decode cL_law 1157 = .ok (.ireturn, 1) := by decide +kernel
theorem dL_law_1158 : decode cL_law 1158 = .ok (.goto 729, 3) := by decide +kernel
theorem dL_law_1161 : decode cL_law 1161 = .ok (.aload_n 1, 1) := by decide +kernel
theorem dL_law_1162 : decode cL_law 1162 = .ok (.aload_n 0, 1) := by decide +kernel
theorem dL_law_1163 : decode cL_law 1163 = .ok (.iload 4, 2) := by decide +kernel
theorem dL_law_1165 : decode cL_law 1165 = .ok (.iconst 1, 1) := by decide +kernel
theorem dL_law_1166 : decode cL_law 1166 = .ok (.iadd, 1) := by decide +kernel
theorem dL_law_1167 : decode cL_law 1167 = .ok (.iaload, 1) := by decide +kernel
theorem dL_law_1168 : decode cL_law 1168 = .ok (.aload_n 0, 1) := by decide +kernel
theorem dL_law_1169 : decode cL_law 1169 = .ok (.iload 4, 2) := by decide +kernel
theorem dL_law_1171 : decode cL_law 1171 = .ok (.iconst 2, 1) := by decide +kernel
theorem dL_law_1172 : decode cL_law 1172 = .ok (.iadd, 1) := by decide +kernel
theorem dL_law_1173 : decode cL_law 1173 = .ok (.iaload, 1) := by decide +kernel
theorem dL_law_1174 : decode cL_law 1174 = .ok (.aload_n 0, 1) := by decide +kernel
theorem dL_law_1175 : decode cL_law 1175 = .ok (.iload 4, 2) := by decide +kernel
theorem dL_law_1177 : decode cL_law 1177 = .ok (.iconst 3, 1) := by decide +kernel
theorem dL_law_1178 : decode cL_law 1178 = .ok (.iadd, 1) := by decide +kernel
theorem dL_law_1179 : decode cL_law 1179 = .ok (.iaload, 1) := by decide +kernel
theorem dL_law_1180 : decode cL_law 1180 = .ok (.aload_n 3, 1) := by decide +kernel
theorem dL_law_1181 : decode cL_law 1181 = .ok (.invokestatic 135, 3) := by decide +kernel
theorem dL_law_1184 : decode cL_law 1184 = .ok (.istore 5, 2) := by decide +kernel
theorem dL_law_1186 : decode cL_law 1186 = .ok (.aload_n 2, 1) := by decide +kernel
theorem dL_law_1187 : decode cL_law 1187 = .ok (.aload_n 0, 1) := by decide +kernel
theorem dL_law_1188 : decode cL_law 1188 = .ok (.iload 4, 2) := by decide +kernel
theorem dL_law_1190 : decode cL_law 1190 = .ok (.iconst 1, 1) := by decide +kernel
theorem dL_law_1191 : decode cL_law 1191 = .ok (.iadd, 1) := by decide +kernel
theorem dL_law_1192 : decode cL_law 1192 = .ok (.iaload, 1) := by decide +kernel
theorem dL_law_1193 : decode cL_law 1193 = .ok (.aload_n 0, 1) := by decide +kernel
theorem dL_law_1194 : decode cL_law 1194 = .ok (.iload 4, 2) := by decide +kernel
theorem dL_law_1196 : decode cL_law 1196 = .ok (.iconst 2, 1) := by decide +kernel
theorem dL_law_1197 : decode cL_law 1197 = .ok (.iadd, 1) := by decide +kernel
theorem dL_law_1198 : decode cL_law 1198 = .ok (.iaload, 1) := by decide +kernel
theorem dL_law_1199 : decode cL_law 1199 = .ok (.aload_n 0, 1) := by decide +kernel
theorem dL_law_1200 : decode cL_law 1200 = .ok (.iload 4, 2) := by decide +kernel
theorem dL_law_1202 : decode cL_law 1202 = .ok (.iconst 3, 1) := by decide +kernel
theorem dL_law_1203 : decode cL_law 1203 = .ok (.iadd, 1) := by decide +kernel
theorem dL_law_1204 : decode cL_law 1204 = .ok (.iaload, 1) := by decide +kernel
theorem dL_law_1205 : decode cL_law 1205 = .ok (.invokevirtual 137, 3) := by decide +kernel
theorem dL_law_1208 : decode cL_law 1208 = .ok (.istore 6, 2) := by decide +kernel
theorem dL_law_1210 : decode cL_law 1210 = .ok (.aload_n 2, 1) := by decide +kernel
theorem dL_law_1211 : decode cL_law 1211 = .ok (.invokevirtual 91, 3) := by decide +kernel
theorem dL_law_1214 : decode cL_law 1214 = .ok (.iload 5, 2) := by decide +kernel
theorem dL_law_1216 : decode cL_law 1216 = .ok (.if_icmp .eq 5, 3) := by decide +kernel
theorem dL_law_1219 : decode cL_law 1219 = .ok (.iconst 0, 1) := by decide +kernel
theorem dL_law_1220 : decode cL_law 1220 = .ok (.ireturn, 1) := by decide +kernel
theorem dL_law_1221 : decode cL_law 1221 = .ok (.iload 5, 2) := by decide +kernel
theorem dL_law_1223 : decode cL_law 1223 = .ok (.ifCond .ne 15, 3) := by decide +kernel
theorem dL_law_1226 : decode cL_law 1226 = .ok (.aload_n 3, 1) := by decide +kernel
theorem dL_law_1227 : decode cL_law 1227 = .ok (.iconst 0, 1) := by decide +kernel
theorem dL_law_1228 : decode cL_law 1228 = .ok (.laload, 1) := by decide +kernel
theorem dL_law_1229 : decode cL_law 1229 = .ok (.iload 6, 2) := by decide +kernel
theorem dL_law_1231 : decode cL_law 1231 = .ok (.i2l, 1) := by decide +kernel
theorem dL_law_1232 : decode cL_law 1232 = .ok (.lcmp, 1) := by decide +kernel
theorem dL_law_1233 : decode cL_law 1233 = .ok (.ifCond .eq 5, 3) := by decide +kernel
theorem dL_law_1236 : decode cL_law 1236 = .ok (.iconst 0, 1) := by decide +kernel
theorem dL_law_1237 : decode cL_law 1237 = .ok (.ireturn, 1) := by decide +kernel
theorem dL_law_1238 : decode cL_law 1238 = .ok (.goto 649, 3) := by decide +kernel
theorem dL_law_1241 : decode cL_law 1241 = .ok (.aload_n 1, 1) := by decide +kernel
theorem dL_law_1242 : decode cL_law 1242 = .ok (.aload_n 0, 1) := by decide +kernel
theorem dL_law_1243 : decode cL_law 1243 = .ok (.iload 4, 2) := by decide +kernel
theorem dL_law_1245 : decode cL_law 1245 = .ok (.iconst 1, 1) := by decide +kernel
theorem dL_law_1246 : decode cL_law 1246 = .ok (.iadd, 1) := by decide +kernel
theorem dL_law_1247 : decode cL_law 1247 = .ok (.iaload, 1) := by decide +kernel
theorem dL_law_1248 : decode cL_law 1248 = .ok (.aload_n 0, 1) := by decide +kernel
theorem dL_law_1249 : decode cL_law 1249 = .ok (.iload 4, 2) := by decide +kernel
theorem dL_law_1251 : decode cL_law 1251 = .ok (.iconst 2, 1) := by decide +kernel
theorem dL_law_1252 : decode cL_law 1252 = .ok (.iadd, 1) := by decide +kernel
theorem dL_law_1253 : decode cL_law 1253 = .ok (.iaload, 1) := by decide +kernel
theorem dL_law_1254 : decode cL_law 1254 = .ok (.aload_n 3, 1) := by decide +kernel
theorem dL_law_1255 : decode cL_law 1255 = .ok (.invokestatic 138, 3) := by decide +kernel
theorem dL_law_1258 : decode cL_law 1258 = .ok (.istore 5, 2) := by decide +kernel
theorem dL_law_1260 : decode cL_law 1260 = .ok (.aload_n 2, 1) := by decide +kernel
theorem dL_law_1261 : decode cL_law 1261 = .ok (.aload_n 0, 1) := by decide +kernel
theorem dL_law_1262 : decode cL_law 1262 = .ok (.iload 4, 2) := by decide +kernel
theorem dL_law_1264 : decode cL_law 1264 = .ok (.iconst 1, 1) := by decide +kernel
theorem dL_law_1265 : decode cL_law 1265 = .ok (.iadd, 1) := by decide +kernel
theorem dL_law_1266 : decode cL_law 1266 = .ok (.iaload, 1) := by decide +kernel
theorem dL_law_1267 : decode cL_law 1267 = .ok (.aload_n 0, 1) := by decide +kernel
theorem dL_law_1268 : decode cL_law 1268 = .ok (.iload 4, 2) := by decide +kernel
theorem dL_law_1270 : decode cL_law 1270 = .ok (.iconst 2, 1) := by decide +kernel
theorem dL_law_1271 : decode cL_law 1271 = .ok (.iadd, 1) := by decide +kernel
theorem dL_law_1272 : decode cL_law 1272 = .ok (.iaload, 1) := by decide +kernel
theorem dL_law_1273 : decode cL_law 1273 = .ok (.invokevirtual 140, 3) := by decide +kernel
theorem dL_law_1276 : decode cL_law 1276 = .ok (.istore 6, 2) := by decide +kernel
theorem dL_law_1278 : decode cL_law 1278 = .ok (.aload_n 2, 1) := by decide +kernel
theorem dL_law_1279 : decode cL_law 1279 = .ok (.invokevirtual 91, 3) := by decide +kernel
theorem dL_law_1282 : decode cL_law 1282 = .ok (.iload 5, 2) := by decide +kernel
theorem dL_law_1284 : decode cL_law 1284 = .ok (.if_icmp .eq 5, 3) := by decide +kernel
theorem dL_law_1287 : decode cL_law 1287 = .ok (.iconst 0, 1) := by decide +kernel
theorem dL_law_1288 : decode cL_law 1288 = .ok (.ireturn, 1) := by decide +kernel
theorem dL_law_1289 : decode cL_law 1289 = .ok (.iload 5, 2) := by decide +kernel
theorem dL_law_1291 : decode cL_law 1291 = .ok (.ifCond .ne 22, 3) := by decide +kernel
theorem dL_law_1294 : decode cL_law 1294 = .ok (.aload_n 3, 1) := by decide +kernel
theorem dL_law_1295 : decode cL_law 1295 = .ok (.iconst 0, 1) := by decide +kernel
theorem dL_law_1296 : decode cL_law 1296 = .ok (.laload, 1) := by decide +kernel
theorem dL_law_1297 : decode cL_law 1297 = .ok (.iload 6, 2) := by decide +kernel
theorem dL_law_1299 : decode cL_law 1299 = .ok (.ifCond .eq 7, 3) := by decide +kernel
theorem dL_law_1302 : decode cL_law 1302 = .ok (.lconst 1, 1) := by decide +kernel
theorem dL_law_1303 : decode cL_law 1303 = .ok (.goto 4, 3) := by decide +kernel
theorem dL_law_1306 : decode cL_law 1306 = .ok (.lconst 0, 1) := by decide +kernel
theorem dL_law_1307 : decode cL_law 1307 = .ok (.lcmp, 1) := by decide +kernel
theorem dL_law_1308 : decode cL_law 1308 = .ok (.ifCond .eq 5, 3) := by decide +kernel
theorem dL_law_1311 : decode cL_law 1311 = .ok (.iconst 0, 1) := by decide +kernel
theorem dL_law_1312 : decode cL_law 1312 = .ok (.ireturn, 1) := by decide +kernel
theorem dL_law_1313 : decode cL_law 1313 = .ok (.goto 574, 3) := by decide +kernel
theorem dL_law_1316 : decode cL_law 1316 = .ok (.aload_n 1, 1) := by decide +kernel
theorem dL_law_1317 : decode cL_law 1317 = .ok (.aload_n 0, 1) := by decide +kernel
theorem dL_law_1318 : decode cL_law 1318 = .ok (.iload 4, 2) := by decide +kernel
theorem dL_law_1320 : decode cL_law 1320 = .ok (.iconst 1, 1) := by decide +kernel
theorem dL_law_1321 : decode cL_law 1321 = .ok (.iadd, 1) := by decide +kernel
theorem dL_law_1322 : decode cL_law 1322 = .ok (.iaload, 1) := by decide +kernel
theorem dL_law_1323 : decode cL_law 1323 = .ok (.aload_n 0, 1) := by decide +kernel
theorem dL_law_1324 : decode cL_law 1324 = .ok (.iload 4, 2) := by decide +kernel
theorem dL_law_1326 : decode cL_law 1326 = .ok (.iconst 2, 1) := by decide +kernel
theorem dL_law_1327 : decode cL_law 1327 = .ok (.iadd, 1) := by decide +kernel
theorem dL_law_1328 : decode cL_law 1328 = .ok (.iaload, 1) := by decide +kernel
theorem dL_law_1329 : decode cL_law 1329 = .ok (.aload_n 0, 1) := by decide +kernel
theorem dL_law_1330 : decode cL_law 1330 = .ok (.iload 4, 2) := by decide +kernel
theorem dL_law_1332 : decode cL_law 1332 = .ok (.iconst 3, 1) := by decide +kernel
theorem dL_law_1333 : decode cL_law 1333 = .ok (.iadd, 1) := by decide +kernel
theorem dL_law_1334 : decode cL_law 1334 = .ok (.iaload, 1) := by decide +kernel
theorem dL_law_1335 : decode cL_law 1335 = .ok (.aload_n 0, 1) := by decide +kernel
theorem dL_law_1336 : decode cL_law 1336 = .ok (.iload 4, 2) := by decide +kernel
theorem dL_law_1338 : decode cL_law 1338 = .ok (.iconst 4, 1) := by decide +kernel
theorem dL_law_1339 : decode cL_law 1339 = .ok (.iadd, 1) := by decide +kernel
theorem dL_law_1340 : decode cL_law 1340 = .ok (.iaload, 1) := by decide +kernel
theorem dL_law_1341 : decode cL_law 1341 = .ok (.invokevirtual 141, 3) := by decide +kernel
theorem dL_law_1344 : decode cL_law 1344 = .ok (.aload_n 2, 1) := by decide +kernel
theorem dL_law_1345 : decode cL_law 1345 = .ok (.aload_n 0, 1) := by decide +kernel
theorem dL_law_1346 : decode cL_law 1346 = .ok (.iload 4, 2) := by decide +kernel
theorem dL_law_1348 : decode cL_law 1348 = .ok (.iconst 1, 1) := by decide +kernel
theorem dL_law_1349 : decode cL_law 1349 = .ok (.iadd, 1) := by decide +kernel
theorem dL_law_1350 : decode cL_law 1350 = .ok (.iaload, 1) := by decide +kernel
theorem dL_law_1351 : decode cL_law 1351 = .ok (.aload_n 0, 1) := by decide +kernel
theorem dL_law_1352 : decode cL_law 1352 = .ok (.iload 4, 2) := by decide +kernel
theorem dL_law_1354 : decode cL_law 1354 = .ok (.iconst 2, 1) := by decide +kernel
theorem dL_law_1355 : decode cL_law 1355 = .ok (.iadd, 1) := by decide +kernel
theorem dL_law_1356 : decode cL_law 1356 = .ok (.iaload, 1) := by decide +kernel
theorem dL_law_1357 : decode cL_law 1357 = .ok (.aload_n 0, 1) := by decide +kernel
theorem dL_law_1358 : decode cL_law 1358 = .ok (.iload 4, 2) := by decide +kernel
theorem dL_law_1360 : decode cL_law 1360 = .ok (.iconst 3, 1) := by decide +kernel
theorem dL_law_1361 : decode cL_law 1361 = .ok (.iadd, 1) := by decide +kernel
theorem dL_law_1362 : decode cL_law 1362 = .ok (.iaload, 1) := by decide +kernel
theorem dL_law_1363 : decode cL_law 1363 = .ok (.aload_n 0, 1) := by decide +kernel
theorem dL_law_1364 : decode cL_law 1364 = .ok (.iload 4, 2) := by decide +kernel
theorem dL_law_1366 : decode cL_law 1366 = .ok (.iconst 4, 1) := by decide +kernel
theorem dL_law_1367 : decode cL_law 1367 = .ok (.iadd, 1) := by decide +kernel
theorem dL_law_1368 : decode cL_law 1368 = .ok (.iaload, 1) := by decide +kernel
theorem dL_law_1369 : decode cL_law 1369 = .ok (.invokevirtual 145, 3) := by decide +kernel
theorem dL_law_1372 : decode cL_law 1372 = .ok (.if_icmp .eq 515, 3) := by decide +kernel
theorem dL_law_1375 : decode cL_law 1375 = .ok (.iconst 0, 1) := by decide +kernel
theorem dL_law_1376 : decode cL_law 1376 = .ok (.ireturn, 1) := by decide +kernel
theorem dL_law_1377 : decode cL_law 1377 = .ok (.aload_n 1, 1) := by decide +kernel
theorem dL_law_1378 : decode cL_law 1378 = .ok (.aload_n 0, 1) := by decide +kernel
theorem dL_law_1379 : decode cL_law 1379 = .ok (.iload 4, 2) := by decide +kernel
theorem dL_law_1381 : decode cL_law 1381 = .ok (.iconst 1, 1) := by decide +kernel
theorem dL_law_1382 : decode cL_law 1382 = .ok (.iadd, 1) := by decide +kernel
theorem dL_law_1383 : decode cL_law 1383 = .ok (.iaload, 1) := by decide +kernel
theorem dL_law_1384 : decode cL_law 1384 = .ok (.aload_n 0, 1) := by decide +kernel
theorem dL_law_1385 : decode cL_law 1385 = .ok (.iload 4, 2) := by decide +kernel
theorem dL_law_1387 : decode cL_law 1387 = .ok (.iconst 2, 1) := by decide +kernel
theorem dL_law_1388 : decode cL_law 1388 = .ok (.iadd, 1) := by decide +kernel
theorem dL_law_1389 : decode cL_law 1389 = .ok (.iaload, 1) := by decide +kernel
theorem dL_law_1390 : decode cL_law 1390 = .ok (.aload_n 0, 1) := by decide +kernel
theorem dL_law_1391 : decode cL_law 1391 = .ok (.iload 4, 2) := by decide +kernel
theorem dL_law_1393 : decode cL_law 1393 = .ok (.iconst 3, 1) := by decide +kernel
theorem dL_law_1394 : decode cL_law 1394 = .ok (.iadd, 1) := by decide +kernel
theorem dL_law_1395 : decode cL_law 1395 = .ok (.iaload, 1) := by decide +kernel
theorem dL_law_1396 : decode cL_law 1396 = .ok (.invokevirtual 146, 3) := by decide +kernel
theorem dL_law_1399 : decode cL_law 1399 = .ok (.aload_n 2, 1) := by decide +kernel
theorem dL_law_1400 : decode cL_law 1400 = .ok (.aload_n 0, 1) := by decide +kernel
theorem dL_law_1401 : decode cL_law 1401 = .ok (.iload 4, 2) := by decide +kernel
theorem dL_law_1403 : decode cL_law 1403 = .ok (.iconst 1, 1) := by decide +kernel
theorem dL_law_1404 : decode cL_law 1404 = .ok (.iadd, 1) := by decide +kernel
theorem dL_law_1405 : decode cL_law 1405 = .ok (.iaload, 1) := by decide +kernel
theorem dL_law_1406 : decode cL_law 1406 = .ok (.aload_n 0, 1) := by decide +kernel
theorem dL_law_1407 : decode cL_law 1407 = .ok (.iload 4, 2) := by decide +kernel
theorem dL_law_1409 : decode cL_law 1409 = .ok (.iconst 2, 1) := by decide +kernel
theorem dL_law_1410 : decode cL_law 1410 = .ok (.iadd, 1) := by decide +kernel
theorem dL_law_1411 : decode cL_law 1411 = .ok (.iaload, 1) := by decide +kernel
theorem dL_law_1412 : decode cL_law 1412 = .ok (.aload_n 0, 1) := by decide +kernel
theorem dL_law_1413 : decode cL_law 1413 = .ok (.iload 4, 2) := by decide +kernel
theorem dL_law_1415 : decode cL_law 1415 = .ok (.iconst 3, 1) := by decide +kernel
theorem dL_law_1416 : decode cL_law 1416 = .ok (.iadd, 1) := by decide +kernel
theorem dL_law_1417 : decode cL_law 1417 = .ok (.iaload, 1) := by decide +kernel
theorem dL_law_1418 : decode cL_law 1418 = .ok (.invokevirtual 149, 3) := by decide +kernel
theorem dL_law_1421 : decode cL_law 1421 = .ok (.if_icmp .eq 466, 3) := by decide +kernel
theorem dL_law_1424 : decode cL_law 1424 = .ok (.iconst 0, 1) := by decide +kernel
theorem dL_law_1425 : decode cL_law 1425 = .ok (.ireturn, 1) := by decide +kernel
theorem dL_law_1426 : decode cL_law 1426 = .ok (.aload_n 1, 1) := by decide +kernel
theorem dL_law_1427 : decode cL_law 1427 = .ok (.invokevirtual 150, 3) := by decide +kernel
theorem dL_law_1430 : decode cL_law 1430 = .ok (.aload_n 2, 1) := by decide +kernel
theorem dL_law_1431 : decode cL_law 1431 = .ok (.invokevirtual 153, 3) := by decide +kernel
theorem dL_law_1434 : decode cL_law 1434 = .ok (.goto 453, 3) := by decide +kernel
theorem dL_law_1437 : decode cL_law 1437 = .ok (.aload_n 1, 1) := by decide +kernel
theorem dL_law_1438 : decode cL_law 1438 = .ok (.invokevirtual 154, 3) := by decide +kernel
theorem dL_law_1441 : decode cL_law 1441 = .ok (.aload_n 2, 1) := by decide +kernel
theorem dL_law_1442 : decode cL_law 1442 = .ok (.invokevirtual 157, 3) := by decide +kernel
theorem dL_law_1445 : decode cL_law 1445 = .ok (.if_icmp .eq 442, 3) := by decide +kernel
theorem dL_law_1448 : decode cL_law 1448 = .ok (.iconst 0, 1) := by decide +kernel
theorem dL_law_1449 : decode cL_law 1449 = .ok (.ireturn, 1) := by decide +kernel
theorem dL_law_1450 : decode cL_law 1450 = .ok (.aload_n 1, 1) := by decide +kernel
theorem dL_law_1451 : decode cL_law 1451 = .ok (.invokevirtual 158, 3) := by decide +kernel
theorem dL_law_1454 : decode cL_law 1454 = .ok (.aload_n 2, 1) := by decide +kernel
theorem dL_law_1455 : decode cL_law 1455 = .ok (.invokevirtual 161, 3) := by decide +kernel
theorem dL_law_1458 : decode cL_law 1458 = .ok (.if_icmp .eq 429, 3) := by decide +kernel
theorem dL_law_1461 : decode cL_law 1461 = .ok (.iconst 0, 1) := by decide +kernel
theorem dL_law_1462 : decode cL_law 1462 = .ok (.ireturn, 1) := by decide +kernel
theorem dL_law_1463 : decode cL_law 1463 = .ok (.aload_n 1, 1) := by decide +kernel
theorem dL_law_1464 : decode cL_law 1464 = .ok (.aload_n 0, 1) := by decide +kernel
theorem dL_law_1465 : decode cL_law 1465 = .ok (.iload 4, 2) := by decide +kernel
theorem dL_law_1467 : decode cL_law 1467 = .ok (.iconst 1, 1) := by decide +kernel
theorem dL_law_1468 : decode cL_law 1468 = .ok (.iadd, 1) := by decide +kernel
theorem dL_law_1469 : decode cL_law 1469 = .ok (.iaload, 1) := by decide +kernel
theorem dL_law_1470 : decode cL_law 1470 = .ok (.aload_n 0, 1) := by decide +kernel
theorem dL_law_1471 : decode cL_law 1471 = .ok (.iload 4, 2) := by decide +kernel
theorem dL_law_1473 : decode cL_law 1473 = .ok (.iconst 2, 1) := by decide +kernel
theorem dL_law_1474 : decode cL_law 1474 = .ok (.iadd, 1) := by decide +kernel
theorem dL_law_1475 : decode cL_law 1475 = .ok (.iaload, 1) := by decide +kernel
theorem dL_law_1476 : decode cL_law 1476 = .ok (.aload_n 3, 1) := by decide +kernel
theorem dL_law_1477 : decode cL_law 1477 = .ok (.invokestatic 162, 3) := by decide +kernel
theorem dL_law_1480 : decode cL_law 1480 = .ok (.istore 5, 2) := by decide +kernel
theorem dL_law_1482 : decode cL_law 1482 = .ok (.aload_n 2, 1) := by decide +kernel
theorem dL_law_1483 : decode cL_law 1483 = .ok (.aload_n 0, 1) := by decide +kernel
theorem dL_law_1484 : decode cL_law 1484 = .ok (.iload 4, 2) := by decide +kernel
theorem dL_law_1486 : decode cL_law 1486 = .ok (.iconst 1, 1) := by decide +kernel
theorem dL_law_1487 : decode cL_law 1487 = .ok (.iadd, 1) := by decide +kernel
theorem dL_law_1488 : decode cL_law 1488 = .ok (.iaload, 1) := by decide +kernel
theorem dL_law_1489 : decode cL_law 1489 = .ok (.aload_n 0, 1) := by decide +kernel
theorem dL_law_1490 : decode cL_law 1490 = .ok (.iload 4, 2) := by decide +kernel
theorem dL_law_1492 : decode cL_law 1492 = .ok (.iconst 2, 1) := by decide +kernel
theorem dL_law_1493 : decode cL_law 1493 = .ok (.iadd, 1) := by decide +kernel
theorem dL_law_1494 : decode cL_law 1494 = .ok (.iaload, 1) := by decide +kernel
theorem dL_law_1495 : decode cL_law 1495 = .ok (.invokevirtual 164, 3) := by decide +kernel
theorem dL_law_1498 : decode cL_law 1498 = .ok (.istore 6, 2) := by decide +kernel
theorem dL_law_1500 : decode cL_law 1500 = .ok (.aload_n 2, 1) := by decide +kernel
theorem dL_law_1501 : decode cL_law 1501 = .ok (.invokevirtual 91, 3) := by decide +kernel
theorem dL_law_1504 : decode cL_law 1504 = .ok (.iload 5, 2) := by decide +kernel
theorem dL_law_1506 : decode cL_law 1506 = .ok (.if_icmp .eq 5, 3) := by decide +kernel
theorem dL_law_1509 : decode cL_law 1509 = .ok (.iconst 0, 1) := by decide +kernel
theorem dL_law_1510 : decode cL_law 1510 = .ok (.ireturn, 1) := by decide +kernel
theorem dL_law_1511 : decode cL_law 1511 = .ok (.iload 5, 2) := by decide +kernel
theorem dL_law_1513 : decode cL_law 1513 = .ok (.ifCond .ne 15, 3) := by decide +kernel
theorem dL_law_1516 : decode cL_law 1516 = .ok (.aload_n 3, 1) := by decide +kernel
theorem dL_law_1517 : decode cL_law 1517 = .ok (.iconst 0, 1) := by decide +kernel
theorem dL_law_1518 : decode cL_law 1518 = .ok (.laload, 1) := by decide +kernel
theorem dL_law_1519 : decode cL_law 1519 = .ok (.iload 6, 2) := by decide +kernel
theorem dL_law_1521 : decode cL_law 1521 = .ok (.i2l, 1) := by decide +kernel
theorem dL_law_1522 : decode cL_law 1522 = .ok (.lcmp, 1) := by decide +kernel
theorem dL_law_1523 : decode cL_law 1523 = .ok (.ifCond .eq 5, 3) := by decide +kernel
theorem dL_law_1526 : decode cL_law 1526 = .ok (.iconst 0, 1) := by decide +kernel
theorem dL_law_1527 : decode cL_law 1527 = .ok (.ireturn, 1) := by decide +kernel
theorem dL_law_1528 : decode cL_law 1528 = .ok (.goto 359, 3) := by decide +kernel
theorem dL_law_1531 : decode cL_law 1531 = .ok (.aload_n 1, 1) := by decide +kernel
theorem dL_law_1532 : decode cL_law 1532 = .ok (.aload_n 0, 1) := by decide +kernel
theorem dL_law_1533 : decode cL_law 1533 = .ok (.iload 4, 2) := by decide +kernel
theorem dL_law_1535 : decode cL_law 1535 = .ok (.iconst 1, 1) := by decide +kernel
theorem dL_law_1536 : decode cL_law 1536 = .ok (.iadd, 1) := by decide +kernel
theorem dL_law_1537 : decode cL_law 1537 = .ok (.iaload, 1) := by decide +kernel
theorem dL_law_1538 : decode cL_law 1538 = .ok (.aload_n 0, 1) := by decide +kernel
theorem dL_law_1539 : decode cL_law 1539 = .ok (.iload 4, 2) := by decide +kernel
theorem dL_law_1541 : decode cL_law 1541 = .ok (.iconst 2, 1) := by decide +kernel
theorem dL_law_1542 : decode cL_law 1542 = .ok (.iadd, 1) := by decide +kernel
theorem dL_law_1543 : decode cL_law 1543 = .ok (.iaload, 1) := by decide +kernel
theorem dL_law_1544 : decode cL_law 1544 = .ok (.aload_n 3, 1) := by decide +kernel
theorem dL_law_1545 : decode cL_law 1545 = .ok (.invokestatic 165, 3) := by decide +kernel
theorem dL_law_1548 : decode cL_law 1548 = .ok (.istore 5, 2) := by decide +kernel
theorem dL_law_1550 : decode cL_law 1550 = .ok (.aload_n 2, 1) := by decide +kernel
theorem dL_law_1551 : decode cL_law 1551 = .ok (.aload_n 0, 1) := by decide +kernel
theorem dL_law_1552 : decode cL_law 1552 = .ok (.iload 4, 2) := by decide +kernel
theorem dL_law_1554 : decode cL_law 1554 = .ok (.iconst 1, 1) := by decide +kernel
theorem dL_law_1555 : decode cL_law 1555 = .ok (.iadd, 1) := by decide +kernel
theorem dL_law_1556 : decode cL_law 1556 = .ok (.iaload, 1) := by decide +kernel
theorem dL_law_1557 : decode cL_law 1557 = .ok (.aload_n 0, 1) := by decide +kernel
theorem dL_law_1558 : decode cL_law 1558 = .ok (.iload 4, 2) := by decide +kernel
theorem dL_law_1560 : decode cL_law 1560 = .ok (.iconst 2, 1) := by decide +kernel
theorem dL_law_1561 : decode cL_law 1561 = .ok (.iadd, 1) := by decide +kernel
theorem dL_law_1562 : decode cL_law 1562 = .ok (.iaload, 1) := by decide +kernel
theorem dL_law_1563 : decode cL_law 1563 = .ok (.invokevirtual 167, 3) := by decide +kernel
theorem dL_law_1566 : decode cL_law 1566 = .ok (.istore 6, 2) := by decide +kernel
theorem dL_law_1568 : decode cL_law 1568 = .ok (.aload_n 2, 1) := by decide +kernel
theorem dL_law_1569 : decode cL_law 1569 = .ok (.invokevirtual 91, 3) := by decide +kernel
theorem dL_law_1572 : decode cL_law 1572 = .ok (.iload 5, 2) := by decide +kernel
theorem dL_law_1574 : decode cL_law 1574 = .ok (.if_icmp .eq 5, 3) := by decide +kernel
theorem dL_law_1577 : decode cL_law 1577 = .ok (.iconst 0, 1) := by decide +kernel
theorem dL_law_1578 : decode cL_law 1578 = .ok (.ireturn, 1) := by decide +kernel
theorem dL_law_1579 : decode cL_law 1579 = .ok (.iload 5, 2) := by decide +kernel
theorem dL_law_1581 : decode cL_law 1581 = .ok (.ifCond .ne 15, 3) := by decide +kernel
theorem dL_law_1584 : decode cL_law 1584 = .ok (.aload_n 3, 1) := by decide +kernel
theorem dL_law_1585 : decode cL_law 1585 = .ok (.iconst 0, 1) := by decide +kernel
theorem dL_law_1586 : decode cL_law 1586 = .ok (.laload, 1) := by decide +kernel
theorem dL_law_1587 : decode cL_law 1587 = .ok (.iload 6, 2) := by decide +kernel
theorem dL_law_1589 : decode cL_law 1589 = .ok (.i2l, 1) := by decide +kernel
theorem dL_law_1590 : decode cL_law 1590 = .ok (.lcmp, 1) := by decide +kernel
theorem dL_law_1591 : decode cL_law 1591 = .ok (.ifCond .eq 5, 3) := by decide +kernel
theorem dL_law_1594 : decode cL_law 1594 = .ok (.iconst 0, 1) := by decide +kernel
theorem dL_law_1595 : decode cL_law 1595 = .ok (.ireturn, 1) := by decide +kernel
theorem dL_law_1596 : decode cL_law 1596 = .ok (.goto 291, 3) := by decide +kernel
theorem dL_law_1599 : decode cL_law 1599 = .ok (.aload_n 1, 1) := by decide +kernel
theorem dL_law_1600 : decode cL_law 1600 = .ok (.aload_n 0, 1) := by decide +kernel
theorem dL_law_1601 : decode cL_law 1601 = .ok (.iload 4, 2) := by decide +kernel
theorem dL_law_1603 : decode cL_law 1603 = .ok (.iconst 1, 1) := by decide +kernel
theorem dL_law_1604 : decode cL_law 1604 = .ok (.iadd, 1) := by decide +kernel
theorem dL_law_1605 : decode cL_law 1605 = .ok (.iaload, 1) := by decide +kernel
theorem dL_law_1606 : decode cL_law 1606 = .ok (.aload_n 0, 1) := by decide +kernel
theorem dL_law_1607 : decode cL_law 1607 = .ok (.iload 4, 2) := by decide +kernel
theorem dL_law_1609 : decode cL_law 1609 = .ok (.iconst 2, 1) := by decide +kernel
theorem dL_law_1610 : decode cL_law 1610 = .ok (.iadd, 1) := by decide +kernel
theorem dL_law_1611 : decode cL_law 1611 = .ok (.iaload, 1) := by decide +kernel
theorem dL_law_1612 : decode cL_law 1612 = .ok (.aload_n 3, 1) := by decide +kernel
theorem dL_law_1613 : decode cL_law 1613 = .ok (.invokestatic 168, 3) := by decide +kernel
theorem dL_law_1616 : decode cL_law 1616 = .ok (.istore 5, 2) := by decide +kernel
theorem dL_law_1618 : decode cL_law 1618 = .ok (.aload_n 2, 1) := by decide +kernel
theorem dL_law_1619 : decode cL_law 1619 = .ok (.aload_n 0, 1) := by decide +kernel
theorem dL_law_1620 : decode cL_law 1620 = .ok (.iload 4, 2) := by decide +kernel
theorem dL_law_1622 : decode cL_law 1622 = .ok (.iconst 1, 1) := by decide +kernel
theorem dL_law_1623 : decode cL_law 1623 = .ok (.iadd, 1) := by decide +kernel
theorem dL_law_1624 : decode cL_law 1624 = .ok (.iaload, 1) := by decide +kernel
theorem dL_law_1625 : decode cL_law 1625 = .ok (.aload_n 0, 1) := by decide +kernel
theorem dL_law_1626 : decode cL_law 1626 = .ok (.iload 4, 2) := by decide +kernel
theorem dL_law_1628 : decode cL_law 1628 = .ok (.iconst 2, 1) := by decide +kernel
theorem dL_law_1629 : decode cL_law 1629 = .ok (.iadd, 1) := by decide +kernel
theorem dL_law_1630 : decode cL_law 1630 = .ok (.iaload, 1) := by decide +kernel
theorem dL_law_1631 : decode cL_law 1631 = .ok (.invokevirtual 170, 3) := by decide +kernel
theorem dL_law_1634 : decode cL_law 1634 = .ok (.istore 6, 2) := by decide +kernel
theorem dL_law_1636 : decode cL_law 1636 = .ok (.aload_n 2, 1) := by decide +kernel
theorem dL_law_1637 : decode cL_law 1637 = .ok (.invokevirtual 91, 3) := by decide +kernel
theorem dL_law_1640 : decode cL_law 1640 = .ok (.iload 5, 2) := by decide +kernel
theorem dL_law_1642 : decode cL_law 1642 = .ok (.if_icmp .eq 5, 3) := by decide +kernel
theorem dL_law_1645 : decode cL_law 1645 = .ok (.iconst 0, 1) := by decide +kernel
theorem dL_law_1646 : decode cL_law 1646 = .ok (.ireturn, 1) := by decide +kernel
theorem dL_law_1647 : decode cL_law 1647 = .ok (.iload 5, 2) := by decide +kernel
theorem dL_law_1649 : decode cL_law 1649 = .ok (.ifCond .ne 15, 3) := by decide +kernel
theorem dL_law_1652 : decode cL_law 1652 = .ok (.aload_n 3, 1) := by decide +kernel
theorem dL_law_1653 : decode cL_law 1653 = .ok (.iconst 0, 1) := by decide +kernel
theorem dL_law_1654 : decode cL_law 1654 = .ok (.laload, 1) := by decide +kernel
theorem dL_law_1655 : decode cL_law 1655 = .ok (.iload 6, 2) := by decide +kernel
theorem dL_law_1657 : decode cL_law 1657 = .ok (.i2l, 1) := by decide +kernel
theorem dL_law_1658 : decode cL_law 1658 = .ok (.lcmp, 1) := by decide +kernel
theorem dL_law_1659 : decode cL_law 1659 = .ok (.ifCond .eq 5, 3) := by decide +kernel
theorem dL_law_1662 : decode cL_law 1662 = .ok (.iconst 0, 1) := by decide +kernel
theorem dL_law_1663 : decode cL_law 1663 = .ok (.ireturn, 1) := by decide +kernel
theorem dL_law_1664 : decode cL_law 1664 = .ok (.goto 223, 3) := by decide +kernel
theorem dL_law_1667 : decode cL_law 1667 = .ok (.aload_n 1, 1) := by decide +kernel
theorem dL_law_1668 : decode cL_law 1668 = .ok (.aload_n 0, 1) := by decide +kernel
theorem dL_law_1669 : decode cL_law 1669 = .ok (.iload 4, 2) := by decide +kernel
theorem dL_law_1671 : decode cL_law 1671 = .ok (.iconst 1, 1) := by decide +kernel
theorem dL_law_1672 : decode cL_law 1672 = .ok (.iadd, 1) := by decide +kernel
theorem dL_law_1673 : decode cL_law 1673 = .ok (.iaload, 1) := by decide +kernel
theorem dL_law_1674 : decode cL_law 1674 = .ok (.aload_n 0, 1) := by decide +kernel
theorem dL_law_1675 : decode cL_law 1675 = .ok (.iload 4, 2) := by decide +kernel
theorem dL_law_1677 : decode cL_law 1677 = .ok (.iconst 2, 1) := by decide +kernel
theorem dL_law_1678 : decode cL_law 1678 = .ok (.iadd, 1) := by decide +kernel
theorem dL_law_1679 : decode cL_law 1679 = .ok (.iaload, 1) := by decide +kernel
theorem dL_law_1680 : decode cL_law 1680 = .ok (.aload_n 0, 1) := by decide +kernel
theorem dL_law_1681 : decode cL_law 1681 = .ok (.iload 4, 2) := by decide +kernel
theorem dL_law_1683 : decode cL_law 1683 = .ok (.iconst 3, 1) := by decide +kernel
theorem dL_law_1684 : decode cL_law 1684 = .ok (.iadd, 1) := by decide +kernel
theorem dL_law_1685 : decode cL_law 1685 = .ok (.iaload, 1) := by decide +kernel
theorem dL_law_1686 : decode cL_law 1686 = .ok (.invokevirtual 171, 3) := by decide +kernel
theorem dL_law_1689 : decode cL_law 1689 = .ok (.aload_n 2, 1) := by decide +kernel
theorem dL_law_1690 : decode cL_law 1690 = .ok (.aload_n 0, 1) := by decide +kernel
theorem dL_law_1691 : decode cL_law 1691 = .ok (.iload 4, 2) := by decide +kernel
theorem dL_law_1693 : decode cL_law 1693 = .ok (.iconst 1, 1) := by decide +kernel
theorem dL_law_1694 : decode cL_law 1694 = .ok (.iadd, 1) := by decide +kernel
theorem dL_law_1695 : decode cL_law 1695 = .ok (.iaload, 1) := by decide +kernel
theorem dL_law_1696 : decode cL_law 1696 = .ok (.aload_n 0, 1) := by decide +kernel
theorem dL_law_1697 : decode cL_law 1697 = .ok (.iload 4, 2) := by decide +kernel
theorem dL_law_1699 : decode cL_law 1699 = .ok (.iconst 2, 1) := by decide +kernel
theorem dL_law_1700 : decode cL_law 1700 = .ok (.iadd, 1) := by decide +kernel
theorem dL_law_1701 : decode cL_law 1701 = .ok (.iaload, 1) := by decide +kernel
theorem dL_law_1702 : decode cL_law 1702 = .ok (.aload_n 0, 1) := by decide +kernel
theorem dL_law_1703 : decode cL_law 1703 = .ok (.iload 4, 2) := by decide +kernel
theorem dL_law_1705 : decode cL_law 1705 = .ok (.iconst 3, 1) := by decide +kernel
theorem dL_law_1706 : decode cL_law 1706 = .ok (.iadd, 1) := by decide +kernel
theorem dL_law_1707 : decode cL_law 1707 = .ok (.iaload, 1) := by decide +kernel
theorem dL_law_1708 : decode cL_law 1708 = .ok (.invokevirtual 174, 3) := by decide +kernel
theorem dL_law_1711 : decode cL_law 1711 = .ok (.if_icmp .eq 176, 3) := by decide +kernel
theorem dL_law_1714 : decode cL_law 1714 = .ok (.iconst 0, 1) := by decide +kernel
theorem dL_law_1715 : decode cL_law 1715 = .ok (.ireturn, 1) := by decide +kernel
theorem dL_law_1716 : decode cL_law 1716 = .ok (.aload_n 1, 1) := by decide +kernel
theorem dL_law_1717 : decode cL_law 1717 = .ok (.invokevirtual 175, 3) := by decide +kernel
theorem dL_law_1720 : decode cL_law 1720 = .ok (.aload_n 2, 1) := by decide +kernel
theorem dL_law_1721 : decode cL_law 1721 = .ok (.invokevirtual 178, 3) := by decide +kernel
theorem dL_law_1724 : decode cL_law 1724 = .ok (.goto 163, 3) := by decide +kernel
theorem dL_law_1727 : decode cL_law 1727 = .ok (.aload_n 1, 1) := by decide +kernel
theorem dL_law_1728 : decode cL_law 1728 = .ok (.aload_n 0, 1) := by decide +kernel
theorem dL_law_1729 : decode cL_law 1729 = .ok (.iload 4, 2) := by decide +kernel
theorem dL_law_1731 : decode cL_law 1731 = .ok (.iconst 1, 1) := by decide +kernel
theorem dL_law_1732 : decode cL_law 1732 = .ok (.iadd, 1) := by decide +kernel
theorem dL_law_1733 : decode cL_law 1733 = .ok (.iaload, 1) := by decide +kernel
theorem dL_law_1734 : decode cL_law 1734 = .ok (.aload_n 3, 1) := by decide +kernel
theorem dL_law_1735 : decode cL_law 1735 = .ok (.invokestatic 179, 3) := by decide +kernel
theorem dL_law_1738 : decode cL_law 1738 = .ok (.istore 5, 2) := by decide +kernel
theorem dL_law_1740 : decode cL_law 1740 = .ok (.aload_n 2, 1) := by decide +kernel
theorem dL_law_1741 : decode cL_law 1741 = .ok (.aload_n 0, 1) := by decide +kernel
theorem dL_law_1742 : decode cL_law 1742 = .ok (.iload 4, 2) := by decide +kernel
theorem dL_law_1744 : decode cL_law 1744 = .ok (.iconst 1, 1) := by decide +kernel
theorem dL_law_1745 : decode cL_law 1745 = .ok (.iadd, 1) := by decide +kernel
theorem dL_law_1746 : decode cL_law 1746 = .ok (.iaload, 1) := by decide +kernel
theorem dL_law_1747 : decode cL_law 1747 = .ok (.invokevirtual 181, 3) := by decide +kernel
theorem dL_law_1750 : decode cL_law 1750 = .ok (.istore 6, 2) := by decide +kernel
theorem dL_law_1752 : decode cL_law 1752 = .ok (.aload_n 2, 1) := by decide +kernel
theorem dL_law_1753 : decode cL_law 1753 = .ok (.invokevirtual 91, 3) := by decide +kernel
theorem dL_law_1756 : decode cL_law 1756 = .ok (.iload 5, 2) := by decide +kernel
theorem dL_law_1758 : decode cL_law 1758 = .ok (.if_icmp .eq 5, 3) := by decide +kernel
theorem dL_law_1761 : decode cL_law 1761 = .ok (.iconst 0, 1) := by decide +kernel
theorem dL_law_1762 : decode cL_law 1762 = .ok (.ireturn, 1) := by decide +kernel
theorem dL_law_1763 : decode cL_law 1763 = .ok (.iload 5, 2) := by decide +kernel
theorem dL_law_1765 : decode cL_law 1765 = .ok (.ifCond .ne 15, 3) := by decide +kernel
theorem dL_law_1768 : decode cL_law 1768 = .ok (.aload_n 3, 1) := by decide +kernel
theorem dL_law_1769 : decode cL_law 1769 = .ok (.iconst 0, 1) := by decide +kernel
theorem dL_law_1770 : decode cL_law 1770 = .ok (.laload, 1) := by decide +kernel
theorem dL_law_1771 : decode cL_law 1771 = .ok (.iload 6, 2) := by decide +kernel
theorem dL_law_1773 : decode cL_law 1773 = .ok (.i2l, 1) := by decide +kernel
theorem dL_law_1774 : decode cL_law 1774 = .ok (.lcmp, 1) := by decide +kernel
theorem dL_law_1775 : decode cL_law 1775 = .ok (.ifCond .eq 5, 3) := by decide +kernel
theorem dL_law_1778 : decode cL_law 1778 = .ok (.iconst 0, 1) := by decide +kernel
theorem dL_law_1779 : decode cL_law 1779 = .ok (.ireturn, 1) := by decide +kernel
theorem dL_law_1780 : decode cL_law 1780 = .ok (.goto 107, 3) := by decide +kernel
theorem dL_law_1783 : decode cL_law 1783 = .ok (.aload_n 1, 1) := by decide +kernel
theorem dL_law_1784 : decode cL_law 1784 = .ok (.aload_n 0, 1) := by decide +kernel
theorem dL_law_1785 : decode cL_law 1785 = .ok (.iload 4, 2) := by decide +kernel
theorem dL_law_1787 : decode cL_law 1787 = .ok (.iconst 1, 1) := by decide +kernel
theorem dL_law_1788 : decode cL_law 1788 = .ok (.iadd, 1) := by decide +kernel
theorem dL_law_1789 : decode cL_law 1789 = .ok (.iaload, 1) := by decide +kernel
theorem dL_law_1790 : decode cL_law 1790 = .ok (.aload_n 0, 1) := by decide +kernel
theorem dL_law_1791 : decode cL_law 1791 = .ok (.iload 4, 2) := by decide +kernel
theorem dL_law_1793 : decode cL_law 1793 = .ok (.iconst 2, 1) := by decide +kernel
theorem dL_law_1794 : decode cL_law 1794 = .ok (.iadd, 1) := by decide +kernel
theorem dL_law_1795 : decode cL_law 1795 = .ok (.iaload, 1) := by decide +kernel
theorem dL_law_1796 : decode cL_law 1796 = .ok (.aload_n 0, 1) := by decide +kernel
theorem dL_law_1797 : decode cL_law 1797 = .ok (.iload 4, 2) := by decide +kernel
theorem dL_law_1799 : decode cL_law 1799 = .ok (.iconst 3, 1) := by decide +kernel
theorem dL_law_1800 : decode cL_law 1800 = .ok (.iadd, 1) := by decide +kernel
theorem dL_law_1801 : decode cL_law 1801 = .ok (.iaload, 1) := by decide +kernel
theorem dL_law_1802 : decode cL_law 1802 = .ok (.aload_n 3, 1) := by decide +kernel
theorem dL_law_1803 : decode cL_law 1803 = .ok (.invokestatic 182, 3) := by decide +kernel
theorem dL_law_1806 : decode cL_law 1806 = .ok (.istore 5, 2) := by decide +kernel
theorem dL_law_1808 : decode cL_law 1808 = .ok (.aload_n 2, 1) := by decide +kernel
theorem dL_law_1809 : decode cL_law 1809 = .ok (.aload_n 0, 1) := by decide +kernel
theorem dL_law_1810 : decode cL_law 1810 = .ok (.iload 4, 2) := by decide +kernel
theorem dL_law_1812 : decode cL_law 1812 = .ok (.iconst 1, 1) := by decide +kernel
theorem dL_law_1813 : decode cL_law 1813 = .ok (.iadd, 1) := by decide +kernel
theorem dL_law_1814 : decode cL_law 1814 = .ok (.iaload, 1) := by decide +kernel
theorem dL_law_1815 : decode cL_law 1815 = .ok (.aload_n 0, 1) := by decide +kernel
theorem dL_law_1816 : decode cL_law 1816 = .ok (.iload 4, 2) := by decide +kernel
theorem dL_law_1818 : decode cL_law 1818 = .ok (.iconst 2, 1) := by decide +kernel
theorem dL_law_1819 : decode cL_law 1819 = .ok (.iadd, 1) := by decide +kernel
theorem dL_law_1820 : decode cL_law 1820 = .ok (.iaload, 1) := by decide +kernel
theorem dL_law_1821 : decode cL_law 1821 = .ok (.aload_n 0, 1) := by decide +kernel
theorem dL_law_1822 : decode cL_law 1822 = .ok (.iload 4, 2) := by decide +kernel
theorem dL_law_1824 : decode cL_law 1824 = .ok (.iconst 3, 1) := by decide +kernel
theorem dL_law_1825 : decode cL_law 1825 = .ok (.iadd, 1) := by decide +kernel
theorem dL_law_1826 : decode cL_law 1826 = .ok (.iaload, 1) := by decide +kernel
theorem dL_law_1827 : decode cL_law 1827 = .ok (.invokevirtual 184, 3) := by decide +kernel
theorem dL_law_1830 : decode cL_law 1830 = .ok (.istore 6, 2) := by decide +kernel
theorem dL_law_1832 : decode cL_law 1832 = .ok (.aload_n 2, 1) := by decide +kernel
theorem dL_law_1833 : decode cL_law 1833 = .ok (.invokevirtual 91, 3) := by decide +kernel
theorem dL_law_1836 : decode cL_law 1836 = .ok (.iload 5, 2) := by decide +kernel
theorem dL_law_1838 : decode cL_law 1838 = .ok (.if_icmp .eq 5, 3) := by decide +kernel
theorem dL_law_1841 : decode cL_law 1841 = .ok (.iconst 0, 1) := by decide +kernel
theorem dL_law_1842 : decode cL_law 1842 = .ok (.ireturn, 1) := by decide +kernel
theorem dL_law_1843 : decode cL_law 1843 = .ok (.iload 5, 2) := by decide +kernel
theorem dL_law_1845 : decode cL_law 1845 = .ok (.ifCond .ne 15, 3) := by decide +kernel
theorem dL_law_1848 : decode cL_law 1848 = .ok (.aload_n 3, 1) := by decide +kernel
theorem dL_law_1849 : decode cL_law 1849 = .ok (.iconst 0, 1) := by decide +kernel
theorem dL_law_1850 : decode cL_law 1850 = .ok (.laload, 1) := by decide +kernel
theorem dL_law_1851 : decode cL_law 1851 = .ok (.iload 6, 2) := by decide +kernel
theorem dL_law_1853 : decode cL_law 1853 = .ok (.i2l, 1) := by decide +kernel
theorem dL_law_1854 : decode cL_law 1854 = .ok (.lcmp, 1) := by decide +kernel
theorem dL_law_1855 : decode cL_law 1855 = .ok (.ifCond .eq 5, 3) := by decide +kernel
theorem dL_law_1858 : decode cL_law 1858 = .ok (.iconst 0, 1) := by decide +kernel
theorem dL_law_1859 : decode cL_law 1859 = .ok (.ireturn, 1) := by decide +kernel
theorem dL_law_1860 : decode cL_law 1860 = .ok (.goto 27, 3) := by decide +kernel
theorem dL_law_1863 : decode cL_law 1863 = .ok (.aload_n 1, 1) := by decide +kernel
theorem dL_law_1864 : decode cL_law 1864 = .ok (.invokevirtual 185, 3) := by decide +kernel
theorem dL_law_1867 : decode cL_law 1867 = .ok (.aload_n 2, 1) := by decide +kernel
theorem dL_law_1868 : decode cL_law 1868 = .ok (.invokevirtual 188, 3) := by decide +kernel
theorem dL_law_1871 : decode cL_law 1871 = .ok (.goto 16, 3) := by decide +kernel
theorem dL_law_1874 : decode cL_law 1874 = .ok (.aload_n 1, 1) := by decide +kernel
theorem dL_law_1875 : decode cL_law 1875 = .ok (.invokevirtual 189, 3) := by decide +kernel
theorem dL_law_1878 : decode cL_law 1878 = .ok (.aload_n 2, 1) := by decide +kernel
theorem dL_law_1879 : decode cL_law 1879 = .ok (.invokevirtual 193, 3) := by decide +kernel
theorem dL_law_1882 : decode cL_law 1882 = .ok (.if_icmp .eq 5, 3) := by decide +kernel
theorem dL_law_1885 : decode cL_law 1885 = .ok (.iconst 0, 1) := by decide +kernel
theorem dL_law_1886 : decode cL_law 1886 = .ok (.ireturn, 1) := by decide +kernel
theorem dL_law_1887 : decode cL_law 1887 = .ok (.iinc 4 6, 3) := by decide +kernel
theorem dL_law_1890 : decode cL_law 1890 = .ok (.goto (-1867), 3) := by decide +kernel
theorem dL_law_1893 : decode cL_law 1893 = .ok (.iconst 1, 1) := by decide +kernel
theorem dL_law_1894 : decode cL_law 1894 = .ok (.ireturn, 1) := by decide +kernel
