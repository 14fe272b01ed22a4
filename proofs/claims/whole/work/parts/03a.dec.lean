theorem dX0_init_0 : decode cX0_init 0 = .ok (.aload_n 0, 1) := by decide +kernel
theorem dX0_init_1 : decode cX0_init 1 = .ok (.invokespecial 3, 3) := by decide +kernel
theorem dX0_init_4 : decode cX0_init 4 = .ok (.aload_n 0, 1) := by decide +kernel
theorem dX0_init_5 : decode cX0_init 5 = .ok (.bipush 31, 2) := by decide +kernel
theorem dX0_init_7 : decode cX0_init 7 = .ok (.anewarray 11, 3) := by decide +kernel
theorem dX0_init_10 : decode cX0_init 10 = .ok (.putfield 13, 3) := by decide +kernel
theorem dX0_init_13 : decode cX0_init 13 = .ok (.return_, 1) := by decide +kernel
theorem dX0_clear_0 : decode cX0_clear 0 = .ok (.aload_n 0, 1) := by decide +kernel
theorem dX0_clear_1 : decode cX0_clear 1 = .ok (.iconst 0, 1) := by decide +kernel
theorem dX0_clear_2 : decode cX0_clear 2 = .ok (.putfield 17, 3) := by decide +kernel
theorem dX0_clear_5 : decode cX0_clear 5 = .ok (.return_, 1) := by decide +kernel
theorem dX0_prepare_0 : decode cX0_prepare 0 = .ok (.aload_n 0, 1) := by decide +kernel
theorem dX0_prepare_1 : decode cX0_prepare 1 = .ok (.aload_n 0, 1) := by decide +kernel
theorem dX0_prepare_2 : decode cX0_prepare 2 = .ok (.getfield 17, 3) := by decide +kernel
theorem dX0_prepare_5 : decode cX0_prepare 5 = .ok (.invokevirtual 21, 3) := by decide +kernel
theorem dX0_prepare_8 : decode cX0_prepare 8 = .ok (.aload_n 1, 1) := by decide +kernel
theorem dX0_prepare_9 : decode cX0_prepare 9 = .ok (.invokevirtual 25, 3) := by decide +kernel
theorem dX0_prepare_12 : decode cX0_prepare 12 = .ok (.return_, 1) := by decide +kernel
theorem dX0_keepPrepared_0 : decode cX0_keepPrepared 0 = .ok (.aload_n 0, 1) := by decide +kernel
theorem dX0_keepPrepared_1 : decode cX0_keepPrepared 1 = .ok (.getfield 17, 3) := by decide +kernel
theorem dX0_keepPrepared_4 : decode cX0_keepPrepared 4 = .ok (.bipush 30, 2) := by decide +kernel
theorem dX0_keepPrepared_6 : decode cX0_keepPrepared 6 = .ok (.if_icmp .ge 16, 3) := by decide +kernel
theorem dX0_keepPrepared_9 : decode cX0_keepPrepared 9 = .ok (.aload_n 0, 1) := by decide +kernel
theorem dX0_keepPrepared_10 : decode cX0_keepPrepared 10 = .ok (.dup, 1) := by decide +kernel
theorem dX0_keepPrepared_11 : decode cX0_keepPrepared 11 = .ok (.getfield 17, 3) := by decide +kernel
theorem dX0_keepPrepared_14 : decode cX0_keepPrepared 14 = .ok (.iconst 1, 1) := by decide +kernel
theorem dX0_keepPrepared_15 : decode cX0_keepPrepared 15 = .ok (.iadd, 1) := by decide +kernel
theorem dX0_keepPrepared_16 : decode cX0_keepPrepared 16 = .ok (.putfield 17, 3) := by decide +kernel
theorem dX0_keepPrepared_19 : decode cX0_keepPrepared 19 = .ok (.goto 16, 3) := by decide +kernel
theorem dX0_keepPrepared_22 : decode cX0_keepPrepared 22 = .ok (.aload_n 0, 1) := by decide +kernel
theorem dX0_keepPrepared_23 : decode cX0_keepPrepared 23 = .ok (.aload_n 0, 1) := by decide +kernel
theorem dX0_keepPrepared_24 : decode cX0_keepPrepared 24 = .ok (.getfield 29, 3) := by decide +kernel
theorem dX0_keepPrepared_27 : decode cX0_keepPrepared 27 = .ok (.iconst 1, 1) := by decide +kernel
theorem dX0_keepPrepared_28 : decode cX0_keepPrepared 28 = .ok (.iadd, 1) := by decide +kernel
theorem dX0_keepPrepared_29 : decode cX0_keepPrepared 29 = .ok (.bipush 31, 2) := by decide +kernel
theorem dX0_keepPrepared_31 : decode cX0_keepPrepared 31 = .ok (.irem, 1) := by decide +kernel
theorem dX0_keepPrepared_32 : decode cX0_keepPrepared 32 = .ok (.putfield 29, 3) := by decide +kernel
theorem dX0_keepPrepared_35 : decode cX0_keepPrepared 35 = .ok (.return_, 1) := by decide +kernel
theorem dX0_takeBack_0 : decode cX0_takeBack 0 = .ok (.aload_n 0, 1) := by decide +kernel
theorem dX0_takeBack_1 : decode cX0_takeBack 1 = .ok (.getfield 17, 3) := by decide +kernel
theorem dX0_takeBack_4 : decode cX0_takeBack 4 = .ok (.ifCond .ne 5, 3) := by decide +kernel
theorem dX0_takeBack_7 : decode cX0_takeBack 7 = .ok (.iconst 0, 1) := by decide +kernel
theorem dX0_takeBack_8 : decode cX0_takeBack 8 = .ok (.ireturn, 1) := by decide +kernel
theorem dX0_takeBack_9 : decode cX0_takeBack 9 = .ok (.aload_n 0, 1) := by decide +kernel
theorem dX0_takeBack_10 : decode cX0_takeBack 10 = .ok (.dup, 1) := by decide +kernel
theorem dX0_takeBack_11 : decode cX0_takeBack 11 = .ok (.getfield 17, 3) := by decide +kernel
theorem dX0_takeBack_14 : decode cX0_takeBack 14 = .ok (.iconst 1, 1) := by decide +kernel
theorem dX0_takeBack_15 : decode cX0_takeBack 15 = .ok (.isub, 1) := by decide +kernel
theorem dX0_takeBack_16 : decode cX0_takeBack 16 = .ok (.putfield 17, 3) := by decide +kernel
theorem dX0_takeBack_19 : decode cX0_takeBack 19 = .ok (.aload_n 1, 1) := by decide +kernel
theorem dX0_takeBack_20 : decode cX0_takeBack 20 = .ok (.aload_n 0, 1) := by decide +kernel
theorem dX0_takeBack_21 : decode cX0_takeBack 21 = .ok (.aload_n 0, 1) := by decide +kernel
theorem dX0_takeBack_22 : decode cX0_takeBack 22 = .ok (.getfield 17, 3) := by decide +kernel
theorem dX0_takeBack_25 : decode cX0_takeBack 25 = .ok (.invokevirtual 21, 3) := by decide +kernel
theorem dX0_takeBack_28 : decode cX0_takeBack 28 = .ok (.invokevirtual 25, 3) := by decide +kernel
theorem dX0_takeBack_31 : decode cX0_takeBack 31 = .ok (.iconst 1, 1) := by decide +kernel
theorem dX0_takeBack_32 : decode cX0_takeBack 32 = .ok (.ireturn, 1) := by decide +kernel
theorem dX0_copyFrom_0 : decode cX0_copyFrom 0 = .ok (.aload_n 0, 1) := by decide +kernel
theorem dX0_copyFrom_1 : decode cX0_copyFrom 1 = .ok (.aload_n 1, 1) := by decide +kernel
theorem dX0_copyFrom_2 : decode cX0_copyFrom 2 = .ok (.getfield 17, 3) := by decide +kernel
theorem dX0_copyFrom_5 : decode cX0_copyFrom 5 = .ok (.putfield 17, 3) := by decide +kernel
theorem dX0_copyFrom_8 : decode cX0_copyFrom 8 = .ok (.iconst 0, 1) := by decide +kernel
theorem dX0_copyFrom_9 : decode cX0_copyFrom 9 = .ok (.istore_n 2, 1) := by decide +kernel
theorem dX0_copyFrom_10 : decode cX0_copyFrom 10 = .ok (.iload_n 2, 1) := by decide +kernel
theorem dX0_copyFrom_11 : decode cX0_copyFrom 11 = .ok (.aload_n 0, 1) := by decide +kernel
theorem dX0_copyFrom_12 : decode cX0_copyFrom 12 = .ok (.getfield 17, 3) := by decide +kernel
theorem dX0_copyFrom_15 : decode cX0_copyFrom 15 = .ok (.if_icmp .ge 22, 3) := by decide +kernel
theorem dX0_copyFrom_18 : decode cX0_copyFrom 18 = .ok (.aload_n 0, 1) := by decide +kernel
theorem dX0_copyFrom_19 : decode cX0_copyFrom 19 = .ok (.iload_n 2, 1) := by decide +kernel
theorem dX0_copyFrom_20 : decode cX0_copyFrom 20 = .ok (.invokevirtual 21, 3) := by decide +kernel
theorem dX0_copyFrom_23 : decode cX0_copyFrom 23 = .ok (.aload_n 1, 1) := by decide +kernel
theorem dX0_copyFrom_24 : decode cX0_copyFrom 24 = .ok (.iload_n 2, 1) := by decide +kernel
theorem dX0_copyFrom_25 : decode cX0_copyFrom 25 = .ok (.invokevirtual 21, 3) := by decide +kernel
theorem dX0_copyFrom_28 : decode cX0_copyFrom 28 = .ok (.invokevirtual 25, 3) := by decide +kernel
theorem dX0_copyFrom_31 : decode cX0_copyFrom 31 = .ok (.iinc 2 1, 3) := by decide +kernel
theorem dX0_copyFrom_34 : decode cX0_copyFrom 34 = .ok (.goto (-24), 3) := by decide +kernel
theorem dX0_copyFrom_37 : decode cX0_copyFrom 37 = .ok (.return_, 1) := by decide +kernel
theorem dX0_slot_0 : decode cX0_slot 0 = .ok (.aload_n 0, 1) := by decide +kernel
theorem dX0_slot_1 : decode cX0_slot 1 = .ok (.getfield 29, 3) := by decide +kernel
theorem dX0_slot_4 : decode cX0_slot 4 = .ok (.iload_n 1, 1) := by decide +kernel
theorem dX0_slot_5 : decode cX0_slot 5 = .ok (.iadd, 1) := by decide +kernel
theorem dX0_slot_6 : decode cX0_slot 6 = .ok (.bipush 31, 2) := by decide +kernel
theorem dX0_slot_8 : decode cX0_slot 8 = .ok (.invokestatic 32, 3) := by decide +kernel
theorem dX0_slot_11 : decode cX0_slot 11 = .ok (.istore_n 2, 1) := by decide +kernel
theorem dX0_slot_12 : decode cX0_slot 12 = .ok (.aload_n 0, 1) := by decide +kernel
theorem dX0_slot_13 : decode cX0_slot 13 = .ok (.getfield 13, 3) := by decide +kernel
theorem dX0_slot_16 : decode cX0_slot 16 = .ok (.iload_n 2, 1) := by decide +kernel
theorem dX0_slot_17 : decode cX0_slot 17 = .ok (.aaload, 1) := by decide +kernel
theorem dX0_slot_18 : decode cX0_slot 18 = .ok (.astore_n 3, 1) := by decide +kernel
theorem dX0_slot_19 : decode cX0_slot 19 = .ok (.aload_n 3, 1) := by decide +kernel
theorem dX0_slot_20 : decode cX0_slot 20 = .ok (.ifnonnull 18, 3) := by decide +kernel
theorem dX0_slot_23 : decode cX0_slot 23 = .ok (.new 11, 3) := by decide +kernel
theorem dX0_slot_26 : decode cX0_slot 26 = .ok (.dup, 1) := by decide +kernel
theorem dX0_slot_27 : decode cX0_slot 27 = .ok (.invokespecial 38, 3) := by decide +kernel
theorem dX0_slot_30 : decode cX0_slot 30 = .ok (.astore_n 3, 1) := by decide +kernel
theorem dX0_slot_31 : decode cX0_slot 31 = .ok (.aload_n 0, 1) := by decide +kernel
theorem dX0_slot_32 : decode cX0_slot 32 = .ok (.getfield 13, 3) := by decide +kernel
theorem dX0_slot_35 : decode cX0_slot 35 = .ok (.iload_n 2, 1) := by decide +kernel
theorem dX0_slot_36 : decode cX0_slot 36 = .ok (.aload_n 3, 1) := by decide +kernel
theorem dX0_slot_37 : decode cX0_slot 37 = .ok (.aastore, 1) := by decide +kernel
theorem dX0_slot_38 : decode cX0_slot 38 = .ok (.aload_n 3, 1) := by decide +kernel
theorem dX0_slot_39 : decode cX0_slot 39 = .ok (.areturn, 1) := by decide +kernel
theorem dX1_idOf_0 : decode cX1_idOf 0 = .ok (.iload_n 0, 1) := by decide +kernel
theorem dX1_idOf_1 : decode cX1_idOf 1 = .ok (.tableswitch 153 0 6 #[43, 43, 43, 43, 67, 89, 121], 43) := by decide +kernel
theorem dX1_idOf_44 : decode cX1_idOf 44 = .ok (.iload_n 1, 1) := by decide +kernel
theorem dX1_idOf_45 : decode cX1_idOf 45 = .ok (.bipush 9, 2) := by decide +kernel
theorem dX1_idOf_47 : decode cX1_idOf 47 = .ok (.invokestatic 11, 3) := by decide +kernel
theorem dX1_idOf_50 : decode cX1_idOf 50 = .ok (.ifCond .eq 16, 3) := by decide +kernel
theorem dX1_idOf_53 : decode cX1_idOf 53 = .ok (.iload_n 2, 1) := by decide +kernel
theorem dX1_idOf_54 : decode cX1_idOf 54 = .ok (.ifCond .ne 12, 3) := by decide +kernel
theorem dX1_idOf_57 : decode cX1_idOf 57 = .ok (.iload_n 0, 1) := by decide +kernel
theorem dX1_idOf_58 : decode cX1_idOf 58 = .ok (.bipush 9, 2) := by decide +kernel
theorem dX1_idOf_60 : decode cX1_idOf 60 = .ok (.imul, 1) := by decide +kernel
theorem dX1_idOf_61 : decode cX1_idOf 61 = .ok (.iload_n 1, 1) := by decide +kernel
theorem dX1_idOf_62 : decode cX1_idOf 62 = .ok (.iadd, 1) := by decide +kernel
theorem dX1_idOf_63 : decode cX1_idOf 63 = .ok (.goto 4, 3) := by decide +kernel
theorem dX1_idOf_66 : decode cX1_idOf 66 = .ok (.iconst (-1), 1) := by decide +kernel
theorem dX1_idOf_67 : decode cX1_idOf 67 = .ok (.ireturn, 1) := by decide +kernel
theorem dX1_idOf_68 : decode cX1_idOf 68 = .ok (.iload_n 1, 1) := by decide +kernel
theorem dX1_idOf_69 : decode cX1_idOf 69 = .ok (.bipush 20, 2) := by decide +kernel
theorem dX1_idOf_71 : decode cX1_idOf 71 = .ok (.invokestatic 11, 3) := by decide +kernel
theorem dX1_idOf_74 : decode cX1_idOf 74 = .ok (.ifCond .eq 14, 3) := by decide +kernel
theorem dX1_idOf_77 : decode cX1_idOf 77 = .ok (.iload_n 2, 1) := by decide +kernel
theorem dX1_idOf_78 : decode cX1_idOf 78 = .ok (.ifCond .ne 10, 3) := by decide +kernel
theorem dX1_idOf_81 : decode cX1_idOf 81 = .ok (.bipush 36, 2) := by decide +kernel
theorem dX1_idOf_83 : decode cX1_idOf 83 = .ok (.iload_n 1, 1) := by decide +kernel
theorem dX1_idOf_84 : decode cX1_idOf 84 = .ok (.iadd, 1) := by decide +kernel
theorem dX1_idOf_85 : decode cX1_idOf 85 = .ok (.goto 4, 3) := by decide +kernel
theorem dX1_idOf_88 : decode cX1_idOf 88 = .ok (.iconst (-1), 1) := by decide +kernel
theorem dX1_idOf_89 : decode cX1_idOf 89 = .ok (.ireturn, 1) := by decide +kernel
theorem dX1_idOf_90 : decode cX1_idOf 90 = .ok (.iload_n 1, 1) := by decide +kernel
theorem dX1_idOf_91 : decode cX1_idOf 91 = .ok (.bipush 20, 2) := by decide +kernel
theorem dX1_idOf_93 : decode cX1_idOf 93 = .ok (.invokestatic 11, 3) := by decide +kernel
theorem dX1_idOf_96 : decode cX1_idOf 96 = .ok (.ifCond .eq 24, 3) := by decide +kernel
theorem dX1_idOf_99 : decode cX1_idOf 99 = .ok (.iload_n 2, 1) := by decide +kernel
theorem dX1_idOf_100 : decode cX1_idOf 100 = .ok (.bipush 9, 2) := by decide +kernel
theorem dX1_idOf_102 : decode cX1_idOf 102 = .ok (.invokestatic 11, 3) := by decide +kernel
theorem dX1_idOf_105 : decode cX1_idOf 105 = .ok (.ifCond .eq 15, 3) := by decide +kernel
theorem dX1_idOf_108 : decode cX1_idOf 108 = .ok (.bipush 56, 2) := by decide +kernel
theorem dX1_idOf_110 : decode cX1_idOf 110 = .ok (.iload_n 1, 1) := by decide +kernel
theorem dX1_idOf_111 : decode cX1_idOf 111 = .ok (.bipush 9, 2) := by decide +kernel
theorem dX1_idOf_113 : decode cX1_idOf 113 = .ok (.imul, 1) := by decide +kernel
theorem dX1_idOf_114 : decode cX1_idOf 114 = .ok (.iadd, 1) := by decide +kernel
theorem dX1_idOf_115 : decode cX1_idOf 115 = .ok (.iload_n 2, 1) := by decide +kernel
theorem dX1_idOf_116 : decode cX1_idOf 116 = .ok (.iadd, 1) := by decide +kernel
theorem dX1_idOf_117 : decode cX1_idOf 117 = .ok (.goto 4, 3) := by decide +kernel
theorem dX1_idOf_120 : decode cX1_idOf 120 = .ok (.iconst (-1), 1) := by decide +kernel
theorem dX1_idOf_121 : decode cX1_idOf 121 = .ok (.ireturn, 1) := by decide +kernel
theorem dX1_idOf_122 : decode cX1_idOf 122 = .ok (.iload_n 1, 1) := by decide +kernel
theorem dX1_idOf_123 : decode cX1_idOf 123 = .ok (.iconst 4, 1) := by decide +kernel
theorem dX1_idOf_124 : decode cX1_idOf 124 = .ok (.invokestatic 11, 3) := by decide +kernel
theorem dX1_idOf_127 : decode cX1_idOf 127 = .ok (.ifCond .eq 25, 3) := by decide +kernel
theorem dX1_idOf_130 : decode cX1_idOf 130 = .ok (.iload_n 2, 1) := by decide +kernel
theorem dX1_idOf_131 : decode cX1_idOf 131 = .ok (.bipush 20, 2) := by decide +kernel
theorem dX1_idOf_133 : decode cX1_idOf 133 = .ok (.invokestatic 11, 3) := by decide +kernel
theorem dX1_idOf_136 : decode cX1_idOf 136 = .ok (.ifCond .eq 16, 3) := by decide +kernel
theorem dX1_idOf_139 : decode cX1_idOf 139 = .ok (.sipush 236, 3) := by decide +kernel
theorem dX1_idOf_142 : decode cX1_idOf 142 = .ok (.iload_n 1, 1) := by decide +kernel
theorem dX1_idOf_143 : decode cX1_idOf 143 = .ok (.bipush 20, 2) := by decide +kernel
theorem dX1_idOf_145 : decode cX1_idOf 145 = .ok (.imul, 1) := by decide +kernel
theorem dX1_idOf_146 : decode cX1_idOf 146 = .ok (.iadd, 1) := by decide +kernel
theorem dX1_idOf_147 : decode cX1_idOf 147 = .ok (.iload_n 2, 1) := by decide +kernel
theorem dX1_idOf_148 : decode cX1_idOf 148 = .ok (.iadd, 1) := by decide +kernel
theorem dX1_idOf_149 : decode cX1_idOf 149 = .ok (.goto 4, 3) := by decide +kernel
theorem dX1_idOf_152 : decode cX1_idOf 152 = .ok (.iconst (-1), 1) := by decide +kernel
theorem dX1_idOf_153 : decode cX1_idOf 153 = .ok (.ireturn, 1) := by decide +kernel
theorem dX1_idOf_154 : decode cX1_idOf 154 = .ok (.iconst (-1), 1) := by decide +kernel
theorem dX1_idOf_155 : decode cX1_idOf 155 = .ok (.ireturn, 1) := by decide +kernel
theorem dX1_kindOf_0 : decode cX1_kindOf 0 = .ok (.iload_n 0, 1) := by decide +kernel
theorem dX1_kindOf_1 : decode cX1_kindOf 1 = .ok (.bipush 36, 2) := by decide +kernel
theorem dX1_kindOf_3 : decode cX1_kindOf 3 = .ok (.if_icmp .ge 8, 3) := by decide +kernel
theorem dX1_kindOf_6 : decode cX1_kindOf 6 = .ok (.iload_n 0, 1) := by decide +kernel
theorem dX1_kindOf_7 : decode cX1_kindOf 7 = .ok (.bipush 9, 2) := by decide +kernel
theorem dX1_kindOf_9 : decode cX1_kindOf 9 = .ok (.idiv, 1) := by decide +kernel
theorem dX1_kindOf_10 : decode cX1_kindOf 10 = .ok (.ireturn, 1) := by decide +kernel
theorem dX1_kindOf_11 : decode cX1_kindOf 11 = .ok (.iload_n 0, 1) := by decide +kernel
theorem dX1_kindOf_12 : decode cX1_kindOf 12 = .ok (.bipush 56, 2) := by decide +kernel
theorem dX1_kindOf_14 : decode cX1_kindOf 14 = .ok (.if_icmp .ge 5, 3) := by decide +kernel
theorem dX1_kindOf_17 : decode cX1_kindOf 17 = .ok (.iconst 4, 1) := by decide +kernel
theorem dX1_kindOf_18 : decode cX1_kindOf 18 = .ok (.ireturn, 1) := by decide +kernel
theorem dX1_kindOf_19 : decode cX1_kindOf 19 = .ok (.iload_n 0, 1) := by decide +kernel
theorem dX1_kindOf_20 : decode cX1_kindOf 20 = .ok (.sipush 236, 3) := by decide +kernel
theorem dX1_kindOf_23 : decode cX1_kindOf 23 = .ok (.if_icmp .ge 7, 3) := by decide +kernel
theorem dX1_kindOf_26 : decode cX1_kindOf 26 = .ok (.iconst 5, 1) := by decide +kernel
theorem dX1_kindOf_27 : decode cX1_kindOf 27 = .ok (.goto 5, 3) := by decide +kernel
theorem dX1_kindOf_30 : decode cX1_kindOf 30 = .ok (.bipush 6, 2) := by decide +kernel
theorem dX1_kindOf_32 : decode cX1_kindOf 32 = .ok (.ireturn, 1) := by decide +kernel
theorem dX1_firstOf_0 : decode cX1_firstOf 0 = .ok (.iload_n 0, 1) := by decide +kernel
theorem dX1_firstOf_1 : decode cX1_firstOf 1 = .ok (.bipush 36, 2) := by decide +kernel
theorem dX1_firstOf_3 : decode cX1_firstOf 3 = .ok (.if_icmp .ge 8, 3) := by decide +kernel
theorem dX1_firstOf_6 : decode cX1_firstOf 6 = .ok (.iload_n 0, 1) := by decide +kernel
theorem dX1_firstOf_7 : decode cX1_firstOf 7 = .ok (.bipush 9, 2) := by decide +kernel
theorem dX1_firstOf_9 : decode cX1_firstOf 9 = .ok (.irem, 1) := by decide +kernel
theorem dX1_firstOf_10 : decode cX1_firstOf 10 = .ok (.ireturn, 1) := by decide +kernel
theorem dX1_firstOf_11 : decode cX1_firstOf 11 = .ok (.iload_n 0, 1) := by decide +kernel
theorem dX1_firstOf_12 : decode cX1_firstOf 12 = .ok (.bipush 56, 2) := by decide +kernel
theorem dX1_firstOf_14 : decode cX1_firstOf 14 = .ok (.if_icmp .ge 8, 3) := by decide +kernel
theorem dX1_firstOf_17 : decode cX1_firstOf 17 = .ok (.iload_n 0, 1) := by decide +kernel
theorem dX1_firstOf_18 : decode cX1_firstOf 18 = .ok (.bipush 36, 2) := by decide +kernel
theorem dX1_firstOf_20 : decode cX1_firstOf 20 = .ok (.isub, 1) := by decide +kernel
theorem dX1_firstOf_21 : decode cX1_firstOf 21 = .ok (.ireturn, 1) := by decide +kernel
theorem dX1_firstOf_22 : decode cX1_firstOf 22 = .ok (.iload_n 0, 1) := by decide +kernel
theorem dX1_firstOf_23 : decode cX1_firstOf 23 = .ok (.sipush 236, 3) := by decide +kernel
theorem dX1_firstOf_26 : decode cX1_firstOf 26 = .ok (.if_icmp .ge 13, 3) := by decide +kernel
theorem dX1_firstOf_29 : decode cX1_firstOf 29 = .ok (.iload_n 0, 1) := by decide +kernel
theorem dX1_firstOf_30 : decode cX1_firstOf 30 = .ok (.bipush 56, 2) := by decide +kernel
theorem dX1_firstOf_32 : decode cX1_firstOf 32 = .ok (.isub, 1) := by decide +kernel
theorem dX1_firstOf_33 : decode cX1_firstOf 33 = .ok (.bipush 9, 2) := by decide +kernel
theorem dX1_firstOf_35 : decode cX1_firstOf 35 = .ok (.idiv, 1) := by decide +kernel
theorem dX1_firstOf_36 : decode cX1_firstOf 36 = .ok (.goto 11, 3) := by decide +kernel
theorem dX1_firstOf_39 : decode cX1_firstOf 39 = .ok (.iload_n 0, 1) := by decide +kernel
theorem dX1_firstOf_40 : decode cX1_firstOf 40 = .ok (.sipush 236, 3) := by decide +kernel
theorem dX1_firstOf_43 : decode cX1_firstOf 43 = .ok (.isub, 1) := by decide +kernel
theorem dX1_firstOf_44 : decode cX1_firstOf 44 = .ok (.bipush 20, 2) := by decide +kernel
theorem dX1_firstOf_46 : decode cX1_firstOf 46 = .ok (.idiv, 1) := by decide +kernel
theorem dX1_firstOf_47 : decode cX1_firstOf 47 = .ok (.ireturn, 1) := by decide +kernel
theorem dX1_secondOf_0 : decode cX1_secondOf 0 = .ok (.iload_n 0, 1) := by decide +kernel
theorem dX1_secondOf_1 : decode cX1_secondOf 1 = .ok (.bipush 56, 2) := by decide +kernel
theorem dX1_secondOf_3 : decode cX1_secondOf 3 = .ok (.if_icmp .ge 5, 3) := by decide +kernel
theorem dX1_secondOf_6 : decode cX1_secondOf 6 = .ok (.iconst 0, 1) := by decide +kernel
theorem dX1_secondOf_7 : decode cX1_secondOf 7 = .ok (.ireturn, 1) := by decide +kernel
theorem dX1_secondOf_8 : decode cX1_secondOf 8 = .ok (.iload_n 0, 1) := by decide +kernel
theorem dX1_secondOf_9 : decode cX1_secondOf 9 = .ok (.sipush 236, 3) := by decide +kernel
theorem dX1_secondOf_12 : decode cX1_secondOf 12 = .ok (.if_icmp .ge 13, 3) := by decide +kernel
theorem dX1_secondOf_15 : decode cX1_secondOf 15 = .ok (.iload_n 0, 1) := by decide +kernel
theorem dX1_secondOf_16 : decode cX1_secondOf 16 = .ok (.bipush 56, 2) := by decide +kernel
theorem dX1_secondOf_18 : decode cX1_secondOf 18 = .ok (.isub, 1) := by decide +kernel
theorem dX1_secondOf_19 : decode cX1_secondOf 19 = .ok (.bipush 9, 2) := by decide +kernel
theorem dX1_secondOf_21 : decode cX1_secondOf 21 = .ok (.irem, 1) := by decide +kernel
theorem dX1_secondOf_22 : decode cX1_secondOf 22 = .ok (.goto 11, 3) := by decide +kernel
theorem dX1_secondOf_25 : decode cX1_secondOf 25 = .ok (.iload_n 0, 1) := by decide +kernel
theorem dX1_secondOf_26 : decode cX1_secondOf 26 = .ok (.sipush 236, 3) := by decide +kernel
theorem dX1_secondOf_29 : decode cX1_secondOf 29 = .ok (.isub, 1) := by decide +kernel
theorem dX1_secondOf_30 : decode cX1_secondOf 30 = .ok (.bipush 20, 2) := by decide +kernel
theorem dX1_secondOf_32 : decode cX1_secondOf 32 = .ok (.irem, 1) := by decide +kernel
theorem dX1_secondOf_33 : decode cX1_secondOf 33 = .ok (.ireturn, 1) := by decide +kernel
theorem dX1_choicesOf_0 : decode cX1_choicesOf 0 = .ok (.iload_n 0, 1) := by decide +kernel
theorem dX1_choicesOf_1 : decode cX1_choicesOf 1 = .ok (.invokestatic 15, 3) := by decide +kernel
theorem dX1_choicesOf_4 : decode cX1_choicesOf 4 = .ok (.ifCond .eq 7, 3) := by decide +kernel
theorem dX1_choicesOf_7 : decode cX1_choicesOf 7 = .ok (.iconst 3, 1) := by decide +kernel
theorem dX1_choicesOf_8 : decode cX1_choicesOf 8 = .ok (.goto 4, 3) := by decide +kernel
theorem dX1_choicesOf_11 : decode cX1_choicesOf 11 = .ok (.iconst 2, 1) := by decide +kernel
theorem dX1_choicesOf_12 : decode cX1_choicesOf 12 = .ok (.ireturn, 1) := by decide +kernel
theorem dX1_isOfSides_0 : decode cX1_isOfSides 0 = .ok (.iload_n 0, 1) := by decide +kernel
theorem dX1_isOfSides_1 : decode cX1_isOfSides 1 = .ok (.invokestatic 19, 3) := by decide +kernel
theorem dX1_isOfSides_4 : decode cX1_isOfSides 4 = .ok (.istore_n 1, 1) := by decide +kernel
theorem dX1_isOfSides_5 : decode cX1_isOfSides 5 = .ok (.iload_n 1, 1) := by decide +kernel
theorem dX1_isOfSides_6 : decode cX1_isOfSides 6 = .ok (.iconst 1, 1) := by decide +kernel
theorem dX1_isOfSides_7 : decode cX1_isOfSides 7 = .ok (.if_icmp .eq 13, 3) := by decide +kernel
theorem dX1_isOfSides_10 : decode cX1_isOfSides 10 = .ok (.iload_n 1, 1) := by decide +kernel
theorem dX1_isOfSides_11 : decode cX1_isOfSides 11 = .ok (.iconst 2, 1) := by decide +kernel
theorem dX1_isOfSides_12 : decode cX1_isOfSides 12 = .ok (.if_icmp .eq 8, 3) := by decide +kernel
theorem dX1_isOfSides_15 : decode cX1_isOfSides 15 = .ok (.iload_n 1, 1) := by decide +kernel
theorem dX1_isOfSides_16 : decode cX1_isOfSides 16 = .ok (.iconst 5, 1) := by decide +kernel
theorem dX1_isOfSides_17 : decode cX1_isOfSides 17 = .ok (.if_icmp .ne 7, 3) := by decide +kernel
theorem dX1_isOfSides_20 : decode cX1_isOfSides 20 = .ok (.iconst 1, 1) := by decide +kernel
theorem dX1_isOfSides_21 : decode cX1_isOfSides 21 = .ok (.goto 4, 3) := by decide +kernel
theorem dX1_isOfSides_24 : decode cX1_isOfSides 24 = .ok (.iconst 0, 1) := by decide +kernel
theorem dX1_isOfSides_25 : decode cX1_isOfSides 25 = .ok (.ireturn, 1) := by decide +kernel
theorem dX1_within_0 : decode cX1_within 0 = .ok (.iload_n 0, 1) := by decide +kernel
theorem dX1_within_1 : decode cX1_within 1 = .ok (.ifCond .lt 12, 3) := by decide +kernel
theorem dX1_within_4 : decode cX1_within 4 = .ok (.iload_n 0, 1) := by decide +kernel
theorem dX1_within_5 : decode cX1_within 5 = .ok (.iload_n 1, 1) := by decide +kernel
theorem dX1_within_6 : decode cX1_within 6 = .ok (.if_icmp .ge 7, 3) := by decide +kernel
theorem dX1_within_9 : decode cX1_within 9 = .ok (.iconst 1, 1) := by decide +kernel
theorem dX1_within_10 : decode cX1_within 10 = .ok (.goto 4, 3) := by decide +kernel
theorem dX1_within_13 : decode cX1_within 13 = .ok (.iconst 0, 1) := by decide +kernel
theorem dX1_within_14 : decode cX1_within 14 = .ok (.ireturn, 1) := by decide +kernel
theorem dX2_init_0 : decode cX2_init 0 = .ok (.aload_n 0, 1) := by decide +kernel
theorem dX2_init_1 : decode cX2_init 1 = .ok (.invokespecial 3, 3) := by decide +kernel
theorem dX2_init_4 : decode cX2_init 4 = .ok (.aload_n 0, 1) := by decide +kernel
theorem dX2_init_5 : decode cX2_init 5 = .ok (.new 9, 3) := by decide +kernel
theorem dX2_init_8 : decode cX2_init 8 = .ok (.dup, 1) := by decide +kernel
theorem dX2_init_9 : decode cX2_init 9 = .ok (.invokespecial 11, 3) := by decide +kernel
theorem dX2_init_12 : decode cX2_init 12 = .ok (.putfield 12, 3) := by decide +kernel
theorem dX2_init_15 : decode cX2_init 15 = .ok (.aload_n 0, 1) := by decide +kernel
theorem dX2_init_16 : decode cX2_init 16 = .ok (.sipush 180, 3) := by decide +kernel
theorem dX2_init_19 : decode cX2_init 19 = .ok (.newarray .int, 2) := by decide +kernel
theorem dX2_init_21 : decode cX2_init 21 = .ok (.putfield 18, 3) := by decide +kernel
theorem dX2_init_24 : decode cX2_init 24 = .ok (.aload_n 0, 1) := by decide +kernel
theorem dX2_init_25 : decode cX2_init 25 = .ok (.sipush 316, 3) := by decide +kernel
theorem dX2_init_28 : decode cX2_init 28 = .ok (.newarray .int, 2) := by decide +kernel
theorem dX2_init_30 : decode cX2_init 30 = .ok (.putfield 22, 3) := by decide +kernel
theorem dX2_init_33 : decode cX2_init 33 = .ok (.aload_n 0, 1) := by decide +kernel
theorem dX2_init_34 : decode cX2_init 34 = .ok (.sipush 316, 3) := by decide +kernel
theorem dX2_init_37 : decode cX2_init 37 = .ok (.newarray .int, 2) := by decide +kernel
theorem dX2_init_39 : decode cX2_init 39 = .ok (.putfield 25, 3) := by decide +kernel
theorem dX2_init_42 : decode cX2_init 42 = .ok (.aload_n 0, 1) := by decide +kernel
theorem dX2_init_43 : decode cX2_init 43 = .ok (.sipush 316, 3) := by decide +kernel
theorem dX2_init_46 : decode cX2_init 46 = .ok (.newarray .int, 2) := by decide +kernel
theorem dX2_init_48 : decode cX2_init 48 = .ok (.putfield 28, 3) := by decide +kernel
theorem dX2_init_51 : decode cX2_init 51 = .ok (.aload_n 0, 1) := by decide +kernel
theorem dX2_init_52 : decode cX2_init 52 = .ok (.bipush 9, 2) := by decide +kernel
theorem dX2_init_54 : decode cX2_init 54 = .ok (.newarray .int, 2) := by decide +kernel
theorem dX2_init_56 : decode cX2_init 56 = .ok (.putfield 31, 3) := by decide +kernel
theorem dX2_init_59 : decode cX2_init 59 = .ok (.return_, 1) := by decide +kernel
theorem dX2_run_0 : decode cX2_run 0 = .ok (.aload_n 0, 1) := by decide +kernel
theorem dX2_run_1 : decode cX2_run 1 = .ok (.getfield 12, 3) := by decide +kernel
theorem dX2_run_4 : decode cX2_run 4 = .ok (.invokevirtual 34, 3) := by decide +kernel
theorem dX2_run_7 : decode cX2_run 7 = .ok (.aload_n 0, 1) := by decide +kernel
theorem dX2_run_8 : decode cX2_run 8 = .ok (.iconst 0, 1) := by decide +kernel
theorem dX2_run_9 : decode cX2_run 9 = .ok (.putfield 37, 3) := by decide +kernel
theorem dX2_run_12 : decode cX2_run 12 = .ok (.aload_n 0, 1) := by decide +kernel
theorem dX2_run_13 : decode cX2_run 13 = .ok (.iconst 0, 1) := by decide +kernel
theorem dX2_run_14 : decode cX2_run 14 = .ok (.putfield 41, 3) := by decide +kernel
theorem dX2_run_17 : decode cX2_run 17 = .ok (.iconst 0, 1) := by decide +kernel
theorem dX2_run_18 : decode cX2_run 18 = .ok (.istore_n 2, 1) := by decide +kernel
theorem dX2_run_19 : decode cX2_run 19 = .ok (.iload_n 2, 1) := by decide +kernel
theorem dX2_run_20 : decode cX2_run 20 = .ok (.bipush 9, 2) := by decide +kernel
theorem dX2_run_22 : decode cX2_run 22 = .ok (.if_icmp .ge 16, 3) := by decide +kernel
theorem dX2_run_25 : decode cX2_run 25 = .ok (.aload_n 0, 1) := by decide +kernel
theorem dX2_run_26 : decode cX2_run 26 = .ok (.getfield 31, 3) := by decide +kernel
theorem dX2_run_29 : decode cX2_run 29 = .ok (.iload_n 2, 1) := by decide +kernel
theorem dX2_run_30 : decode cX2_run 30 = .ok (.iload_n 2, 1) := by decide +kernel
theorem dX2_run_31 : decode cX2_run 31 = .ok (.iastore, 1) := by decide +kernel
theorem dX2_run_32 : decode cX2_run 32 = .ok (.iinc 2 1, 3) := by decide +kernel
theorem dX2_run_35 : decode cX2_run 35 = .ok (.goto (-16), 3) := by decide +kernel
theorem dX2_run_38 : decode cX2_run 38 = .ok (.iconst 0, 1) := by decide +kernel
theorem dX2_run_39 : decode cX2_run 39 = .ok (.istore_n 2, 1) := by decide +kernel
theorem dX2_run_40 : decode cX2_run 40 = .ok (.iload_n 2, 1) := by decide +kernel
theorem dX2_run_41 : decode cX2_run 41 = .ok (.iconst 5, 1) := by decide +kernel
theorem dX2_run_42 : decode cX2_run 42 = .ok (.if_icmp .ge 26, 3) := by decide +kernel
theorem dX2_run_45 : decode cX2_run 45 = .ok (.aload_n 1, 1) := by decide +kernel
theorem dX2_run_46 : decode cX2_run 46 = .ok (.getfield 44, 3) := by decide +kernel
theorem dX2_run_49 : decode cX2_run 49 = .ok (.iload_n 2, 1) := by decide +kernel
theorem dX2_run_50 : decode cX2_run 50 = .ok (.invokevirtual 49, 3) := by decide +kernel
theorem dX2_run_53 : decode cX2_run 53 = .ok (.ifCond .eq 9, 3) := by decide +kernel
theorem dX2_run_56 : decode cX2_run 56 = .ok (.aload_n 0, 1) := by decide +kernel
theorem dX2_run_57 : decode cX2_run 57 = .ok (.aload_n 1, 1) := by decide +kernel
theorem dX2_run_58 : decode cX2_run 58 = .ok (.iload_n 2, 1) := by decide +kernel
theorem dX2_run_59 : decode cX2_run 59 = .ok (.invokevirtual 53, 3) := by decide +kernel
theorem dX2_run_62 : decode cX2_run 62 = .ok (.iinc 2 1, 3) := by decide +kernel
theorem dX2_run_65 : decode cX2_run 65 = .ok (.goto (-25), 3) := by decide +kernel
theorem dX2_run_68 : decode cX2_run 68 = .ok (.aload_n 0, 1) := by decide +kernel
theorem dX2_run_69 : decode cX2_run 69 = .ok (.aload_n 1, 1) := by decide +kernel
theorem dX2_run_70 : decode cX2_run 70 = .ok (.invokevirtual 57, 3) := by decide +kernel
theorem dX2_run_73 : decode cX2_run 73 = .ok (.aload_n 0, 1) := by decide +kernel
theorem dX2_run_74 : decode cX2_run 74 = .ok (.aload_n 1, 1) := by decide +kernel
theorem dX2_run_75 : decode cX2_run 75 = .ok (.invokevirtual 61, 3) := by decide +kernel
theorem dX2_run_78 : decode cX2_run 78 = .ok (.iconst 0, 1) := by decide +kernel
theorem dX2_run_79 : decode cX2_run 79 = .ok (.istore_n 2, 1) := by decide +kernel
theorem dX2_run_80 : decode cX2_run 80 = .ok (.iload_n 2, 1) := by decide +kernel
theorem dX2_run_81 : decode cX2_run 81 = .ok (.bipush 20, 2) := by decide +kernel
theorem dX2_run_83 : decode cX2_run 83 = .ok (.if_icmp .ge 15, 3) := by decide +kernel
theorem dX2_run_86 : decode cX2_run 86 = .ok (.aload_n 0, 1) := by decide +kernel
theorem dX2_run_87 : decode cX2_run 87 = .ok (.aload_n 1, 1) := by decide +kernel
theorem dX2_run_88 : decode cX2_run 88 = .ok (.iload_n 2, 1) := by decide +kernel
theorem dX2_run_89 : decode cX2_run 89 = .ok (.invokevirtual 64, 3) := by decide +kernel
theorem dX2_run_92 : decode cX2_run 92 = .ok (.iinc 2 1, 3) := by decide +kernel
theorem dX2_run_95 : decode cX2_run 95 = .ok (.goto (-15), 3) := by decide +kernel
theorem dX2_run_98 : decode cX2_run 98 = .ok (.iconst 0, 1) := by decide +kernel
theorem dX2_run_99 : decode cX2_run 99 = .ok (.istore_n 2, 1) := by decide +kernel
theorem dX2_run_100 : decode cX2_run 100 = .ok (.iload_n 2, 1) := by decide +kernel
theorem dX2_run_101 : decode cX2_run 101 = .ok (.bipush 20, 2) := by decide +kernel
theorem dX2_run_103 : decode cX2_run 103 = .ok (.if_icmp .ge 26, 3) := by decide +kernel
theorem dX2_run_106 : decode cX2_run 106 = .ok (.aload_n 0, 1) := by decide +kernel
theorem dX2_run_107 : decode cX2_run 107 = .ok (.getfield 12, 3) := by decide +kernel
theorem dX2_run_110 : decode cX2_run 110 = .ok (.iload_n 2, 1) := by decide +kernel
theorem dX2_run_111 : decode cX2_run 111 = .ok (.invokevirtual 67, 3) := by decide +kernel
theorem dX2_run_114 : decode cX2_run 114 = .ok (.ifCond .eq 9, 3) := by decide +kernel
theorem dX2_run_117 : decode cX2_run 117 = .ok (.aload_n 0, 1) := by decide +kernel
theorem dX2_run_118 : decode cX2_run 118 = .ok (.aload_n 1, 1) := by decide +kernel
theorem dX2_run_119 : decode cX2_run 119 = .ok (.iload_n 2, 1) := by decide +kernel
theorem dX2_run_120 : decode cX2_run 120 = .ok (.invokevirtual 70, 3) := by decide +kernel
theorem dX2_run_123 : decode cX2_run 123 = .ok (.iinc 2 1, 3) := by decide +kernel
theorem dX2_run_126 : decode cX2_run 126 = .ok (.goto (-26), 3) := by decide +kernel
theorem dX2_run_129 : decode cX2_run 129 = .ok (.iconst 0, 1) := by decide +kernel
theorem dX2_run_130 : decode cX2_run 130 = .ok (.istore_n 2, 1) := by decide +kernel
theorem dX2_run_131 : decode cX2_run 131 = .ok (.iload_n 2, 1) := by decide +kernel
theorem dX2_run_132 : decode cX2_run 132 = .ok (.aload_n 1, 1) := by decide +kernel
theorem dX2_run_133 : decode cX2_run 133 = .ok (.getfield 73, 3) := by decide +kernel
theorem dX2_run_136 : decode cX2_run 136 = .ok (.if_icmp .ge 20, 3) := by decide +kernel
theorem dX2_run_139 : decode cX2_run 139 = .ok (.iload_n 2, 1) := by decide +kernel
theorem dX2_run_140 : decode cX2_run 140 = .ok (.iconst 4, 1) := by decide +kernel
theorem dX2_run_141 : decode cX2_run 141 = .ok (.if_icmp .ge 15, 3) := by decide +kernel
theorem dX2_run_144 : decode cX2_run 144 = .ok (.aload_n 0, 1) := by decide +kernel
theorem dX2_run_145 : decode cX2_run 145 = .ok (.aload_n 1, 1) := by decide +kernel
theorem dX2_run_146 : decode cX2_run 146 = .ok (.iload_n 2, 1) := by decide +kernel
theorem dX2_run_147 : decode cX2_run 147 = .ok (.invokevirtual 76, 3) := by decide +kernel
theorem dX2_run_150 : decode cX2_run 150 = .ok (.iinc 2 1, 3) := by decide +kernel
theorem dX2_run_153 : decode cX2_run 153 = .ok (.goto (-22), 3) := by decide +kernel
theorem dX2_run_156 : decode cX2_run 156 = .ok (.return_, 1) := by decide +kernel
theorem dX2_isOpen_0 : decode cX2_isOpen 0 = .ok (.iconst 0, 1) := by decide +kernel
theorem dX2_isOpen_1 : decode cX2_isOpen 1 = .ok (.istore_n 2, 1) := by decide +kernel
theorem dX2_isOpen_2 : decode cX2_isOpen 2 = .ok (.iload_n 2, 1) := by decide +kernel
theorem dX2_isOpen_3 : decode cX2_isOpen 3 = .ok (.aload_n 0, 1) := by decide +kernel
theorem dX2_isOpen_4 : decode cX2_isOpen 4 = .ok (.getfield 37, 3) := by decide +kernel
theorem dX2_isOpen_7 : decode cX2_isOpen 7 = .ok (.if_icmp .ge 21, 3) := by decide +kernel
theorem dX2_isOpen_10 : decode cX2_isOpen 10 = .ok (.aload_n 0, 1) := by decide +kernel
theorem dX2_isOpen_11 : decode cX2_isOpen 11 = .ok (.getfield 22, 3) := by decide +kernel
theorem dX2_isOpen_14 : decode cX2_isOpen 14 = .ok (.iload_n 2, 1) := by decide +kernel
theorem dX2_isOpen_15 : decode cX2_isOpen 15 = .ok (.iaload, 1) := by decide +kernel
theorem dX2_isOpen_16 : decode cX2_isOpen 16 = .ok (.iload_n 1, 1) := by decide +kernel
theorem dX2_isOpen_17 : decode cX2_isOpen 17 = .ok (.if_icmp .ne 5, 3) := by decide +kernel
theorem dX2_isOpen_20 : decode cX2_isOpen 20 = .ok (.iconst 1, 1) := by decide +kernel
theorem dX2_isOpen_21 : decode cX2_isOpen 21 = .ok (.ireturn, 1) := by decide +kernel
theorem dX2_isOpen_22 : decode cX2_isOpen 22 = .ok (.iinc 2 1, 3) := by decide +kernel
theorem dX2_isOpen_25 : decode cX2_isOpen 25 = .ok (.goto (-23), 3) := by decide +kernel
theorem dX2_isOpen_28 : decode cX2_isOpen 28 = .ok (.iconst 0, 1) := by decide +kernel
theorem dX2_isOpen_29 : decode cX2_isOpen 29 = .ok (.ireturn, 1) := by decide +kernel
theorem dX2_isMerged_0 : decode cX2_isMerged 0 = .ok (.iload_n 1, 1) := by decide +kernel
theorem dX2_isMerged_1 : decode cX2_isMerged 1 = .ok (.ifCond .ne 12, 3) := by decide +kernel
theorem dX2_isMerged_4 : decode cX2_isMerged 4 = .ok (.aload_n 0, 1) := by decide +kernel
theorem dX2_isMerged_5 : decode cX2_isMerged 5 = .ok (.getfield 12, 3) := by decide +kernel
theorem dX2_isMerged_8 : decode cX2_isMerged 8 = .ok (.iload_n 2, 1) := by decide +kernel
theorem dX2_isMerged_9 : decode cX2_isMerged 9 = .ok (.invokevirtual 49, 3) := by decide +kernel
theorem dX2_isMerged_12 : decode cX2_isMerged 12 = .ok (.ireturn, 1) := by decide +kernel
theorem dX2_isMerged_13 : decode cX2_isMerged 13 = .ok (.iconst 0, 1) := by decide +kernel
theorem dX2_isMerged_14 : decode cX2_isMerged 14 = .ok (.istore_n 3, 1) := by decide +kernel
theorem dX2_isMerged_15 : decode cX2_isMerged 15 = .ok (.iload_n 3, 1) := by decide +kernel
theorem dX2_isMerged_16 : decode cX2_isMerged 16 = .ok (.bipush 9, 2) := by decide +kernel
theorem dX2_isMerged_18 : decode cX2_isMerged 18 = .ok (.if_icmp .ge 32, 3) := by decide +kernel
theorem dX2_isMerged_21 : decode cX2_isMerged 21 = .ok (.aload_n 0, 1) := by decide +kernel
theorem dX2_isMerged_22 : decode cX2_isMerged 22 = .ok (.getfield 31, 3) := by decide +kernel
theorem dX2_isMerged_25 : decode cX2_isMerged 25 = .ok (.iload_n 3, 1) := by decide +kernel
theorem dX2_isMerged_26 : decode cX2_isMerged 26 = .ok (.iaload, 1) := by decide +kernel
theorem dX2_isMerged_27 : decode cX2_isMerged 27 = .ok (.iload_n 2, 1) := by decide +kernel
theorem dX2_isMerged_28 : decode cX2_isMerged 28 = .ok (.if_icmp .ne 16, 3) := by decide +kernel
theorem dX2_isMerged_31 : decode cX2_isMerged 31 = .ok (.aload_n 0, 1) := by decide +kernel
theorem dX2_isMerged_32 : decode cX2_isMerged 32 = .ok (.getfield 12, 3) := by decide +kernel
theorem dX2_isMerged_35 : decode cX2_isMerged 35 = .ok (.iload_n 3, 1) := by decide +kernel
theorem dX2_isMerged_36 : decode cX2_isMerged 36 = .ok (.invokevirtual 49, 3) := by decide +kernel
theorem dX2_isMerged_39 : decode cX2_isMerged 39 = .ok (.ifCond .eq 5, 3) := by decide +kernel
theorem dX2_isMerged_42 : decode cX2_isMerged 42 = .ok (.iconst 1, 1) := by decide +kernel
theorem dX2_isMerged_43 : decode cX2_isMerged 43 = .ok (.ireturn, 1) := by decide +kernel
theorem dX2_isMerged_44 : decode cX2_isMerged 44 = .ok (.iinc 3 1, 3) := by decide +kernel
theorem dX2_isMerged_47 : decode cX2_isMerged 47 = .ok (.goto (-32), 3) := by decide +kernel
theorem dX2_isMerged_50 : decode cX2_isMerged 50 = .ok (.iconst 0, 1) := by decide +kernel
theorem dX2_isMerged_51 : decode cX2_isMerged 51 = .ok (.ireturn, 1) := by decide +kernel
theorem dX2_ask_0 : decode cX2_ask 0 = .ok (.iload_n 2, 1) := by decide +kernel
theorem dX2_ask_1 : decode cX2_ask 1 = .ok (.ifCond .lt 10, 3) := by decide +kernel
theorem dX2_ask_4 : decode cX2_ask 4 = .ok (.iload_n 2, 1) := by decide +kernel
theorem dX2_ask_5 : decode cX2_ask 5 = .ok (.sipush 316, 3) := by decide +kernel
theorem dX2_ask_8 : decode cX2_ask 8 = .ok (.if_icmp .lt 5, 3) := by decide +kernel
theorem dX2_ask_11 : decode cX2_ask 11 = .ok (.iconst (-1), 1) := by decide +kernel
theorem dX2_ask_12 : decode cX2_ask 12 = .ok (.ireturn, 1) := by decide +kernel
theorem dX2_ask_13 : decode cX2_ask 13 = .ok (.aload_n 1, 1) := by decide +kernel
theorem dX2_ask_14 : decode cX2_ask 14 = .ok (.getfield 79, 3) := by decide +kernel
theorem dX2_ask_17 : decode cX2_ask 17 = .ok (.iload_n 2, 1) := by decide +kernel
theorem dX2_ask_18 : decode cX2_ask 18 = .ok (.iaload, 1) := by decide +kernel
theorem dX2_ask_19 : decode cX2_ask 19 = .ok (.istore 5, 2) := by decide +kernel
theorem dX2_ask_21 : decode cX2_ask 21 = .ok (.iload 5, 2) := by decide +kernel
theorem dX2_ask_23 : decode cX2_ask 23 = .ok (.iconst (-1), 1) := by decide +kernel
theorem dX2_ask_24 : decode cX2_ask 24 = .ok (.if_icmp .eq 16, 3) := by decide +kernel
theorem dX2_ask_27 : decode cX2_ask 27 = .ok (.aload_n 0, 1) := by decide +kernel
theorem dX2_ask_28 : decode cX2_ask 28 = .ok (.dup, 1) := by decide +kernel
theorem dX2_ask_29 : decode cX2_ask 29 = .ok (.getfield 41, 3) := by decide +kernel
theorem dX2_ask_32 : decode cX2_ask 32 = .ok (.iconst 1, 1) := by decide +kernel
theorem dX2_ask_33 : decode cX2_ask 33 = .ok (.iadd, 1) := by decide +kernel
theorem dX2_ask_34 : decode cX2_ask 34 = .ok (.putfield 41, 3) := by decide +kernel
theorem dX2_ask_37 : decode cX2_ask 37 = .ok (.goto 54, 3) := by decide +kernel
theorem dX2_ask_40 : decode cX2_ask 40 = .ok (.aload_n 0, 1) := by decide +kernel
theorem dX2_ask_41 : decode cX2_ask 41 = .ok (.getfield 37, 3) := by decide +kernel
theorem dX2_ask_44 : decode cX2_ask 44 = .ok (.sipush 316, 3) := by decide +kernel
theorem dX2_ask_47 : decode cX2_ask 47 = .ok (.if_icmp .ge 44, 3) := by decide +kernel
theorem dX2_ask_50 : decode cX2_ask 50 = .ok (.aload_n 0, 1) := by decide +kernel
theorem dX2_ask_51 : decode cX2_ask 51 = .ok (.getfield 22, 3) := by decide +kernel
theorem dX2_ask_54 : decode cX2_ask 54 = .ok (.aload_n 0, 1) := by decide +kernel
theorem dX2_ask_55 : decode cX2_ask 55 = .ok (.getfield 37, 3) := by decide +kernel
theorem dX2_ask_58 : decode cX2_ask 58 = .ok (.iload_n 2, 1) := by decide +kernel
theorem dX2_ask_59 : decode cX2_ask 59 = .ok (.iastore, 1) := by decide +kernel
theorem dX2_ask_60 : decode cX2_ask 60 = .ok (.aload_n 0, 1) := by decide +kernel
theorem dX2_ask_61 : decode cX2_ask 61 = .ok (.getfield 25, 3) := by decide +kernel
theorem dX2_ask_64 : decode cX2_ask 64 = .ok (.aload_n 0, 1) := by decide +kernel
theorem dX2_ask_65 : decode cX2_ask 65 = .ok (.getfield 37, 3) := by decide +kernel
theorem dX2_ask_68 : decode cX2_ask 68 = .ok (.iload_n 3, 1) := by decide +kernel
theorem dX2_ask_69 : decode cX2_ask 69 = .ok (.iastore, 1) := by decide +kernel
theorem dX2_ask_70 : decode cX2_ask 70 = .ok (.aload_n 0, 1) := by decide +kernel
theorem dX2_ask_71 : decode cX2_ask 71 = .ok (.getfield 28, 3) := by decide +kernel
theorem dX2_ask_74 : decode cX2_ask 74 = .ok (.aload_n 0, 1) := by decide +kernel
theorem dX2_ask_75 : decode cX2_ask 75 = .ok (.getfield 37, 3) := by decide +kernel
theorem dX2_ask_78 : decode cX2_ask 78 = .ok (.iload 4, 2) := by decide +kernel
theorem dX2_ask_80 : decode cX2_ask 80 = .ok (.iastore, 1) := by decide +kernel
theorem dX2_ask_81 : decode cX2_ask 81 = .ok (.aload_n 0, 1) := by decide +kernel
theorem dX2_ask_82 : decode cX2_ask 82 = .ok (.dup, 1) := by decide +kernel
theorem dX2_ask_83 : decode cX2_ask 83 = .ok (.getfield 37, 3) := by decide +kernel
theorem dX2_ask_86 : decode cX2_ask 86 = .ok (.iconst 1, 1) := by decide +kernel
theorem dX2_ask_87 : decode cX2_ask 87 = .ok (.iadd, 1) := by decide +kernel
theorem dX2_ask_88 : decode cX2_ask 88 = .ok (.putfield 37, 3) := by decide +kernel
theorem dX2_ask_91 : decode cX2_ask 91 = .ok (.iload 5, 2) := by decide +kernel
theorem dX2_ask_93 : decode cX2_ask 93 = .ok (.ireturn, 1) := by decide +kernel
theorem dX2_mergeColumn_0 : decode cX2_mergeColumn 0 = .ok (.aload_n 1, 1) := by decide +kernel
theorem dX2_mergeColumn_1 : decode cX2_mergeColumn 1 = .ok (.getfield 82, 3) := by decide +kernel
theorem dX2_mergeColumn_4 : decode cX2_mergeColumn 4 = .ok (.iload_n 2, 1) := by decide +kernel
theorem dX2_mergeColumn_5 : decode cX2_mergeColumn 5 = .ok (.invokevirtual 49, 3) := by decide +kernel
theorem dX2_mergeColumn_8 : decode cX2_mergeColumn 8 = .ok (.istore_n 3, 1) := by decide +kernel
theorem dX2_mergeColumn_9 : decode cX2_mergeColumn 9 = .ok (.aload_n 1, 1) := by decide +kernel
theorem dX2_mergeColumn_10 : decode cX2_mergeColumn 10 = .ok (.getfield 85, 3) := by decide +kernel
theorem dX2_mergeColumn_13 : decode cX2_mergeColumn 13 = .ok (.iload_n 2, 1) := by decide +kernel
theorem dX2_mergeColumn_14 : decode cX2_mergeColumn 14 = .ok (.invokevirtual 49, 3) := by decide +kernel
theorem dX2_mergeColumn_17 : decode cX2_mergeColumn 17 = .ok (.istore 4, 2) := by decide +kernel
theorem dX2_mergeColumn_19 : decode cX2_mergeColumn 19 = .ok (.iload_n 3, 1) := by decide +kernel
theorem dX2_mergeColumn_20 : decode cX2_mergeColumn 20 = .ok (.ifCond .eq 35, 3) := by decide +kernel
theorem dX2_mergeColumn_23 : decode cX2_mergeColumn 23 = .ok (.iload 4, 2) := by decide +kernel
theorem dX2_mergeColumn_25 : decode cX2_mergeColumn 25 = .ok (.ifCond .eq 30, 3) := by decide +kernel
theorem dX2_mergeColumn_28 : decode cX2_mergeColumn 28 = .ok (.aload_n 0, 1) := by decide +kernel
theorem dX2_mergeColumn_29 : decode cX2_mergeColumn 29 = .ok (.aload_n 1, 1) := by decide +kernel
theorem dX2_mergeColumn_30 : decode cX2_mergeColumn 30 = .ok (.iload_n 2, 1) := by decide +kernel
theorem dX2_mergeColumn_31 : decode cX2_mergeColumn 31 = .ok (.invokevirtual 88, 3) := by decide +kernel
theorem dX2_mergeColumn_34 : decode cX2_mergeColumn 34 = .ok (.istore 5, 2) := by decide +kernel
theorem dX2_mergeColumn_36 : decode cX2_mergeColumn 36 = .ok (.aload_n 0, 1) := by decide +kernel
theorem dX2_mergeColumn_37 : decode cX2_mergeColumn 37 = .ok (.getfield 12, 3) := by decide +kernel
theorem dX2_mergeColumn_40 : decode cX2_mergeColumn 40 = .ok (.iload_n 2, 1) := by decide +kernel
theorem dX2_mergeColumn_41 : decode cX2_mergeColumn 41 = .ok (.iload 5, 2) := by decide +kernel
theorem dX2_mergeColumn_43 : decode cX2_mergeColumn 43 = .ok (.aload_n 0, 1) := by decide +kernel
theorem dX2_mergeColumn_44 : decode cX2_mergeColumn 44 = .ok (.aload_n 1, 1) := by decide +kernel
theorem dX2_mergeColumn_45 : decode cX2_mergeColumn 45 = .ok (.iload_n 2, 1) := by decide +kernel
theorem dX2_mergeColumn_46 : decode cX2_mergeColumn 46 = .ok (.invokevirtual 92, 3) := by decide +kernel
theorem dX2_mergeColumn_49 : decode cX2_mergeColumn 49 = .ok (.invokevirtual 95, 3) := by decide +kernel
theorem dX2_mergeColumn_52 : decode cX2_mergeColumn 52 = .ok (.goto 130, 3) := by decide +kernel
theorem dX2_mergeColumn_55 : decode cX2_mergeColumn 55 = .ok (.iload_n 3, 1) := by decide +kernel
theorem dX2_mergeColumn_56 : decode cX2_mergeColumn 56 = .ok (.ifCond .ne 8, 3) := by decide +kernel
theorem dX2_mergeColumn_59 : decode cX2_mergeColumn 59 = .ok (.iload 4, 2) := by decide +kernel
theorem dX2_mergeColumn_61 : decode cX2_mergeColumn 61 = .ok (.ifCond .eq 121, 3) := by decide +kernel
theorem dX2_mergeColumn_64 : decode cX2_mergeColumn 64 = .ok (.iload_n 3, 1) := by decide +kernel
theorem dX2_mergeColumn_65 : decode cX2_mergeColumn 65 = .ok (.ifCond .eq 7, 3) := by decide +kernel
theorem dX2_mergeColumn_68 : decode cX2_mergeColumn 68 = .ok (.iconst 0, 1) := by decide +kernel
theorem dX2_mergeColumn_69 : decode cX2_mergeColumn 69 = .ok (.goto 4, 3) := by decide +kernel
theorem dX2_mergeColumn_72 : decode cX2_mergeColumn 72 = .ok (.iconst 1, 1) := by decide +kernel
theorem dX2_mergeColumn_73 : decode cX2_mergeColumn 73 = .ok (.istore 5, 2) := by decide +kernel
theorem dX2_mergeColumn_75 : decode cX2_mergeColumn 75 = .ok (.aload_n 1, 1) := by decide +kernel
theorem dX2_mergeColumn_76 : decode cX2_mergeColumn 76 = .ok (.iload 5, 2) := by decide +kernel
theorem dX2_mergeColumn_78 : decode cX2_mergeColumn 78 = .ok (.invokevirtual 99, 3) := by decide +kernel
theorem dX2_mergeColumn_81 : decode cX2_mergeColumn 81 = .ok (.astore 6, 2) := by decide +kernel
theorem dX2_mergeColumn_83 : decode cX2_mergeColumn 83 = .ok (.aload 6, 2) := by decide +kernel
theorem dX2_mergeColumn_85 : decode cX2_mergeColumn 85 = .ok (.getfield 103, 3) := by decide +kernel
theorem dX2_mergeColumn_88 : decode cX2_mergeColumn 88 = .ok (.iload_n 2, 1) := by decide +kernel
theorem dX2_mergeColumn_89 : decode cX2_mergeColumn 89 = .ok (.iaload, 1) := by decide +kernel
theorem dX2_mergeColumn_90 : decode cX2_mergeColumn 90 = .ok (.aload_n 1, 1) := by decide +kernel
theorem dX2_mergeColumn_91 : decode cX2_mergeColumn 91 = .ok (.getfield 44, 3) := by decide +kernel
theorem dX2_mergeColumn_94 : decode cX2_mergeColumn 94 = .ok (.getfield 103, 3) := by decide +kernel
theorem dX2_mergeColumn_97 : decode cX2_mergeColumn 97 = .ok (.iload_n 2, 1) := by decide +kernel
theorem dX2_mergeColumn_98 : decode cX2_mergeColumn 98 = .ok (.iaload, 1) := by decide +kernel
theorem dX2_mergeColumn_99 : decode cX2_mergeColumn 99 = .ok (.if_icmp .ne 36, 3) := by decide +kernel
theorem dX2_mergeColumn_102 : decode cX2_mergeColumn 102 = .ok (.aload 6, 2) := by decide +kernel
theorem dX2_mergeColumn_104 : decode cX2_mergeColumn 104 = .ok (.getfield 106, 3) := by decide +kernel
theorem dX2_mergeColumn_107 : decode cX2_mergeColumn 107 = .ok (.iload_n 2, 1) := by decide +kernel
theorem dX2_mergeColumn_108 : decode cX2_mergeColumn 108 = .ok (.iaload, 1) := by decide +kernel
theorem dX2_mergeColumn_109 : decode cX2_mergeColumn 109 = .ok (.aload_n 1, 1) := by decide +kernel
theorem dX2_mergeColumn_110 : decode cX2_mergeColumn 110 = .ok (.getfield 44, 3) := by decide +kernel
theorem dX2_mergeColumn_113 : decode cX2_mergeColumn 113 = .ok (.getfield 106, 3) := by decide +kernel
theorem dX2_mergeColumn_116 : decode cX2_mergeColumn 116 = .ok (.iload_n 2, 1) := by decide +kernel
theorem dX2_mergeColumn_117 : decode cX2_mergeColumn 117 = .ok (.iaload, 1) := by decide +kernel
theorem dX2_mergeColumn_118 : decode cX2_mergeColumn 118 = .ok (.if_icmp .ne 17, 3) := by decide +kernel
theorem dX2_mergeColumn_121 : decode cX2_mergeColumn 121 = .ok (.aload_n 1, 1) := by decide +kernel
theorem dX2_mergeColumn_122 : decode cX2_mergeColumn 122 = .ok (.iload 5, 2) := by decide +kernel
theorem dX2_mergeColumn_124 : decode cX2_mergeColumn 124 = .ok (.iload_n 2, 1) := by decide +kernel
theorem dX2_mergeColumn_125 : decode cX2_mergeColumn 125 = .ok (.invokevirtual 109, 3) := by decide +kernel
theorem dX2_mergeColumn_128 : decode cX2_mergeColumn 128 = .ok (.ifCond .ne 7, 3) := by decide +kernel
theorem dX2_mergeColumn_131 : decode cX2_mergeColumn 131 = .ok (.iconst 1, 1) := by decide +kernel
theorem dX2_mergeColumn_132 : decode cX2_mergeColumn 132 = .ok (.goto 4, 3) := by decide +kernel
theorem dX2_mergeColumn_135 : decode cX2_mergeColumn 135 = .ok (.iconst 0, 1) := by decide +kernel
theorem dX2_mergeColumn_136 : decode cX2_mergeColumn 136 = .ok (.istore 7, 2) := by decide +kernel
theorem dX2_mergeColumn_138 : decode cX2_mergeColumn 138 = .ok (.iload 7, 2) := by decide +kernel
theorem dX2_mergeColumn_140 : decode cX2_mergeColumn 140 = .ok (.ifCond .ne 42, 3) := by decide +kernel
theorem dX2_mergeColumn_143 : decode cX2_mergeColumn 143 = .ok (.aload_n 0, 1) := by decide +kernel
theorem dX2_mergeColumn_144 : decode cX2_mergeColumn 144 = .ok (.aload_n 1, 1) := by decide +kernel
theorem dX2_mergeColumn_145 : decode cX2_mergeColumn 145 = .ok (.iconst 0, 1) := by decide +kernel
theorem dX2_mergeColumn_146 : decode cX2_mergeColumn 146 = .ok (.iload_n 2, 1) := by decide +kernel
theorem dX2_mergeColumn_147 : decode cX2_mergeColumn 147 = .ok (.iconst 0, 1) := by decide +kernel
theorem dX2_mergeColumn_148 : decode cX2_mergeColumn 148 = .ok (.invokestatic 113, 3) := by decide +kernel
theorem dX2_mergeColumn_151 : decode cX2_mergeColumn 151 = .ok (.iconst (-1), 1) := by decide +kernel
theorem dX2_mergeColumn_152 : decode cX2_mergeColumn 152 = .ok (.iconst (-1), 1) := by decide +kernel
theorem dX2_mergeColumn_153 : decode cX2_mergeColumn 153 = .ok (.invokevirtual 119, 3) := by decide +kernel
theorem dX2_mergeColumn_156 : decode cX2_mergeColumn 156 = .ok (.iconst 1, 1) := by decide +kernel
theorem dX2_mergeColumn_157 : decode cX2_mergeColumn 157 = .ok (.if_icmp .eq 25, 3) := by decide +kernel
theorem dX2_mergeColumn_160 : decode cX2_mergeColumn 160 = .ok (.aload_n 0, 1) := by decide +kernel
theorem dX2_mergeColumn_161 : decode cX2_mergeColumn 161 = .ok (.getfield 12, 3) := by decide +kernel
theorem dX2_mergeColumn_164 : decode cX2_mergeColumn 164 = .ok (.iload_n 2, 1) := by decide +kernel
theorem dX2_mergeColumn_165 : decode cX2_mergeColumn 165 = .ok (.aload 6, 2) := by decide +kernel
theorem dX2_mergeColumn_167 : decode cX2_mergeColumn 167 = .ok (.getfield 103, 3) := by decide +kernel
theorem dX2_mergeColumn_170 : decode cX2_mergeColumn 170 = .ok (.iload_n 2, 1) := by decide +kernel
theorem dX2_mergeColumn_171 : decode cX2_mergeColumn 171 = .ok (.iaload, 1) := by decide +kernel
theorem dX2_mergeColumn_172 : decode cX2_mergeColumn 172 = .ok (.aload 6, 2) := by decide +kernel
theorem dX2_mergeColumn_174 : decode cX2_mergeColumn 174 = .ok (.getfield 106, 3) := by decide +kernel
theorem dX2_mergeColumn_177 : decode cX2_mergeColumn 177 = .ok (.iload_n 2, 1) := by decide +kernel
theorem dX2_mergeColumn_178 : decode cX2_mergeColumn 178 = .ok (.iaload, 1) := by decide +kernel
theorem dX2_mergeColumn_179 : decode cX2_mergeColumn 179 = .ok (.invokevirtual 95, 3) := by decide +kernel
theorem dX2_mergeColumn_182 : decode cX2_mergeColumn 182 = .ok (.return_, 1) := by decide +kernel
theorem dX2_mergedName_0 : decode cX2_mergedName 0 = .ok (.aload_n 1, 1) := by decide +kernel
theorem dX2_mergedName_1 : decode cX2_mergedName 1 = .ok (.getfield 44, 3) := by decide +kernel
theorem dX2_mergedName_4 : decode cX2_mergedName 4 = .ok (.getfield 103, 3) := by decide +kernel
theorem dX2_mergedName_7 : decode cX2_mergedName 7 = .ok (.iload_n 2, 1) := by decide +kernel
theorem dX2_mergedName_8 : decode cX2_mergedName 8 = .ok (.iaload, 1) := by decide +kernel
theorem dX2_mergedName_9 : decode cX2_mergedName 9 = .ok (.istore_n 3, 1) := by decide +kernel
theorem dX2_mergedName_10 : decode cX2_mergedName 10 = .ok (.aload_n 1, 1) := by decide +kernel
theorem dX2_mergedName_11 : decode cX2_mergedName 11 = .ok (.getfield 82, 3) := by decide +kernel
theorem dX2_mergedName_14 : decode cX2_mergedName 14 = .ok (.getfield 103, 3) := by decide +kernel
theorem dX2_mergedName_17 : decode cX2_mergedName 17 = .ok (.iload_n 2, 1) := by decide +kernel
theorem dX2_mergedName_18 : decode cX2_mergedName 18 = .ok (.iaload, 1) := by decide +kernel
theorem dX2_mergedName_19 : decode cX2_mergedName 19 = .ok (.istore 4, 2) := by decide +kernel
theorem dX2_mergedName_21 : decode cX2_mergedName 21 = .ok (.aload_n 1, 1) := by decide +kernel
theorem dX2_mergedName_22 : decode cX2_mergedName 22 = .ok (.getfield 85, 3) := by decide +kernel
theorem dX2_mergedName_25 : decode cX2_mergedName 25 = .ok (.getfield 103, 3) := by decide +kernel
theorem dX2_mergedName_28 : decode cX2_mergedName 28 = .ok (.iload_n 2, 1) := by decide +kernel
theorem dX2_mergedName_29 : decode cX2_mergedName 29 = .ok (.iaload, 1) := by decide +kernel
theorem dX2_mergedName_30 : decode cX2_mergedName 30 = .ok (.istore 5, 2) := by decide +kernel
theorem dX2_mergedName_32 : decode cX2_mergedName 32 = .ok (.iload 4, 2) := by decide +kernel
theorem dX2_mergedName_34 : decode cX2_mergedName 34 = .ok (.iload 5, 2) := by decide +kernel
theorem dX2_mergedName_36 : decode cX2_mergedName 36 = .ok (.if_icmp .eq 9, 3) := by decide +kernel
theorem dX2_mergedName_39 : decode cX2_mergedName 39 = .ok (.iload 5, 2) := by decide +kernel
theorem dX2_mergedName_41 : decode cX2_mergedName 41 = .ok (.iload_n 3, 1) := by decide +kernel
theorem dX2_mergedName_42 : decode cX2_mergedName 42 = .ok (.if_icmp .ne 6, 3) := by decide +kernel
theorem dX2_mergedName_45 : decode cX2_mergedName 45 = .ok (.iload 4, 2) := by decide +kernel
theorem dX2_mergedName_47 : decode cX2_mergedName 47 = .ok (.ireturn, 1) := by decide +kernel
theorem dX2_mergedName_48 : decode cX2_mergedName 48 = .ok (.iload 4, 2) := by decide +kernel
theorem dX2_mergedName_50 : decode cX2_mergedName 50 = .ok (.iload_n 3, 1) := by decide +kernel
theorem dX2_mergedName_51 : decode cX2_mergedName 51 = .ok (.if_icmp .ne 6, 3) := by decide +kernel
theorem dX2_mergedName_54 : decode cX2_mergedName 54 = .ok (.iload 5, 2) := by decide +kernel
theorem dX2_mergedName_56 : decode cX2_mergedName 56 = .ok (.ireturn, 1) := by decide +kernel
theorem dX2_mergedName_57 : decode cX2_mergedName 57 = .ok (.aload_n 0, 1) := by decide +kernel
theorem dX2_mergedName_58 : decode cX2_mergedName 58 = .ok (.aload_n 1, 1) := by decide +kernel
theorem dX2_mergedName_59 : decode cX2_mergedName 59 = .ok (.iconst 1, 1) := by decide +kernel
theorem dX2_mergedName_60 : decode cX2_mergedName 60 = .ok (.iload_n 2, 1) := by decide +kernel
theorem dX2_mergedName_61 : decode cX2_mergedName 61 = .ok (.iconst 0, 1) := by decide +kernel
theorem dX2_mergedName_62 : decode cX2_mergedName 62 = .ok (.invokestatic 113, 3) := by decide +kernel
theorem dX2_mergedName_65 : decode cX2_mergedName 65 = .ok (.iload 4, 2) := by decide +kernel
theorem dX2_mergedName_67 : decode cX2_mergedName 67 = .ok (.iload 5, 2) := by decide +kernel
theorem dX2_mergedName_69 : decode cX2_mergedName 69 = .ok (.invokevirtual 119, 3) := by decide +kernel
theorem dX2_mergedName_72 : decode cX2_mergedName 72 = .ok (.iload_n 3, 1) := by decide +kernel
theorem dX2_mergedName_73 : decode cX2_mergedName 73 = .ok (.iload 4, 2) := by decide +kernel
theorem dX2_mergedName_75 : decode cX2_mergedName 75 = .ok (.iload 5, 2) := by decide +kernel
theorem dX2_mergedName_77 : decode cX2_mergedName 77 = .ok (.invokestatic 123, 3) := by decide +kernel
theorem dX2_mergedName_80 : decode cX2_mergedName 80 = .ok (.ireturn, 1) := by decide +kernel
theorem dX2_mergedType_0 : decode cX2_mergedType 0 = .ok (.aload_n 1, 1) := by decide +kernel
theorem dX2_mergedType_1 : decode cX2_mergedType 1 = .ok (.getfield 44, 3) := by decide +kernel
theorem dX2_mergedType_4 : decode cX2_mergedType 4 = .ok (.getfield 106, 3) := by decide +kernel
theorem dX2_mergedType_7 : decode cX2_mergedType 7 = .ok (.iload_n 2, 1) := by decide +kernel
theorem dX2_mergedType_8 : decode cX2_mergedType 8 = .ok (.iaload, 1) := by decide +kernel
theorem dX2_mergedType_9 : decode cX2_mergedType 9 = .ok (.istore_n 3, 1) := by decide +kernel
theorem dX2_mergedType_10 : decode cX2_mergedType 10 = .ok (.aload_n 1, 1) := by decide +kernel
theorem dX2_mergedType_11 : decode cX2_mergedType 11 = .ok (.getfield 82, 3) := by decide +kernel
theorem dX2_mergedType_14 : decode cX2_mergedType 14 = .ok (.getfield 106, 3) := by decide +kernel
theorem dX2_mergedType_17 : decode cX2_mergedType 17 = .ok (.iload_n 2, 1) := by decide +kernel
theorem dX2_mergedType_18 : decode cX2_mergedType 18 = .ok (.iaload, 1) := by decide +kernel
theorem dX2_mergedType_19 : decode cX2_mergedType 19 = .ok (.istore 4, 2) := by decide +kernel
theorem dX2_mergedType_21 : decode cX2_mergedType 21 = .ok (.aload_n 1, 1) := by decide +kernel
theorem dX2_mergedType_22 : decode cX2_mergedType 22 = .ok (.getfield 85, 3) := by decide +kernel
theorem dX2_mergedType_25 : decode cX2_mergedType 25 = .ok (.getfield 106, 3) := by decide +kernel
theorem dX2_mergedType_28 : decode cX2_mergedType 28 = .ok (.iload_n 2, 1) := by decide +kernel
theorem dX2_mergedType_29 : decode cX2_mergedType 29 = .ok (.iaload, 1) := by decide +kernel
theorem dX2_mergedType_30 : decode cX2_mergedType 30 = .ok (.istore 5, 2) := by decide +kernel
theorem dX2_mergedType_32 : decode cX2_mergedType 32 = .ok (.iload 4, 2) := by decide +kernel
theorem dX2_mergedType_34 : decode cX2_mergedType 34 = .ok (.iload 5, 2) := by decide +kernel
theorem dX2_mergedType_36 : decode cX2_mergedType 36 = .ok (.if_icmp .eq 9, 3) := by decide +kernel
theorem dX2_mergedType_39 : decode cX2_mergedType 39 = .ok (.iload 5, 2) := by decide +kernel
theorem dX2_mergedType_41 : decode cX2_mergedType 41 = .ok (.iload_n 3, 1) := by decide +kernel
theorem dX2_mergedType_42 : decode cX2_mergedType 42 = .ok (.if_icmp .ne 6, 3) := by decide +kernel
theorem dX2_mergedType_45 : decode cX2_mergedType 45 = .ok (.iload 4, 2) := by decide +kernel
theorem dX2_mergedType_47 : decode cX2_mergedType 47 = .ok (.ireturn, 1) := by decide +kernel
theorem dX2_mergedType_48 : decode cX2_mergedType 48 = .ok (.iload 4, 2) := by decide +kernel
theorem dX2_mergedType_50 : decode cX2_mergedType 50 = .ok (.iload_n 3, 1) := by decide +kernel
theorem dX2_mergedType_51 : decode cX2_mergedType 51 = .ok (.if_icmp .ne 6, 3) := by decide +kernel
theorem dX2_mergedType_54 : decode cX2_mergedType 54 = .ok (.iload 5, 2) := by decide +kernel
theorem dX2_mergedType_56 : decode cX2_mergedType 56 = .ok (.ireturn, 1) := by decide +kernel
theorem dX2_mergedType_57 : decode cX2_mergedType 57 = .ok (.iload 4, 2) := by decide +kernel
theorem dX2_mergedType_59 : decode cX2_mergedType 59 = .ok (.iload 5, 2) := by decide +kernel
theorem dX2_mergedType_61 : decode cX2_mergedType 61 = .ok (.invokestatic 127, 3) := by decide +kernel
theorem dX2_mergedType_64 : decode cX2_mergedType 64 = .ok (.istore 6, 2) := by decide +kernel
theorem dX2_mergedType_66 : decode cX2_mergedType 66 = .ok (.iload 6, 2) := by decide +kernel
theorem dX2_mergedType_68 : decode cX2_mergedType 68 = .ok (.iconst (-1), 1) := by decide +kernel
theorem dX2_mergedType_69 : decode cX2_mergedType 69 = .ok (.if_icmp .eq 6, 3) := by decide +kernel
theorem dX2_mergedType_72 : decode cX2_mergedType 72 = .ok (.iload 6, 2) := by decide +kernel
theorem dX2_mergedType_74 : decode cX2_mergedType 74 = .ok (.ireturn, 1) := by decide +kernel
theorem dX2_mergedType_75 : decode cX2_mergedType 75 = .ok (.aload_n 0, 1) := by decide +kernel
theorem dX2_mergedType_76 : decode cX2_mergedType 76 = .ok (.aload_n 1, 1) := by decide +kernel
theorem dX2_mergedType_77 : decode cX2_mergedType 77 = .ok (.iconst 2, 1) := by decide +kernel
theorem dX2_mergedType_78 : decode cX2_mergedType 78 = .ok (.iload_n 2, 1) := by decide +kernel
theorem dX2_mergedType_79 : decode cX2_mergedType 79 = .ok (.iconst 0, 1) := by decide +kernel
theorem dX2_mergedType_80 : decode cX2_mergedType 80 = .ok (.invokestatic 113, 3) := by decide +kernel
theorem dX2_mergedType_83 : decode cX2_mergedType 83 = .ok (.iload 4, 2) := by decide +kernel
theorem dX2_mergedType_85 : decode cX2_mergedType 85 = .ok (.iload 5, 2) := by decide +kernel
theorem dX2_mergedType_87 : decode cX2_mergedType 87 = .ok (.invokevirtual 119, 3) := by decide +kernel
theorem dX2_mergedType_90 : decode cX2_mergedType 90 = .ok (.iload_n 3, 1) := by decide +kernel
theorem dX2_mergedType_91 : decode cX2_mergedType 91 = .ok (.iload 4, 2) := by decide +kernel
theorem dX2_mergedType_93 : decode cX2_mergedType 93 = .ok (.iload 5, 2) := by decide +kernel
theorem dX2_mergedType_95 : decode cX2_mergedType 95 = .ok (.invokestatic 123, 3) := by decide +kernel
theorem dX2_mergedType_98 : decode cX2_mergedType 98 = .ok (.ireturn, 1) := by decide +kernel
theorem dX2_chosen_0 : decode cX2_chosen 0 = .ok (.iload_n 0, 1) := by decide +kernel
theorem dX2_chosen_1 : decode cX2_chosen 1 = .ok (.iconst 1, 1) := by decide +kernel
theorem dX2_chosen_2 : decode cX2_chosen 2 = .ok (.if_icmp .ne 5, 3) := by decide +kernel
theorem dX2_chosen_5 : decode cX2_chosen 5 = .ok (.iload_n 2, 1) := by decide +kernel
theorem dX2_chosen_6 : decode cX2_chosen 6 = .ok (.ireturn, 1) := by decide +kernel
theorem dX2_chosen_7 : decode cX2_chosen 7 = .ok (.iload_n 0, 1) := by decide +kernel
theorem dX2_chosen_8 : decode cX2_chosen 8 = .ok (.iconst 2, 1) := by decide +kernel
theorem dX2_chosen_9 : decode cX2_chosen 9 = .ok (.if_icmp .ne 7, 3) := by decide +kernel
theorem dX2_chosen_12 : decode cX2_chosen 12 = .ok (.iload_n 3, 1) := by decide +kernel
theorem dX2_chosen_13 : decode cX2_chosen 13 = .ok (.goto 4, 3) := by decide +kernel
theorem dX2_chosen_16 : decode cX2_chosen 16 = .ok (.iload_n 1, 1) := by decide +kernel
theorem dX2_chosen_17 : decode cX2_chosen 17 = .ok (.ireturn, 1) := by decide +kernel
theorem dX2_mergeAddedColumns_0 : decode cX2_mergeAddedColumns 0 = .ok (.iconst 5, 1) := by decide +kernel
theorem dX2_mergeAddedColumns_1 : decode cX2_mergeAddedColumns 1 = .ok (.istore_n 2, 1) := by decide +kernel
theorem dX2_mergeAddedColumns_2 : decode cX2_mergeAddedColumns 2 = .ok (.iload_n 2, 1) := by decide +kernel
theorem dX2_mergeAddedColumns_3 : decode cX2_mergeAddedColumns 3 = .ok (.bipush 7, 2) := by decide +kernel
theorem dX2_mergeAddedColumns_5 : decode cX2_mergeAddedColumns 5 = .ok (.if_icmp .ge 53, 3) := by decide +kernel
theorem dX2_mergeAddedColumns_8 : decode cX2_mergeAddedColumns 8 = .ok (.aload_n 0, 1) := by decide +kernel
theorem dX2_mergeAddedColumns_9 : decode cX2_mergeAddedColumns 9 = .ok (.getfield 31, 3) := by decide +kernel
theorem dX2_mergeAddedColumns_12 : decode cX2_mergeAddedColumns 12 = .ok (.iload_n 2, 1) := by decide +kernel
theorem dX2_mergeAddedColumns_13 : decode cX2_mergeAddedColumns 13 = .ok (.iconst (-1), 1) := by decide +kernel
theorem dX2_mergeAddedColumns_14 : decode cX2_mergeAddedColumns 14 = .ok (.iastore, 1) := by decide +kernel
theorem dX2_mergeAddedColumns_15 : decode cX2_mergeAddedColumns 15 = .ok (.aload_n 1, 1) := by decide +kernel
theorem dX2_mergeAddedColumns_16 : decode cX2_mergeAddedColumns 16 = .ok (.getfield 82, 3) := by decide +kernel
theorem dX2_mergeAddedColumns_19 : decode cX2_mergeAddedColumns 19 = .ok (.iload_n 2, 1) := by decide +kernel
theorem dX2_mergeAddedColumns_20 : decode cX2_mergeAddedColumns 20 = .ok (.invokevirtual 49, 3) := by decide +kernel
theorem dX2_mergeAddedColumns_23 : decode cX2_mergeAddedColumns 23 = .ok (.ifCond .eq 29, 3) := by decide +kernel
theorem dX2_mergeAddedColumns_26 : decode cX2_mergeAddedColumns 26 = .ok (.aload_n 0, 1) := by decide +kernel
theorem dX2_mergeAddedColumns_27 : decode cX2_mergeAddedColumns 27 = .ok (.getfield 12, 3) := by decide +kernel
theorem dX2_mergeAddedColumns_30 : decode cX2_mergeAddedColumns 30 = .ok (.iload_n 2, 1) := by decide +kernel
theorem dX2_mergeAddedColumns_31 : decode cX2_mergeAddedColumns 31 = .ok (.aload_n 1, 1) := by decide +kernel
theorem dX2_mergeAddedColumns_32 : decode cX2_mergeAddedColumns 32 = .ok (.getfield 82, 3) := by decide +kernel
theorem dX2_mergeAddedColumns_35 : decode cX2_mergeAddedColumns 35 = .ok (.getfield 103, 3) := by decide +kernel
theorem dX2_mergeAddedColumns_38 : decode cX2_mergeAddedColumns 38 = .ok (.iload_n 2, 1) := by decide +kernel
theorem dX2_mergeAddedColumns_39 : decode cX2_mergeAddedColumns 39 = .ok (.iaload, 1) := by decide +kernel
theorem dX2_mergeAddedColumns_40 : decode cX2_mergeAddedColumns 40 = .ok (.aload_n 1, 1) := by decide +kernel
theorem dX2_mergeAddedColumns_41 : decode cX2_mergeAddedColumns 41 = .ok (.getfield 82, 3) := by decide +kernel
theorem dX2_mergeAddedColumns_44 : decode cX2_mergeAddedColumns 44 = .ok (.getfield 106, 3) := by decide +kernel
theorem dX2_mergeAddedColumns_47 : decode cX2_mergeAddedColumns 47 = .ok (.iload_n 2, 1) := by decide +kernel
theorem dX2_mergeAddedColumns_48 : decode cX2_mergeAddedColumns 48 = .ok (.iaload, 1) := by decide +kernel
theorem dX2_mergeAddedColumns_49 : decode cX2_mergeAddedColumns 49 = .ok (.invokevirtual 95, 3) := by decide +kernel
theorem dX2_mergeAddedColumns_52 : decode cX2_mergeAddedColumns 52 = .ok (.iinc 2 1, 3) := by decide +kernel
theorem dX2_mergeAddedColumns_55 : decode cX2_mergeAddedColumns 55 = .ok (.goto (-53), 3) := by decide +kernel
theorem dX2_mergeAddedColumns_58 : decode cX2_mergeAddedColumns 58 = .ok (.bipush 7, 2) := by decide +kernel
theorem dX2_mergeAddedColumns_60 : decode cX2_mergeAddedColumns 60 = .ok (.istore_n 2, 1) := by decide +kernel
theorem dX2_mergeAddedColumns_61 : decode cX2_mergeAddedColumns 61 = .ok (.iload_n 2, 1) := by decide +kernel
theorem dX2_mergeAddedColumns_62 : decode cX2_mergeAddedColumns 62 = .ok (.bipush 9, 2) := by decide +kernel
theorem dX2_mergeAddedColumns_64 : decode cX2_mergeAddedColumns 64 = .ok (.if_icmp .ge 68, 3) := by decide +kernel
theorem dX2_mergeAddedColumns_67 : decode cX2_mergeAddedColumns 67 = .ok (.aload_n 1, 1) := by decide +kernel
theorem dX2_mergeAddedColumns_68 : decode cX2_mergeAddedColumns 68 = .ok (.getfield 85, 3) := by decide +kernel
theorem dX2_mergeAddedColumns_71 : decode cX2_mergeAddedColumns 71 = .ok (.iload_n 2, 1) := by decide +kernel
theorem dX2_mergeAddedColumns_72 : decode cX2_mergeAddedColumns 72 = .ok (.invokevirtual 49, 3) := by decide +kernel
theorem dX2_mergeAddedColumns_75 : decode cX2_mergeAddedColumns 75 = .ok (.ifCond .eq 51, 3) := by decide +kernel
theorem dX2_mergeAddedColumns_78 : decode cX2_mergeAddedColumns 78 = .ok (.aload_n 0, 1) := by decide +kernel
theorem dX2_mergeAddedColumns_79 : decode cX2_mergeAddedColumns 79 = .ok (.aload_n 1, 1) := by decide +kernel
theorem dX2_mergeAddedColumns_80 : decode cX2_mergeAddedColumns 80 = .ok (.iload_n 2, 1) := by decide +kernel
theorem dX2_mergeAddedColumns_81 : decode cX2_mergeAddedColumns 81 = .ok (.invokevirtual 133, 3) := by decide +kernel
theorem dX2_mergeAddedColumns_84 : decode cX2_mergeAddedColumns 84 = .ok (.istore_n 3, 1) := by decide +kernel
theorem dX2_mergeAddedColumns_85 : decode cX2_mergeAddedColumns 85 = .ok (.iload_n 3, 1) := by decide +kernel
theorem dX2_mergeAddedColumns_86 : decode cX2_mergeAddedColumns 86 = .ok (.iconst (-1), 1) := by decide +kernel
theorem dX2_mergeAddedColumns_87 : decode cX2_mergeAddedColumns 87 = .ok (.if_icmp .ne 32, 3) := by decide +kernel
theorem dX2_mergeAddedColumns_90 : decode cX2_mergeAddedColumns 90 = .ok (.aload_n 0, 1) := by decide +kernel
theorem dX2_mergeAddedColumns_91 : decode cX2_mergeAddedColumns 91 = .ok (.getfield 12, 3) := by decide +kernel
theorem dX2_mergeAddedColumns_94 : decode cX2_mergeAddedColumns 94 = .ok (.iload_n 2, 1) := by decide +kernel
theorem dX2_mergeAddedColumns_95 : decode cX2_mergeAddedColumns 95 = .ok (.aload_n 1, 1) := by decide +kernel
theorem dX2_mergeAddedColumns_96 : decode cX2_mergeAddedColumns 96 = .ok (.getfield 85, 3) := by decide +kernel
theorem dX2_mergeAddedColumns_99 : decode cX2_mergeAddedColumns 99 = .ok (.getfield 103, 3) := by decide +kernel
theorem dX2_mergeAddedColumns_102 : decode cX2_mergeAddedColumns 102 = .ok (.iload_n 2, 1) := by decide +kernel
theorem dX2_mergeAddedColumns_103 : decode cX2_mergeAddedColumns 103 = .ok (.iaload, 1) := by decide +kernel
theorem dX2_mergeAddedColumns_104 : decode cX2_mergeAddedColumns 104 = .ok (.aload_n 1, 1) := by decide +kernel
theorem dX2_mergeAddedColumns_105 : decode cX2_mergeAddedColumns 105 = .ok (.getfield 85, 3) := by decide +kernel
theorem dX2_mergeAddedColumns_108 : decode cX2_mergeAddedColumns 108 = .ok (.getfield 106, 3) := by decide +kernel
theorem dX2_mergeAddedColumns_111 : decode cX2_mergeAddedColumns 111 = .ok (.iload_n 2, 1) := by decide +kernel
theorem dX2_mergeAddedColumns_112 : decode cX2_mergeAddedColumns 112 = .ok (.iaload, 1) := by decide +kernel
theorem dX2_mergeAddedColumns_113 : decode cX2_mergeAddedColumns 113 = .ok (.invokevirtual 95, 3) := by decide +kernel
theorem dX2_mergeAddedColumns_116 : decode cX2_mergeAddedColumns 116 = .ok (.goto 10, 3) := by decide +kernel
theorem dX2_mergeAddedColumns_119 : decode cX2_mergeAddedColumns 119 = .ok (.aload_n 0, 1) := by decide +kernel
theorem dX2_mergeAddedColumns_120 : decode cX2_mergeAddedColumns 120 = .ok (.getfield 31, 3) := by decide +kernel
theorem dX2_mergeAddedColumns_123 : decode cX2_mergeAddedColumns 123 = .ok (.iload_n 3, 1) := by decide +kernel
theorem dX2_mergeAddedColumns_124 : decode cX2_mergeAddedColumns 124 = .ok (.iload_n 2, 1) := by decide +kernel
theorem dX2_mergeAddedColumns_125 : decode cX2_mergeAddedColumns 125 = .ok (.iastore, 1) := by decide +kernel
theorem dX2_mergeAddedColumns_126 : decode cX2_mergeAddedColumns 126 = .ok (.iinc 2 1, 3) := by decide +kernel
theorem dX2_mergeAddedColumns_129 : decode cX2_mergeAddedColumns 129 = .ok (.goto (-68), 3) := by decide +kernel
theorem dX2_mergeAddedColumns_132 : decode cX2_mergeAddedColumns 132 = .ok (.return_, 1) := by decide +kernel
theorem dX2_twinInLeft_0 : decode cX2_twinInLeft 0 = .ok (.iconst 5, 1) := by decide +kernel
theorem dX2_twinInLeft_1 : decode cX2_twinInLeft 1 = .ok (.istore_n 3, 1) := by decide +kernel
theorem dX2_twinInLeft_2 : decode cX2_twinInLeft 2 = .ok (.iload_n 3, 1) := by decide +kernel
theorem dX2_twinInLeft_3 : decode cX2_twinInLeft 3 = .ok (.bipush 7, 2) := by decide +kernel
theorem dX2_twinInLeft_5 : decode cX2_twinInLeft 5 = .ok (.if_icmp .ge 74, 3) := by decide +kernel
theorem dX2_twinInLeft_8 : decode cX2_twinInLeft 8 = .ok (.aload_n 1, 1) := by decide +kernel
theorem dX2_twinInLeft_9 : decode cX2_twinInLeft 9 = .ok (.getfield 82, 3) := by decide +kernel
theorem dX2_twinInLeft_12 : decode cX2_twinInLeft 12 = .ok (.iload_n 3, 1) := by decide +kernel
theorem dX2_twinInLeft_13 : decode cX2_twinInLeft 13 = .ok (.invokevirtual 49, 3) := by decide +kernel
theorem dX2_twinInLeft_16 : decode cX2_twinInLeft 16 = .ok (.ifCond .eq 57, 3) := by decide +kernel
theorem dX2_twinInLeft_19 : decode cX2_twinInLeft 19 = .ok (.aload_n 0, 1) := by decide +kernel
theorem dX2_twinInLeft_20 : decode cX2_twinInLeft 20 = .ok (.getfield 31, 3) := by decide +kernel
theorem dX2_twinInLeft_23 : decode cX2_twinInLeft 23 = .ok (.iload_n 3, 1) := by decide +kernel
theorem dX2_twinInLeft_24 : decode cX2_twinInLeft 24 = .ok (.iaload, 1) := by decide +kernel
theorem dX2_twinInLeft_25 : decode cX2_twinInLeft 25 = .ok (.iconst (-1), 1) := by decide +kernel
theorem dX2_twinInLeft_26 : decode cX2_twinInLeft 26 = .ok (.if_icmp .ne 47, 3) := by decide +kernel
theorem dX2_twinInLeft_29 : decode cX2_twinInLeft 29 = .ok (.aload_n 1, 1) := by decide +kernel
theorem dX2_twinInLeft_30 : decode cX2_twinInLeft 30 = .ok (.getfield 82, 3) := by decide +kernel
theorem dX2_twinInLeft_33 : decode cX2_twinInLeft 33 = .ok (.getfield 103, 3) := by decide +kernel
theorem dX2_twinInLeft_36 : decode cX2_twinInLeft 36 = .ok (.iload_n 3, 1) := by decide +kernel
theorem dX2_twinInLeft_37 : decode cX2_twinInLeft 37 = .ok (.iaload, 1) := by decide +kernel
theorem dX2_twinInLeft_38 : decode cX2_twinInLeft 38 = .ok (.aload_n 1, 1) := by decide +kernel
theorem dX2_twinInLeft_39 : decode cX2_twinInLeft 39 = .ok (.getfield 85, 3) := by decide +kernel
theorem dX2_twinInLeft_42 : decode cX2_twinInLeft 42 = .ok (.getfield 103, 3) := by decide +kernel
theorem dX2_twinInLeft_45 : decode cX2_twinInLeft 45 = .ok (.iload_n 2, 1) := by decide +kernel
theorem dX2_twinInLeft_46 : decode cX2_twinInLeft 46 = .ok (.iaload, 1) := by decide +kernel
theorem dX2_twinInLeft_47 : decode cX2_twinInLeft 47 = .ok (.if_icmp .ne 26, 3) := by decide +kernel
theorem dX2_twinInLeft_50 : decode cX2_twinInLeft 50 = .ok (.aload_n 1, 1) := by decide +kernel
theorem dX2_twinInLeft_51 : decode cX2_twinInLeft 51 = .ok (.getfield 82, 3) := by decide +kernel
theorem dX2_twinInLeft_54 : decode cX2_twinInLeft 54 = .ok (.getfield 106, 3) := by decide +kernel
theorem dX2_twinInLeft_57 : decode cX2_twinInLeft 57 = .ok (.iload_n 3, 1) := by decide +kernel
theorem dX2_twinInLeft_58 : decode cX2_twinInLeft 58 = .ok (.iaload, 1) := by decide +kernel
theorem dX2_twinInLeft_59 : decode cX2_twinInLeft 59 = .ok (.aload_n 1, 1) := by decide +kernel
theorem dX2_twinInLeft_60 : decode cX2_twinInLeft 60 = .ok (.getfield 85, 3) := by decide +kernel
theorem dX2_twinInLeft_63 : decode cX2_twinInLeft 63 = .ok (.getfield 106, 3) := by decide +kernel
theorem dX2_twinInLeft_66 : decode cX2_twinInLeft 66 = .ok (.iload_n 2, 1) := by decide +kernel
theorem dX2_twinInLeft_67 : decode cX2_twinInLeft 67 = .ok (.iaload, 1) := by decide +kernel
theorem dX2_twinInLeft_68 : decode cX2_twinInLeft 68 = .ok (.if_icmp .ne 5, 3) := by decide +kernel
theorem dX2_twinInLeft_71 : decode cX2_twinInLeft 71 = .ok (.iload_n 3, 1) := by decide +kernel
theorem dX2_twinInLeft_72 : decode cX2_twinInLeft 72 = .ok (.ireturn, 1) := by decide +kernel
theorem dX2_twinInLeft_73 : decode cX2_twinInLeft 73 = .ok (.iinc 3 1, 3) := by decide +kernel
theorem dX2_twinInLeft_76 : decode cX2_twinInLeft 76 = .ok (.goto (-74), 3) := by decide +kernel
theorem dX2_twinInLeft_79 : decode cX2_twinInLeft 79 = .ok (.iconst (-1), 1) := by decide +kernel
theorem dX2_twinInLeft_80 : decode cX2_twinInLeft 80 = .ok (.ireturn, 1) := by decide +kernel
theorem dX2_partNames_0 : decode cX2_partNames 0 = .ok (.iconst 0, 1) := by decide +kernel
theorem dX2_partNames_1 : decode cX2_partNames 1 = .ok (.istore_n 2, 1) := by decide +kernel
theorem dX2_partNames_2 : decode cX2_partNames 2 = .ok (.iload_n 2, 1) := by decide +kernel
theorem dX2_partNames_3 : decode cX2_partNames 3 = .ok (.bipush 9, 2) := by decide +kernel
theorem dX2_partNames_5 : decode cX2_partNames 5 = .ok (.if_icmp .ge 75, 3) := by decide +kernel
theorem dX2_partNames_8 : decode cX2_partNames 8 = .ok (.aload_n 0, 1) := by decide +kernel
theorem dX2_partNames_9 : decode cX2_partNames 9 = .ok (.getfield 12, 3) := by decide +kernel
theorem dX2_partNames_12 : decode cX2_partNames 12 = .ok (.iload_n 2, 1) := by decide +kernel
theorem dX2_partNames_13 : decode cX2_partNames 13 = .ok (.invokevirtual 49, 3) := by decide +kernel
theorem dX2_partNames_16 : decode cX2_partNames 16 = .ok (.ifCond .eq 58, 3) := by decide +kernel
theorem dX2_partNames_19 : decode cX2_partNames 19 = .ok (.aload_n 0, 1) := by decide +kernel
theorem dX2_partNames_20 : decode cX2_partNames 20 = .ok (.iload_n 2, 1) := by decide +kernel
theorem dX2_partNames_21 : decode cX2_partNames 21 = .ok (.invokevirtual 136, 3) := by decide +kernel
theorem dX2_partNames_24 : decode cX2_partNames 24 = .ok (.ifCond .eq 50, 3) := by decide +kernel
theorem dX2_partNames_27 : decode cX2_partNames 27 = .ok (.aload_n 0, 1) := by decide +kernel
theorem dX2_partNames_28 : decode cX2_partNames 28 = .ok (.aload_n 1, 1) := by decide +kernel
theorem dX2_partNames_29 : decode cX2_partNames 29 = .ok (.iconst 3, 1) := by decide +kernel
theorem dX2_partNames_30 : decode cX2_partNames 30 = .ok (.iload_n 2, 1) := by decide +kernel
theorem dX2_partNames_31 : decode cX2_partNames 31 = .ok (.iconst 0, 1) := by decide +kernel
theorem dX2_partNames_32 : decode cX2_partNames 32 = .ok (.invokestatic 113, 3) := by decide +kernel
theorem dX2_partNames_35 : decode cX2_partNames 35 = .ok (.iconst (-1), 1) := by decide +kernel
theorem dX2_partNames_36 : decode cX2_partNames 36 = .ok (.iconst (-1), 1) := by decide +kernel
theorem dX2_partNames_37 : decode cX2_partNames 37 = .ok (.invokevirtual 119, 3) := by decide +kernel
theorem dX2_partNames_40 : decode cX2_partNames 40 = .ok (.istore_n 3, 1) := by decide +kernel
theorem dX2_partNames_41 : decode cX2_partNames 41 = .ok (.iload_n 3, 1) := by decide +kernel
theorem dX2_partNames_42 : decode cX2_partNames 42 = .ok (.ifCond .ne 19, 3) := by decide +kernel
theorem dX2_partNames_45 : decode cX2_partNames 45 = .ok (.aload_n 0, 1) := by decide +kernel
theorem dX2_partNames_46 : decode cX2_partNames 46 = .ok (.getfield 12, 3) := by decide +kernel
theorem dX2_partNames_49 : decode cX2_partNames 49 = .ok (.getfield 103, 3) := by decide +kernel
theorem dX2_partNames_52 : decode cX2_partNames 52 = .ok (.iload_n 2, 1) := by decide +kernel
theorem dX2_partNames_53 : decode cX2_partNames 53 = .ok (.aload_n 0, 1) := by decide +kernel
theorem dX2_partNames_54 : decode cX2_partNames 54 = .ok (.invokevirtual 139, 3) := by decide +kernel
theorem dX2_partNames_57 : decode cX2_partNames 57 = .ok (.iastore, 1) := by decide +kernel
theorem dX2_partNames_58 : decode cX2_partNames 58 = .ok (.goto 16, 3) := by decide +kernel
theorem dX2_partNames_61 : decode cX2_partNames 61 = .ok (.iload_n 3, 1) := by decide +kernel
theorem dX2_partNames_62 : decode cX2_partNames 62 = .ok (.iconst 1, 1) := by decide +kernel
theorem dX2_partNames_63 : decode cX2_partNames 63 = .ok (.if_icmp .ne 11, 3) := by decide +kernel
theorem dX2_partNames_66 : decode cX2_partNames 66 = .ok (.aload_n 0, 1) := by decide +kernel
theorem dX2_partNames_67 : decode cX2_partNames 67 = .ok (.getfield 12, 3) := by decide +kernel
theorem dX2_partNames_70 : decode cX2_partNames 70 = .ok (.iload_n 2, 1) := by decide +kernel
theorem dX2_partNames_71 : decode cX2_partNames 71 = .ok (.invokevirtual 143, 3) := by decide +kernel
theorem dX2_partNames_74 : decode cX2_partNames 74 = .ok (.iinc 2 1, 3) := by decide +kernel
theorem dX2_partNames_77 : decode cX2_partNames 77 = .ok (.goto (-75), 3) := by decide +kernel
theorem dX2_partNames_80 : decode cX2_partNames 80 = .ok (.return_, 1) := by decide +kernel
theorem dX2_isNameAhead_0 : decode cX2_isNameAhead 0 = .ok (.iconst 0, 1) := by decide +kernel
theorem dX2_isNameAhead_1 : decode cX2_isNameAhead 1 = .ok (.istore_n 2, 1) := by decide +kernel
theorem dX2_isNameAhead_2 : decode cX2_isNameAhead 2 = .ok (.iload_n 2, 1) := by decide +kernel
theorem dX2_isNameAhead_3 : decode cX2_isNameAhead 3 = .ok (.iload_n 1, 1) := by decide +kernel
theorem dX2_isNameAhead_4 : decode cX2_isNameAhead 4 = .ok (.if_icmp .ge 49, 3) := by decide +kernel
theorem dX2_isNameAhead_7 : decode cX2_isNameAhead 7 = .ok (.iload_n 2, 1) := by decide +kernel
theorem dX2_isNameAhead_8 : decode cX2_isNameAhead 8 = .ok (.bipush 9, 2) := by decide +kernel
theorem dX2_isNameAhead_10 : decode cX2_isNameAhead 10 = .ok (.if_icmp .ge 43, 3) := by decide +kernel
theorem dX2_isNameAhead_13 : decode cX2_isNameAhead 13 = .ok (.aload_n 0, 1) := by decide +kernel
theorem dX2_isNameAhead_14 : decode cX2_isNameAhead 14 = .ok (.getfield 12, 3) := by decide +kernel
theorem dX2_isNameAhead_17 : decode cX2_isNameAhead 17 = .ok (.iload_n 2, 1) := by decide +kernel
theorem dX2_isNameAhead_18 : decode cX2_isNameAhead 18 = .ok (.invokevirtual 49, 3) := by decide +kernel
theorem dX2_isNameAhead_21 : decode cX2_isNameAhead 21 = .ok (.ifCond .eq 26, 3) := by decide +kernel
theorem dX2_isNameAhead_24 : decode cX2_isNameAhead 24 = .ok (.aload_n 0, 1) := by decide +kernel
theorem dX2_isNameAhead_25 : decode cX2_isNameAhead 25 = .ok (.getfield 12, 3) := by decide +kernel
theorem dX2_isNameAhead_28 : decode cX2_isNameAhead 28 = .ok (.getfield 103, 3) := by decide +kernel
theorem dX2_isNameAhead_31 : decode cX2_isNameAhead 31 = .ok (.iload_n 2, 1) := by decide +kernel
theorem dX2_isNameAhead_32 : decode cX2_isNameAhead 32 = .ok (.iaload, 1) := by decide +kernel
theorem dX2_isNameAhead_33 : decode cX2_isNameAhead 33 = .ok (.aload_n 0, 1) := by decide +kernel
theorem dX2_isNameAhead_34 : decode cX2_isNameAhead 34 = .ok (.getfield 12, 3) := by decide +kernel
theorem dX2_isNameAhead_37 : decode cX2_isNameAhead 37 = .ok (.getfield 103, 3) := by decide +kernel
theorem dX2_isNameAhead_40 : decode cX2_isNameAhead 40 = .ok (.iload_n 1, 1) := by decide +kernel
theorem dX2_isNameAhead_41 : decode cX2_isNameAhead 41 = .ok (.iaload, 1) := by decide +kernel
theorem dX2_isNameAhead_42 : decode cX2_isNameAhead 42 = .ok (.if_icmp .ne 5, 3) := by decide +kernel
theorem dX2_isNameAhead_45 : decode cX2_isNameAhead 45 = .ok (.iconst 1, 1) := by decide +kernel
theorem dX2_isNameAhead_46 : decode cX2_isNameAhead 46 = .ok (.ireturn, 1) := by decide +kernel
theorem dX2_isNameAhead_47 : decode cX2_isNameAhead 47 = .ok (.iinc 2 1, 3) := by decide +kernel
theorem dX2_isNameAhead_50 : decode cX2_isNameAhead 50 = .ok (.goto (-48), 3) := by decide +kernel
theorem dX2_isNameAhead_53 : decode cX2_isNameAhead 53 = .ok (.iconst 0, 1) := by decide +kernel
theorem dX2_isNameAhead_54 : decode cX2_isNameAhead 54 = .ok (.ireturn, 1) := by decide +kernel
theorem dX2_leastFreeName_0 : decode cX2_leastFreeName 0 = .ok (.iconst 0, 1) := by decide +kernel
theorem dX2_leastFreeName_1 : decode cX2_leastFreeName 1 = .ok (.istore_n 1, 1) := by decide +kernel
theorem dX2_leastFreeName_2 : decode cX2_leastFreeName 2 = .ok (.iconst 0, 1) := by decide +kernel
theorem dX2_leastFreeName_3 : decode cX2_leastFreeName 3 = .ok (.istore_n 2, 1) := by decide +kernel
theorem dX2_leastFreeName_4 : decode cX2_leastFreeName 4 = .ok (.iload_n 2, 1) := by decide +kernel
theorem dX2_leastFreeName_5 : decode cX2_leastFreeName 5 = .ok (.bipush 26, 2) := by decide +kernel
theorem dX2_leastFreeName_7 : decode cX2_leastFreeName 7 = .ok (.if_icmp .ge 23, 3) := by decide +kernel
theorem dX2_leastFreeName_10 : decode cX2_leastFreeName 10 = .ok (.aload_n 0, 1) := by decide +kernel
theorem dX2_leastFreeName_11 : decode cX2_leastFreeName 11 = .ok (.getfield 12, 3) := by decide +kernel
theorem dX2_leastFreeName_14 : decode cX2_leastFreeName 14 = .ok (.iload_n 1, 1) := by decide +kernel
theorem dX2_leastFreeName_15 : decode cX2_leastFreeName 15 = .ok (.invokevirtual 147, 3) := by decide +kernel
theorem dX2_leastFreeName_18 : decode cX2_leastFreeName 18 = .ok (.ifCond .eq 12, 3) := by decide +kernel
theorem dX2_leastFreeName_21 : decode cX2_leastFreeName 21 = .ok (.iinc 1 1, 3) := by decide +kernel
theorem dX2_leastFreeName_24 : decode cX2_leastFreeName 24 = .ok (.iinc 2 1, 3) := by decide +kernel
theorem dX2_leastFreeName_27 : decode cX2_leastFreeName 27 = .ok (.goto (-23), 3) := by decide +kernel
theorem dX2_leastFreeName_30 : decode cX2_leastFreeName 30 = .ok (.iload_n 1, 1) := by decide +kernel
theorem dX2_leastFreeName_31 : decode cX2_leastFreeName 31 = .ok (.ireturn, 1) := by decide +kernel
theorem dX2_mergeRow_0 : decode cX2_mergeRow 0 = .ok (.aload_n 1, 1) := by decide +kernel
theorem dX2_mergeRow_1 : decode cX2_mergeRow 1 = .ok (.getfield 82, 3) := by decide +kernel
theorem dX2_mergeRow_4 : decode cX2_mergeRow 4 = .ok (.iload_n 2, 1) := by decide +kernel
theorem dX2_mergeRow_5 : decode cX2_mergeRow 5 = .ok (.invokevirtual 67, 3) := by decide +kernel
theorem dX2_mergeRow_8 : decode cX2_mergeRow 8 = .ok (.istore_n 3, 1) := by decide +kernel
theorem dX2_mergeRow_9 : decode cX2_mergeRow 9 = .ok (.aload_n 1, 1) := by decide +kernel
theorem dX2_mergeRow_10 : decode cX2_mergeRow 10 = .ok (.getfield 85, 3) := by decide +kernel
theorem dX2_mergeRow_13 : decode cX2_mergeRow 13 = .ok (.iload_n 2, 1) := by decide +kernel
theorem dX2_mergeRow_14 : decode cX2_mergeRow 14 = .ok (.invokevirtual 67, 3) := by decide +kernel
theorem dX2_mergeRow_17 : decode cX2_mergeRow 17 = .ok (.istore 4, 2) := by decide +kernel
theorem dX2_mergeRow_19 : decode cX2_mergeRow 19 = .ok (.iload_n 3, 1) := by decide +kernel
theorem dX2_mergeRow_20 : decode cX2_mergeRow 20 = .ok (.ifCond .ne 9, 3) := by decide +kernel
theorem dX2_mergeRow_23 : decode cX2_mergeRow 23 = .ok (.iload 4, 2) := by decide +kernel
theorem dX2_mergeRow_25 : decode cX2_mergeRow 25 = .ok (.ifCond .ne 4, 3) := by decide +kernel
theorem dX2_mergeRow_28 : decode cX2_mergeRow 28 = .ok (.return_, 1) := by decide +kernel
theorem dX2_mergeRow_29 : decode cX2_mergeRow 29 = .ok (.aload_n 1, 1) := by decide +kernel
theorem dX2_mergeRow_30 : decode cX2_mergeRow 30 = .ok (.getfield 44, 3) := by decide +kernel
theorem dX2_mergeRow_33 : decode cX2_mergeRow 33 = .ok (.iload_n 2, 1) := by decide +kernel
theorem dX2_mergeRow_34 : decode cX2_mergeRow 34 = .ok (.invokevirtual 67, 3) := by decide +kernel
theorem dX2_mergeRow_37 : decode cX2_mergeRow 37 = .ok (.ifCond .eq 48, 3) := by decide +kernel
theorem dX2_mergeRow_40 : decode cX2_mergeRow 40 = .ok (.iload_n 3, 1) := by decide +kernel
theorem dX2_mergeRow_41 : decode cX2_mergeRow 41 = .ok (.iload 4, 2) := by decide +kernel
theorem dX2_mergeRow_43 : decode cX2_mergeRow 43 = .ok (.if_icmp .eq 42, 3) := by decide +kernel
theorem dX2_mergeRow_46 : decode cX2_mergeRow 46 = .ok (.aload_n 1, 1) := by decide +kernel
theorem dX2_mergeRow_47 : decode cX2_mergeRow 47 = .ok (.iload_n 3, 1) := by decide +kernel
theorem dX2_mergeRow_48 : decode cX2_mergeRow 48 = .ok (.ifCond .eq 7, 3) := by decide +kernel
theorem dX2_mergeRow_51 : decode cX2_mergeRow 51 = .ok (.iconst 0, 1) := by decide +kernel
theorem dX2_mergeRow_52 : decode cX2_mergeRow 52 = .ok (.goto 4, 3) := by decide +kernel
theorem dX2_mergeRow_55 : decode cX2_mergeRow 55 = .ok (.iconst 1, 1) := by decide +kernel
theorem dX2_mergeRow_56 : decode cX2_mergeRow 56 = .ok (.iload_n 2, 1) := by decide +kernel
theorem dX2_mergeRow_57 : decode cX2_mergeRow 57 = .ok (.invokevirtual 150, 3) := by decide +kernel
theorem dX2_mergeRow_60 : decode cX2_mergeRow 60 = .ok (.istore 5, 2) := by decide +kernel
theorem dX2_mergeRow_62 : decode cX2_mergeRow 62 = .ok (.iload 5, 2) := by decide +kernel
theorem dX2_mergeRow_64 : decode cX2_mergeRow 64 = .ok (.ifCond .eq 20, 3) := by decide +kernel
theorem dX2_mergeRow_67 : decode cX2_mergeRow 67 = .ok (.aload_n 0, 1) := by decide +kernel
theorem dX2_mergeRow_68 : decode cX2_mergeRow 68 = .ok (.aload_n 1, 1) := by decide +kernel
theorem dX2_mergeRow_69 : decode cX2_mergeRow 69 = .ok (.iconst 4, 1) := by decide +kernel
theorem dX2_mergeRow_70 : decode cX2_mergeRow 70 = .ok (.iload_n 2, 1) := by decide +kernel
theorem dX2_mergeRow_71 : decode cX2_mergeRow 71 = .ok (.iconst 0, 1) := by decide +kernel
theorem dX2_mergeRow_72 : decode cX2_mergeRow 72 = .ok (.invokestatic 113, 3) := by decide +kernel
theorem dX2_mergeRow_75 : decode cX2_mergeRow 75 = .ok (.iconst (-1), 1) := by decide +kernel
theorem dX2_mergeRow_76 : decode cX2_mergeRow 76 = .ok (.iconst (-1), 1) := by decide +kernel
theorem dX2_mergeRow_77 : decode cX2_mergeRow 77 = .ok (.invokevirtual 119, 3) := by decide +kernel
theorem dX2_mergeRow_80 : decode cX2_mergeRow 80 = .ok (.iconst 1, 1) := by decide +kernel
theorem dX2_mergeRow_81 : decode cX2_mergeRow 81 = .ok (.if_icmp .ne 4, 3) := by decide +kernel
theorem dX2_mergeRow_84 : decode cX2_mergeRow 84 = .ok (.return_, 1) := by decide +kernel
theorem dX2_mergeRow_85 : decode cX2_mergeRow 85 = .ok (.aload_n 0, 1) := by decide +kernel
theorem dX2_mergeRow_86 : decode cX2_mergeRow 86 = .ok (.getfield 12, 3) := by decide +kernel
theorem dX2_mergeRow_89 : decode cX2_mergeRow 89 = .ok (.iload_n 2, 1) := by decide +kernel
theorem dX2_mergeRow_90 : decode cX2_mergeRow 90 = .ok (.invokevirtual 153, 3) := by decide +kernel
theorem dX2_mergeRow_93 : decode cX2_mergeRow 93 = .ok (.return_, 1) := by decide +kernel
theorem dX2_mergeCells_0 : decode cX2_mergeCells 0 = .ok (.iconst 0, 1) := by decide +kernel
theorem dX2_mergeCells_1 : decode cX2_mergeCells 1 = .ok (.istore_n 3, 1) := by decide +kernel
theorem dX2_mergeCells_2 : decode cX2_mergeCells 2 = .ok (.iload_n 3, 1) := by decide +kernel
theorem dX2_mergeCells_3 : decode cX2_mergeCells 3 = .ok (.bipush 9, 2) := by decide +kernel
theorem dX2_mergeCells_5 : decode cX2_mergeCells 5 = .ok (.if_icmp .ge 27, 3) := by decide +kernel
theorem dX2_mergeCells_8 : decode cX2_mergeCells 8 = .ok (.aload_n 0, 1) := by decide +kernel
theorem dX2_mergeCells_9 : decode cX2_mergeCells 9 = .ok (.getfield 12, 3) := by decide +kernel
theorem dX2_mergeCells_12 : decode cX2_mergeCells 12 = .ok (.iload_n 3, 1) := by decide +kernel
theorem dX2_mergeCells_13 : decode cX2_mergeCells 13 = .ok (.invokevirtual 49, 3) := by decide +kernel
theorem dX2_mergeCells_16 : decode cX2_mergeCells 16 = .ok (.ifCond .eq 10, 3) := by decide +kernel
theorem dX2_mergeCells_19 : decode cX2_mergeCells 19 = .ok (.aload_n 0, 1) := by decide +kernel
theorem dX2_mergeCells_20 : decode cX2_mergeCells 20 = .ok (.aload_n 1, 1) := by decide +kernel
theorem dX2_mergeCells_21 : decode cX2_mergeCells 21 = .ok (.iload_n 2, 1) := by decide +kernel
theorem dX2_mergeCells_22 : decode cX2_mergeCells 22 = .ok (.iload_n 3, 1) := by decide +kernel
theorem dX2_mergeCells_23 : decode cX2_mergeCells 23 = .ok (.invokevirtual 156, 3) := by decide +kernel
theorem dX2_mergeCells_26 : decode cX2_mergeCells 26 = .ok (.iinc 3 1, 3) := by decide +kernel
theorem dX2_mergeCells_29 : decode cX2_mergeCells 29 = .ok (.goto (-27), 3) := by decide +kernel
theorem dX2_mergeCells_32 : decode cX2_mergeCells 32 = .ok (.return_, 1) := by decide +kernel
theorem dX2_mergeCell_0 : decode cX2_mergeCell 0 = .ok (.aload_n 0, 1) := by decide +kernel
theorem dX2_mergeCell_1 : decode cX2_mergeCell 1 = .ok (.getfield 12, 3) := by decide +kernel
theorem dX2_mergeCell_4 : decode cX2_mergeCell 4 = .ok (.getfield 106, 3) := by decide +kernel
theorem dX2_mergeCell_7 : decode cX2_mergeCell 7 = .ok (.iload_n 3, 1) := by decide +kernel
theorem dX2_mergeCell_8 : decode cX2_mergeCell 8 = .ok (.iaload, 1) := by decide +kernel
theorem dX2_mergeCell_9 : decode cX2_mergeCell 9 = .ok (.istore 4, 2) := by decide +kernel
theorem dX2_mergeCell_11 : decode cX2_mergeCell 11 = .ok (.aload_n 0, 1) := by decide +kernel
theorem dX2_mergeCell_12 : decode cX2_mergeCell 12 = .ok (.getfield 31, 3) := by decide +kernel
theorem dX2_mergeCell_15 : decode cX2_mergeCell 15 = .ok (.iload_n 3, 1) := by decide +kernel
theorem dX2_mergeCell_16 : decode cX2_mergeCell 16 = .ok (.iaload, 1) := by decide +kernel
theorem dX2_mergeCell_17 : decode cX2_mergeCell 17 = .ok (.istore 5, 2) := by decide +kernel
theorem dX2_mergeCell_19 : decode cX2_mergeCell 19 = .ok (.aload_n 1, 1) := by decide +kernel
theorem dX2_mergeCell_20 : decode cX2_mergeCell 20 = .ok (.iconst 0, 1) := by decide +kernel
theorem dX2_mergeCell_21 : decode cX2_mergeCell 21 = .ok (.iload_n 2, 1) := by decide +kernel
theorem dX2_mergeCell_22 : decode cX2_mergeCell 22 = .ok (.iload_n 3, 1) := by decide +kernel
theorem dX2_mergeCell_23 : decode cX2_mergeCell 23 = .ok (.invokevirtual 160, 3) := by decide +kernel
theorem dX2_mergeCell_26 : decode cX2_mergeCell 26 = .ok (.ifCond .eq 7, 3) := by decide +kernel
theorem dX2_mergeCell_29 : decode cX2_mergeCell 29 = .ok (.iconst 1, 1) := by decide +kernel
theorem dX2_mergeCell_30 : decode cX2_mergeCell 30 = .ok (.goto 4, 3) := by decide +kernel
theorem dX2_mergeCell_33 : decode cX2_mergeCell 33 = .ok (.iconst 0, 1) := by decide +kernel
theorem dX2_mergeCell_34 : decode cX2_mergeCell 34 = .ok (.aload_n 1, 1) := by decide +kernel
theorem dX2_mergeCell_35 : decode cX2_mergeCell 35 = .ok (.iconst 1, 1) := by decide +kernel
theorem dX2_mergeCell_36 : decode cX2_mergeCell 36 = .ok (.iload_n 2, 1) := by decide +kernel
theorem dX2_mergeCell_37 : decode cX2_mergeCell 37 = .ok (.iload 5, 2) := by decide +kernel
theorem dX2_mergeCell_39 : decode cX2_mergeCell 39 = .ok (.invokevirtual 160, 3) := by decide +kernel
theorem dX2_mergeCell_42 : decode cX2_mergeCell 42 = .ok (.ifCond .eq 7, 3) := by decide +kernel
theorem dX2_mergeCell_45 : decode cX2_mergeCell 45 = .ok (.iconst 2, 1) := by decide +kernel
theorem dX2_mergeCell_46 : decode cX2_mergeCell 46 = .ok (.goto 4, 3) := by decide +kernel
theorem dX2_mergeCell_49 : decode cX2_mergeCell 49 = .ok (.iconst 0, 1) := by decide +kernel
theorem dX2_mergeCell_50 : decode cX2_mergeCell 50 = .ok (.iadd, 1) := by decide +kernel
theorem dX2_mergeCell_51 : decode cX2_mergeCell 51 = .ok (.istore 6, 2) := by decide +kernel
theorem dX2_mergeCell_53 : decode cX2_mergeCell 53 = .ok (.aload_n 1, 1) := by decide +kernel
theorem dX2_mergeCell_54 : decode cX2_mergeCell 54 = .ok (.getfield 44, 3) := by decide +kernel
theorem dX2_mergeCell_57 : decode cX2_mergeCell 57 = .ok (.iload_n 2, 1) := by decide +kernel
theorem dX2_mergeCell_58 : decode cX2_mergeCell 58 = .ok (.iload_n 3, 1) := by decide +kernel
theorem dX2_mergeCell_59 : decode cX2_mergeCell 59 = .ok (.invokevirtual 164, 3) := by decide +kernel
theorem dX2_mergeCell_62 : decode cX2_mergeCell 62 = .ok (.iload 4, 2) := by decide +kernel
theorem dX2_mergeCell_64 : decode cX2_mergeCell 64 = .ok (.invokestatic 167, 3) := by decide +kernel
theorem dX2_mergeCell_67 : decode cX2_mergeCell 67 = .ok (.istore 7, 2) := by decide +kernel
theorem dX2_mergeCell_69 : decode cX2_mergeCell 69 = .ok (.iload 6, 2) := by decide +kernel
theorem dX2_mergeCell_71 : decode cX2_mergeCell 71 = .ok (.ifCond .ne 13, 3) := by decide +kernel
theorem dX2_mergeCell_74 : decode cX2_mergeCell 74 = .ok (.aload_n 0, 1) := by decide +kernel
theorem dX2_mergeCell_75 : decode cX2_mergeCell 75 = .ok (.iload_n 2, 1) := by decide +kernel
theorem dX2_mergeCell_76 : decode cX2_mergeCell 76 = .ok (.iload_n 3, 1) := by decide +kernel
theorem dX2_mergeCell_77 : decode cX2_mergeCell 77 = .ok (.iload 7, 2) := by decide +kernel
theorem dX2_mergeCell_79 : decode cX2_mergeCell 79 = .ok (.iconst 0, 1) := by decide +kernel
theorem dX2_mergeCell_80 : decode cX2_mergeCell 80 = .ok (.invokevirtual 170, 3) := by decide +kernel
theorem dX2_mergeCell_83 : decode cX2_mergeCell 83 = .ok (.return_, 1) := by decide +kernel
theorem dX2_mergeCell_84 : decode cX2_mergeCell 84 = .ok (.aload_n 1, 1) := by decide +kernel
theorem dX2_mergeCell_85 : decode cX2_mergeCell 85 = .ok (.getfield 82, 3) := by decide +kernel
theorem dX2_mergeCell_88 : decode cX2_mergeCell 88 = .ok (.iload_n 2, 1) := by decide +kernel
theorem dX2_mergeCell_89 : decode cX2_mergeCell 89 = .ok (.iload_n 3, 1) := by decide +kernel
theorem dX2_mergeCell_90 : decode cX2_mergeCell 90 = .ok (.invokevirtual 164, 3) := by decide +kernel
theorem dX2_mergeCell_93 : decode cX2_mergeCell 93 = .ok (.iload 4, 2) := by decide +kernel
theorem dX2_mergeCell_95 : decode cX2_mergeCell 95 = .ok (.invokestatic 167, 3) := by decide +kernel
theorem dX2_mergeCell_98 : decode cX2_mergeCell 98 = .ok (.istore 8, 2) := by decide +kernel
theorem dX2_mergeCell_100 : decode cX2_mergeCell 100 = .ok (.aload_n 1, 1) := by decide +kernel
theorem dX2_mergeCell_101 : decode cX2_mergeCell 101 = .ok (.getfield 85, 3) := by decide +kernel
theorem dX2_mergeCell_104 : decode cX2_mergeCell 104 = .ok (.iload_n 2, 1) := by decide +kernel
theorem dX2_mergeCell_105 : decode cX2_mergeCell 105 = .ok (.iload 5, 2) := by decide +kernel
theorem dX2_mergeCell_107 : decode cX2_mergeCell 107 = .ok (.invokevirtual 164, 3) := by decide +kernel
theorem dX2_mergeCell_110 : decode cX2_mergeCell 110 = .ok (.iload 4, 2) := by decide +kernel
theorem dX2_mergeCell_112 : decode cX2_mergeCell 112 = .ok (.invokestatic 167, 3) := by decide +kernel
theorem dX2_mergeCell_115 : decode cX2_mergeCell 115 = .ok (.istore 9, 2) := by decide +kernel
theorem dX2_mergeCell_117 : decode cX2_mergeCell 117 = .ok (.iload 6, 2) := by decide +kernel
theorem dX2_mergeCell_119 : decode cX2_mergeCell 119 = .ok (.iconst 3, 1) := by decide +kernel
theorem dX2_mergeCell_120 : decode cX2_mergeCell 120 = .ok (.if_icmp .ne 31, 3) := by decide +kernel
theorem dX2_mergeCell_123 : decode cX2_mergeCell 123 = .ok (.iload 8, 2) := by decide +kernel
theorem dX2_mergeCell_125 : decode cX2_mergeCell 125 = .ok (.iload 9, 2) := by decide +kernel
theorem dX2_mergeCell_127 : decode cX2_mergeCell 127 = .ok (.if_icmp .eq 24, 3) := by decide +kernel
theorem dX2_mergeCell_130 : decode cX2_mergeCell 130 = .ok (.iconst 0, 1) := by decide +kernel
theorem dX2_mergeCell_131 : decode cX2_mergeCell 131 = .ok (.aload_n 0, 1) := by decide +kernel
theorem dX2_mergeCell_132 : decode cX2_mergeCell 132 = .ok (.aload_n 1, 1) := by decide +kernel
theorem dX2_mergeCell_133 : decode cX2_mergeCell 133 = .ok (.iconst 5, 1) := by decide +kernel
theorem dX2_mergeCell_134 : decode cX2_mergeCell 134 = .ok (.iload_n 2, 1) := by decide +kernel
theorem dX2_mergeCell_135 : decode cX2_mergeCell 135 = .ok (.iload_n 3, 1) := by decide +kernel
theorem dX2_mergeCell_136 : decode cX2_mergeCell 136 = .ok (.invokestatic 113, 3) := by decide +kernel
theorem dX2_mergeCell_139 : decode cX2_mergeCell 139 = .ok (.iload 8, 2) := by decide +kernel
theorem dX2_mergeCell_141 : decode cX2_mergeCell 141 = .ok (.iload 9, 2) := by decide +kernel
theorem dX2_mergeCell_143 : decode cX2_mergeCell 143 = .ok (.invokevirtual 119, 3) := by decide +kernel
theorem dX2_mergeCell_146 : decode cX2_mergeCell 146 = .ok (.invokestatic 174, 3) := by decide +kernel
theorem dX2_mergeCell_149 : decode cX2_mergeCell 149 = .ok (.istore 6, 2) := by decide +kernel
theorem dX2_mergeCell_151 : decode cX2_mergeCell 151 = .ok (.aload_n 0, 1) := by decide +kernel
theorem dX2_mergeCell_152 : decode cX2_mergeCell 152 = .ok (.iload_n 2, 1) := by decide +kernel
theorem dX2_mergeCell_153 : decode cX2_mergeCell 153 = .ok (.iload_n 3, 1) := by decide +kernel
theorem dX2_mergeCell_154 : decode cX2_mergeCell 154 = .ok (.iload 6, 2) := by decide +kernel
theorem dX2_mergeCell_156 : decode cX2_mergeCell 156 = .ok (.iconst 3, 1) := by decide +kernel
theorem dX2_mergeCell_157 : decode cX2_mergeCell 157 = .ok (.if_icmp .ne 8, 3) := by decide +kernel
theorem dX2_mergeCell_160 : decode cX2_mergeCell 160 = .ok (.iload 8, 2) := by decide +kernel
theorem dX2_mergeCell_162 : decode cX2_mergeCell 162 = .ok (.goto 14, 3) := by decide +kernel
theorem dX2_mergeCell_165 : decode cX2_mergeCell 165 = .ok (.iload 6, 2) := by decide +kernel
theorem dX2_mergeCell_167 : decode cX2_mergeCell 167 = .ok (.iload 7, 2) := by decide +kernel
theorem dX2_mergeCell_169 : decode cX2_mergeCell 169 = .ok (.iload 8, 2) := by decide +kernel
theorem dX2_mergeCell_171 : decode cX2_mergeCell 171 = .ok (.iload 9, 2) := by decide +kernel
theorem dX2_mergeCell_173 : decode cX2_mergeCell 173 = .ok (.invokestatic 123, 3) := by decide +kernel
theorem dX2_mergeCell_176 : decode cX2_mergeCell 176 = .ok (.iload 6, 2) := by decide +kernel
theorem dX2_mergeCell_178 : decode cX2_mergeCell 178 = .ok (.invokevirtual 170, 3) := by decide +kernel
theorem dX2_mergeCell_181 : decode cX2_mergeCell 181 = .ok (.return_, 1) := by decide +kernel
theorem dX2_putMerged_0 : decode cX2_putMerged 0 = .ok (.aload_n 0, 1) := by decide +kernel
theorem dX2_putMerged_1 : decode cX2_putMerged 1 = .ok (.getfield 12, 3) := by decide +kernel
theorem dX2_putMerged_4 : decode cX2_putMerged 4 = .ok (.iload_n 1, 1) := by decide +kernel
theorem dX2_putMerged_5 : decode cX2_putMerged 5 = .ok (.iload_n 2, 1) := by decide +kernel
theorem dX2_putMerged_6 : decode cX2_putMerged 6 = .ok (.invokevirtual 179, 3) := by decide +kernel
theorem dX2_putMerged_9 : decode cX2_putMerged 9 = .ok (.ifCond .eq 26, 3) := by decide +kernel
theorem dX2_putMerged_12 : decode cX2_putMerged 12 = .ok (.aload_n 0, 1) := by decide +kernel
theorem dX2_putMerged_13 : decode cX2_putMerged 13 = .ok (.getfield 12, 3) := by decide +kernel
theorem dX2_putMerged_16 : decode cX2_putMerged 16 = .ok (.iload_n 1, 1) := by decide +kernel
theorem dX2_putMerged_17 : decode cX2_putMerged 17 = .ok (.iload_n 2, 1) := by decide +kernel
theorem dX2_putMerged_18 : decode cX2_putMerged 18 = .ok (.iload_n 3, 1) := by decide +kernel
theorem dX2_putMerged_19 : decode cX2_putMerged 19 = .ok (.invokevirtual 182, 3) := by decide +kernel
theorem dX2_putMerged_22 : decode cX2_putMerged 22 = .ok (.aload_n 0, 1) := by decide +kernel
theorem dX2_putMerged_23 : decode cX2_putMerged 23 = .ok (.getfield 18, 3) := by decide +kernel
theorem dX2_putMerged_26 : decode cX2_putMerged 26 = .ok (.iload_n 1, 1) := by decide +kernel
theorem dX2_putMerged_27 : decode cX2_putMerged 27 = .ok (.bipush 9, 2) := by decide +kernel
theorem dX2_putMerged_29 : decode cX2_putMerged 29 = .ok (.imul, 1) := by decide +kernel
theorem dX2_putMerged_30 : decode cX2_putMerged 30 = .ok (.iload_n 2, 1) := by decide +kernel
theorem dX2_putMerged_31 : decode cX2_putMerged 31 = .ok (.iadd, 1) := by decide +kernel
theorem dX2_putMerged_32 : decode cX2_putMerged 32 = .ok (.iload 4, 2) := by decide +kernel
theorem dX2_putMerged_34 : decode cX2_putMerged 34 = .ok (.iastore, 1) := by decide +kernel
theorem dX2_putMerged_35 : decode cX2_putMerged 35 = .ok (.return_, 1) := by decide +kernel
theorem dX2_checkDemand_0 : decode cX2_checkDemand 0 = .ok (.aload_n 1, 1) := by decide +kernel
theorem dX2_checkDemand_1 : decode cX2_checkDemand 1 = .ok (.getfield 185, 3) := by decide +kernel
theorem dX2_checkDemand_4 : decode cX2_checkDemand 4 = .ok (.iload_n 2, 1) := by decide +kernel
theorem dX2_checkDemand_5 : decode cX2_checkDemand 5 = .ok (.iaload, 1) := by decide +kernel
theorem dX2_checkDemand_6 : decode cX2_checkDemand 6 = .ok (.istore_n 3, 1) := by decide +kernel
theorem dX2_checkDemand_7 : decode cX2_checkDemand 7 = .ok (.aload_n 1, 1) := by decide +kernel
theorem dX2_checkDemand_8 : decode cX2_checkDemand 8 = .ok (.getfield 188, 3) := by decide +kernel
theorem dX2_checkDemand_11 : decode cX2_checkDemand 11 = .ok (.iload_n 2, 1) := by decide +kernel
theorem dX2_checkDemand_12 : decode cX2_checkDemand 12 = .ok (.iaload, 1) := by decide +kernel
theorem dX2_checkDemand_13 : decode cX2_checkDemand 13 = .ok (.istore 4, 2) := by decide +kernel
theorem dX2_checkDemand_15 : decode cX2_checkDemand 15 = .ok (.aload_n 1, 1) := by decide +kernel
theorem dX2_checkDemand_16 : decode cX2_checkDemand 16 = .ok (.getfield 191, 3) := by decide +kernel
theorem dX2_checkDemand_19 : decode cX2_checkDemand 19 = .ok (.iload_n 2, 1) := by decide +kernel
theorem dX2_checkDemand_20 : decode cX2_checkDemand 20 = .ok (.iaload, 1) := by decide +kernel
theorem dX2_checkDemand_21 : decode cX2_checkDemand 21 = .ok (.istore 5, 2) := by decide +kernel
theorem dX2_checkDemand_23 : decode cX2_checkDemand 23 = .ok (.aload_n 0, 1) := by decide +kernel
theorem dX2_checkDemand_24 : decode cX2_checkDemand 24 = .ok (.getfield 12, 3) := by decide +kernel
theorem dX2_checkDemand_27 : decode cX2_checkDemand 27 = .ok (.iload 4, 2) := by decide +kernel
theorem dX2_checkDemand_29 : decode cX2_checkDemand 29 = .ok (.invokevirtual 49, 3) := by decide +kernel
theorem dX2_checkDemand_32 : decode cX2_checkDemand 32 = .ok (.ifCond .eq 15, 3) := by decide +kernel
theorem dX2_checkDemand_35 : decode cX2_checkDemand 35 = .ok (.aload_n 0, 1) := by decide +kernel
theorem dX2_checkDemand_36 : decode cX2_checkDemand 36 = .ok (.getfield 12, 3) := by decide +kernel
theorem dX2_checkDemand_39 : decode cX2_checkDemand 39 = .ok (.iload 5, 2) := by decide +kernel
theorem dX2_checkDemand_41 : decode cX2_checkDemand 41 = .ok (.invokevirtual 49, 3) := by decide +kernel
theorem dX2_checkDemand_44 : decode cX2_checkDemand 44 = .ok (.ifCond .ne 4, 3) := by decide +kernel
theorem dX2_checkDemand_47 : decode cX2_checkDemand 47 = .ok (.return_, 1) := by decide +kernel
theorem dX2_checkDemand_48 : decode cX2_checkDemand 48 = .ok (.iconst 0, 1) := by decide +kernel
theorem dX2_checkDemand_49 : decode cX2_checkDemand 49 = .ok (.istore 6, 2) := by decide +kernel
theorem dX2_checkDemand_51 : decode cX2_checkDemand 51 = .ok (.iload 6, 2) := by decide +kernel
theorem dX2_checkDemand_53 : decode cX2_checkDemand 53 = .ok (.bipush 20, 2) := by decide +kernel
theorem dX2_checkDemand_55 : decode cX2_checkDemand 55 = .ok (.if_icmp .ge 96, 3) := by decide +kernel
theorem dX2_checkDemand_58 : decode cX2_checkDemand 58 = .ok (.aload_n 0, 1) := by decide +kernel
theorem dX2_checkDemand_59 : decode cX2_checkDemand 59 = .ok (.getfield 12, 3) := by decide +kernel
theorem dX2_checkDemand_62 : decode cX2_checkDemand 62 = .ok (.iload 6, 2) := by decide +kernel
theorem dX2_checkDemand_64 : decode cX2_checkDemand 64 = .ok (.invokevirtual 67, 3) := by decide +kernel
theorem dX2_checkDemand_67 : decode cX2_checkDemand 67 = .ok (.ifCond .eq 78, 3) := by decide +kernel
theorem dX2_checkDemand_70 : decode cX2_checkDemand 70 = .ok (.aload_n 0, 1) := by decide +kernel
theorem dX2_checkDemand_71 : decode cX2_checkDemand 71 = .ok (.iload_n 3, 1) := by decide +kernel
theorem dX2_checkDemand_72 : decode cX2_checkDemand 72 = .ok (.iload 4, 2) := by decide +kernel
theorem dX2_checkDemand_74 : decode cX2_checkDemand 74 = .ok (.iload 5, 2) := by decide +kernel
theorem dX2_checkDemand_76 : decode cX2_checkDemand 76 = .ok (.iload 6, 2) := by decide +kernel
theorem dX2_checkDemand_78 : decode cX2_checkDemand 78 = .ok (.invokevirtual 194, 3) := by decide +kernel
theorem dX2_checkDemand_81 : decode cX2_checkDemand 81 = .ok (.ifCond .eq 64, 3) := by decide +kernel
theorem dX2_checkDemand_84 : decode cX2_checkDemand 84 = .ok (.aload_n 0, 1) := by decide +kernel
theorem dX2_checkDemand_85 : decode cX2_checkDemand 85 = .ok (.aload_n 1, 1) := by decide +kernel
theorem dX2_checkDemand_86 : decode cX2_checkDemand 86 = .ok (.bipush 6, 2) := by decide +kernel
theorem dX2_checkDemand_88 : decode cX2_checkDemand 88 = .ok (.iload_n 2, 1) := by decide +kernel
theorem dX2_checkDemand_89 : decode cX2_checkDemand 89 = .ok (.iload 6, 2) := by decide +kernel
theorem dX2_checkDemand_91 : decode cX2_checkDemand 91 = .ok (.invokestatic 113, 3) := by decide +kernel
theorem dX2_checkDemand_94 : decode cX2_checkDemand 94 = .ok (.iconst (-1), 1) := by decide +kernel
theorem dX2_checkDemand_95 : decode cX2_checkDemand 95 = .ok (.iconst (-1), 1) := by decide +kernel
theorem dX2_checkDemand_96 : decode cX2_checkDemand 96 = .ok (.invokevirtual 119, 3) := by decide +kernel
theorem dX2_checkDemand_99 : decode cX2_checkDemand 99 = .ok (.istore 7, 2) := by decide +kernel
theorem dX2_checkDemand_101 : decode cX2_checkDemand 101 = .ok (.iload 7, 2) := by decide +kernel
theorem dX2_checkDemand_103 : decode cX2_checkDemand 103 = .ok (.ifCond .ne 27, 3) := by decide +kernel
theorem dX2_checkDemand_106 : decode cX2_checkDemand 106 = .ok (.aload_n 0, 1) := by decide +kernel
theorem dX2_checkDemand_107 : decode cX2_checkDemand 107 = .ok (.iload 6, 2) := by decide +kernel
theorem dX2_checkDemand_109 : decode cX2_checkDemand 109 = .ok (.iload 5, 2) := by decide +kernel
theorem dX2_checkDemand_111 : decode cX2_checkDemand 111 = .ok (.iload_n 3, 1) := by decide +kernel
theorem dX2_checkDemand_112 : decode cX2_checkDemand 112 = .ok (.iconst 1, 1) := by decide +kernel
theorem dX2_checkDemand_113 : decode cX2_checkDemand 113 = .ok (.if_icmp .ne 7, 3) := by decide +kernel
theorem dX2_checkDemand_116 : decode cX2_checkDemand 116 = .ok (.iconst 0, 1) := by decide +kernel
theorem dX2_checkDemand_117 : decode cX2_checkDemand 117 = .ok (.goto 6, 3) := by decide +kernel
theorem dX2_checkDemand_120 : decode cX2_checkDemand 120 = .ok (.sipush 9999, 3) := by decide +kernel
theorem dX2_checkDemand_123 : decode cX2_checkDemand 123 = .ok (.iconst 4, 1) := by decide +kernel
theorem dX2_checkDemand_124 : decode cX2_checkDemand 124 = .ok (.invokevirtual 170, 3) := by decide +kernel
theorem dX2_checkDemand_127 : decode cX2_checkDemand 127 = .ok (.goto 18, 3) := by decide +kernel
theorem dX2_checkDemand_130 : decode cX2_checkDemand 130 = .ok (.iload 7, 2) := by decide +kernel
theorem dX2_checkDemand_132 : decode cX2_checkDemand 132 = .ok (.iconst 1, 1) := by decide +kernel
theorem dX2_checkDemand_133 : decode cX2_checkDemand 133 = .ok (.if_icmp .ne 12, 3) := by decide +kernel
theorem dX2_checkDemand_136 : decode cX2_checkDemand 136 = .ok (.aload_n 0, 1) := by decide +kernel
theorem dX2_checkDemand_137 : decode cX2_checkDemand 137 = .ok (.getfield 12, 3) := by decide +kernel
theorem dX2_checkDemand_140 : decode cX2_checkDemand 140 = .ok (.iload 6, 2) := by decide +kernel
theorem dX2_checkDemand_142 : decode cX2_checkDemand 142 = .ok (.invokevirtual 198, 3) := by decide +kernel
theorem dX2_checkDemand_145 : decode cX2_checkDemand 145 = .ok (.iinc 6 1, 3) := by decide +kernel
theorem dX2_checkDemand_148 : decode cX2_checkDemand 148 = .ok (.goto (-97), 3) := by decide +kernel
theorem dX2_checkDemand_151 : decode cX2_checkDemand 151 = .ok (.return_, 1) := by decide +kernel
theorem dX2_isBroken_0 : decode cX2_isBroken 0 = .ok (.aload_n 0, 1) := by decide +kernel
theorem dX2_isBroken_1 : decode cX2_isBroken 1 = .ok (.getfield 12, 3) := by decide +kernel
theorem dX2_isBroken_4 : decode cX2_isBroken 4 = .ok (.iload 4, 2) := by decide +kernel
theorem dX2_isBroken_6 : decode cX2_isBroken 6 = .ok (.iload_n 2, 1) := by decide +kernel
theorem dX2_isBroken_7 : decode cX2_isBroken 7 = .ok (.invokevirtual 164, 3) := by decide +kernel
theorem dX2_isBroken_10 : decode cX2_isBroken 10 = .ok (.istore 5, 2) := by decide +kernel
theorem dX2_isBroken_12 : decode cX2_isBroken 12 = .ok (.iload_n 1, 1) := by decide +kernel
theorem dX2_isBroken_13 : decode cX2_isBroken 13 = .ok (.tableswitch 108 0 2 #[27, 53, 67], 27) := by decide +kernel
theorem dX2_isBroken_40 : decode cX2_isBroken 40 = .ok (.iload 5, 2) := by decide +kernel
theorem dX2_isBroken_42 : decode cX2_isBroken 42 = .ok (.sipush 9999, 3) := by decide +kernel
theorem dX2_isBroken_45 : decode cX2_isBroken 45 = .ok (.if_icmp .eq 19, 3) := by decide +kernel
theorem dX2_isBroken_48 : decode cX2_isBroken 48 = .ok (.aload_n 0, 1) := by decide +kernel
theorem dX2_isBroken_49 : decode cX2_isBroken 49 = .ok (.iload 5, 2) := by decide +kernel
theorem dX2_isBroken_51 : decode cX2_isBroken 51 = .ok (.iload_n 2, 1) := by decide +kernel
theorem dX2_isBroken_52 : decode cX2_isBroken 52 = .ok (.iload 4, 2) := by decide +kernel
theorem dX2_isBroken_54 : decode cX2_isBroken 54 = .ok (.invokevirtual 201, 3) := by decide +kernel
theorem dX2_isBroken_57 : decode cX2_isBroken 57 = .ok (.ifCond .eq 7, 3) := by decide +kernel
theorem dX2_isBroken_60 : decode cX2_isBroken 60 = .ok (.iconst 1, 1) := by decide +kernel
theorem dX2_isBroken_61 : decode cX2_isBroken 61 = .ok (.goto 4, 3) := by decide +kernel
theorem dX2_isBroken_64 : decode cX2_isBroken 64 = .ok (.iconst 0, 1) := by decide +kernel
theorem dX2_isBroken_65 : decode cX2_isBroken 65 = .ok (.ireturn, 1) := by decide +kernel
theorem dX2_isBroken_66 : decode cX2_isBroken 66 = .ok (.iload 5, 2) := by decide +kernel
theorem dX2_isBroken_68 : decode cX2_isBroken 68 = .ok (.sipush 9999, 3) := by decide +kernel
theorem dX2_isBroken_71 : decode cX2_isBroken 71 = .ok (.if_icmp .ne 7, 3) := by decide +kernel
theorem dX2_isBroken_74 : decode cX2_isBroken 74 = .ok (.iconst 1, 1) := by decide +kernel
theorem dX2_isBroken_75 : decode cX2_isBroken 75 = .ok (.goto 4, 3) := by decide +kernel
theorem dX2_isBroken_78 : decode cX2_isBroken 78 = .ok (.iconst 0, 1) := by decide +kernel
theorem dX2_isBroken_79 : decode cX2_isBroken 79 = .ok (.ireturn, 1) := by decide +kernel
theorem dX2_isBroken_80 : decode cX2_isBroken 80 = .ok (.aload_n 0, 1) := by decide +kernel
theorem dX2_isBroken_81 : decode cX2_isBroken 81 = .ok (.getfield 12, 3) := by decide +kernel
theorem dX2_isBroken_84 : decode cX2_isBroken 84 = .ok (.iload 4, 2) := by decide +kernel
theorem dX2_isBroken_86 : decode cX2_isBroken 86 = .ok (.iload_n 3, 1) := by decide +kernel
theorem dX2_isBroken_87 : decode cX2_isBroken 87 = .ok (.invokevirtual 164, 3) := by decide +kernel
theorem dX2_isBroken_90 : decode cX2_isBroken 90 = .ok (.istore 6, 2) := by decide +kernel
theorem dX2_isBroken_92 : decode cX2_isBroken 92 = .ok (.iload 5, 2) := by decide +kernel
theorem dX2_isBroken_94 : decode cX2_isBroken 94 = .ok (.sipush 9999, 3) := by decide +kernel
theorem dX2_isBroken_97 : decode cX2_isBroken 97 = .ok (.if_icmp .eq 22, 3) := by decide +kernel
theorem dX2_isBroken_100 : decode cX2_isBroken 100 = .ok (.iload 6, 2) := by decide +kernel
theorem dX2_isBroken_102 : decode cX2_isBroken 102 = .ok (.sipush 9999, 3) := by decide +kernel
theorem dX2_isBroken_105 : decode cX2_isBroken 105 = .ok (.if_icmp .eq 14, 3) := by decide +kernel
theorem dX2_isBroken_108 : decode cX2_isBroken 108 = .ok (.iload 5, 2) := by decide +kernel
theorem dX2_isBroken_110 : decode cX2_isBroken 110 = .ok (.iload 6, 2) := by decide +kernel
theorem dX2_isBroken_112 : decode cX2_isBroken 112 = .ok (.if_icmp .lt 7, 3) := by decide +kernel
theorem dX2_isBroken_115 : decode cX2_isBroken 115 = .ok (.iconst 1, 1) := by decide +kernel
theorem dX2_isBroken_116 : decode cX2_isBroken 116 = .ok (.goto 4, 3) := by decide +kernel
theorem dX2_isBroken_119 : decode cX2_isBroken 119 = .ok (.iconst 0, 1) := by decide +kernel
theorem dX2_isBroken_120 : decode cX2_isBroken 120 = .ok (.ireturn, 1) := by decide +kernel
theorem dX2_isBroken_121 : decode cX2_isBroken 121 = .ok (.iconst 0, 1) := by decide +kernel
theorem dX2_isBroken_122 : decode cX2_isBroken 122 = .ok (.ireturn, 1) := by decide +kernel
theorem dX2_isAtLesserKey_0 : decode cX2_isAtLesserKey 0 = .ok (.iconst 0, 1) := by decide +kernel
theorem dX2_isAtLesserKey_1 : decode cX2_isAtLesserKey 1 = .ok (.istore 4, 2) := by decide +kernel
theorem dX2_isAtLesserKey_3 : decode cX2_isAtLesserKey 3 = .ok (.iload 4, 2) := by decide +kernel
theorem dX2_isAtLesserKey_5 : decode cX2_isAtLesserKey 5 = .ok (.iload_n 3, 1) := by decide +kernel
theorem dX2_isAtLesserKey_6 : decode cX2_isAtLesserKey 6 = .ok (.if_icmp .ge 32, 3) := by decide +kernel
theorem dX2_isAtLesserKey_9 : decode cX2_isAtLesserKey 9 = .ok (.iload 4, 2) := by decide +kernel
theorem dX2_isAtLesserKey_11 : decode cX2_isAtLesserKey 11 = .ok (.bipush 20, 2) := by decide +kernel
theorem dX2_isAtLesserKey_13 : decode cX2_isAtLesserKey 13 = .ok (.if_icmp .ge 25, 3) := by decide +kernel
theorem dX2_isAtLesserKey_16 : decode cX2_isAtLesserKey 16 = .ok (.aload_n 0, 1) := by decide +kernel
theorem dX2_isAtLesserKey_17 : decode cX2_isAtLesserKey 17 = .ok (.getfield 12, 3) := by decide +kernel
theorem dX2_isAtLesserKey_20 : decode cX2_isAtLesserKey 20 = .ok (.iload 4, 2) := by decide +kernel
theorem dX2_isAtLesserKey_22 : decode cX2_isAtLesserKey 22 = .ok (.iload_n 2, 1) := by decide +kernel
theorem dX2_isAtLesserKey_23 : decode cX2_isAtLesserKey 23 = .ok (.invokevirtual 164, 3) := by decide +kernel
theorem dX2_isAtLesserKey_26 : decode cX2_isAtLesserKey 26 = .ok (.iload_n 1, 1) := by decide +kernel
theorem dX2_isAtLesserKey_27 : decode cX2_isAtLesserKey 27 = .ok (.if_icmp .ne 5, 3) := by decide +kernel
theorem dX2_isAtLesserKey_30 : decode cX2_isAtLesserKey 30 = .ok (.iconst 1, 1) := by decide +kernel
theorem dX2_isAtLesserKey_31 : decode cX2_isAtLesserKey 31 = .ok (.ireturn, 1) := by decide +kernel
theorem dX2_isAtLesserKey_32 : decode cX2_isAtLesserKey 32 = .ok (.iinc 4 1, 3) := by decide +kernel
theorem dX2_isAtLesserKey_35 : decode cX2_isAtLesserKey 35 = .ok (.goto (-32), 3) := by decide +kernel
theorem dX2_isAtLesserKey_38 : decode cX2_isAtLesserKey 38 = .ok (.iconst 0, 1) := by decide +kernel
theorem dX2_isAtLesserKey_39 : decode cX2_isAtLesserKey 39 = .ok (.ireturn, 1) := by decide +kernel
theorem dX3_init_0 : decode cX3_init 0 = .ok (.aload_n 0, 1) := by decide +kernel
theorem dX3_init_1 : decode cX3_init 1 = .ok (.invokespecial 3, 3) := by decide +kernel
theorem dX3_init_4 : decode cX3_init 4 = .ok (.aload_n 0, 1) := by decide +kernel
theorem dX3_init_5 : decode cX3_init 5 = .ok (.new 9, 3) := by decide +kernel
theorem dX3_init_8 : decode cX3_init 8 = .ok (.dup, 1) := by decide +kernel
theorem dX3_init_9 : decode cX3_init 9 = .ok (.invokespecial 11, 3) := by decide +kernel
theorem dX3_init_12 : decode cX3_init 12 = .ok (.putfield 12, 3) := by decide +kernel
theorem dX3_init_15 : decode cX3_init 15 = .ok (.aload_n 0, 1) := by decide +kernel
theorem dX3_init_16 : decode cX3_init 16 = .ok (.new 18, 3) := by decide +kernel
theorem dX3_init_19 : decode cX3_init 19 = .ok (.dup, 1) := by decide +kernel
theorem dX3_init_20 : decode cX3_init 20 = .ok (.invokespecial 20, 3) := by decide +kernel
theorem dX3_init_23 : decode cX3_init 23 = .ok (.putfield 21, 3) := by decide +kernel
theorem dX3_init_26 : decode cX3_init 26 = .ok (.aload_n 0, 1) := by decide +kernel
theorem dX3_init_27 : decode cX3_init 27 = .ok (.bipush 7, 2) := by decide +kernel
theorem dX3_init_29 : decode cX3_init 29 = .ok (.newarray .int, 2) := by decide +kernel
theorem dX3_init_31 : decode cX3_init 31 = .ok (.putfield 25, 3) := by decide +kernel
theorem dX3_init_34 : decode cX3_init 34 = .ok (.aload_n 0, 1) := by decide +kernel
theorem dX3_init_35 : decode cX3_init 35 = .ok (.bipush 21, 2) := by decide +kernel
theorem dX3_init_37 : decode cX3_init 37 = .ok (.newarray .int, 2) := by decide +kernel
theorem dX3_init_39 : decode cX3_init 39 = .ok (.putfield 29, 3) := by decide +kernel
theorem dX3_init_42 : decode cX3_init 42 = .ok (.aload_n 0, 1) := by decide +kernel
theorem dX3_init_43 : decode cX3_init 43 = .ok (.bipush 10, 2) := by decide +kernel
theorem dX3_init_45 : decode cX3_init 45 = .ok (.newarray .int, 2) := by decide +kernel
theorem dX3_init_47 : decode cX3_init 47 = .ok (.putfield 32, 3) := by decide +kernel
theorem dX3_init_50 : decode cX3_init 50 = .ok (.return_, 1) := by decide +kernel
theorem dX3_clear_0 : decode cX3_clear 0 = .ok (.aload_n 0, 1) := by decide +kernel
theorem dX3_clear_1 : decode cX3_clear 1 = .ok (.getfield 25, 3) := by decide +kernel
theorem dX3_clear_4 : decode cX3_clear 4 = .ok (.iconst 0, 1) := by decide +kernel
theorem dX3_clear_5 : decode cX3_clear 5 = .ok (.invokestatic 35, 3) := by decide +kernel
theorem dX3_clear_8 : decode cX3_clear 8 = .ok (.return_, 1) := by decide +kernel
theorem dX3_knows_0 : decode cX3_knows 0 = .ok (.iload_n 1, 1) := by decide +kernel
theorem dX3_knows_1 : decode cX3_knows 1 = .ok (.ifCond .lt 22, 3) := by decide +kernel
theorem dX3_knows_4 : decode cX3_knows 4 = .ok (.iload_n 1, 1) := by decide +kernel
theorem dX3_knows_5 : decode cX3_knows 5 = .ok (.bipush 7, 2) := by decide +kernel
theorem dX3_knows_7 : decode cX3_knows 7 = .ok (.if_icmp .ge 16, 3) := by decide +kernel
theorem dX3_knows_10 : decode cX3_knows 10 = .ok (.aload_n 0, 1) := by decide +kernel
theorem dX3_knows_11 : decode cX3_knows 11 = .ok (.getfield 25, 3) := by decide +kernel
theorem dX3_knows_14 : decode cX3_knows 14 = .ok (.iload_n 1, 1) := by decide +kernel
theorem dX3_knows_15 : decode cX3_knows 15 = .ok (.iaload, 1) := by decide +kernel
theorem dX3_knows_16 : decode cX3_knows 16 = .ok (.ifCond .eq 7, 3) := by decide +kernel
theorem dX3_knows_19 : decode cX3_knows 19 = .ok (.iconst 1, 1) := by decide +kernel
theorem dX3_knows_20 : decode cX3_knows 20 = .ok (.goto 4, 3) := by decide +kernel
theorem dX3_knows_23 : decode cX3_knows 23 = .ok (.iconst 0, 1) := by decide +kernel
theorem dX3_knows_24 : decode cX3_knows 24 = .ok (.ireturn, 1) := by decide +kernel
theorem dX3_answerTo_0 : decode cX3_answerTo 0 = .ok (.iload_n 1, 1) := by decide +kernel
theorem dX3_answerTo_1 : decode cX3_answerTo 1 = .ok (.iconst 3, 1) := by decide +kernel
theorem dX3_answerTo_2 : decode cX3_answerTo 2 = .ok (.imul, 1) := by decide +kernel
theorem dX3_answerTo_3 : decode cX3_answerTo 3 = .ok (.iload_n 2, 1) := by decide +kernel
theorem dX3_answerTo_4 : decode cX3_answerTo 4 = .ok (.iadd, 1) := by decide +kernel
theorem dX3_answerTo_5 : decode cX3_answerTo 5 = .ok (.istore_n 3, 1) := by decide +kernel
theorem dX3_answerTo_6 : decode cX3_answerTo 6 = .ok (.iload_n 3, 1) := by decide +kernel
theorem dX3_answerTo_7 : decode cX3_answerTo 7 = .ok (.ifCond .lt 21, 3) := by decide +kernel
theorem dX3_answerTo_10 : decode cX3_answerTo 10 = .ok (.iload_n 3, 1) := by decide +kernel
theorem dX3_answerTo_11 : decode cX3_answerTo 11 = .ok (.aload_n 0, 1) := by decide +kernel
theorem dX3_answerTo_12 : decode cX3_answerTo 12 = .ok (.getfield 29, 3) := by decide +kernel
theorem dX3_answerTo_15 : decode cX3_answerTo 15 = .ok (.arraylength, 1) := by decide +kernel
theorem dX3_answerTo_16 : decode cX3_answerTo 16 = .ok (.if_icmp .ge 12, 3) := by decide +kernel
theorem dX3_answerTo_19 : decode cX3_answerTo 19 = .ok (.aload_n 0, 1) := by decide +kernel
theorem dX3_answerTo_20 : decode cX3_answerTo 20 = .ok (.getfield 29, 3) := by decide +kernel
theorem dX3_answerTo_23 : decode cX3_answerTo 23 = .ok (.iload_n 3, 1) := by decide +kernel
theorem dX3_answerTo_24 : decode cX3_answerTo 24 = .ok (.iaload, 1) := by decide +kernel
theorem dX3_answerTo_25 : decode cX3_answerTo 25 = .ok (.goto 4, 3) := by decide +kernel
theorem dX3_answerTo_28 : decode cX3_answerTo 28 = .ok (.iconst (-1), 1) := by decide +kernel
theorem dX3_answerTo_29 : decode cX3_answerTo 29 = .ok (.ireturn, 1) := by decide +kernel
theorem dX3_keepAnswer_0 : decode cX3_keepAnswer 0 = .ok (.iload_n 1, 1) := by decide +kernel
theorem dX3_keepAnswer_1 : decode cX3_keepAnswer 1 = .ok (.ifCond .lt 48, 3) := by decide +kernel
theorem dX3_keepAnswer_4 : decode cX3_keepAnswer 4 = .ok (.iload_n 1, 1) := by decide +kernel
theorem dX3_keepAnswer_5 : decode cX3_keepAnswer 5 = .ok (.bipush 7, 2) := by decide +kernel
theorem dX3_keepAnswer_7 : decode cX3_keepAnswer 7 = .ok (.if_icmp .ge 42, 3) := by decide +kernel
theorem dX3_keepAnswer_10 : decode cX3_keepAnswer 10 = .ok (.aload_n 0, 1) := by decide +kernel
theorem dX3_keepAnswer_11 : decode cX3_keepAnswer 11 = .ok (.getfield 25, 3) := by decide +kernel
theorem dX3_keepAnswer_14 : decode cX3_keepAnswer 14 = .ok (.iload_n 1, 1) := by decide +kernel
theorem dX3_keepAnswer_15 : decode cX3_keepAnswer 15 = .ok (.iconst 1, 1) := by decide +kernel
theorem dX3_keepAnswer_16 : decode cX3_keepAnswer 16 = .ok (.iastore, 1) := by decide +kernel
theorem dX3_keepAnswer_17 : decode cX3_keepAnswer 17 = .ok (.aload_n 0, 1) := by decide +kernel
theorem dX3_keepAnswer_18 : decode cX3_keepAnswer 18 = .ok (.getfield 29, 3) := by decide +kernel
theorem dX3_keepAnswer_21 : decode cX3_keepAnswer 21 = .ok (.iload_n 1, 1) := by decide +kernel
theorem dX3_keepAnswer_22 : decode cX3_keepAnswer 22 = .ok (.iconst 3, 1) := by decide +kernel
theorem dX3_keepAnswer_23 : decode cX3_keepAnswer 23 = .ok (.imul, 1) := by decide +kernel
theorem dX3_keepAnswer_24 : decode cX3_keepAnswer 24 = .ok (.iload_n 2, 1) := by decide +kernel
theorem dX3_keepAnswer_25 : decode cX3_keepAnswer 25 = .ok (.iastore, 1) := by decide +kernel
theorem dX3_keepAnswer_26 : decode cX3_keepAnswer 26 = .ok (.aload_n 0, 1) := by decide +kernel
theorem dX3_keepAnswer_27 : decode cX3_keepAnswer 27 = .ok (.getfield 29, 3) := by decide +kernel
theorem dX3_keepAnswer_30 : decode cX3_keepAnswer 30 = .ok (.iload_n 1, 1) := by decide +kernel
theorem dX3_keepAnswer_31 : decode cX3_keepAnswer 31 = .ok (.iconst 3, 1) := by decide +kernel
theorem dX3_keepAnswer_32 : decode cX3_keepAnswer 32 = .ok (.imul, 1) := by decide +kernel
theorem dX3_keepAnswer_33 : decode cX3_keepAnswer 33 = .ok (.iconst 1, 1) := by decide +kernel
theorem dX3_keepAnswer_34 : decode cX3_keepAnswer 34 = .ok (.iadd, 1) := by decide +kernel
theorem dX3_keepAnswer_35 : decode cX3_keepAnswer 35 = .ok (.iload_n 3, 1) := by decide +kernel
theorem dX3_keepAnswer_36 : decode cX3_keepAnswer 36 = .ok (.iastore, 1) := by decide +kernel
theorem dX3_keepAnswer_37 : decode cX3_keepAnswer 37 = .ok (.aload_n 0, 1) := by decide +kernel
theorem dX3_keepAnswer_38 : decode cX3_keepAnswer 38 = .ok (.getfield 29, 3) := by decide +kernel
theorem dX3_keepAnswer_41 : decode cX3_keepAnswer 41 = .ok (.iload_n 1, 1) := by decide +kernel
theorem dX3_keepAnswer_42 : decode cX3_keepAnswer 42 = .ok (.iconst 3, 1) := by decide +kernel
theorem dX3_keepAnswer_43 : decode cX3_keepAnswer 43 = .ok (.imul, 1) := by decide +kernel
theorem dX3_keepAnswer_44 : decode cX3_keepAnswer 44 = .ok (.iconst 2, 1) := by decide +kernel
theorem dX3_keepAnswer_45 : decode cX3_keepAnswer 45 = .ok (.iadd, 1) := by decide +kernel
theorem dX3_keepAnswer_46 : decode cX3_keepAnswer 46 = .ok (.iload 4, 2) := by decide +kernel
theorem dX3_keepAnswer_48 : decode cX3_keepAnswer 48 = .ok (.iastore, 1) := by decide +kernel
theorem dX3_keepAnswer_49 : decode cX3_keepAnswer 49 = .ok (.return_, 1) := by decide +kernel
theorem dX3_findAlong_0 : decode cX3_findAlong 0 = .ok (.aload_n 0, 1) := by decide +kernel
theorem dX3_findAlong_1 : decode cX3_findAlong 1 = .ok (.getfield 12, 3) := by decide +kernel
theorem dX3_findAlong_4 : decode cX3_findAlong 4 = .ok (.aload_n 1, 1) := by decide +kernel
theorem dX3_findAlong_5 : decode cX3_findAlong 5 = .ok (.invokevirtual 41, 3) := by decide +kernel
theorem dX3_findAlong_8 : decode cX3_findAlong 8 = .ok (.aload_n 0, 1) := by decide +kernel
theorem dX3_findAlong_9 : decode cX3_findAlong 9 = .ok (.getfield 21, 3) := by decide +kernel
theorem dX3_findAlong_12 : decode cX3_findAlong 12 = .ok (.aload_n 0, 1) := by decide +kernel
theorem dX3_findAlong_13 : decode cX3_findAlong 13 = .ok (.getfield 12, 3) := by decide +kernel
theorem dX3_findAlong_16 : decode cX3_findAlong 16 = .ok (.invokevirtual 45, 3) := by decide +kernel
theorem dX3_findAlong_19 : decode cX3_findAlong 19 = .ok (.iconst 0, 1) := by decide +kernel
theorem dX3_findAlong_20 : decode cX3_findAlong 20 = .ok (.istore_n 3, 1) := by decide +kernel
theorem dX3_findAlong_21 : decode cX3_findAlong 21 = .ok (.iload_n 3, 1) := by decide +kernel
theorem dX3_findAlong_22 : decode cX3_findAlong 22 = .ok (.sipush 200, 3) := by decide +kernel
theorem dX3_findAlong_25 : decode cX3_findAlong 25 = .ok (.if_icmp .ge 62, 3) := by decide +kernel
theorem dX3_findAlong_28 : decode cX3_findAlong 28 = .ok (.aload_n 0, 1) := by decide +kernel
theorem dX3_findAlong_29 : decode cX3_findAlong 29 = .ok (.getfield 21, 3) := by decide +kernel
theorem dX3_findAlong_32 : decode cX3_findAlong 32 = .ok (.getfield 48, 3) := by decide +kernel
theorem dX3_findAlong_35 : decode cX3_findAlong 35 = .ok (.ifCond .le 52, 3) := by decide +kernel
theorem dX3_findAlong_38 : decode cX3_findAlong 38 = .ok (.aload_n 0, 1) := by decide +kernel
theorem dX3_findAlong_39 : decode cX3_findAlong 39 = .ok (.getfield 21, 3) := by decide +kernel
theorem dX3_findAlong_42 : decode cX3_findAlong 42 = .ok (.getfield 52, 3) := by decide +kernel
theorem dX3_findAlong_45 : decode cX3_findAlong 45 = .ok (.iconst 0, 1) := by decide +kernel
theorem dX3_findAlong_46 : decode cX3_findAlong 46 = .ok (.iaload, 1) := by decide +kernel
theorem dX3_findAlong_47 : decode cX3_findAlong 47 = .ok (.istore 4, 2) := by decide +kernel
theorem dX3_findAlong_49 : decode cX3_findAlong 49 = .ok (.aload_n 0, 1) := by decide +kernel
theorem dX3_findAlong_50 : decode cX3_findAlong 50 = .ok (.getfield 12, 3) := by decide +kernel
theorem dX3_findAlong_53 : decode cX3_findAlong 53 = .ok (.getfield 55, 3) := by decide +kernel
theorem dX3_findAlong_56 : decode cX3_findAlong 56 = .ok (.iload 4, 2) := by decide +kernel
theorem dX3_findAlong_58 : decode cX3_findAlong 58 = .ok (.iload_n 2, 1) := by decide +kernel
theorem dX3_findAlong_59 : decode cX3_findAlong 59 = .ok (.iload 4, 2) := by decide +kernel
theorem dX3_findAlong_61 : decode cX3_findAlong 61 = .ok (.invokestatic 58, 3) := by decide +kernel
theorem dX3_findAlong_64 : decode cX3_findAlong 64 = .ok (.iconst 1, 1) := by decide +kernel
theorem dX3_findAlong_65 : decode cX3_findAlong 65 = .ok (.isub, 1) := by decide +kernel
theorem dX3_findAlong_66 : decode cX3_findAlong 66 = .ok (.invokestatic 64, 3) := by decide +kernel
theorem dX3_findAlong_69 : decode cX3_findAlong 69 = .ok (.iastore, 1) := by decide +kernel
theorem dX3_findAlong_70 : decode cX3_findAlong 70 = .ok (.iinc 3 1, 3) := by decide +kernel
theorem dX3_findAlong_73 : decode cX3_findAlong 73 = .ok (.aload_n 0, 1) := by decide +kernel
theorem dX3_findAlong_74 : decode cX3_findAlong 74 = .ok (.getfield 21, 3) := by decide +kernel
theorem dX3_findAlong_77 : decode cX3_findAlong 77 = .ok (.aload_n 0, 1) := by decide +kernel
theorem dX3_findAlong_78 : decode cX3_findAlong 78 = .ok (.getfield 12, 3) := by decide +kernel
theorem dX3_findAlong_81 : decode cX3_findAlong 81 = .ok (.invokevirtual 45, 3) := by decide +kernel
theorem dX3_findAlong_84 : decode cX3_findAlong 84 = .ok (.goto (-63), 3) := by decide +kernel
theorem dX3_findAlong_87 : decode cX3_findAlong 87 = .ok (.aload_n 0, 1) := by decide +kernel
theorem dX3_findAlong_88 : decode cX3_findAlong 88 = .ok (.iconst 2, 1) := by decide +kernel
theorem dX3_findAlong_89 : decode cX3_findAlong 89 = .ok (.iload_n 2, 1) := by decide +kernel
theorem dX3_findAlong_90 : decode cX3_findAlong 90 = .ok (.iadd, 1) := by decide +kernel
theorem dX3_findAlong_91 : decode cX3_findAlong 91 = .ok (.iload_n 3, 1) := by decide +kernel
theorem dX3_findAlong_92 : decode cX3_findAlong 92 = .ok (.aload_n 0, 1) := by decide +kernel
theorem dX3_findAlong_93 : decode cX3_findAlong 93 = .ok (.getfield 21, 3) := by decide +kernel
theorem dX3_findAlong_96 : decode cX3_findAlong 96 = .ok (.getfield 48, 3) := by decide +kernel
theorem dX3_findAlong_99 : decode cX3_findAlong 99 = .ok (.aload_n 0, 1) := by decide +kernel
theorem dX3_findAlong_100 : decode cX3_findAlong 100 = .ok (.getfield 21, 3) := by decide +kernel
theorem dX3_findAlong_103 : decode cX3_findAlong 103 = .ok (.getfield 70, 3) := by decide +kernel
theorem dX3_findAlong_106 : decode cX3_findAlong 106 = .ok (.getfield 74, 3) := by decide +kernel
theorem dX3_findAlong_109 : decode cX3_findAlong 109 = .ok (.invokestatic 79, 3) := by decide +kernel
theorem dX3_findAlong_112 : decode cX3_findAlong 112 = .ok (.invokevirtual 84, 3) := by decide +kernel
theorem dX3_findAlong_115 : decode cX3_findAlong 115 = .ok (.return_, 1) := by decide +kernel
theorem dX3_pickChanged_0 : decode cX3_pickChanged 0 = .ok (.aload_n 0, 1) := by decide +kernel
theorem dX3_pickChanged_1 : decode cX3_pickChanged 1 = .ok (.iconst 0, 1) := by decide +kernel
theorem dX3_pickChanged_2 : decode cX3_pickChanged 2 = .ok (.putfield 88, 3) := by decide +kernel
theorem dX3_pickChanged_5 : decode cX3_pickChanged 5 = .ok (.iconst 0, 1) := by decide +kernel
theorem dX3_pickChanged_6 : decode cX3_pickChanged 6 = .ok (.istore 4, 2) := by decide +kernel
theorem dX3_pickChanged_8 : decode cX3_pickChanged 8 = .ok (.iload 4, 2) := by decide +kernel
theorem dX3_pickChanged_10 : decode cX3_pickChanged 10 = .ok (.bipush 20, 2) := by decide +kernel
theorem dX3_pickChanged_12 : decode cX3_pickChanged 12 = .ok (.if_icmp .ge 95, 3) := by decide +kernel
theorem dX3_pickChanged_15 : decode cX3_pickChanged 15 = .ok (.iconst 0, 1) := by decide +kernel
theorem dX3_pickChanged_16 : decode cX3_pickChanged 16 = .ok (.istore 5, 2) := by decide +kernel
theorem dX3_pickChanged_18 : decode cX3_pickChanged 18 = .ok (.iload 5, 2) := by decide +kernel
theorem dX3_pickChanged_20 : decode cX3_pickChanged 20 = .ok (.bipush 9, 2) := by decide +kernel
theorem dX3_pickChanged_22 : decode cX3_pickChanged 22 = .ok (.if_icmp .ge 79, 3) := by decide +kernel
theorem dX3_pickChanged_25 : decode cX3_pickChanged 25 = .ok (.aload_n 0, 1) := by decide +kernel
theorem dX3_pickChanged_26 : decode cX3_pickChanged 26 = .ok (.getfield 88, 3) := by decide +kernel
theorem dX3_pickChanged_29 : decode cX3_pickChanged 29 = .ok (.bipush 10, 2) := by decide +kernel
theorem dX3_pickChanged_31 : decode cX3_pickChanged 31 = .ok (.if_icmp .ge 64, 3) := by decide +kernel
theorem dX3_pickChanged_34 : decode cX3_pickChanged 34 = .ok (.aload_n 1, 1) := by decide +kernel
theorem dX3_pickChanged_35 : decode cX3_pickChanged 35 = .ok (.iload_n 3, 1) := by decide +kernel
theorem dX3_pickChanged_36 : decode cX3_pickChanged 36 = .ok (.iload 4, 2) := by decide +kernel
theorem dX3_pickChanged_38 : decode cX3_pickChanged 38 = .ok (.iload 5, 2) := by decide +kernel
theorem dX3_pickChanged_40 : decode cX3_pickChanged 40 = .ok (.invokevirtual 91, 3) := by decide +kernel
theorem dX3_pickChanged_43 : decode cX3_pickChanged 43 = .ok (.ifCond .eq 52, 3) := by decide +kernel
theorem dX3_pickChanged_46 : decode cX3_pickChanged 46 = .ok (.aload_n 2, 1) := by decide +kernel
theorem dX3_pickChanged_47 : decode cX3_pickChanged 47 = .ok (.getfield 70, 3) := by decide +kernel
theorem dX3_pickChanged_50 : decode cX3_pickChanged 50 = .ok (.iload 4, 2) := by decide +kernel
theorem dX3_pickChanged_52 : decode cX3_pickChanged 52 = .ok (.invokevirtual 95, 3) := by decide +kernel
theorem dX3_pickChanged_55 : decode cX3_pickChanged 55 = .ok (.ifCond .eq 40, 3) := by decide +kernel
theorem dX3_pickChanged_58 : decode cX3_pickChanged 58 = .ok (.aload_n 2, 1) := by decide +kernel
theorem dX3_pickChanged_59 : decode cX3_pickChanged 59 = .ok (.iload_n 3, 1) := by decide +kernel
theorem dX3_pickChanged_60 : decode cX3_pickChanged 60 = .ok (.iload 5, 2) := by decide +kernel
theorem dX3_pickChanged_62 : decode cX3_pickChanged 62 = .ok (.invokevirtual 99, 3) := by decide +kernel
theorem dX3_pickChanged_65 : decode cX3_pickChanged 65 = .ok (.ifCond .eq 30, 3) := by decide +kernel
theorem dX3_pickChanged_68 : decode cX3_pickChanged 68 = .ok (.aload_n 0, 1) := by decide +kernel
theorem dX3_pickChanged_69 : decode cX3_pickChanged 69 = .ok (.getfield 32, 3) := by decide +kernel
theorem dX3_pickChanged_72 : decode cX3_pickChanged 72 = .ok (.aload_n 0, 1) := by decide +kernel
theorem dX3_pickChanged_73 : decode cX3_pickChanged 73 = .ok (.getfield 88, 3) := by decide +kernel
theorem dX3_pickChanged_76 : decode cX3_pickChanged 76 = .ok (.iload 4, 2) := by decide +kernel
theorem dX3_pickChanged_78 : decode cX3_pickChanged 78 = .ok (.bipush 9, 2) := by decide +kernel
theorem dX3_pickChanged_80 : decode cX3_pickChanged 80 = .ok (.imul, 1) := by decide +kernel
theorem dX3_pickChanged_81 : decode cX3_pickChanged 81 = .ok (.iload 5, 2) := by decide +kernel
theorem dX3_pickChanged_83 : decode cX3_pickChanged 83 = .ok (.iadd, 1) := by decide +kernel
theorem dX3_pickChanged_84 : decode cX3_pickChanged 84 = .ok (.iastore, 1) := by decide +kernel
theorem dX3_pickChanged_85 : decode cX3_pickChanged 85 = .ok (.aload_n 0, 1) := by decide +kernel
theorem dX3_pickChanged_86 : decode cX3_pickChanged 86 = .ok (.dup, 1) := by decide +kernel
theorem dX3_pickChanged_87 : decode cX3_pickChanged 87 = .ok (.getfield 88, 3) := by decide +kernel
theorem dX3_pickChanged_90 : decode cX3_pickChanged 90 = .ok (.iconst 1, 1) := by decide +kernel
theorem dX3_pickChanged_91 : decode cX3_pickChanged 91 = .ok (.iadd, 1) := by decide +kernel
theorem dX3_pickChanged_92 : decode cX3_pickChanged 92 = .ok (.putfield 88, 3) := by decide +kernel
theorem dX3_pickChanged_95 : decode cX3_pickChanged 95 = .ok (.iinc 5 1, 3) := by decide +kernel
theorem dX3_pickChanged_98 : decode cX3_pickChanged 98 = .ok (.goto (-80), 3) := by decide +kernel
theorem dX3_pickChanged_101 : decode cX3_pickChanged 101 = .ok (.iinc 4 1, 3) := by decide +kernel
theorem dX3_pickChanged_104 : decode cX3_pickChanged 104 = .ok (.goto (-96), 3) := by decide +kernel
theorem dX3_pickChanged_107 : decode cX3_pickChanged 107 = .ok (.return_, 1) := by decide +kernel
theorem dX3_findAlone_0 : decode cX3_findAlone 0 = .ok (.aload_n 0, 1) := by decide +kernel
theorem dX3_findAlone_1 : decode cX3_findAlone 1 = .ok (.getfield 12, 3) := by decide +kernel
theorem dX3_findAlone_4 : decode cX3_findAlone 4 = .ok (.aload_n 1, 1) := by decide +kernel
theorem dX3_findAlone_5 : decode cX3_findAlone 5 = .ok (.invokevirtual 41, 3) := by decide +kernel
theorem dX3_findAlone_8 : decode cX3_findAlone 8 = .ok (.sipush 317, 3) := by decide +kernel
theorem dX3_findAlone_11 : decode cX3_findAlone 11 = .ok (.istore_n 3, 1) := by decide +kernel
theorem dX3_findAlone_12 : decode cX3_findAlone 12 = .ok (.iconst 0, 1) := by decide +kernel
theorem dX3_findAlone_13 : decode cX3_findAlone 13 = .ok (.istore 4, 2) := by decide +kernel
theorem dX3_findAlone_15 : decode cX3_findAlone 15 = .ok (.iconst 0, 1) := by decide +kernel
theorem dX3_findAlone_16 : decode cX3_findAlone 16 = .ok (.istore 5, 2) := by decide +kernel
theorem dX3_findAlone_18 : decode cX3_findAlone 18 = .ok (.iconst 0, 1) := by decide +kernel
theorem dX3_findAlone_19 : decode cX3_findAlone 19 = .ok (.istore 6, 2) := by decide +kernel
theorem dX3_findAlone_21 : decode cX3_findAlone 21 = .ok (.iload 6, 2) := by decide +kernel
theorem dX3_findAlone_23 : decode cX3_findAlone 23 = .ok (.iconst 1, 1) := by decide +kernel
theorem dX3_findAlone_24 : decode cX3_findAlone 24 = .ok (.aload_n 0, 1) := by decide +kernel
theorem dX3_findAlone_25 : decode cX3_findAlone 25 = .ok (.getfield 88, 3) := by decide +kernel
theorem dX3_findAlone_28 : decode cX3_findAlone 28 = .ok (.ishl, 1) := by decide +kernel
theorem dX3_findAlone_29 : decode cX3_findAlone 29 = .ok (.if_icmp .ge 80, 3) := by decide +kernel
theorem dX3_findAlone_32 : decode cX3_findAlone 32 = .ok (.aload_n 0, 1) := by decide +kernel
theorem dX3_findAlone_33 : decode cX3_findAlone 33 = .ok (.aload_n 1, 1) := by decide +kernel
theorem dX3_findAlone_34 : decode cX3_findAlone 34 = .ok (.iload_n 2, 1) := by decide +kernel
theorem dX3_findAlone_35 : decode cX3_findAlone 35 = .ok (.iload 6, 2) := by decide +kernel
theorem dX3_findAlone_37 : decode cX3_findAlone 37 = .ok (.invokevirtual 103, 3) := by decide +kernel
theorem dX3_findAlone_40 : decode cX3_findAlone 40 = .ok (.aload_n 0, 1) := by decide +kernel
theorem dX3_findAlone_41 : decode cX3_findAlone 41 = .ok (.getfield 21, 3) := by decide +kernel
theorem dX3_findAlone_44 : decode cX3_findAlone 44 = .ok (.aload_n 0, 1) := by decide +kernel
theorem dX3_findAlone_45 : decode cX3_findAlone 45 = .ok (.getfield 12, 3) := by decide +kernel
theorem dX3_findAlone_48 : decode cX3_findAlone 48 = .ok (.invokevirtual 45, 3) := by decide +kernel
theorem dX3_findAlone_51 : decode cX3_findAlone 51 = .ok (.iload 6, 2) := by decide +kernel
theorem dX3_findAlone_53 : decode cX3_findAlone 53 = .ok (.invokestatic 79, 3) := by decide +kernel
theorem dX3_findAlone_56 : decode cX3_findAlone 56 = .ok (.istore 7, 2) := by decide +kernel
theorem dX3_findAlone_58 : decode cX3_findAlone 58 = .ok (.aload_n 0, 1) := by decide +kernel
theorem dX3_findAlone_59 : decode cX3_findAlone 59 = .ok (.getfield 21, 3) := by decide +kernel
theorem dX3_findAlone_62 : decode cX3_findAlone 62 = .ok (.getfield 48, 3) := by decide +kernel
theorem dX3_findAlone_65 : decode cX3_findAlone 65 = .ok (.iload_n 3, 1) := by decide +kernel
theorem dX3_findAlone_66 : decode cX3_findAlone 66 = .ok (.if_icmp .lt 21, 3) := by decide +kernel
theorem dX3_findAlone_69 : decode cX3_findAlone 69 = .ok (.aload_n 0, 1) := by decide +kernel
theorem dX3_findAlone_70 : decode cX3_findAlone 70 = .ok (.getfield 21, 3) := by decide +kernel
theorem dX3_findAlone_73 : decode cX3_findAlone 73 = .ok (.getfield 48, 3) := by decide +kernel
theorem dX3_findAlone_76 : decode cX3_findAlone 76 = .ok (.iload_n 3, 1) := by decide +kernel
theorem dX3_findAlone_77 : decode cX3_findAlone 77 = .ok (.if_icmp .ne 26, 3) := by decide +kernel
theorem dX3_findAlone_80 : decode cX3_findAlone 80 = .ok (.iload 7, 2) := by decide +kernel
theorem dX3_findAlone_82 : decode cX3_findAlone 82 = .ok (.iload 4, 2) := by decide +kernel
theorem dX3_findAlone_84 : decode cX3_findAlone 84 = .ok (.if_icmp .le 19, 3) := by decide +kernel
theorem dX3_findAlone_87 : decode cX3_findAlone 87 = .ok (.aload_n 0, 1) := by decide +kernel
theorem dX3_findAlone_88 : decode cX3_findAlone 88 = .ok (.getfield 21, 3) := by decide +kernel
theorem dX3_findAlone_91 : decode cX3_findAlone 91 = .ok (.getfield 48, 3) := by decide +kernel
theorem dX3_findAlone_94 : decode cX3_findAlone 94 = .ok (.istore_n 3, 1) := by decide +kernel
theorem dX3_findAlone_95 : decode cX3_findAlone 95 = .ok (.iload 7, 2) := by decide +kernel
theorem dX3_findAlone_97 : decode cX3_findAlone 97 = .ok (.istore 4, 2) := by decide +kernel
theorem dX3_findAlone_99 : decode cX3_findAlone 99 = .ok (.iload 6, 2) := by decide +kernel
theorem dX3_findAlone_101 : decode cX3_findAlone 101 = .ok (.istore 5, 2) := by decide +kernel
theorem dX3_findAlone_103 : decode cX3_findAlone 103 = .ok (.iinc 6 1, 3) := by decide +kernel
theorem dX3_findAlone_106 : decode cX3_findAlone 106 = .ok (.goto (-85), 3) := by decide +kernel
theorem dX3_findAlone_109 : decode cX3_findAlone 109 = .ok (.aload_n 0, 1) := by decide +kernel
theorem dX3_findAlone_110 : decode cX3_findAlone 110 = .ok (.iconst 0, 1) := by decide +kernel
theorem dX3_findAlone_111 : decode cX3_findAlone 111 = .ok (.iload_n 2, 1) := by decide +kernel
theorem dX3_findAlone_112 : decode cX3_findAlone 112 = .ok (.iadd, 1) := by decide +kernel
theorem dX3_findAlone_113 : decode cX3_findAlone 113 = .ok (.iload_n 3, 1) := by decide +kernel
theorem dX3_findAlone_114 : decode cX3_findAlone 114 = .ok (.iload 4, 2) := by decide +kernel
theorem dX3_findAlone_116 : decode cX3_findAlone 116 = .ok (.iload 5, 2) := by decide +kernel
theorem dX3_findAlone_118 : decode cX3_findAlone 118 = .ok (.invokevirtual 84, 3) := by decide +kernel
theorem dX3_findAlone_121 : decode cX3_findAlone 121 = .ok (.return_, 1) := by decide +kernel
theorem dX3_leavePicked_0 : decode cX3_leavePicked 0 = .ok (.aload_n 1, 1) := by decide +kernel
theorem dX3_leavePicked_1 : decode cX3_leavePicked 1 = .ok (.iload_n 2, 1) := by decide +kernel
theorem dX3_leavePicked_2 : decode cX3_leavePicked 2 = .ok (.invokevirtual 107, 3) := by decide +kernel
theorem dX3_leavePicked_5 : decode cX3_leavePicked 5 = .ok (.astore 4, 2) := by decide +kernel
theorem dX3_leavePicked_7 : decode cX3_leavePicked 7 = .ok (.aload_n 0, 1) := by decide +kernel
theorem dX3_leavePicked_8 : decode cX3_leavePicked 8 = .ok (.getfield 12, 3) := by decide +kernel
theorem dX3_leavePicked_11 : decode cX3_leavePicked 11 = .ok (.iload_n 2, 1) := by decide +kernel
theorem dX3_leavePicked_12 : decode cX3_leavePicked 12 = .ok (.invokevirtual 107, 3) := by decide +kernel
theorem dX3_leavePicked_15 : decode cX3_leavePicked 15 = .ok (.astore 5, 2) := by decide +kernel
theorem dX3_leavePicked_17 : decode cX3_leavePicked 17 = .ok (.iconst 0, 1) := by decide +kernel
theorem dX3_leavePicked_18 : decode cX3_leavePicked 18 = .ok (.istore 6, 2) := by decide +kernel
theorem dX3_leavePicked_20 : decode cX3_leavePicked 20 = .ok (.iload 6, 2) := by decide +kernel
theorem dX3_leavePicked_22 : decode cX3_leavePicked 22 = .ok (.aload_n 0, 1) := by decide +kernel
theorem dX3_leavePicked_23 : decode cX3_leavePicked 23 = .ok (.getfield 88, 3) := by decide +kernel
theorem dX3_leavePicked_26 : decode cX3_leavePicked 26 = .ok (.if_icmp .ge 91, 3) := by decide +kernel
theorem dX3_leavePicked_29 : decode cX3_leavePicked 29 = .ok (.iload 6, 2) := by decide +kernel
theorem dX3_leavePicked_31 : decode cX3_leavePicked 31 = .ok (.bipush 10, 2) := by decide +kernel
theorem dX3_leavePicked_33 : decode cX3_leavePicked 33 = .ok (.if_icmp .ge 84, 3) := by decide +kernel
theorem dX3_leavePicked_36 : decode cX3_leavePicked 36 = .ok (.aload_n 0, 1) := by decide +kernel
theorem dX3_leavePicked_37 : decode cX3_leavePicked 37 = .ok (.getfield 32, 3) := by decide +kernel
theorem dX3_leavePicked_40 : decode cX3_leavePicked 40 = .ok (.iload 6, 2) := by decide +kernel
theorem dX3_leavePicked_42 : decode cX3_leavePicked 42 = .ok (.iaload, 1) := by decide +kernel
theorem dX3_leavePicked_43 : decode cX3_leavePicked 43 = .ok (.bipush 9, 2) := by decide +kernel
theorem dX3_leavePicked_45 : decode cX3_leavePicked 45 = .ok (.idiv, 1) := by decide +kernel
theorem dX3_leavePicked_46 : decode cX3_leavePicked 46 = .ok (.istore 7, 2) := by decide +kernel
theorem dX3_leavePicked_48 : decode cX3_leavePicked 48 = .ok (.aload_n 0, 1) := by decide +kernel
theorem dX3_leavePicked_49 : decode cX3_leavePicked 49 = .ok (.getfield 32, 3) := by decide +kernel
theorem dX3_leavePicked_52 : decode cX3_leavePicked 52 = .ok (.iload 6, 2) := by decide +kernel
theorem dX3_leavePicked_54 : decode cX3_leavePicked 54 = .ok (.iaload, 1) := by decide +kernel
theorem dX3_leavePicked_55 : decode cX3_leavePicked 55 = .ok (.bipush 9, 2) := by decide +kernel
theorem dX3_leavePicked_57 : decode cX3_leavePicked 57 = .ok (.irem, 1) := by decide +kernel
theorem dX3_leavePicked_58 : decode cX3_leavePicked 58 = .ok (.istore 8, 2) := by decide +kernel
theorem dX3_leavePicked_60 : decode cX3_leavePicked 60 = .ok (.iload_n 3, 1) := by decide +kernel
theorem dX3_leavePicked_61 : decode cX3_leavePicked 61 = .ok (.iload 6, 2) := by decide +kernel
theorem dX3_leavePicked_63 : decode cX3_leavePicked 63 = .ok (.ishr, 1) := by decide +kernel
theorem dX3_leavePicked_64 : decode cX3_leavePicked 64 = .ok (.iconst 1, 1) := by decide +kernel
theorem dX3_leavePicked_65 : decode cX3_leavePicked 65 = .ok (.iand, 1) := by decide +kernel
theorem dX3_leavePicked_66 : decode cX3_leavePicked 66 = .ok (.ifCond .eq 7, 3) := by decide +kernel
theorem dX3_leavePicked_69 : decode cX3_leavePicked 69 = .ok (.iconst 1, 1) := by decide +kernel
theorem dX3_leavePicked_70 : decode cX3_leavePicked 70 = .ok (.goto 4, 3) := by decide +kernel
theorem dX3_leavePicked_73 : decode cX3_leavePicked 73 = .ok (.iconst 0, 1) := by decide +kernel
theorem dX3_leavePicked_74 : decode cX3_leavePicked 74 = .ok (.istore 9, 2) := by decide +kernel
theorem dX3_leavePicked_76 : decode cX3_leavePicked 76 = .ok (.aload 5, 2) := by decide +kernel
theorem dX3_leavePicked_78 : decode cX3_leavePicked 78 = .ok (.iload 7, 2) := by decide +kernel
theorem dX3_leavePicked_80 : decode cX3_leavePicked 80 = .ok (.iload 8, 2) := by decide +kernel
theorem dX3_leavePicked_82 : decode cX3_leavePicked 82 = .ok (.iload 9, 2) := by decide +kernel
theorem dX3_leavePicked_84 : decode cX3_leavePicked 84 = .ok (.ifCond .eq 15, 3) := by decide +kernel
theorem dX3_leavePicked_87 : decode cX3_leavePicked 87 = .ok (.aload 4, 2) := by decide +kernel
theorem dX3_leavePicked_89 : decode cX3_leavePicked 89 = .ok (.iload 7, 2) := by decide +kernel
theorem dX3_leavePicked_91 : decode cX3_leavePicked 91 = .ok (.iload 8, 2) := by decide +kernel
theorem dX3_leavePicked_93 : decode cX3_leavePicked 93 = .ok (.invokevirtual 111, 3) := by decide +kernel
theorem dX3_leavePicked_96 : decode cX3_leavePicked 96 = .ok (.goto 12, 3) := by decide +kernel
theorem dX3_leavePicked_99 : decode cX3_leavePicked 99 = .ok (.aload_n 1, 1) := by decide +kernel
theorem dX3_leavePicked_100 : decode cX3_leavePicked 100 = .ok (.iload_n 2, 1) := by decide +kernel
theorem dX3_leavePicked_101 : decode cX3_leavePicked 101 = .ok (.iload 7, 2) := by decide +kernel
theorem dX3_leavePicked_103 : decode cX3_leavePicked 103 = .ok (.iload 8, 2) := by decide +kernel
theorem dX3_leavePicked_105 : decode cX3_leavePicked 105 = .ok (.invokevirtual 114, 3) := by decide +kernel
theorem dX3_leavePicked_108 : decode cX3_leavePicked 108 = .ok (.invokevirtual 118, 3) := by decide +kernel
theorem dX3_leavePicked_111 : decode cX3_leavePicked 111 = .ok (.iinc 6 1, 3) := by decide +kernel
theorem dX3_leavePicked_114 : decode cX3_leavePicked 114 = .ok (.goto (-94), 3) := by decide +kernel
theorem dX3_leavePicked_117 : decode cX3_leavePicked 117 = .ok (.return_, 1) := by decide +kernel
theorem dX3_findEdited_0 : decode cX3_findEdited 0 = .ok (.aload_n 0, 1) := by decide +kernel
theorem dX3_findEdited_1 : decode cX3_findEdited 1 = .ok (.getfield 12, 3) := by decide +kernel
theorem dX3_findEdited_4 : decode cX3_findEdited 4 = .ok (.aload_n 1, 1) := by decide +kernel
theorem dX3_findEdited_5 : decode cX3_findEdited 5 = .ok (.invokevirtual 41, 3) := by decide +kernel
theorem dX3_findEdited_8 : decode cX3_findEdited 8 = .ok (.aload_n 0, 1) := by decide +kernel
theorem dX3_findEdited_9 : decode cX3_findEdited 9 = .ok (.getfield 21, 3) := by decide +kernel
theorem dX3_findEdited_12 : decode cX3_findEdited 12 = .ok (.aload_n 0, 1) := by decide +kernel
theorem dX3_findEdited_13 : decode cX3_findEdited 13 = .ok (.getfield 12, 3) := by decide +kernel
theorem dX3_findEdited_16 : decode cX3_findEdited 16 = .ok (.invokevirtual 45, 3) := by decide +kernel
theorem dX3_findEdited_19 : decode cX3_findEdited 19 = .ok (.aload_n 2, 1) := by decide +kernel
theorem dX3_findEdited_20 : decode cX3_findEdited 20 = .ok (.aload_n 0, 1) := by decide +kernel
theorem dX3_findEdited_21 : decode cX3_findEdited 21 = .ok (.getfield 21, 3) := by decide +kernel
theorem dX3_findEdited_24 : decode cX3_findEdited 24 = .ok (.getfield 70, 3) := by decide +kernel
theorem dX3_findEdited_27 : decode cX3_findEdited 27 = .ok (.invokevirtual 122, 3) := by decide +kernel
theorem dX3_findEdited_30 : decode cX3_findEdited 30 = .ok (.ifCond .eq 7, 3) := by decide +kernel
theorem dX3_findEdited_33 : decode cX3_findEdited 33 = .ok (.iconst 1, 1) := by decide +kernel
theorem dX3_findEdited_34 : decode cX3_findEdited 34 = .ok (.goto 4, 3) := by decide +kernel
theorem dX3_findEdited_37 : decode cX3_findEdited 37 = .ok (.iconst 0, 1) := by decide +kernel
theorem dX3_findEdited_38 : decode cX3_findEdited 38 = .ok (.istore_n 3, 1) := by decide +kernel
theorem dX3_findEdited_39 : decode cX3_findEdited 39 = .ok (.iconst 0, 1) := by decide +kernel
theorem dX3_findEdited_40 : decode cX3_findEdited 40 = .ok (.istore 4, 2) := by decide +kernel
theorem dX3_findEdited_42 : decode cX3_findEdited 42 = .ok (.iconst (-1), 1) := by decide +kernel
theorem dX3_findEdited_43 : decode cX3_findEdited 43 = .ok (.istore 5, 2) := by decide +kernel
theorem dX3_findEdited_45 : decode cX3_findEdited 45 = .ok (.iconst 0, 1) := by decide +kernel
theorem dX3_findEdited_46 : decode cX3_findEdited 46 = .ok (.istore 6, 2) := by decide +kernel
theorem dX3_findEdited_48 : decode cX3_findEdited 48 = .ok (.iload 6, 2) := by decide +kernel
theorem dX3_findEdited_50 : decode cX3_findEdited 50 = .ok (.bipush 20, 2) := by decide +kernel
theorem dX3_findEdited_52 : decode cX3_findEdited 52 = .ok (.if_icmp .ge 118, 3) := by decide +kernel
theorem dX3_findEdited_55 : decode cX3_findEdited 55 = .ok (.iconst 0, 1) := by decide +kernel
theorem dX3_findEdited_56 : decode cX3_findEdited 56 = .ok (.istore 7, 2) := by decide +kernel
theorem dX3_findEdited_58 : decode cX3_findEdited 58 = .ok (.iload 7, 2) := by decide +kernel
theorem dX3_findEdited_60 : decode cX3_findEdited 60 = .ok (.iconst 5, 1) := by decide +kernel
theorem dX3_findEdited_61 : decode cX3_findEdited 61 = .ok (.if_icmp .ge 103, 3) := by decide +kernel
theorem dX3_findEdited_64 : decode cX3_findEdited 64 = .ok (.aload_n 1, 1) := by decide +kernel
theorem dX3_findEdited_65 : decode cX3_findEdited 65 = .ok (.getfield 128, 3) := by decide +kernel
theorem dX3_findEdited_68 : decode cX3_findEdited 68 = .ok (.iload 6, 2) := by decide +kernel
theorem dX3_findEdited_70 : decode cX3_findEdited 70 = .ok (.iload 7, 2) := by decide +kernel
theorem dX3_findEdited_72 : decode cX3_findEdited 72 = .ok (.invokevirtual 131, 3) := by decide +kernel
theorem dX3_findEdited_75 : decode cX3_findEdited 75 = .ok (.ifCond .eq 83, 3) := by decide +kernel
theorem dX3_findEdited_78 : decode cX3_findEdited 78 = .ok (.aload_n 1, 1) := by decide +kernel
theorem dX3_findEdited_79 : decode cX3_findEdited 79 = .ok (.getfield 134, 3) := by decide +kernel
theorem dX3_findEdited_82 : decode cX3_findEdited 82 = .ok (.iload 6, 2) := by decide +kernel
theorem dX3_findEdited_84 : decode cX3_findEdited 84 = .ok (.iload 7, 2) := by decide +kernel
theorem dX3_findEdited_86 : decode cX3_findEdited 86 = .ok (.invokevirtual 131, 3) := by decide +kernel
theorem dX3_findEdited_89 : decode cX3_findEdited 89 = .ok (.ifCond .eq 69, 3) := by decide +kernel
theorem dX3_findEdited_92 : decode cX3_findEdited 92 = .ok (.bipush (-9), 2) := by decide +kernel
theorem dX3_findEdited_94 : decode cX3_findEdited 94 = .ok (.istore 8, 2) := by decide +kernel
theorem dX3_findEdited_96 : decode cX3_findEdited 96 = .ok (.iload 8, 2) := by decide +kernel
theorem dX3_findEdited_98 : decode cX3_findEdited 98 = .ok (.bipush 9, 2) := by decide +kernel
theorem dX3_findEdited_100 : decode cX3_findEdited 100 = .ok (.if_icmp .gt 58, 3) := by decide +kernel
theorem dX3_findEdited_103 : decode cX3_findEdited 103 = .ok (.aload_n 0, 1) := by decide +kernel
theorem dX3_findEdited_104 : decode cX3_findEdited 104 = .ok (.aload_n 1, 1) := by decide +kernel
theorem dX3_findEdited_105 : decode cX3_findEdited 105 = .ok (.aload_n 2, 1) := by decide +kernel
theorem dX3_findEdited_106 : decode cX3_findEdited 106 = .ok (.iload 6, 2) := by decide +kernel
theorem dX3_findEdited_108 : decode cX3_findEdited 108 = .ok (.iload 7, 2) := by decide +kernel
theorem dX3_findEdited_110 : decode cX3_findEdited 110 = .ok (.iload 8, 2) := by decide +kernel
theorem dX3_findEdited_112 : decode cX3_findEdited 112 = .ok (.invokevirtual 137, 3) := by decide +kernel
theorem dX3_findEdited_115 : decode cX3_findEdited 115 = .ok (.ifCond .eq 37, 3) := by decide +kernel
theorem dX3_findEdited_118 : decode cX3_findEdited 118 = .ok (.iinc 4 1, 3) := by decide +kernel
theorem dX3_findEdited_121 : decode cX3_findEdited 121 = .ok (.iload 5, 2) := by decide +kernel
theorem dX3_findEdited_123 : decode cX3_findEdited 123 = .ok (.iconst (-1), 1) := by decide +kernel
theorem dX3_findEdited_124 : decode cX3_findEdited 124 = .ok (.if_icmp .ne 24, 3) := by decide +kernel
theorem dX3_findEdited_127 : decode cX3_findEdited 127 = .ok (.sipush 1000, 3) := by decide +kernel
theorem dX3_findEdited_130 : decode cX3_findEdited 130 = .ok (.iload 6, 2) := by decide +kernel
theorem dX3_findEdited_132 : decode cX3_findEdited 132 = .ok (.imul, 1) := by decide +kernel
theorem dX3_findEdited_133 : decode cX3_findEdited 133 = .ok (.bipush 100, 2) := by decide +kernel
theorem dX3_findEdited_135 : decode cX3_findEdited 135 = .ok (.iload 7, 2) := by decide +kernel
theorem dX3_findEdited_137 : decode cX3_findEdited 137 = .ok (.imul, 1) := by decide +kernel
theorem dX3_findEdited_138 : decode cX3_findEdited 138 = .ok (.iadd, 1) := by decide +kernel
theorem dX3_findEdited_139 : decode cX3_findEdited 139 = .ok (.iload 8, 2) := by decide +kernel
theorem dX3_findEdited_141 : decode cX3_findEdited 141 = .ok (.iadd, 1) := by decide +kernel
theorem dX3_findEdited_142 : decode cX3_findEdited 142 = .ok (.bipush 50, 2) := by decide +kernel
theorem dX3_findEdited_144 : decode cX3_findEdited 144 = .ok (.iadd, 1) := by decide +kernel
theorem dX3_findEdited_145 : decode cX3_findEdited 145 = .ok (.goto 5, 3) := by decide +kernel
theorem dX3_findEdited_148 : decode cX3_findEdited 148 = .ok (.iload 5, 2) := by decide +kernel
theorem dX3_findEdited_150 : decode cX3_findEdited 150 = .ok (.istore 5, 2) := by decide +kernel
theorem dX3_findEdited_152 : decode cX3_findEdited 152 = .ok (.iinc 8 1, 3) := by decide +kernel
theorem dX3_findEdited_155 : decode cX3_findEdited 155 = .ok (.goto (-59), 3) := by decide +kernel
theorem dX3_findEdited_158 : decode cX3_findEdited 158 = .ok (.iinc 7 1, 3) := by decide +kernel
theorem dX3_findEdited_161 : decode cX3_findEdited 161 = .ok (.goto (-103), 3) := by decide +kernel
theorem dX3_findEdited_164 : decode cX3_findEdited 164 = .ok (.iinc 6 1, 3) := by decide +kernel
theorem dX3_findEdited_167 : decode cX3_findEdited 167 = .ok (.goto (-119), 3) := by decide +kernel
theorem dX3_findEdited_170 : decode cX3_findEdited 170 = .ok (.aload_n 0, 1) := by decide +kernel
theorem dX3_findEdited_171 : decode cX3_findEdited 171 = .ok (.iconst 5, 1) := by decide +kernel
theorem dX3_findEdited_172 : decode cX3_findEdited 172 = .ok (.iload 4, 2) := by decide +kernel
theorem dX3_findEdited_174 : decode cX3_findEdited 174 = .ok (.iload 5, 2) := by decide +kernel
theorem dX3_findEdited_176 : decode cX3_findEdited 176 = .ok (.iload_n 3, 1) := by decide +kernel
theorem dX3_findEdited_177 : decode cX3_findEdited 177 = .ok (.invokevirtual 84, 3) := by decide +kernel
theorem dX3_findEdited_180 : decode cX3_findEdited 180 = .ok (.return_, 1) := by decide +kernel
theorem dX3_wouldBeSo_0 : decode cX3_wouldBeSo 0 = .ok (.aload_n 1, 1) := by decide +kernel
theorem dX3_wouldBeSo_1 : decode cX3_wouldBeSo 1 = .ok (.getfield 134, 3) := by decide +kernel
theorem dX3_wouldBeSo_4 : decode cX3_wouldBeSo 4 = .ok (.iload_n 3, 1) := by decide +kernel
theorem dX3_wouldBeSo_5 : decode cX3_wouldBeSo 5 = .ok (.iload 4, 2) := by decide +kernel
theorem dX3_wouldBeSo_7 : decode cX3_wouldBeSo 7 = .ok (.invokevirtual 111, 3) := by decide +kernel
theorem dX3_wouldBeSo_10 : decode cX3_wouldBeSo 10 = .ok (.istore 6, 2) := by decide +kernel
theorem dX3_wouldBeSo_12 : decode cX3_wouldBeSo 12 = .ok (.iload 5, 2) := by decide +kernel
theorem dX3_wouldBeSo_14 : decode cX3_wouldBeSo 14 = .ok (.iload 6, 2) := by decide +kernel
theorem dX3_wouldBeSo_16 : decode cX3_wouldBeSo 16 = .ok (.if_icmp .eq 21, 3) := by decide +kernel
theorem dX3_wouldBeSo_19 : decode cX3_wouldBeSo 19 = .ok (.aload_n 1, 1) := by decide +kernel
theorem dX3_wouldBeSo_20 : decode cX3_wouldBeSo 20 = .ok (.getfield 134, 3) := by decide +kernel
theorem dX3_wouldBeSo_23 : decode cX3_wouldBeSo 23 = .ok (.getfield 141, 3) := by decide +kernel
theorem dX3_wouldBeSo_26 : decode cX3_wouldBeSo 26 = .ok (.iload 4, 2) := by decide +kernel
theorem dX3_wouldBeSo_28 : decode cX3_wouldBeSo 28 = .ok (.iaload, 1) := by decide +kernel
theorem dX3_wouldBeSo_29 : decode cX3_wouldBeSo 29 = .ok (.iload 5, 2) := by decide +kernel
theorem dX3_wouldBeSo_31 : decode cX3_wouldBeSo 31 = .ok (.invokestatic 144, 3) := by decide +kernel
theorem dX3_wouldBeSo_34 : decode cX3_wouldBeSo 34 = .ok (.ifCond .ne 5, 3) := by decide +kernel
theorem dX3_wouldBeSo_37 : decode cX3_wouldBeSo 37 = .ok (.iconst 0, 1) := by decide +kernel
theorem dX3_wouldBeSo_38 : decode cX3_wouldBeSo 38 = .ok (.ireturn, 1) := by decide +kernel
theorem dX3_wouldBeSo_39 : decode cX3_wouldBeSo 39 = .ok (.aload_n 0, 1) := by decide +kernel
theorem dX3_wouldBeSo_40 : decode cX3_wouldBeSo 40 = .ok (.getfield 12, 3) := by decide +kernel
theorem dX3_wouldBeSo_43 : decode cX3_wouldBeSo 43 = .ok (.getfield 134, 3) := by decide +kernel
theorem dX3_wouldBeSo_46 : decode cX3_wouldBeSo 46 = .ok (.iload_n 3, 1) := by decide +kernel
theorem dX3_wouldBeSo_47 : decode cX3_wouldBeSo 47 = .ok (.iload 4, 2) := by decide +kernel
theorem dX3_wouldBeSo_49 : decode cX3_wouldBeSo 49 = .ok (.iload 5, 2) := by decide +kernel
theorem dX3_wouldBeSo_51 : decode cX3_wouldBeSo 51 = .ok (.invokevirtual 118, 3) := by decide +kernel
theorem dX3_wouldBeSo_54 : decode cX3_wouldBeSo 54 = .ok (.aload_n 0, 1) := by decide +kernel
theorem dX3_wouldBeSo_55 : decode cX3_wouldBeSo 55 = .ok (.getfield 21, 3) := by decide +kernel
theorem dX3_wouldBeSo_58 : decode cX3_wouldBeSo 58 = .ok (.aload_n 0, 1) := by decide +kernel
theorem dX3_wouldBeSo_59 : decode cX3_wouldBeSo 59 = .ok (.getfield 12, 3) := by decide +kernel
theorem dX3_wouldBeSo_62 : decode cX3_wouldBeSo 62 = .ok (.invokevirtual 45, 3) := by decide +kernel
theorem dX3_wouldBeSo_65 : decode cX3_wouldBeSo 65 = .ok (.aload_n 0, 1) := by decide +kernel
theorem dX3_wouldBeSo_66 : decode cX3_wouldBeSo 66 = .ok (.getfield 12, 3) := by decide +kernel
theorem dX3_wouldBeSo_69 : decode cX3_wouldBeSo 69 = .ok (.getfield 134, 3) := by decide +kernel
theorem dX3_wouldBeSo_72 : decode cX3_wouldBeSo 72 = .ok (.iload_n 3, 1) := by decide +kernel
theorem dX3_wouldBeSo_73 : decode cX3_wouldBeSo 73 = .ok (.iload 4, 2) := by decide +kernel
theorem dX3_wouldBeSo_75 : decode cX3_wouldBeSo 75 = .ok (.iload 6, 2) := by decide +kernel
theorem dX3_wouldBeSo_77 : decode cX3_wouldBeSo 77 = .ok (.invokevirtual 118, 3) := by decide +kernel
theorem dX3_wouldBeSo_80 : decode cX3_wouldBeSo 80 = .ok (.aload_n 2, 1) := by decide +kernel
theorem dX3_wouldBeSo_81 : decode cX3_wouldBeSo 81 = .ok (.aload_n 0, 1) := by decide +kernel
theorem dX3_wouldBeSo_82 : decode cX3_wouldBeSo 82 = .ok (.getfield 21, 3) := by decide +kernel
theorem dX3_wouldBeSo_85 : decode cX3_wouldBeSo 85 = .ok (.getfield 70, 3) := by decide +kernel
theorem dX3_wouldBeSo_88 : decode cX3_wouldBeSo 88 = .ok (.invokevirtual 122, 3) := by decide +kernel
theorem dX3_wouldBeSo_91 : decode cX3_wouldBeSo 91 = .ok (.ireturn, 1) := by decide +kernel
theorem dX3_findYears_0 : decode cX3_findYears 0 = .ok (.aload_n 0, 1) := by decide +kernel
theorem dX3_findYears_1 : decode cX3_findYears 1 = .ok (.getfield 12, 3) := by decide +kernel
theorem dX3_findYears_4 : decode cX3_findYears 4 = .ok (.aload_n 1, 1) := by decide +kernel
theorem dX3_findYears_5 : decode cX3_findYears 5 = .ok (.invokevirtual 41, 3) := by decide +kernel
theorem dX3_findYears_8 : decode cX3_findYears 8 = .ok (.aload_n 0, 1) := by decide +kernel
theorem dX3_findYears_9 : decode cX3_findYears 9 = .ok (.iload_n 2, 1) := by decide +kernel
theorem dX3_findYears_10 : decode cX3_findYears 10 = .ok (.putfield 149, 3) := by decide +kernel
theorem dX3_findYears_13 : decode cX3_findYears 13 = .ok (.iconst 0, 1) := by decide +kernel
theorem dX3_findYears_14 : decode cX3_findYears 14 = .ok (.istore 4, 2) := by decide +kernel
theorem dX3_findYears_16 : decode cX3_findYears 16 = .ok (.iconst 0, 1) := by decide +kernel
theorem dX3_findYears_17 : decode cX3_findYears 17 = .ok (.istore 5, 2) := by decide +kernel
theorem dX3_findYears_19 : decode cX3_findYears 19 = .ok (.iload 5, 2) := by decide +kernel
theorem dX3_findYears_21 : decode cX3_findYears 21 = .ok (.iload_n 3, 1) := by decide +kernel
theorem dX3_findYears_22 : decode cX3_findYears 22 = .ok (.if_icmp .ge 19, 3) := by decide +kernel
theorem dX3_findYears_25 : decode cX3_findYears 25 = .ok (.aload_n 0, 1) := by decide +kernel
theorem dX3_findYears_26 : decode cX3_findYears 26 = .ok (.invokevirtual 152, 3) := by decide +kernel
theorem dX3_findYears_29 : decode cX3_findYears 29 = .ok (.ifCond .eq 6, 3) := by decide +kernel
theorem dX3_findYears_32 : decode cX3_findYears 32 = .ok (.iinc 4 1, 3) := by decide +kernel
theorem dX3_findYears_35 : decode cX3_findYears 35 = .ok (.iinc 5 1, 3) := by decide +kernel
theorem dX3_findYears_38 : decode cX3_findYears 38 = .ok (.goto (-19), 3) := by decide +kernel
theorem dX3_findYears_41 : decode cX3_findYears 41 = .ok (.aload_n 0, 1) := by decide +kernel
theorem dX3_findYears_42 : decode cX3_findYears 42 = .ok (.getfield 21, 3) := by decide +kernel
theorem dX3_findYears_45 : decode cX3_findYears 45 = .ok (.aload_n 0, 1) := by decide +kernel
theorem dX3_findYears_46 : decode cX3_findYears 46 = .ok (.getfield 12, 3) := by decide +kernel
theorem dX3_findYears_49 : decode cX3_findYears 49 = .ok (.invokevirtual 45, 3) := by decide +kernel
theorem dX3_findYears_52 : decode cX3_findYears 52 = .ok (.aload_n 0, 1) := by decide +kernel
theorem dX3_findYears_53 : decode cX3_findYears 53 = .ok (.bipush 6, 2) := by decide +kernel
theorem dX3_findYears_55 : decode cX3_findYears 55 = .ok (.iload 4, 2) := by decide +kernel
theorem dX3_findYears_57 : decode cX3_findYears 57 = .ok (.aload_n 0, 1) := by decide +kernel
theorem dX3_findYears_58 : decode cX3_findYears 58 = .ok (.getfield 21, 3) := by decide +kernel
theorem dX3_findYears_61 : decode cX3_findYears 61 = .ok (.getfield 48, 3) := by decide +kernel
theorem dX3_findYears_64 : decode cX3_findYears 64 = .ok (.aload_n 0, 1) := by decide +kernel
theorem dX3_findYears_65 : decode cX3_findYears 65 = .ok (.getfield 21, 3) := by decide +kernel
theorem dX3_findYears_68 : decode cX3_findYears 68 = .ok (.getfield 70, 3) := by decide +kernel
theorem dX3_findYears_71 : decode cX3_findYears 71 = .ok (.getfield 74, 3) := by decide +kernel
theorem dX3_findYears_74 : decode cX3_findYears 74 = .ok (.invokestatic 79, 3) := by decide +kernel
theorem dX3_findYears_77 : decode cX3_findYears 77 = .ok (.invokevirtual 84, 3) := by decide +kernel
theorem dX3_findYears_80 : decode cX3_findYears 80 = .ok (.return_, 1) := by decide +kernel
theorem dX3_passYear_0 : decode cX3_passYear 0 = .ok (.aload_n 0, 1) := by decide +kernel
theorem dX3_passYear_1 : decode cX3_passYear 1 = .ok (.iconst 2, 1) := by decide +kernel
theorem dX3_passYear_2 : decode cX3_passYear 2 = .ok (.invokevirtual 156, 3) := by decide +kernel
theorem dX3_passYear_5 : decode cX3_passYear 5 = .ok (.istore_n 1, 1) := by decide +kernel
theorem dX3_passYear_6 : decode cX3_passYear 6 = .ok (.aload_n 0, 1) := by decide +kernel
theorem dX3_passYear_7 : decode cX3_passYear 7 = .ok (.iconst 4, 1) := by decide +kernel
theorem dX3_passYear_8 : decode cX3_passYear 8 = .ok (.invokevirtual 156, 3) := by decide +kernel
theorem dX3_passYear_11 : decode cX3_passYear 11 = .ok (.istore_n 2, 1) := by decide +kernel
theorem dX3_passYear_12 : decode cX3_passYear 12 = .ok (.iload_n 2, 1) := by decide +kernel
theorem dX3_passYear_13 : decode cX3_passYear 13 = .ok (.iconst 3, 1) := by decide +kernel
theorem dX3_passYear_14 : decode cX3_passYear 14 = .ok (.if_icmp .ne 36, 3) := by decide +kernel
theorem dX3_passYear_17 : decode cX3_passYear 17 = .ok (.aload_n 0, 1) := by decide +kernel
theorem dX3_passYear_18 : decode cX3_passYear 18 = .ok (.bipush 9, 2) := by decide +kernel
theorem dX3_passYear_20 : decode cX3_passYear 20 = .ok (.invokevirtual 156, 3) := by decide +kernel
theorem dX3_passYear_23 : decode cX3_passYear 23 = .ok (.istore_n 3, 1) := by decide +kernel
theorem dX3_passYear_24 : decode cX3_passYear 24 = .ok (.aload_n 0, 1) := by decide +kernel
theorem dX3_passYear_25 : decode cX3_passYear 25 = .ok (.getfield 12, 3) := by decide +kernel
theorem dX3_passYear_28 : decode cX3_passYear 28 = .ok (.iload_n 2, 1) := by decide +kernel
theorem dX3_passYear_29 : decode cX3_passYear 29 = .ok (.iload_n 1, 1) := by decide +kernel
theorem dX3_passYear_30 : decode cX3_passYear 30 = .ok (.iload_n 3, 1) := by decide +kernel
theorem dX3_passYear_31 : decode cX3_passYear 31 = .ok (.aload_n 0, 1) := by decide +kernel
theorem dX3_passYear_32 : decode cX3_passYear 32 = .ok (.iconst 4, 1) := by decide +kernel
theorem dX3_passYear_33 : decode cX3_passYear 33 = .ok (.invokevirtual 156, 3) := by decide +kernel
theorem dX3_passYear_36 : decode cX3_passYear 36 = .ok (.iconst 0, 1) := by decide +kernel
theorem dX3_passYear_37 : decode cX3_passYear 37 = .ok (.invokevirtual 159, 3) := by decide +kernel
theorem dX3_passYear_40 : decode cX3_passYear 40 = .ok (.iconst (-1), 1) := by decide +kernel
theorem dX3_passYear_41 : decode cX3_passYear 41 = .ok (.if_icmp .eq 7, 3) := by decide +kernel
theorem dX3_passYear_44 : decode cX3_passYear 44 = .ok (.iconst 1, 1) := by decide +kernel
theorem dX3_passYear_45 : decode cX3_passYear 45 = .ok (.goto 4, 3) := by decide +kernel
theorem dX3_passYear_48 : decode cX3_passYear 48 = .ok (.iconst 0, 1) := by decide +kernel
theorem dX3_passYear_49 : decode cX3_passYear 49 = .ok (.ireturn, 1) := by decide +kernel
theorem dX3_passYear_50 : decode cX3_passYear 50 = .ok (.aload_n 0, 1) := by decide +kernel
theorem dX3_passYear_51 : decode cX3_passYear 51 = .ok (.bipush 20, 2) := by decide +kernel
theorem dX3_passYear_53 : decode cX3_passYear 53 = .ok (.invokevirtual 156, 3) := by decide +kernel
theorem dX3_passYear_56 : decode cX3_passYear 56 = .ok (.istore_n 3, 1) := by decide +kernel
theorem dX3_passYear_57 : decode cX3_passYear 57 = .ok (.iload_n 2, 1) := by decide +kernel
theorem dX3_passYear_58 : decode cX3_passYear 58 = .ok (.ifCond .eq 25, 3) := by decide +kernel
theorem dX3_passYear_61 : decode cX3_passYear 61 = .ok (.aload_n 0, 1) := by decide +kernel
theorem dX3_passYear_62 : decode cX3_passYear 62 = .ok (.getfield 12, 3) := by decide +kernel
theorem dX3_passYear_65 : decode cX3_passYear 65 = .ok (.iload_n 2, 1) := by decide +kernel
theorem dX3_passYear_66 : decode cX3_passYear 66 = .ok (.iload_n 1, 1) := by decide +kernel
theorem dX3_passYear_67 : decode cX3_passYear 67 = .ok (.iload_n 3, 1) := by decide +kernel
theorem dX3_passYear_68 : decode cX3_passYear 68 = .ok (.iconst 0, 1) := by decide +kernel
theorem dX3_passYear_69 : decode cX3_passYear 69 = .ok (.iconst 0, 1) := by decide +kernel
theorem dX3_passYear_70 : decode cX3_passYear 70 = .ok (.invokevirtual 159, 3) := by decide +kernel
theorem dX3_passYear_73 : decode cX3_passYear 73 = .ok (.iconst (-1), 1) := by decide +kernel
theorem dX3_passYear_74 : decode cX3_passYear 74 = .ok (.if_icmp .eq 7, 3) := by decide +kernel
theorem dX3_passYear_77 : decode cX3_passYear 77 = .ok (.iconst 1, 1) := by decide +kernel
theorem dX3_passYear_78 : decode cX3_passYear 78 = .ok (.goto 4, 3) := by decide +kernel
theorem dX3_passYear_81 : decode cX3_passYear 81 = .ok (.iconst 0, 1) := by decide +kernel
theorem dX3_passYear_82 : decode cX3_passYear 82 = .ok (.ireturn, 1) := by decide +kernel
theorem dX3_passYear_83 : decode cX3_passYear 83 = .ok (.aload_n 0, 1) := by decide +kernel
theorem dX3_passYear_84 : decode cX3_passYear 84 = .ok (.bipush 9, 2) := by decide +kernel
theorem dX3_passYear_86 : decode cX3_passYear 86 = .ok (.invokevirtual 156, 3) := by decide +kernel
theorem dX3_passYear_89 : decode cX3_passYear 89 = .ok (.istore 4, 2) := by decide +kernel
theorem dX3_passYear_91 : decode cX3_passYear 91 = .ok (.aload_n 0, 1) := by decide +kernel
theorem dX3_passYear_92 : decode cX3_passYear 92 = .ok (.getfield 12, 3) := by decide +kernel
theorem dX3_passYear_95 : decode cX3_passYear 95 = .ok (.iload_n 2, 1) := by decide +kernel
theorem dX3_passYear_96 : decode cX3_passYear 96 = .ok (.iload_n 1, 1) := by decide +kernel
theorem dX3_passYear_97 : decode cX3_passYear 97 = .ok (.iload_n 3, 1) := by decide +kernel
theorem dX3_passYear_98 : decode cX3_passYear 98 = .ok (.iload 4, 2) := by decide +kernel
theorem dX3_passYear_100 : decode cX3_passYear 100 = .ok (.aload_n 0, 1) := by decide +kernel
theorem dX3_passYear_101 : decode cX3_passYear 101 = .ok (.bipush 10, 2) := by decide +kernel
theorem dX3_passYear_103 : decode cX3_passYear 103 = .ok (.invokevirtual 156, 3) := by decide +kernel
theorem dX3_passYear_106 : decode cX3_passYear 106 = .ok (.invokevirtual 159, 3) := by decide +kernel
theorem dX3_passYear_109 : decode cX3_passYear 109 = .ok (.iconst (-1), 1) := by decide +kernel
theorem dX3_passYear_110 : decode cX3_passYear 110 = .ok (.if_icmp .eq 7, 3) := by decide +kernel
theorem dX3_passYear_113 : decode cX3_passYear 113 = .ok (.iconst 1, 1) := by decide +kernel
theorem dX3_passYear_114 : decode cX3_passYear 114 = .ok (.goto 4, 3) := by decide +kernel
theorem dX3_passYear_117 : decode cX3_passYear 117 = .ok (.iconst 0, 1) := by decide +kernel
theorem dX3_passYear_118 : decode cX3_passYear 118 = .ok (.ireturn, 1) := by decide +kernel
theorem dX3_draw_0 : decode cX3_draw 0 = .ok (.aload_n 0, 1) := by decide +kernel
theorem dX3_draw_1 : decode cX3_draw 1 = .ok (.aload_n 0, 1) := by decide +kernel
theorem dX3_draw_2 : decode cX3_draw 2 = .ok (.getfield 149, 3) := by decide +kernel
theorem dX3_draw_5 : decode cX3_draw 5 = .ok (.ldc 163, 2) := by decide +kernel
theorem dX3_draw_7 : decode cX3_draw 7 = .ok (.imul, 1) := by decide +kernel
theorem dX3_draw_8 : decode cX3_draw 8 = .ok (.sipush 12345, 3) := by decide +kernel
theorem dX3_draw_11 : decode cX3_draw 11 = .ok (.iadd, 1) := by decide +kernel
theorem dX3_draw_12 : decode cX3_draw 12 = .ok (.putfield 149, 3) := by decide +kernel
theorem dX3_draw_15 : decode cX3_draw 15 = .ok (.aload_n 0, 1) := by decide +kernel
theorem dX3_draw_16 : decode cX3_draw 16 = .ok (.getfield 149, 3) := by decide +kernel
theorem dX3_draw_19 : decode cX3_draw 19 = .ok (.bipush 16, 2) := by decide +kernel
theorem dX3_draw_21 : decode cX3_draw 21 = .ok (.ishr, 1) := by decide +kernel
theorem dX3_draw_22 : decode cX3_draw 22 = .ok (.sipush 32767, 3) := by decide +kernel
theorem dX3_draw_25 : decode cX3_draw 25 = .ok (.iand, 1) := by decide +kernel
theorem dX3_draw_26 : decode cX3_draw 26 = .ok (.iconst 1, 1) := by decide +kernel
theorem dX3_draw_27 : decode cX3_draw 27 = .ok (.iload_n 1, 1) := by decide +kernel
theorem dX3_draw_28 : decode cX3_draw 28 = .ok (.invokestatic 164, 3) := by decide +kernel
theorem dX3_draw_31 : decode cX3_draw 31 = .ok (.invokestatic 167, 3) := by decide +kernel
theorem dX3_draw_34 : decode cX3_draw 34 = .ok (.ireturn, 1) := by decide +kernel
theorem dX4_init_0 : decode cX4_init 0 = .ok (.aload_n 0, 1) := by decide +kernel
theorem dX4_init_1 : decode cX4_init 1 = .ok (.invokespecial 3, 3) := by decide +kernel
theorem dX4_init_4 : decode cX4_init 4 = .ok (.aload_n 0, 1) := by decide +kernel
theorem dX4_init_5 : decode cX4_init 5 = .ok (.bipush 8, 2) := by decide +kernel
theorem dX4_init_7 : decode cX4_init 7 = .ok (.newarray .int, 2) := by decide +kernel
theorem dX4_init_9 : decode cX4_init 9 = .ok (.putfield 9, 3) := by decide +kernel
theorem dX4_init_12 : decode cX4_init 12 = .ok (.aload_n 0, 1) := by decide +kernel
theorem dX4_init_13 : decode cX4_init 13 = .ok (.bipush 8, 2) := by decide +kernel
theorem dX4_init_15 : decode cX4_init 15 = .ok (.newarray .int, 2) := by decide +kernel
theorem dX4_init_17 : decode cX4_init 17 = .ok (.putfield 15, 3) := by decide +kernel
theorem dX4_init_20 : decode cX4_init 20 = .ok (.aload_n 0, 1) := by decide +kernel
theorem dX4_init_21 : decode cX4_init 21 = .ok (.bipush 8, 2) := by decide +kernel
theorem dX4_init_23 : decode cX4_init 23 = .ok (.newarray .int, 2) := by decide +kernel
theorem dX4_init_25 : decode cX4_init 25 = .ok (.putfield 18, 3) := by decide +kernel
theorem dX4_init_28 : decode cX4_init 28 = .ok (.return_, 1) := by decide +kernel
theorem dX4_clear_0 : decode cX4_clear 0 = .ok (.aload_n 0, 1) := by decide +kernel
theorem dX4_clear_1 : decode cX4_clear 1 = .ok (.iconst 0, 1) := by decide +kernel
theorem dX4_clear_2 : decode cX4_clear 2 = .ok (.putfield 21, 3) := by decide +kernel
theorem dX4_clear_5 : decode cX4_clear 5 = .ok (.return_, 1) := by decide +kernel
theorem dX4_note_0 : decode cX4_note 0 = .ok (.aload_n 0, 1) := by decide +kernel
theorem dX4_note_1 : decode cX4_note 1 = .ok (.getfield 21, 3) := by decide +kernel
theorem dX4_note_4 : decode cX4_note 4 = .ok (.bipush 8, 2) := by decide +kernel
theorem dX4_note_6 : decode cX4_note 6 = .ok (.if_icmp .ge 31, 3) := by decide +kernel
theorem dX4_note_9 : decode cX4_note 9 = .ok (.iload_n 1, 1) := by decide +kernel
theorem dX4_note_10 : decode cX4_note 10 = .ok (.ifCond .lt 27, 3) := by decide +kernel
theorem dX4_note_13 : decode cX4_note 13 = .ok (.iload_n 1, 1) := by decide +kernel
theorem dX4_note_14 : decode cX4_note 14 = .ok (.bipush 20, 2) := by decide +kernel
theorem dX4_note_16 : decode cX4_note 16 = .ok (.if_icmp .ge 21, 3) := by decide +kernel
theorem dX4_note_19 : decode cX4_note 19 = .ok (.iload_n 2, 1) := by decide +kernel
theorem dX4_note_20 : decode cX4_note 20 = .ok (.ifCond .lt 17, 3) := by decide +kernel
theorem dX4_note_23 : decode cX4_note 23 = .ok (.iload_n 2, 1) := by decide +kernel
theorem dX4_note_24 : decode cX4_note 24 = .ok (.bipush 9, 2) := by decide +kernel
theorem dX4_note_26 : decode cX4_note 26 = .ok (.if_icmp .ge 11, 3) := by decide +kernel
theorem dX4_note_29 : decode cX4_note 29 = .ok (.iconst 0, 1) := by decide +kernel
theorem dX4_note_30 : decode cX4_note 30 = .ok (.iload_n 3, 1) := by decide +kernel
theorem dX4_note_31 : decode cX4_note 31 = .ok (.invokestatic 25, 3) := by decide +kernel
theorem dX4_note_34 : decode cX4_note 34 = .ok (.ifCond .ne 5, 3) := by decide +kernel
theorem dX4_note_37 : decode cX4_note 37 = .ok (.iconst 0, 1) := by decide +kernel
theorem dX4_note_38 : decode cX4_note 38 = .ok (.ireturn, 1) := by decide +kernel
theorem dX4_note_39 : decode cX4_note 39 = .ok (.aload_n 0, 1) := by decide +kernel
theorem dX4_note_40 : decode cX4_note 40 = .ok (.getfield 9, 3) := by decide +kernel
theorem dX4_note_43 : decode cX4_note 43 = .ok (.aload_n 0, 1) := by decide +kernel
theorem dX4_note_44 : decode cX4_note 44 = .ok (.getfield 21, 3) := by decide +kernel
theorem dX4_note_47 : decode cX4_note 47 = .ok (.iload_n 1, 1) := by decide +kernel
theorem dX4_note_48 : decode cX4_note 48 = .ok (.iastore, 1) := by decide +kernel
theorem dX4_note_49 : decode cX4_note 49 = .ok (.aload_n 0, 1) := by decide +kernel
theorem dX4_note_50 : decode cX4_note 50 = .ok (.getfield 15, 3) := by decide +kernel
theorem dX4_note_53 : decode cX4_note 53 = .ok (.aload_n 0, 1) := by decide +kernel
theorem dX4_note_54 : decode cX4_note 54 = .ok (.getfield 21, 3) := by decide +kernel
theorem dX4_note_57 : decode cX4_note 57 = .ok (.iload_n 2, 1) := by decide +kernel
theorem dX4_note_58 : decode cX4_note 58 = .ok (.iastore, 1) := by decide +kernel
theorem dX4_note_59 : decode cX4_note 59 = .ok (.aload_n 0, 1) := by decide +kernel
theorem dX4_note_60 : decode cX4_note 60 = .ok (.getfield 18, 3) := by decide +kernel
theorem dX4_note_63 : decode cX4_note 63 = .ok (.aload_n 0, 1) := by decide +kernel
theorem dX4_note_64 : decode cX4_note 64 = .ok (.getfield 21, 3) := by decide +kernel
theorem dX4_note_67 : decode cX4_note 67 = .ok (.iload_n 3, 1) := by decide +kernel
theorem dX4_note_68 : decode cX4_note 68 = .ok (.iastore, 1) := by decide +kernel
theorem dX4_note_69 : decode cX4_note 69 = .ok (.aload_n 0, 1) := by decide +kernel
theorem dX4_note_70 : decode cX4_note 70 = .ok (.dup, 1) := by decide +kernel
theorem dX4_note_71 : decode cX4_note 71 = .ok (.getfield 21, 3) := by decide +kernel
theorem dX4_note_74 : decode cX4_note 74 = .ok (.iconst 1, 1) := by decide +kernel
theorem dX4_note_75 : decode cX4_note 75 = .ok (.iadd, 1) := by decide +kernel
theorem dX4_note_76 : decode cX4_note 76 = .ok (.putfield 21, 3) := by decide +kernel
theorem dX4_note_79 : decode cX4_note 79 = .ok (.iconst 1, 1) := by decide +kernel
theorem dX4_note_80 : decode cX4_note 80 = .ok (.ireturn, 1) := by decide +kernel
theorem dX4_copyFrom_0 : decode cX4_copyFrom 0 = .ok (.aload_n 0, 1) := by decide +kernel
theorem dX4_copyFrom_1 : decode cX4_copyFrom 1 = .ok (.aload_n 1, 1) := by decide +kernel
theorem dX4_copyFrom_2 : decode cX4_copyFrom 2 = .ok (.getfield 21, 3) := by decide +kernel
theorem dX4_copyFrom_5 : decode cX4_copyFrom 5 = .ok (.putfield 21, 3) := by decide +kernel
theorem dX4_copyFrom_8 : decode cX4_copyFrom 8 = .ok (.aload_n 1, 1) := by decide +kernel
theorem dX4_copyFrom_9 : decode cX4_copyFrom 9 = .ok (.getfield 9, 3) := by decide +kernel
theorem dX4_copyFrom_12 : decode cX4_copyFrom 12 = .ok (.iconst 0, 1) := by decide +kernel
theorem dX4_copyFrom_13 : decode cX4_copyFrom 13 = .ok (.aload_n 0, 1) := by decide +kernel
theorem dX4_copyFrom_14 : decode cX4_copyFrom 14 = .ok (.getfield 9, 3) := by decide +kernel
theorem dX4_copyFrom_17 : decode cX4_copyFrom 17 = .ok (.iconst 0, 1) := by decide +kernel
theorem dX4_copyFrom_18 : decode cX4_copyFrom 18 = .ok (.bipush 8, 2) := by decide +kernel
theorem dX4_copyFrom_20 : decode cX4_copyFrom 20 = .ok (.invokestatic 31, 3) := by decide +kernel
theorem dX4_copyFrom_23 : decode cX4_copyFrom 23 = .ok (.aload_n 1, 1) := by decide +kernel
theorem dX4_copyFrom_24 : decode cX4_copyFrom 24 = .ok (.getfield 15, 3) := by decide +kernel
theorem dX4_copyFrom_27 : decode cX4_copyFrom 27 = .ok (.iconst 0, 1) := by decide +kernel
theorem dX4_copyFrom_28 : decode cX4_copyFrom 28 = .ok (.aload_n 0, 1) := by decide +kernel
theorem dX4_copyFrom_29 : decode cX4_copyFrom 29 = .ok (.getfield 15, 3) := by decide +kernel
theorem dX4_copyFrom_32 : decode cX4_copyFrom 32 = .ok (.iconst 0, 1) := by decide +kernel
theorem dX4_copyFrom_33 : decode cX4_copyFrom 33 = .ok (.bipush 8, 2) := by decide +kernel
theorem dX4_copyFrom_35 : decode cX4_copyFrom 35 = .ok (.invokestatic 31, 3) := by decide +kernel
theorem dX4_copyFrom_38 : decode cX4_copyFrom 38 = .ok (.aload_n 1, 1) := by decide +kernel
theorem dX4_copyFrom_39 : decode cX4_copyFrom 39 = .ok (.getfield 18, 3) := by decide +kernel
theorem dX4_copyFrom_42 : decode cX4_copyFrom 42 = .ok (.iconst 0, 1) := by decide +kernel
theorem dX4_copyFrom_43 : decode cX4_copyFrom 43 = .ok (.aload_n 0, 1) := by decide +kernel
theorem dX4_copyFrom_44 : decode cX4_copyFrom 44 = .ok (.getfield 18, 3) := by decide +kernel
theorem dX4_copyFrom_47 : decode cX4_copyFrom 47 = .ok (.iconst 0, 1) := by decide +kernel
theorem dX4_copyFrom_48 : decode cX4_copyFrom 48 = .ok (.bipush 8, 2) := by decide +kernel
theorem dX4_copyFrom_50 : decode cX4_copyFrom 50 = .ok (.invokestatic 31, 3) := by decide +kernel
theorem dX4_copyFrom_53 : decode cX4_copyFrom 53 = .ok (.return_, 1) := by decide +kernel
theorem dX4_isSo_0 : decode cX4_isSo 0 = .ok (.iconst 0, 1) := by decide +kernel
theorem dX4_isSo_1 : decode cX4_isSo 1 = .ok (.istore_n 2, 1) := by decide +kernel
theorem dX4_isSo_2 : decode cX4_isSo 2 = .ok (.iload_n 2, 1) := by decide +kernel
theorem dX4_isSo_3 : decode cX4_isSo 3 = .ok (.aload_n 0, 1) := by decide +kernel
theorem dX4_isSo_4 : decode cX4_isSo 4 = .ok (.getfield 21, 3) := by decide +kernel
theorem dX4_isSo_7 : decode cX4_isSo 7 = .ok (.if_icmp .ge 61, 3) := by decide +kernel
theorem dX4_isSo_10 : decode cX4_isSo 10 = .ok (.iload_n 2, 1) := by decide +kernel
theorem dX4_isSo_11 : decode cX4_isSo 11 = .ok (.bipush 8, 2) := by decide +kernel
theorem dX4_isSo_13 : decode cX4_isSo 13 = .ok (.if_icmp .ge 55, 3) := by decide +kernel
theorem dX4_isSo_16 : decode cX4_isSo 16 = .ok (.aload_n 1, 1) := by decide +kernel
theorem dX4_isSo_17 : decode cX4_isSo 17 = .ok (.aload_n 0, 1) := by decide +kernel
theorem dX4_isSo_18 : decode cX4_isSo 18 = .ok (.getfield 9, 3) := by decide +kernel
theorem dX4_isSo_21 : decode cX4_isSo 21 = .ok (.iload_n 2, 1) := by decide +kernel
theorem dX4_isSo_22 : decode cX4_isSo 22 = .ok (.iaload, 1) := by decide +kernel
theorem dX4_isSo_23 : decode cX4_isSo 23 = .ok (.aload_n 0, 1) := by decide +kernel
theorem dX4_isSo_24 : decode cX4_isSo 24 = .ok (.getfield 15, 3) := by decide +kernel
theorem dX4_isSo_27 : decode cX4_isSo 27 = .ok (.iload_n 2, 1) := by decide +kernel
theorem dX4_isSo_28 : decode cX4_isSo 28 = .ok (.iaload, 1) := by decide +kernel
theorem dX4_isSo_29 : decode cX4_isSo 29 = .ok (.invokevirtual 37, 3) := by decide +kernel
theorem dX4_isSo_32 : decode cX4_isSo 32 = .ok (.ifCond .eq 28, 3) := by decide +kernel
theorem dX4_isSo_35 : decode cX4_isSo 35 = .ok (.aload_n 1, 1) := by decide +kernel
theorem dX4_isSo_36 : decode cX4_isSo 36 = .ok (.aload_n 0, 1) := by decide +kernel
theorem dX4_isSo_37 : decode cX4_isSo 37 = .ok (.getfield 9, 3) := by decide +kernel
theorem dX4_isSo_40 : decode cX4_isSo 40 = .ok (.iload_n 2, 1) := by decide +kernel
theorem dX4_isSo_41 : decode cX4_isSo 41 = .ok (.iaload, 1) := by decide +kernel
theorem dX4_isSo_42 : decode cX4_isSo 42 = .ok (.aload_n 0, 1) := by decide +kernel
theorem dX4_isSo_43 : decode cX4_isSo 43 = .ok (.getfield 15, 3) := by decide +kernel
theorem dX4_isSo_46 : decode cX4_isSo 46 = .ok (.iload_n 2, 1) := by decide +kernel
theorem dX4_isSo_47 : decode cX4_isSo 47 = .ok (.iaload, 1) := by decide +kernel
theorem dX4_isSo_48 : decode cX4_isSo 48 = .ok (.invokevirtual 42, 3) := by decide +kernel
theorem dX4_isSo_51 : decode cX4_isSo 51 = .ok (.aload_n 0, 1) := by decide +kernel
theorem dX4_isSo_52 : decode cX4_isSo 52 = .ok (.getfield 18, 3) := by decide +kernel
theorem dX4_isSo_55 : decode cX4_isSo 55 = .ok (.iload_n 2, 1) := by decide +kernel
theorem dX4_isSo_56 : decode cX4_isSo 56 = .ok (.iaload, 1) := by decide +kernel
theorem dX4_isSo_57 : decode cX4_isSo 57 = .ok (.if_icmp .eq 5, 3) := by decide +kernel
theorem dX4_isSo_60 : decode cX4_isSo 60 = .ok (.iconst 0, 1) := by decide +kernel
theorem dX4_isSo_61 : decode cX4_isSo 61 = .ok (.ireturn, 1) := by decide +kernel
theorem dX4_isSo_62 : decode cX4_isSo 62 = .ok (.iinc 2 1, 3) := by decide +kernel
theorem dX4_isSo_65 : decode cX4_isSo 65 = .ok (.goto (-63), 3) := by decide +kernel
theorem dX4_isSo_68 : decode cX4_isSo 68 = .ok (.iconst 1, 1) := by decide +kernel
theorem dX4_isSo_69 : decode cX4_isSo 69 = .ok (.ireturn, 1) := by decide +kernel
theorem dX5_init_0 : decode cX5_init 0 = .ok (.aload_n 0, 1) := by decide +kernel
theorem dX5_init_1 : decode cX5_init 1 = .ok (.invokespecial 3, 3) := by decide +kernel
theorem dX5_init_4 : decode cX5_init 4 = .ok (.aload_n 0, 1) := by decide +kernel
theorem dX5_init_5 : decode cX5_init 5 = .ok (.new 9, 3) := by decide +kernel
theorem dX5_init_8 : decode cX5_init 8 = .ok (.dup, 1) := by decide +kernel
theorem dX5_init_9 : decode cX5_init 9 = .ok (.invokespecial 11, 3) := by decide +kernel
theorem dX5_init_12 : decode cX5_init 12 = .ok (.putfield 12, 3) := by decide +kernel
theorem dX5_init_15 : decode cX5_init 15 = .ok (.aload_n 0, 1) := by decide +kernel
theorem dX5_init_16 : decode cX5_init 16 = .ok (.new 9, 3) := by decide +kernel
theorem dX5_init_19 : decode cX5_init 19 = .ok (.dup, 1) := by decide +kernel
theorem dX5_init_20 : decode cX5_init 20 = .ok (.invokespecial 11, 3) := by decide +kernel
theorem dX5_init_23 : decode cX5_init 23 = .ok (.putfield 18, 3) := by decide +kernel
theorem dX5_init_26 : decode cX5_init 26 = .ok (.aload_n 0, 1) := by decide +kernel
theorem dX5_init_27 : decode cX5_init 27 = .ok (.new 9, 3) := by decide +kernel
theorem dX5_init_30 : decode cX5_init 30 = .ok (.dup, 1) := by decide +kernel
theorem dX5_init_31 : decode cX5_init 31 = .ok (.invokespecial 11, 3) := by decide +kernel
theorem dX5_init_34 : decode cX5_init 34 = .ok (.putfield 21, 3) := by decide +kernel
theorem dX5_init_37 : decode cX5_init 37 = .ok (.aload_n 0, 1) := by decide +kernel
theorem dX5_init_38 : decode cX5_init 38 = .ok (.iconst 4, 1) := by decide +kernel
theorem dX5_init_39 : decode cX5_init 39 = .ok (.newarray .int, 2) := by decide +kernel
theorem dX5_init_41 : decode cX5_init 41 = .ok (.putfield 24, 3) := by decide +kernel
theorem dX5_init_44 : decode cX5_init 44 = .ok (.aload_n 0, 1) := by decide +kernel
theorem dX5_init_45 : decode cX5_init 45 = .ok (.iconst 4, 1) := by decide +kernel
theorem dX5_init_46 : decode cX5_init 46 = .ok (.newarray .int, 2) := by decide +kernel
theorem dX5_init_48 : decode cX5_init 48 = .ok (.putfield 28, 3) := by decide +kernel
theorem dX5_init_51 : decode cX5_init 51 = .ok (.aload_n 0, 1) := by decide +kernel
theorem dX5_init_52 : decode cX5_init 52 = .ok (.iconst 4, 1) := by decide +kernel
theorem dX5_init_53 : decode cX5_init 53 = .ok (.newarray .int, 2) := by decide +kernel
theorem dX5_init_55 : decode cX5_init 55 = .ok (.putfield 31, 3) := by decide +kernel
theorem dX5_init_58 : decode cX5_init 58 = .ok (.aload_n 0, 1) := by decide +kernel
theorem dX5_init_59 : decode cX5_init 59 = .ok (.sipush 316, 3) := by decide +kernel
theorem dX5_init_62 : decode cX5_init 62 = .ok (.newarray .int, 2) := by decide +kernel
theorem dX5_init_64 : decode cX5_init 64 = .ok (.putfield 34, 3) := by decide +kernel
theorem dX5_init_67 : decode cX5_init 67 = .ok (.aload_n 0, 1) := by decide +kernel
theorem dX5_init_68 : decode cX5_init 68 = .ok (.getfield 34, 3) := by decide +kernel
theorem dX5_init_71 : decode cX5_init 71 = .ok (.iconst (-1), 1) := by decide +kernel
theorem dX5_init_72 : decode cX5_init 72 = .ok (.invokestatic 37, 3) := by decide +kernel
theorem dX5_init_75 : decode cX5_init 75 = .ok (.return_, 1) := by decide +kernel
theorem dX5_clear_0 : decode cX5_clear 0 = .ok (.aload_n 0, 1) := by decide +kernel
theorem dX5_clear_1 : decode cX5_clear 1 = .ok (.getfield 12, 3) := by decide +kernel
theorem dX5_clear_4 : decode cX5_clear 4 = .ok (.invokevirtual 43, 3) := by decide +kernel
theorem dX5_clear_7 : decode cX5_clear 7 = .ok (.aload_n 0, 1) := by decide +kernel
theorem dX5_clear_8 : decode cX5_clear 8 = .ok (.iconst 0, 1) := by decide +kernel
theorem dX5_clear_9 : decode cX5_clear 9 = .ok (.putfield 46, 3) := by decide +kernel
theorem dX5_clear_12 : decode cX5_clear 12 = .ok (.aload_n 0, 1) := by decide +kernel
theorem dX5_clear_13 : decode cX5_clear 13 = .ok (.invokevirtual 50, 3) := by decide +kernel
theorem dX5_clear_16 : decode cX5_clear 16 = .ok (.return_, 1) := by decide +kernel
theorem dX5_startSides_0 : decode cX5_startSides 0 = .ok (.aload_n 0, 1) := by decide +kernel
theorem dX5_startSides_1 : decode cX5_startSides 1 = .ok (.getfield 18, 3) := by decide +kernel
theorem dX5_startSides_4 : decode cX5_startSides 4 = .ok (.aload_n 0, 1) := by decide +kernel
theorem dX5_startSides_5 : decode cX5_startSides 5 = .ok (.getfield 12, 3) := by decide +kernel
theorem dX5_startSides_8 : decode cX5_startSides 8 = .ok (.invokevirtual 53, 3) := by decide +kernel
theorem dX5_startSides_11 : decode cX5_startSides 11 = .ok (.aload_n 0, 1) := by decide +kernel
theorem dX5_startSides_12 : decode cX5_startSides 12 = .ok (.getfield 21, 3) := by decide +kernel
theorem dX5_startSides_15 : decode cX5_startSides 15 = .ok (.aload_n 0, 1) := by decide +kernel
theorem dX5_startSides_16 : decode cX5_startSides 16 = .ok (.getfield 12, 3) := by decide +kernel
theorem dX5_startSides_19 : decode cX5_startSides 19 = .ok (.invokevirtual 53, 3) := by decide +kernel
theorem dX5_startSides_22 : decode cX5_startSides 22 = .ok (.aload_n 0, 1) := by decide +kernel
theorem dX5_startSides_23 : decode cX5_startSides 23 = .ok (.iconst 0, 1) := by decide +kernel
theorem dX5_startSides_24 : decode cX5_startSides 24 = .ok (.putfield 57, 3) := by decide +kernel
theorem dX5_startSides_27 : decode cX5_startSides 27 = .ok (.aload_n 0, 1) := by decide +kernel
theorem dX5_startSides_28 : decode cX5_startSides 28 = .ok (.iconst 0, 1) := by decide +kernel
theorem dX5_startSides_29 : decode cX5_startSides 29 = .ok (.putfield 60, 3) := by decide +kernel
theorem dX5_startSides_32 : decode cX5_startSides 32 = .ok (.aload_n 0, 1) := by decide +kernel
theorem dX5_startSides_33 : decode cX5_startSides 33 = .ok (.getfield 34, 3) := by decide +kernel
theorem dX5_startSides_36 : decode cX5_startSides 36 = .ok (.iconst (-1), 1) := by decide +kernel
theorem dX5_startSides_37 : decode cX5_startSides 37 = .ok (.invokestatic 37, 3) := by decide +kernel
theorem dX5_startSides_40 : decode cX5_startSides 40 = .ok (.return_, 1) := by decide +kernel
theorem dX5_copyFrom_0 : decode cX5_copyFrom 0 = .ok (.aload_n 0, 1) := by decide +kernel
theorem dX5_copyFrom_1 : decode cX5_copyFrom 1 = .ok (.getfield 12, 3) := by decide +kernel
theorem dX5_copyFrom_4 : decode cX5_copyFrom 4 = .ok (.aload_n 1, 1) := by decide +kernel
theorem dX5_copyFrom_5 : decode cX5_copyFrom 5 = .ok (.getfield 12, 3) := by decide +kernel
theorem dX5_copyFrom_8 : decode cX5_copyFrom 8 = .ok (.invokevirtual 53, 3) := by decide +kernel
theorem dX5_copyFrom_11 : decode cX5_copyFrom 11 = .ok (.aload_n 0, 1) := by decide +kernel
theorem dX5_copyFrom_12 : decode cX5_copyFrom 12 = .ok (.getfield 18, 3) := by decide +kernel
theorem dX5_copyFrom_15 : decode cX5_copyFrom 15 = .ok (.aload_n 1, 1) := by decide +kernel
theorem dX5_copyFrom_16 : decode cX5_copyFrom 16 = .ok (.getfield 18, 3) := by decide +kernel
theorem dX5_copyFrom_19 : decode cX5_copyFrom 19 = .ok (.invokevirtual 53, 3) := by decide +kernel
theorem dX5_copyFrom_22 : decode cX5_copyFrom 22 = .ok (.aload_n 0, 1) := by decide +kernel
theorem dX5_copyFrom_23 : decode cX5_copyFrom 23 = .ok (.getfield 21, 3) := by decide +kernel
theorem dX5_copyFrom_26 : decode cX5_copyFrom 26 = .ok (.aload_n 1, 1) := by decide +kernel
theorem dX5_copyFrom_27 : decode cX5_copyFrom 27 = .ok (.getfield 21, 3) := by decide +kernel
theorem dX5_copyFrom_30 : decode cX5_copyFrom 30 = .ok (.invokevirtual 53, 3) := by decide +kernel
theorem dX5_copyFrom_33 : decode cX5_copyFrom 33 = .ok (.aload_n 0, 1) := by decide +kernel
theorem dX5_copyFrom_34 : decode cX5_copyFrom 34 = .ok (.aload_n 1, 1) := by decide +kernel
theorem dX5_copyFrom_35 : decode cX5_copyFrom 35 = .ok (.getfield 57, 3) := by decide +kernel
theorem dX5_copyFrom_38 : decode cX5_copyFrom 38 = .ok (.putfield 57, 3) := by decide +kernel
theorem dX5_copyFrom_41 : decode cX5_copyFrom 41 = .ok (.aload_n 0, 1) := by decide +kernel
theorem dX5_copyFrom_42 : decode cX5_copyFrom 42 = .ok (.aload_n 1, 1) := by decide +kernel
theorem dX5_copyFrom_43 : decode cX5_copyFrom 43 = .ok (.getfield 60, 3) := by decide +kernel
theorem dX5_copyFrom_46 : decode cX5_copyFrom 46 = .ok (.putfield 60, 3) := by decide +kernel
theorem dX5_copyFrom_49 : decode cX5_copyFrom 49 = .ok (.aload_n 0, 1) := by decide +kernel
theorem dX5_copyFrom_50 : decode cX5_copyFrom 50 = .ok (.aload_n 1, 1) := by decide +kernel
theorem dX5_copyFrom_51 : decode cX5_copyFrom 51 = .ok (.getfield 46, 3) := by decide +kernel
theorem dX5_copyFrom_54 : decode cX5_copyFrom 54 = .ok (.putfield 46, 3) := by decide +kernel
theorem dX5_copyFrom_57 : decode cX5_copyFrom 57 = .ok (.aload_n 1, 1) := by decide +kernel
theorem dX5_copyFrom_58 : decode cX5_copyFrom 58 = .ok (.getfield 24, 3) := by decide +kernel
theorem dX5_copyFrom_61 : decode cX5_copyFrom 61 = .ok (.iconst 0, 1) := by decide +kernel
theorem dX5_copyFrom_62 : decode cX5_copyFrom 62 = .ok (.aload_n 0, 1) := by decide +kernel
theorem dX5_copyFrom_63 : decode cX5_copyFrom 63 = .ok (.getfield 24, 3) := by decide +kernel
theorem dX5_copyFrom_66 : decode cX5_copyFrom 66 = .ok (.iconst 0, 1) := by decide +kernel
theorem dX5_copyFrom_67 : decode cX5_copyFrom 67 = .ok (.iconst 4, 1) := by decide +kernel
theorem dX5_copyFrom_68 : decode cX5_copyFrom 68 = .ok (.invokestatic 63, 3) := by decide +kernel
theorem dX5_copyFrom_71 : decode cX5_copyFrom 71 = .ok (.aload_n 1, 1) := by decide +kernel
theorem dX5_copyFrom_72 : decode cX5_copyFrom 72 = .ok (.getfield 28, 3) := by decide +kernel
theorem dX5_copyFrom_75 : decode cX5_copyFrom 75 = .ok (.iconst 0, 1) := by decide +kernel
theorem dX5_copyFrom_76 : decode cX5_copyFrom 76 = .ok (.aload_n 0, 1) := by decide +kernel
theorem dX5_copyFrom_77 : decode cX5_copyFrom 77 = .ok (.getfield 28, 3) := by decide +kernel
theorem dX5_copyFrom_80 : decode cX5_copyFrom 80 = .ok (.iconst 0, 1) := by decide +kernel
theorem dX5_copyFrom_81 : decode cX5_copyFrom 81 = .ok (.iconst 4, 1) := by decide +kernel
theorem dX5_copyFrom_82 : decode cX5_copyFrom 82 = .ok (.invokestatic 63, 3) := by decide +kernel
theorem dX5_copyFrom_85 : decode cX5_copyFrom 85 = .ok (.aload_n 1, 1) := by decide +kernel
theorem dX5_copyFrom_86 : decode cX5_copyFrom 86 = .ok (.getfield 31, 3) := by decide +kernel
theorem dX5_copyFrom_89 : decode cX5_copyFrom 89 = .ok (.iconst 0, 1) := by decide +kernel
theorem dX5_copyFrom_90 : decode cX5_copyFrom 90 = .ok (.aload_n 0, 1) := by decide +kernel
theorem dX5_copyFrom_91 : decode cX5_copyFrom 91 = .ok (.getfield 31, 3) := by decide +kernel
theorem dX5_copyFrom_94 : decode cX5_copyFrom 94 = .ok (.iconst 0, 1) := by decide +kernel
theorem dX5_copyFrom_95 : decode cX5_copyFrom 95 = .ok (.iconst 4, 1) := by decide +kernel
theorem dX5_copyFrom_96 : decode cX5_copyFrom 96 = .ok (.invokestatic 63, 3) := by decide +kernel
theorem dX5_copyFrom_99 : decode cX5_copyFrom 99 = .ok (.aload_n 1, 1) := by decide +kernel
theorem dX5_copyFrom_100 : decode cX5_copyFrom 100 = .ok (.getfield 34, 3) := by decide +kernel
theorem dX5_copyFrom_103 : decode cX5_copyFrom 103 = .ok (.iconst 0, 1) := by decide +kernel
theorem dX5_copyFrom_104 : decode cX5_copyFrom 104 = .ok (.aload_n 0, 1) := by decide +kernel
theorem dX5_copyFrom_105 : decode cX5_copyFrom 105 = .ok (.getfield 34, 3) := by decide +kernel
theorem dX5_copyFrom_108 : decode cX5_copyFrom 108 = .ok (.iconst 0, 1) := by decide +kernel
theorem dX5_copyFrom_109 : decode cX5_copyFrom 109 = .ok (.sipush 316, 3) := by decide +kernel
theorem dX5_copyFrom_112 : decode cX5_copyFrom 112 = .ok (.invokestatic 63, 3) := by decide +kernel
theorem dX5_copyFrom_115 : decode cX5_copyFrom 115 = .ok (.return_, 1) := by decide +kernel
theorem dX5_sideOf_0 : decode cX5_sideOf 0 = .ok (.iload_n 1, 1) := by decide +kernel
theorem dX5_sideOf_1 : decode cX5_sideOf 1 = .ok (.ifCond .ne 10, 3) := by decide +kernel
theorem dX5_sideOf_4 : decode cX5_sideOf 4 = .ok (.aload_n 0, 1) := by decide +kernel
theorem dX5_sideOf_5 : decode cX5_sideOf 5 = .ok (.getfield 18, 3) := by decide +kernel
theorem dX5_sideOf_8 : decode cX5_sideOf 8 = .ok (.goto 7, 3) := by decide +kernel
theorem dX5_sideOf_11 : decode cX5_sideOf 11 = .ok (.aload_n 0, 1) := by decide +kernel
theorem dX5_sideOf_12 : decode cX5_sideOf 12 = .ok (.getfield 21, 3) := by decide +kernel
theorem dX5_sideOf_15 : decode cX5_sideOf 15 = .ok (.areturn, 1) := by decide +kernel
theorem dX5_putDemand_0 : decode cX5_putDemand 0 = .ok (.aload_n 0, 1) := by decide +kernel
theorem dX5_putDemand_1 : decode cX5_putDemand 1 = .ok (.getfield 46, 3) := by decide +kernel
theorem dX5_putDemand_4 : decode cX5_putDemand 4 = .ok (.iconst 4, 1) := by decide +kernel
theorem dX5_putDemand_5 : decode cX5_putDemand 5 = .ok (.if_icmp .ge 43, 3) := by decide +kernel
theorem dX5_putDemand_8 : decode cX5_putDemand 8 = .ok (.aload_n 0, 1) := by decide +kernel
theorem dX5_putDemand_9 : decode cX5_putDemand 9 = .ok (.getfield 24, 3) := by decide +kernel
theorem dX5_putDemand_12 : decode cX5_putDemand 12 = .ok (.aload_n 0, 1) := by decide +kernel
theorem dX5_putDemand_13 : decode cX5_putDemand 13 = .ok (.getfield 46, 3) := by decide +kernel
theorem dX5_putDemand_16 : decode cX5_putDemand 16 = .ok (.iload_n 1, 1) := by decide +kernel
theorem dX5_putDemand_17 : decode cX5_putDemand 17 = .ok (.iastore, 1) := by decide +kernel
theorem dX5_putDemand_18 : decode cX5_putDemand 18 = .ok (.aload_n 0, 1) := by decide +kernel
theorem dX5_putDemand_19 : decode cX5_putDemand 19 = .ok (.getfield 28, 3) := by decide +kernel
theorem dX5_putDemand_22 : decode cX5_putDemand 22 = .ok (.aload_n 0, 1) := by decide +kernel
theorem dX5_putDemand_23 : decode cX5_putDemand 23 = .ok (.getfield 46, 3) := by decide +kernel
theorem dX5_putDemand_26 : decode cX5_putDemand 26 = .ok (.iload_n 2, 1) := by decide +kernel
theorem dX5_putDemand_27 : decode cX5_putDemand 27 = .ok (.iastore, 1) := by decide +kernel
theorem dX5_putDemand_28 : decode cX5_putDemand 28 = .ok (.aload_n 0, 1) := by decide +kernel
theorem dX5_putDemand_29 : decode cX5_putDemand 29 = .ok (.getfield 31, 3) := by decide +kernel
theorem dX5_putDemand_32 : decode cX5_putDemand 32 = .ok (.aload_n 0, 1) := by decide +kernel
theorem dX5_putDemand_33 : decode cX5_putDemand 33 = .ok (.getfield 46, 3) := by decide +kernel
theorem dX5_putDemand_36 : decode cX5_putDemand 36 = .ok (.iload_n 3, 1) := by decide +kernel
theorem dX5_putDemand_37 : decode cX5_putDemand 37 = .ok (.iastore, 1) := by decide +kernel
theorem dX5_putDemand_38 : decode cX5_putDemand 38 = .ok (.aload_n 0, 1) := by decide +kernel
theorem dX5_putDemand_39 : decode cX5_putDemand 39 = .ok (.dup, 1) := by decide +kernel
theorem dX5_putDemand_40 : decode cX5_putDemand 40 = .ok (.getfield 46, 3) := by decide +kernel
theorem dX5_putDemand_43 : decode cX5_putDemand 43 = .ok (.iconst 1, 1) := by decide +kernel
theorem dX5_putDemand_44 : decode cX5_putDemand 44 = .ok (.iadd, 1) := by decide +kernel
theorem dX5_putDemand_45 : decode cX5_putDemand 45 = .ok (.putfield 46, 3) := by decide +kernel
theorem dX5_putDemand_48 : decode cX5_putDemand 48 = .ok (.return_, 1) := by decide +kernel
theorem dX5_baseCast_0 : decode cX5_baseCast 0 = .ok (.aload_n 0, 1) := by decide +kernel
theorem dX5_baseCast_1 : decode cX5_baseCast 1 = .ok (.iload_n 1, 1) := by decide +kernel
theorem dX5_baseCast_2 : decode cX5_baseCast 2 = .ok (.invokevirtual 69, 3) := by decide +kernel
theorem dX5_baseCast_5 : decode cX5_baseCast 5 = .ok (.astore 4, 2) := by decide +kernel
theorem dX5_baseCast_7 : decode cX5_baseCast 7 = .ok (.aload_n 0, 1) := by decide +kernel
theorem dX5_baseCast_8 : decode cX5_baseCast 8 = .ok (.getfield 12, 3) := by decide +kernel
theorem dX5_baseCast_11 : decode cX5_baseCast 11 = .ok (.iload_n 2, 1) := by decide +kernel
theorem dX5_baseCast_12 : decode cX5_baseCast 12 = .ok (.iload_n 3, 1) := by decide +kernel
theorem dX5_baseCast_13 : decode cX5_baseCast 13 = .ok (.invokevirtual 73, 3) := by decide +kernel
theorem dX5_baseCast_16 : decode cX5_baseCast 16 = .ok (.istore 5, 2) := by decide +kernel
theorem dX5_baseCast_18 : decode cX5_baseCast 18 = .ok (.aload 4, 2) := by decide +kernel
theorem dX5_baseCast_20 : decode cX5_baseCast 20 = .ok (.iload_n 3, 1) := by decide +kernel
theorem dX5_baseCast_21 : decode cX5_baseCast 21 = .ok (.invokevirtual 77, 3) := by decide +kernel
theorem dX5_baseCast_24 : decode cX5_baseCast 24 = .ok (.ifCond .eq 18, 3) := by decide +kernel
theorem dX5_baseCast_27 : decode cX5_baseCast 27 = .ok (.iload 5, 2) := by decide +kernel
theorem dX5_baseCast_29 : decode cX5_baseCast 29 = .ok (.aload 4, 2) := by decide +kernel
theorem dX5_baseCast_31 : decode cX5_baseCast 31 = .ok (.getfield 81, 3) := by decide +kernel
theorem dX5_baseCast_34 : decode cX5_baseCast 34 = .ok (.iload_n 3, 1) := by decide +kernel
theorem dX5_baseCast_35 : decode cX5_baseCast 35 = .ok (.iaload, 1) := by decide +kernel
theorem dX5_baseCast_36 : decode cX5_baseCast 36 = .ok (.invokestatic 84, 3) := by decide +kernel
theorem dX5_baseCast_39 : decode cX5_baseCast 39 = .ok (.goto 5, 3) := by decide +kernel
theorem dX5_baseCast_42 : decode cX5_baseCast 42 = .ok (.iload 5, 2) := by decide +kernel
theorem dX5_baseCast_44 : decode cX5_baseCast 44 = .ok (.ireturn, 1) := by decide +kernel
theorem dX5_isChanged_0 : decode cX5_isChanged 0 = .ok (.aload_n 0, 1) := by decide +kernel
theorem dX5_isChanged_1 : decode cX5_isChanged 1 = .ok (.iload_n 1, 1) := by decide +kernel
theorem dX5_isChanged_2 : decode cX5_isChanged 2 = .ok (.invokevirtual 69, 3) := by decide +kernel
theorem dX5_isChanged_5 : decode cX5_isChanged 5 = .ok (.astore 4, 2) := by decide +kernel
theorem dX5_isChanged_7 : decode cX5_isChanged 7 = .ok (.aload 4, 2) := by decide +kernel
theorem dX5_isChanged_9 : decode cX5_isChanged 9 = .ok (.iload_n 2, 1) := by decide +kernel
theorem dX5_isChanged_10 : decode cX5_isChanged 10 = .ok (.iload_n 3, 1) := by decide +kernel
theorem dX5_isChanged_11 : decode cX5_isChanged 11 = .ok (.invokevirtual 89, 3) := by decide +kernel
theorem dX5_isChanged_14 : decode cX5_isChanged 14 = .ok (.ifCond .ne 5, 3) := by decide +kernel
theorem dX5_isChanged_17 : decode cX5_isChanged 17 = .ok (.iconst 0, 1) := by decide +kernel
theorem dX5_isChanged_18 : decode cX5_isChanged 18 = .ok (.ireturn, 1) := by decide +kernel
theorem dX5_isChanged_19 : decode cX5_isChanged 19 = .ok (.aload 4, 2) := by decide +kernel
theorem dX5_isChanged_21 : decode cX5_isChanged 21 = .ok (.iload_n 2, 1) := by decide +kernel
theorem dX5_isChanged_22 : decode cX5_isChanged 22 = .ok (.iload_n 3, 1) := by decide +kernel
theorem dX5_isChanged_23 : decode cX5_isChanged 23 = .ok (.invokevirtual 73, 3) := by decide +kernel
theorem dX5_isChanged_26 : decode cX5_isChanged 26 = .ok (.aload_n 0, 1) := by decide +kernel
theorem dX5_isChanged_27 : decode cX5_isChanged 27 = .ok (.getfield 12, 3) := by decide +kernel
theorem dX5_isChanged_30 : decode cX5_isChanged 30 = .ok (.iload_n 2, 1) := by decide +kernel
theorem dX5_isChanged_31 : decode cX5_isChanged 31 = .ok (.iload_n 3, 1) := by decide +kernel
theorem dX5_isChanged_32 : decode cX5_isChanged 32 = .ok (.invokevirtual 73, 3) := by decide +kernel
theorem dX5_isChanged_35 : decode cX5_isChanged 35 = .ok (.aload 4, 2) := by decide +kernel
theorem dX5_isChanged_37 : decode cX5_isChanged 37 = .ok (.getfield 81, 3) := by decide +kernel
theorem dX5_isChanged_40 : decode cX5_isChanged 40 = .ok (.iload_n 3, 1) := by decide +kernel
theorem dX5_isChanged_41 : decode cX5_isChanged 41 = .ok (.iaload, 1) := by decide +kernel
theorem dX5_isChanged_42 : decode cX5_isChanged 42 = .ok (.invokestatic 84, 3) := by decide +kernel
theorem dX5_isChanged_45 : decode cX5_isChanged 45 = .ok (.if_icmp .eq 7, 3) := by decide +kernel
theorem dX5_isChanged_48 : decode cX5_isChanged 48 = .ok (.iconst 1, 1) := by decide +kernel
theorem dX5_isChanged_49 : decode cX5_isChanged 49 = .ok (.goto 4, 3) := by decide +kernel
theorem dX5_isChanged_52 : decode cX5_isChanged 52 = .ok (.iconst 0, 1) := by decide +kernel
theorem dX5_isChanged_53 : decode cX5_isChanged 53 = .ok (.ireturn, 1) := by decide +kernel
theorem dX5_isColumnChanged_0 : decode cX5_isColumnChanged 0 = .ok (.iconst 0, 1) := by decide +kernel
theorem dX5_isColumnChanged_1 : decode cX5_isColumnChanged 1 = .ok (.istore_n 3, 1) := by decide +kernel
theorem dX5_isColumnChanged_2 : decode cX5_isColumnChanged 2 = .ok (.iload_n 3, 1) := by decide +kernel
theorem dX5_isColumnChanged_3 : decode cX5_isColumnChanged 3 = .ok (.bipush 20, 2) := by decide +kernel
theorem dX5_isColumnChanged_5 : decode cX5_isColumnChanged 5 = .ok (.if_icmp .ge 21, 3) := by decide +kernel
theorem dX5_isColumnChanged_8 : decode cX5_isColumnChanged 8 = .ok (.aload_n 0, 1) := by decide +kernel
theorem dX5_isColumnChanged_9 : decode cX5_isColumnChanged 9 = .ok (.iload_n 1, 1) := by decide +kernel
theorem dX5_isColumnChanged_10 : decode cX5_isColumnChanged 10 = .ok (.iload_n 3, 1) := by decide +kernel
theorem dX5_isColumnChanged_11 : decode cX5_isColumnChanged 11 = .ok (.iload_n 2, 1) := by decide +kernel
theorem dX5_isColumnChanged_12 : decode cX5_isColumnChanged 12 = .ok (.invokevirtual 93, 3) := by decide +kernel
theorem dX5_isColumnChanged_15 : decode cX5_isColumnChanged 15 = .ok (.ifCond .eq 5, 3) := by decide +kernel
theorem dX5_isColumnChanged_18 : decode cX5_isColumnChanged 18 = .ok (.iconst 1, 1) := by decide +kernel
theorem dX5_isColumnChanged_19 : decode cX5_isColumnChanged 19 = .ok (.ireturn, 1) := by decide +kernel
theorem dX5_isColumnChanged_20 : decode cX5_isColumnChanged 20 = .ok (.iinc 3 1, 3) := by decide +kernel
theorem dX5_isColumnChanged_23 : decode cX5_isColumnChanged 23 = .ok (.goto (-21), 3) := by decide +kernel
theorem dX5_isColumnChanged_26 : decode cX5_isColumnChanged 26 = .ok (.iconst 0, 1) := by decide +kernel
theorem dX5_isColumnChanged_27 : decode cX5_isColumnChanged 27 = .ok (.ireturn, 1) := by decide +kernel
theorem dX5_isRowChanged_0 : decode cX5_isRowChanged 0 = .ok (.iconst 0, 1) := by decide +kernel
theorem dX5_isRowChanged_1 : decode cX5_isRowChanged 1 = .ok (.istore_n 3, 1) := by decide +kernel
theorem dX5_isRowChanged_2 : decode cX5_isRowChanged 2 = .ok (.iload_n 3, 1) := by decide +kernel
theorem dX5_isRowChanged_3 : decode cX5_isRowChanged 3 = .ok (.bipush 9, 2) := by decide +kernel
theorem dX5_isRowChanged_5 : decode cX5_isRowChanged 5 = .ok (.if_icmp .ge 21, 3) := by decide +kernel
theorem dX5_isRowChanged_8 : decode cX5_isRowChanged 8 = .ok (.aload_n 0, 1) := by decide +kernel
theorem dX5_isRowChanged_9 : decode cX5_isRowChanged 9 = .ok (.iload_n 1, 1) := by decide +kernel
theorem dX5_isRowChanged_10 : decode cX5_isRowChanged 10 = .ok (.iload_n 2, 1) := by decide +kernel
theorem dX5_isRowChanged_11 : decode cX5_isRowChanged 11 = .ok (.iload_n 3, 1) := by decide +kernel
theorem dX5_isRowChanged_12 : decode cX5_isRowChanged 12 = .ok (.invokevirtual 93, 3) := by decide +kernel
theorem dX5_isRowChanged_15 : decode cX5_isRowChanged 15 = .ok (.ifCond .eq 5, 3) := by decide +kernel
theorem dX5_isRowChanged_18 : decode cX5_isRowChanged 18 = .ok (.iconst 1, 1) := by decide +kernel
theorem dX5_isRowChanged_19 : decode cX5_isRowChanged 19 = .ok (.ireturn, 1) := by decide +kernel
theorem dX5_isRowChanged_20 : decode cX5_isRowChanged 20 = .ok (.iinc 3 1, 3) := by decide +kernel
theorem dX5_isRowChanged_23 : decode cX5_isRowChanged 23 = .ok (.goto (-21), 3) := by decide +kernel
theorem dX5_isRowChanged_26 : decode cX5_isRowChanged 26 = .ok (.iconst 0, 1) := by decide +kernel
theorem dX5_isRowChanged_27 : decode cX5_isRowChanged 27 = .ok (.ireturn, 1) := by decide +kernel
theorem dX5_countChanged_0 : decode cX5_countChanged 0 = .ok (.iconst 0, 1) := by decide +kernel
theorem dX5_countChanged_1 : decode cX5_countChanged 1 = .ok (.istore_n 2, 1) := by decide +kernel
theorem dX5_countChanged_2 : decode cX5_countChanged 2 = .ok (.iconst 0, 1) := by decide +kernel
theorem dX5_countChanged_3 : decode cX5_countChanged 3 = .ok (.istore_n 3, 1) := by decide +kernel
theorem dX5_countChanged_4 : decode cX5_countChanged 4 = .ok (.iload_n 3, 1) := by decide +kernel
theorem dX5_countChanged_5 : decode cX5_countChanged 5 = .ok (.bipush 20, 2) := by decide +kernel
theorem dX5_countChanged_7 : decode cX5_countChanged 7 = .ok (.if_icmp .ge 52, 3) := by decide +kernel
theorem dX5_countChanged_10 : decode cX5_countChanged 10 = .ok (.iconst 0, 1) := by decide +kernel
theorem dX5_countChanged_11 : decode cX5_countChanged 11 = .ok (.istore 4, 2) := by decide +kernel
theorem dX5_countChanged_13 : decode cX5_countChanged 13 = .ok (.iload 4, 2) := by decide +kernel
theorem dX5_countChanged_15 : decode cX5_countChanged 15 = .ok (.bipush 9, 2) := by decide +kernel
theorem dX5_countChanged_17 : decode cX5_countChanged 17 = .ok (.if_icmp .ge 36, 3) := by decide +kernel
theorem dX5_countChanged_20 : decode cX5_countChanged 20 = .ok (.aload_n 0, 1) := by decide +kernel
theorem dX5_countChanged_21 : decode cX5_countChanged 21 = .ok (.getfield 12, 3) := by decide +kernel
theorem dX5_countChanged_24 : decode cX5_countChanged 24 = .ok (.iload_n 3, 1) := by decide +kernel
theorem dX5_countChanged_25 : decode cX5_countChanged 25 = .ok (.iload 4, 2) := by decide +kernel
theorem dX5_countChanged_27 : decode cX5_countChanged 27 = .ok (.invokevirtual 89, 3) := by decide +kernel
theorem dX5_countChanged_30 : decode cX5_countChanged 30 = .ok (.ifCond .eq 17, 3) := by decide +kernel
theorem dX5_countChanged_33 : decode cX5_countChanged 33 = .ok (.aload_n 0, 1) := by decide +kernel
theorem dX5_countChanged_34 : decode cX5_countChanged 34 = .ok (.iload_n 1, 1) := by decide +kernel
theorem dX5_countChanged_35 : decode cX5_countChanged 35 = .ok (.iload_n 3, 1) := by decide +kernel
theorem dX5_countChanged_36 : decode cX5_countChanged 36 = .ok (.iload 4, 2) := by decide +kernel
theorem dX5_countChanged_38 : decode cX5_countChanged 38 = .ok (.invokevirtual 93, 3) := by decide +kernel
theorem dX5_countChanged_41 : decode cX5_countChanged 41 = .ok (.ifCond .eq 6, 3) := by decide +kernel
theorem dX5_countChanged_44 : decode cX5_countChanged 44 = .ok (.iinc 2 1, 3) := by decide +kernel
theorem dX5_countChanged_47 : decode cX5_countChanged 47 = .ok (.iinc 4 1, 3) := by decide +kernel
theorem dX5_countChanged_50 : decode cX5_countChanged 50 = .ok (.goto (-37), 3) := by decide +kernel
theorem dX5_countChanged_53 : decode cX5_countChanged 53 = .ok (.iinc 3 1, 3) := by decide +kernel
theorem dX5_countChanged_56 : decode cX5_countChanged 56 = .ok (.goto (-52), 3) := by decide +kernel
theorem dX5_countChanged_59 : decode cX5_countChanged 59 = .ok (.iload_n 2, 1) := by decide +kernel
theorem dX5_countChanged_60 : decode cX5_countChanged 60 = .ok (.ireturn, 1) := by decide +kernel
theorem dX5_countChoices_0 : decode cX5_countChoices 0 = .ok (.iconst 0, 1) := by decide +kernel
theorem dX5_countChoices_1 : decode cX5_countChoices 1 = .ok (.istore_n 1, 1) := by decide +kernel
theorem dX5_countChoices_2 : decode cX5_countChoices 2 = .ok (.iconst 0, 1) := by decide +kernel
theorem dX5_countChoices_3 : decode cX5_countChoices 3 = .ok (.istore_n 2, 1) := by decide +kernel
theorem dX5_countChoices_4 : decode cX5_countChoices 4 = .ok (.iload_n 2, 1) := by decide +kernel
theorem dX5_countChoices_5 : decode cX5_countChoices 5 = .ok (.sipush 316, 3) := by decide +kernel
theorem dX5_countChoices_8 : decode cX5_countChoices 8 = .ok (.if_icmp .ge 22, 3) := by decide +kernel
theorem dX5_countChoices_11 : decode cX5_countChoices 11 = .ok (.aload_n 0, 1) := by decide +kernel
theorem dX5_countChoices_12 : decode cX5_countChoices 12 = .ok (.getfield 34, 3) := by decide +kernel
theorem dX5_countChoices_15 : decode cX5_countChoices 15 = .ok (.iload_n 2, 1) := by decide +kernel
theorem dX5_countChoices_16 : decode cX5_countChoices 16 = .ok (.iaload, 1) := by decide +kernel
theorem dX5_countChoices_17 : decode cX5_countChoices 17 = .ok (.iconst (-1), 1) := by decide +kernel
theorem dX5_countChoices_18 : decode cX5_countChoices 18 = .ok (.if_icmp .eq 6, 3) := by decide +kernel
theorem dX5_countChoices_21 : decode cX5_countChoices 21 = .ok (.iinc 1 1, 3) := by decide +kernel
theorem dX5_countChoices_24 : decode cX5_countChoices 24 = .ok (.iinc 2 1, 3) := by decide +kernel
theorem dX5_countChoices_27 : decode cX5_countChoices 27 = .ok (.goto (-23), 3) := by decide +kernel
theorem dX5_countChoices_30 : decode cX5_countChoices 30 = .ok (.iload_n 1, 1) := by decide +kernel
theorem dX5_countChoices_31 : decode cX5_countChoices 31 = .ok (.ireturn, 1) := by decide +kernel
theorem dX5_doEdit_0 : decode cX5_doEdit 0 = .ok (.aload_n 0, 1) := by decide +kernel
theorem dX5_doEdit_1 : decode cX5_doEdit 1 = .ok (.iload_n 2, 1) := by decide +kernel
theorem dX5_doEdit_2 : decode cX5_doEdit 2 = .ok (.invokevirtual 69, 3) := by decide +kernel
theorem dX5_doEdit_5 : decode cX5_doEdit 5 = .ok (.astore 6, 2) := by decide +kernel
theorem dX5_doEdit_7 : decode cX5_doEdit 7 = .ok (.iload_n 1, 1) := by decide +kernel
theorem dX5_doEdit_8 : decode cX5_doEdit 8 = .ok (.tableswitch 157 0 6 #[44, 64, 80, 96, 114, 132, 141], 44) := by decide +kernel
theorem dX5_doEdit_52 : decode cX5_doEdit 52 = .ok (.aload_n 0, 1) := by decide +kernel
theorem dX5_doEdit_53 : decode cX5_doEdit 53 = .ok (.aload 6, 2) := by decide +kernel
theorem dX5_doEdit_55 : decode cX5_doEdit 55 = .ok (.iload_n 3, 1) := by decide +kernel
theorem dX5_doEdit_56 : decode cX5_doEdit 56 = .ok (.iload 4, 2) := by decide +kernel
theorem dX5_doEdit_58 : decode cX5_doEdit 58 = .ok (.iload 5, 2) := by decide +kernel
theorem dX5_doEdit_60 : decode cX5_doEdit 60 = .ok (.invokevirtual 97, 3) := by decide +kernel
theorem dX5_doEdit_63 : decode cX5_doEdit 63 = .ok (.ifCond .eq 7, 3) := by decide +kernel
theorem dX5_doEdit_66 : decode cX5_doEdit 66 = .ok (.iconst 0, 1) := by decide +kernel
theorem dX5_doEdit_67 : decode cX5_doEdit 67 = .ok (.goto 4, 3) := by decide +kernel
theorem dX5_doEdit_70 : decode cX5_doEdit 70 = .ok (.iconst (-1), 1) := by decide +kernel
theorem dX5_doEdit_71 : decode cX5_doEdit 71 = .ok (.ireturn, 1) := by decide +kernel
theorem dX5_doEdit_72 : decode cX5_doEdit 72 = .ok (.aload_n 0, 1) := by decide +kernel
theorem dX5_doEdit_73 : decode cX5_doEdit 73 = .ok (.aload 6, 2) := by decide +kernel
theorem dX5_doEdit_75 : decode cX5_doEdit 75 = .ok (.iload_n 3, 1) := by decide +kernel
theorem dX5_doEdit_76 : decode cX5_doEdit 76 = .ok (.invokevirtual 101, 3) := by decide +kernel
theorem dX5_doEdit_79 : decode cX5_doEdit 79 = .ok (.ifCond .eq 7, 3) := by decide +kernel
theorem dX5_doEdit_82 : decode cX5_doEdit 82 = .ok (.iconst 0, 1) := by decide +kernel
theorem dX5_doEdit_83 : decode cX5_doEdit 83 = .ok (.goto 4, 3) := by decide +kernel
theorem dX5_doEdit_86 : decode cX5_doEdit 86 = .ok (.iconst (-1), 1) := by decide +kernel
theorem dX5_doEdit_87 : decode cX5_doEdit 87 = .ok (.ireturn, 1) := by decide +kernel
theorem dX5_doEdit_88 : decode cX5_doEdit 88 = .ok (.aload_n 0, 1) := by decide +kernel
theorem dX5_doEdit_89 : decode cX5_doEdit 89 = .ok (.aload 6, 2) := by decide +kernel
theorem dX5_doEdit_91 : decode cX5_doEdit 91 = .ok (.iload_n 3, 1) := by decide +kernel
theorem dX5_doEdit_92 : decode cX5_doEdit 92 = .ok (.invokevirtual 105, 3) := by decide +kernel
theorem dX5_doEdit_95 : decode cX5_doEdit 95 = .ok (.ifCond .eq 7, 3) := by decide +kernel
theorem dX5_doEdit_98 : decode cX5_doEdit 98 = .ok (.iconst 0, 1) := by decide +kernel
theorem dX5_doEdit_99 : decode cX5_doEdit 99 = .ok (.goto 4, 3) := by decide +kernel
theorem dX5_doEdit_102 : decode cX5_doEdit 102 = .ok (.iconst (-1), 1) := by decide +kernel
theorem dX5_doEdit_103 : decode cX5_doEdit 103 = .ok (.ireturn, 1) := by decide +kernel
theorem dX5_doEdit_104 : decode cX5_doEdit 104 = .ok (.aload_n 0, 1) := by decide +kernel
theorem dX5_doEdit_105 : decode cX5_doEdit 105 = .ok (.aload 6, 2) := by decide +kernel
theorem dX5_doEdit_107 : decode cX5_doEdit 107 = .ok (.iload_n 3, 1) := by decide +kernel
theorem dX5_doEdit_108 : decode cX5_doEdit 108 = .ok (.iload 4, 2) := by decide +kernel
theorem dX5_doEdit_110 : decode cX5_doEdit 110 = .ok (.invokevirtual 108, 3) := by decide +kernel
theorem dX5_doEdit_113 : decode cX5_doEdit 113 = .ok (.ifCond .eq 7, 3) := by decide +kernel
theorem dX5_doEdit_116 : decode cX5_doEdit 116 = .ok (.iconst 0, 1) := by decide +kernel
theorem dX5_doEdit_117 : decode cX5_doEdit 117 = .ok (.goto 4, 3) := by decide +kernel
theorem dX5_doEdit_120 : decode cX5_doEdit 120 = .ok (.iconst (-1), 1) := by decide +kernel
theorem dX5_doEdit_121 : decode cX5_doEdit 121 = .ok (.ireturn, 1) := by decide +kernel
theorem dX5_doEdit_122 : decode cX5_doEdit 122 = .ok (.aload_n 0, 1) := by decide +kernel
theorem dX5_doEdit_123 : decode cX5_doEdit 123 = .ok (.aload 6, 2) := by decide +kernel
theorem dX5_doEdit_125 : decode cX5_doEdit 125 = .ok (.iload_n 3, 1) := by decide +kernel
theorem dX5_doEdit_126 : decode cX5_doEdit 126 = .ok (.iload 4, 2) := by decide +kernel
theorem dX5_doEdit_128 : decode cX5_doEdit 128 = .ok (.invokevirtual 112, 3) := by decide +kernel
theorem dX5_doEdit_131 : decode cX5_doEdit 131 = .ok (.ifCond .eq 7, 3) := by decide +kernel
theorem dX5_doEdit_134 : decode cX5_doEdit 134 = .ok (.iconst 0, 1) := by decide +kernel
theorem dX5_doEdit_135 : decode cX5_doEdit 135 = .ok (.goto 4, 3) := by decide +kernel
theorem dX5_doEdit_138 : decode cX5_doEdit 138 = .ok (.iconst (-1), 1) := by decide +kernel
theorem dX5_doEdit_139 : decode cX5_doEdit 139 = .ok (.ireturn, 1) := by decide +kernel
theorem dX5_doEdit_140 : decode cX5_doEdit 140 = .ok (.aload_n 0, 1) := by decide +kernel
theorem dX5_doEdit_141 : decode cX5_doEdit 141 = .ok (.iload_n 2, 1) := by decide +kernel
theorem dX5_doEdit_142 : decode cX5_doEdit 142 = .ok (.iload_n 3, 1) := by decide +kernel
theorem dX5_doEdit_143 : decode cX5_doEdit 143 = .ok (.iload 4, 2) := by decide +kernel
theorem dX5_doEdit_145 : decode cX5_doEdit 145 = .ok (.invokevirtual 115, 3) := by decide +kernel
theorem dX5_doEdit_148 : decode cX5_doEdit 148 = .ok (.ireturn, 1) := by decide +kernel
theorem dX5_doEdit_149 : decode cX5_doEdit 149 = .ok (.aload_n 0, 1) := by decide +kernel
theorem dX5_doEdit_150 : decode cX5_doEdit 150 = .ok (.aload 6, 2) := by decide +kernel
theorem dX5_doEdit_152 : decode cX5_doEdit 152 = .ok (.iload_n 3, 1) := by decide +kernel
theorem dX5_doEdit_153 : decode cX5_doEdit 153 = .ok (.invokevirtual 119, 3) := by decide +kernel
theorem dX5_doEdit_156 : decode cX5_doEdit 156 = .ok (.ifCond .eq 7, 3) := by decide +kernel
theorem dX5_doEdit_159 : decode cX5_doEdit 159 = .ok (.iconst 0, 1) := by decide +kernel
theorem dX5_doEdit_160 : decode cX5_doEdit 160 = .ok (.goto 4, 3) := by decide +kernel
theorem dX5_doEdit_163 : decode cX5_doEdit 163 = .ok (.iconst (-1), 1) := by decide +kernel
theorem dX5_doEdit_164 : decode cX5_doEdit 164 = .ok (.ireturn, 1) := by decide +kernel
theorem dX5_doEdit_165 : decode cX5_doEdit 165 = .ok (.iconst (-1), 1) := by decide +kernel
theorem dX5_doEdit_166 : decode cX5_doEdit 166 = .ok (.ireturn, 1) := by decide +kernel
theorem dX5_setNumber_0 : decode cX5_setNumber 0 = .ok (.aload_n 1, 1) := by decide +kernel
theorem dX5_setNumber_1 : decode cX5_setNumber 1 = .ok (.iload_n 2, 1) := by decide +kernel
theorem dX5_setNumber_2 : decode cX5_setNumber 2 = .ok (.iload_n 3, 1) := by decide +kernel
theorem dX5_setNumber_3 : decode cX5_setNumber 3 = .ok (.invokevirtual 89, 3) := by decide +kernel
theorem dX5_setNumber_6 : decode cX5_setNumber 6 = .ok (.ifCond .eq 28, 3) := by decide +kernel
theorem dX5_setNumber_9 : decode cX5_setNumber 9 = .ok (.aload_n 1, 1) := by decide +kernel
theorem dX5_setNumber_10 : decode cX5_setNumber 10 = .ok (.iload_n 2, 1) := by decide +kernel
theorem dX5_setNumber_11 : decode cX5_setNumber 11 = .ok (.iload_n 3, 1) := by decide +kernel
theorem dX5_setNumber_12 : decode cX5_setNumber 12 = .ok (.invokevirtual 73, 3) := by decide +kernel
theorem dX5_setNumber_15 : decode cX5_setNumber 15 = .ok (.iload 4, 2) := by decide +kernel
theorem dX5_setNumber_17 : decode cX5_setNumber 17 = .ok (.if_icmp .eq 17, 3) := by decide +kernel
theorem dX5_setNumber_20 : decode cX5_setNumber 20 = .ok (.aload_n 1, 1) := by decide +kernel
theorem dX5_setNumber_21 : decode cX5_setNumber 21 = .ok (.getfield 81, 3) := by decide +kernel
theorem dX5_setNumber_24 : decode cX5_setNumber 24 = .ok (.iload_n 3, 1) := by decide +kernel
theorem dX5_setNumber_25 : decode cX5_setNumber 25 = .ok (.iaload, 1) := by decide +kernel
theorem dX5_setNumber_26 : decode cX5_setNumber 26 = .ok (.iload 4, 2) := by decide +kernel
theorem dX5_setNumber_28 : decode cX5_setNumber 28 = .ok (.invokestatic 122, 3) := by decide +kernel
theorem dX5_setNumber_31 : decode cX5_setNumber 31 = .ok (.ifCond .ne 5, 3) := by decide +kernel
theorem dX5_setNumber_34 : decode cX5_setNumber 34 = .ok (.iconst 0, 1) := by decide +kernel
theorem dX5_setNumber_35 : decode cX5_setNumber 35 = .ok (.ireturn, 1) := by decide +kernel
theorem dX5_setNumber_36 : decode cX5_setNumber 36 = .ok (.aload_n 1, 1) := by decide +kernel
theorem dX5_setNumber_37 : decode cX5_setNumber 37 = .ok (.iload_n 2, 1) := by decide +kernel
theorem dX5_setNumber_38 : decode cX5_setNumber 38 = .ok (.iload_n 3, 1) := by decide +kernel
theorem dX5_setNumber_39 : decode cX5_setNumber 39 = .ok (.iload 4, 2) := by decide +kernel
theorem dX5_setNumber_41 : decode cX5_setNumber 41 = .ok (.invokevirtual 125, 3) := by decide +kernel
theorem dX5_setNumber_44 : decode cX5_setNumber 44 = .ok (.iconst 1, 1) := by decide +kernel
theorem dX5_setNumber_45 : decode cX5_setNumber 45 = .ok (.ireturn, 1) := by decide +kernel
theorem dX5_insertRow_0 : decode cX5_insertRow 0 = .ok (.iload_n 2, 1) := by decide +kernel
theorem dX5_insertRow_1 : decode cX5_insertRow 1 = .ok (.ifCond .lt 29, 3) := by decide +kernel
theorem dX5_insertRow_4 : decode cX5_insertRow 4 = .ok (.iload_n 2, 1) := by decide +kernel
theorem dX5_insertRow_5 : decode cX5_insertRow 5 = .ok (.bipush 20, 2) := by decide +kernel
theorem dX5_insertRow_7 : decode cX5_insertRow 7 = .ok (.if_icmp .ge 23, 3) := by decide +kernel
theorem dX5_insertRow_10 : decode cX5_insertRow 10 = .ok (.aload_n 1, 1) := by decide +kernel
theorem dX5_insertRow_11 : decode cX5_insertRow 11 = .ok (.iload_n 2, 1) := by decide +kernel
theorem dX5_insertRow_12 : decode cX5_insertRow 12 = .ok (.invokevirtual 129, 3) := by decide +kernel
theorem dX5_insertRow_15 : decode cX5_insertRow 15 = .ok (.ifCond .ne 15, 3) := by decide +kernel
theorem dX5_insertRow_18 : decode cX5_insertRow 18 = .ok (.aload_n 1, 1) := by decide +kernel
theorem dX5_insertRow_19 : decode cX5_insertRow 19 = .ok (.getfield 132, 3) := by decide +kernel
theorem dX5_insertRow_22 : decode cX5_insertRow 22 = .ok (.invokestatic 135, 3) := by decide +kernel
theorem dX5_insertRow_25 : decode cX5_insertRow 25 = .ok (.bipush 12, 2) := by decide +kernel
theorem dX5_insertRow_27 : decode cX5_insertRow 27 = .ok (.if_icmp .lt 5, 3) := by decide +kernel
theorem dX5_insertRow_30 : decode cX5_insertRow 30 = .ok (.iconst 0, 1) := by decide +kernel
theorem dX5_insertRow_31 : decode cX5_insertRow 31 = .ok (.ireturn, 1) := by decide +kernel
theorem dX5_insertRow_32 : decode cX5_insertRow 32 = .ok (.aload_n 1, 1) := by decide +kernel
theorem dX5_insertRow_33 : decode cX5_insertRow 33 = .ok (.iload_n 2, 1) := by decide +kernel
theorem dX5_insertRow_34 : decode cX5_insertRow 34 = .ok (.invokevirtual 141, 3) := by decide +kernel
theorem dX5_insertRow_37 : decode cX5_insertRow 37 = .ok (.iconst 1, 1) := by decide +kernel
theorem dX5_insertRow_38 : decode cX5_insertRow 38 = .ok (.ireturn, 1) := by decide +kernel
theorem dX5_deleteRow_0 : decode cX5_deleteRow 0 = .ok (.aload_n 1, 1) := by decide +kernel
theorem dX5_deleteRow_1 : decode cX5_deleteRow 1 = .ok (.iload_n 2, 1) := by decide +kernel
theorem dX5_deleteRow_2 : decode cX5_deleteRow 2 = .ok (.invokevirtual 129, 3) := by decide +kernel
theorem dX5_deleteRow_5 : decode cX5_deleteRow 5 = .ok (.ifCond .ne 5, 3) := by decide +kernel
theorem dX5_deleteRow_8 : decode cX5_deleteRow 8 = .ok (.iconst 0, 1) := by decide +kernel
theorem dX5_deleteRow_9 : decode cX5_deleteRow 9 = .ok (.ireturn, 1) := by decide +kernel
theorem dX5_deleteRow_10 : decode cX5_deleteRow 10 = .ok (.aload_n 1, 1) := by decide +kernel
theorem dX5_deleteRow_11 : decode cX5_deleteRow 11 = .ok (.iload_n 2, 1) := by decide +kernel
theorem dX5_deleteRow_12 : decode cX5_deleteRow 12 = .ok (.invokevirtual 145, 3) := by decide +kernel
theorem dX5_deleteRow_15 : decode cX5_deleteRow 15 = .ok (.iconst 1, 1) := by decide +kernel
theorem dX5_deleteRow_16 : decode cX5_deleteRow 16 = .ok (.ireturn, 1) := by decide +kernel
theorem dX5_renameColumn_0 : decode cX5_renameColumn 0 = .ok (.aload_n 1, 1) := by decide +kernel
theorem dX5_renameColumn_1 : decode cX5_renameColumn 1 = .ok (.iload_n 2, 1) := by decide +kernel
theorem dX5_renameColumn_2 : decode cX5_renameColumn 2 = .ok (.invokevirtual 77, 3) := by decide +kernel
theorem dX5_renameColumn_5 : decode cX5_renameColumn 5 = .ok (.ifCond .eq 21, 3) := by decide +kernel
theorem dX5_renameColumn_8 : decode cX5_renameColumn 8 = .ok (.iload_n 3, 1) := by decide +kernel
theorem dX5_renameColumn_9 : decode cX5_renameColumn 9 = .ok (.ifCond .lt 17, 3) := by decide +kernel
theorem dX5_renameColumn_12 : decode cX5_renameColumn 12 = .ok (.iload_n 3, 1) := by decide +kernel
theorem dX5_renameColumn_13 : decode cX5_renameColumn 13 = .ok (.bipush 26, 2) := by decide +kernel
theorem dX5_renameColumn_15 : decode cX5_renameColumn 15 = .ok (.if_icmp .ge 11, 3) := by decide +kernel
theorem dX5_renameColumn_18 : decode cX5_renameColumn 18 = .ok (.aload_n 1, 1) := by decide +kernel
theorem dX5_renameColumn_19 : decode cX5_renameColumn 19 = .ok (.iload_n 3, 1) := by decide +kernel
theorem dX5_renameColumn_20 : decode cX5_renameColumn 20 = .ok (.invokevirtual 148, 3) := by decide +kernel
theorem dX5_renameColumn_23 : decode cX5_renameColumn 23 = .ok (.ifCond .eq 5, 3) := by decide +kernel
theorem dX5_renameColumn_26 : decode cX5_renameColumn 26 = .ok (.iconst 0, 1) := by decide +kernel
theorem dX5_renameColumn_27 : decode cX5_renameColumn 27 = .ok (.ireturn, 1) := by decide +kernel
theorem dX5_renameColumn_28 : decode cX5_renameColumn 28 = .ok (.aload_n 1, 1) := by decide +kernel
theorem dX5_renameColumn_29 : decode cX5_renameColumn 29 = .ok (.getfield 151, 3) := by decide +kernel
theorem dX5_renameColumn_32 : decode cX5_renameColumn 32 = .ok (.iload_n 2, 1) := by decide +kernel
theorem dX5_renameColumn_33 : decode cX5_renameColumn 33 = .ok (.iload_n 3, 1) := by decide +kernel
theorem dX5_renameColumn_34 : decode cX5_renameColumn 34 = .ok (.iastore, 1) := by decide +kernel
theorem dX5_renameColumn_35 : decode cX5_renameColumn 35 = .ok (.iconst 1, 1) := by decide +kernel
theorem dX5_renameColumn_36 : decode cX5_renameColumn 36 = .ok (.ireturn, 1) := by decide +kernel
theorem dX5_retypeColumn_0 : decode cX5_retypeColumn 0 = .ok (.aload_n 1, 1) := by decide +kernel
theorem dX5_retypeColumn_1 : decode cX5_retypeColumn 1 = .ok (.iload_n 2, 1) := by decide +kernel
theorem dX5_retypeColumn_2 : decode cX5_retypeColumn 2 = .ok (.invokevirtual 77, 3) := by decide +kernel
theorem dX5_retypeColumn_5 : decode cX5_retypeColumn 5 = .ok (.ifCond .eq 22, 3) := by decide +kernel
theorem dX5_retypeColumn_8 : decode cX5_retypeColumn 8 = .ok (.iload_n 3, 1) := by decide +kernel
theorem dX5_retypeColumn_9 : decode cX5_retypeColumn 9 = .ok (.ifCond .lt 18, 3) := by decide +kernel
theorem dX5_retypeColumn_12 : decode cX5_retypeColumn 12 = .ok (.iload_n 3, 1) := by decide +kernel
theorem dX5_retypeColumn_13 : decode cX5_retypeColumn 13 = .ok (.iconst 4, 1) := by decide +kernel
theorem dX5_retypeColumn_14 : decode cX5_retypeColumn 14 = .ok (.if_icmp .ge 13, 3) := by decide +kernel
theorem dX5_retypeColumn_17 : decode cX5_retypeColumn 17 = .ok (.aload_n 1, 1) := by decide +kernel
theorem dX5_retypeColumn_18 : decode cX5_retypeColumn 18 = .ok (.getfield 81, 3) := by decide +kernel
theorem dX5_retypeColumn_21 : decode cX5_retypeColumn 21 = .ok (.iload_n 2, 1) := by decide +kernel
theorem dX5_retypeColumn_22 : decode cX5_retypeColumn 22 = .ok (.iaload, 1) := by decide +kernel
theorem dX5_retypeColumn_23 : decode cX5_retypeColumn 23 = .ok (.iload_n 3, 1) := by decide +kernel
theorem dX5_retypeColumn_24 : decode cX5_retypeColumn 24 = .ok (.if_icmp .ne 5, 3) := by decide +kernel
theorem dX5_retypeColumn_27 : decode cX5_retypeColumn 27 = .ok (.iconst 0, 1) := by decide +kernel
theorem dX5_retypeColumn_28 : decode cX5_retypeColumn 28 = .ok (.ireturn, 1) := by decide +kernel
theorem dX5_retypeColumn_29 : decode cX5_retypeColumn 29 = .ok (.aload_n 1, 1) := by decide +kernel
theorem dX5_retypeColumn_30 : decode cX5_retypeColumn 30 = .ok (.getfield 81, 3) := by decide +kernel
theorem dX5_retypeColumn_33 : decode cX5_retypeColumn 33 = .ok (.iload_n 2, 1) := by decide +kernel
theorem dX5_retypeColumn_34 : decode cX5_retypeColumn 34 = .ok (.iload_n 3, 1) := by decide +kernel
theorem dX5_retypeColumn_35 : decode cX5_retypeColumn 35 = .ok (.iastore, 1) := by decide +kernel
theorem dX5_retypeColumn_36 : decode cX5_retypeColumn 36 = .ok (.iconst 0, 1) := by decide +kernel
theorem dX5_retypeColumn_37 : decode cX5_retypeColumn 37 = .ok (.istore 4, 2) := by decide +kernel
theorem dX5_retypeColumn_39 : decode cX5_retypeColumn 39 = .ok (.iload 4, 2) := by decide +kernel
theorem dX5_retypeColumn_41 : decode cX5_retypeColumn 41 = .ok (.bipush 20, 2) := by decide +kernel
theorem dX5_retypeColumn_43 : decode cX5_retypeColumn 43 = .ok (.if_icmp .ge 27, 3) := by decide +kernel
theorem dX5_retypeColumn_46 : decode cX5_retypeColumn 46 = .ok (.aload_n 1, 1) := by decide +kernel
theorem dX5_retypeColumn_47 : decode cX5_retypeColumn 47 = .ok (.iload 4, 2) := by decide +kernel
theorem dX5_retypeColumn_49 : decode cX5_retypeColumn 49 = .ok (.iload_n 2, 1) := by decide +kernel
theorem dX5_retypeColumn_50 : decode cX5_retypeColumn 50 = .ok (.aload_n 1, 1) := by decide +kernel
theorem dX5_retypeColumn_51 : decode cX5_retypeColumn 51 = .ok (.iload 4, 2) := by decide +kernel
theorem dX5_retypeColumn_53 : decode cX5_retypeColumn 53 = .ok (.iload_n 2, 1) := by decide +kernel
theorem dX5_retypeColumn_54 : decode cX5_retypeColumn 54 = .ok (.invokevirtual 73, 3) := by decide +kernel
theorem dX5_retypeColumn_57 : decode cX5_retypeColumn 57 = .ok (.iload_n 3, 1) := by decide +kernel
theorem dX5_retypeColumn_58 : decode cX5_retypeColumn 58 = .ok (.invokestatic 84, 3) := by decide +kernel
theorem dX5_retypeColumn_61 : decode cX5_retypeColumn 61 = .ok (.invokevirtual 125, 3) := by decide +kernel
theorem dX5_retypeColumn_64 : decode cX5_retypeColumn 64 = .ok (.iinc 4 1, 3) := by decide +kernel
theorem dX5_retypeColumn_67 : decode cX5_retypeColumn 67 = .ok (.goto (-28), 3) := by decide +kernel
theorem dX5_retypeColumn_70 : decode cX5_retypeColumn 70 = .ok (.iconst 1, 1) := by decide +kernel
theorem dX5_retypeColumn_71 : decode cX5_retypeColumn 71 = .ok (.ireturn, 1) := by decide +kernel
theorem dX5_addColumn_0 : decode cX5_addColumn 0 = .ok (.aload_n 0, 1) := by decide +kernel
theorem dX5_addColumn_1 : decode cX5_addColumn 1 = .ok (.iload_n 1, 1) := by decide +kernel
theorem dX5_addColumn_2 : decode cX5_addColumn 2 = .ok (.invokevirtual 69, 3) := by decide +kernel
theorem dX5_addColumn_5 : decode cX5_addColumn 5 = .ok (.astore 4, 2) := by decide +kernel
theorem dX5_addColumn_7 : decode cX5_addColumn 7 = .ok (.iload_n 1, 1) := by decide +kernel
theorem dX5_addColumn_8 : decode cX5_addColumn 8 = .ok (.ifCond .ne 10, 3) := by decide +kernel
theorem dX5_addColumn_11 : decode cX5_addColumn 11 = .ok (.aload_n 0, 1) := by decide +kernel
theorem dX5_addColumn_12 : decode cX5_addColumn 12 = .ok (.getfield 57, 3) := by decide +kernel
theorem dX5_addColumn_15 : decode cX5_addColumn 15 = .ok (.goto 7, 3) := by decide +kernel
theorem dX5_addColumn_18 : decode cX5_addColumn 18 = .ok (.aload_n 0, 1) := by decide +kernel
theorem dX5_addColumn_19 : decode cX5_addColumn 19 = .ok (.getfield 60, 3) := by decide +kernel
theorem dX5_addColumn_22 : decode cX5_addColumn 22 = .ok (.istore 5, 2) := by decide +kernel
theorem dX5_addColumn_24 : decode cX5_addColumn 24 = .ok (.iload 5, 2) := by decide +kernel
theorem dX5_addColumn_26 : decode cX5_addColumn 26 = .ok (.iconst 2, 1) := by decide +kernel
theorem dX5_addColumn_27 : decode cX5_addColumn 27 = .ok (.if_icmp .ge 31, 3) := by decide +kernel
theorem dX5_addColumn_30 : decode cX5_addColumn 30 = .ok (.iload_n 2, 1) := by decide +kernel
theorem dX5_addColumn_31 : decode cX5_addColumn 31 = .ok (.ifCond .lt 27, 3) := by decide +kernel
theorem dX5_addColumn_34 : decode cX5_addColumn 34 = .ok (.iload_n 2, 1) := by decide +kernel
theorem dX5_addColumn_35 : decode cX5_addColumn 35 = .ok (.bipush 26, 2) := by decide +kernel
theorem dX5_addColumn_37 : decode cX5_addColumn 37 = .ok (.if_icmp .ge 21, 3) := by decide +kernel
theorem dX5_addColumn_40 : decode cX5_addColumn 40 = .ok (.aload 4, 2) := by decide +kernel
theorem dX5_addColumn_42 : decode cX5_addColumn 42 = .ok (.iload_n 2, 1) := by decide +kernel
theorem dX5_addColumn_43 : decode cX5_addColumn 43 = .ok (.invokevirtual 148, 3) := by decide +kernel
theorem dX5_addColumn_46 : decode cX5_addColumn 46 = .ok (.ifCond .ne 12, 3) := by decide +kernel
theorem dX5_addColumn_49 : decode cX5_addColumn 49 = .ok (.iload_n 3, 1) := by decide +kernel
theorem dX5_addColumn_50 : decode cX5_addColumn 50 = .ok (.ifCond .lt 8, 3) := by decide +kernel
theorem dX5_addColumn_53 : decode cX5_addColumn 53 = .ok (.iload_n 3, 1) := by decide +kernel
theorem dX5_addColumn_54 : decode cX5_addColumn 54 = .ok (.iconst 4, 1) := by decide +kernel
theorem dX5_addColumn_55 : decode cX5_addColumn 55 = .ok (.if_icmp .lt 5, 3) := by decide +kernel
theorem dX5_addColumn_58 : decode cX5_addColumn 58 = .ok (.iconst (-1), 1) := by decide +kernel
theorem dX5_addColumn_59 : decode cX5_addColumn 59 = .ok (.ireturn, 1) := by decide +kernel
theorem dX5_addColumn_60 : decode cX5_addColumn 60 = .ok (.iload_n 1, 1) := by decide +kernel
theorem dX5_addColumn_61 : decode cX5_addColumn 61 = .ok (.ifCond .ne 7, 3) := by decide +kernel
theorem dX5_addColumn_64 : decode cX5_addColumn 64 = .ok (.iconst 5, 1) := by decide +kernel
theorem dX5_addColumn_65 : decode cX5_addColumn 65 = .ok (.goto 5, 3) := by decide +kernel
theorem dX5_addColumn_68 : decode cX5_addColumn 68 = .ok (.bipush 7, 2) := by decide +kernel
theorem dX5_addColumn_70 : decode cX5_addColumn 70 = .ok (.iload 5, 2) := by decide +kernel
theorem dX5_addColumn_72 : decode cX5_addColumn 72 = .ok (.iadd, 1) := by decide +kernel
theorem dX5_addColumn_73 : decode cX5_addColumn 73 = .ok (.istore 6, 2) := by decide +kernel
theorem dX5_addColumn_75 : decode cX5_addColumn 75 = .ok (.aload 4, 2) := by decide +kernel
theorem dX5_addColumn_77 : decode cX5_addColumn 77 = .ok (.iload 6, 2) := by decide +kernel
theorem dX5_addColumn_79 : decode cX5_addColumn 79 = .ok (.iload_n 2, 1) := by decide +kernel
theorem dX5_addColumn_80 : decode cX5_addColumn 80 = .ok (.iload_n 3, 1) := by decide +kernel
theorem dX5_addColumn_81 : decode cX5_addColumn 81 = .ok (.invokevirtual 154, 3) := by decide +kernel
theorem dX5_addColumn_84 : decode cX5_addColumn 84 = .ok (.iload_n 1, 1) := by decide +kernel
theorem dX5_addColumn_85 : decode cX5_addColumn 85 = .ok (.ifCond .ne 16, 3) := by decide +kernel
theorem dX5_addColumn_88 : decode cX5_addColumn 88 = .ok (.aload_n 0, 1) := by decide +kernel
theorem dX5_addColumn_89 : decode cX5_addColumn 89 = .ok (.dup, 1) := by decide +kernel
theorem dX5_addColumn_90 : decode cX5_addColumn 90 = .ok (.getfield 57, 3) := by decide +kernel
theorem dX5_addColumn_93 : decode cX5_addColumn 93 = .ok (.iconst 1, 1) := by decide +kernel
theorem dX5_addColumn_94 : decode cX5_addColumn 94 = .ok (.iadd, 1) := by decide +kernel
theorem dX5_addColumn_95 : decode cX5_addColumn 95 = .ok (.putfield 57, 3) := by decide +kernel
theorem dX5_addColumn_98 : decode cX5_addColumn 98 = .ok (.goto 13, 3) := by decide +kernel
theorem dX5_addColumn_101 : decode cX5_addColumn 101 = .ok (.aload_n 0, 1) := by decide +kernel
theorem dX5_addColumn_102 : decode cX5_addColumn 102 = .ok (.dup, 1) := by decide +kernel
theorem dX5_addColumn_103 : decode cX5_addColumn 103 = .ok (.getfield 60, 3) := by decide +kernel
theorem dX5_addColumn_106 : decode cX5_addColumn 106 = .ok (.iconst 1, 1) := by decide +kernel
theorem dX5_addColumn_107 : decode cX5_addColumn 107 = .ok (.iadd, 1) := by decide +kernel
theorem dX5_addColumn_108 : decode cX5_addColumn 108 = .ok (.putfield 60, 3) := by decide +kernel
theorem dX5_addColumn_111 : decode cX5_addColumn 111 = .ok (.iload 6, 2) := by decide +kernel
theorem dX5_addColumn_113 : decode cX5_addColumn 113 = .ok (.ireturn, 1) := by decide +kernel
theorem dX5_dropColumn_0 : decode cX5_dropColumn 0 = .ok (.aload_n 1, 1) := by decide +kernel
theorem dX5_dropColumn_1 : decode cX5_dropColumn 1 = .ok (.iload_n 2, 1) := by decide +kernel
theorem dX5_dropColumn_2 : decode cX5_dropColumn 2 = .ok (.invokevirtual 77, 3) := by decide +kernel
theorem dX5_dropColumn_5 : decode cX5_dropColumn 5 = .ok (.ifCond .ne 5, 3) := by decide +kernel
theorem dX5_dropColumn_8 : decode cX5_dropColumn 8 = .ok (.iconst 0, 1) := by decide +kernel
theorem dX5_dropColumn_9 : decode cX5_dropColumn 9 = .ok (.ireturn, 1) := by decide +kernel
theorem dX5_dropColumn_10 : decode cX5_dropColumn 10 = .ok (.aload_n 1, 1) := by decide +kernel
theorem dX5_dropColumn_11 : decode cX5_dropColumn 11 = .ok (.iload_n 2, 1) := by decide +kernel
theorem dX5_dropColumn_12 : decode cX5_dropColumn 12 = .ok (.invokevirtual 157, 3) := by decide +kernel
theorem dX5_dropColumn_15 : decode cX5_dropColumn 15 = .ok (.iconst 1, 1) := by decide +kernel
theorem dX5_dropColumn_16 : decode cX5_dropColumn 16 = .ok (.ireturn, 1) := by decide +kernel
theorem dX5_changeSidesAbout_0 : decode cX5_changeSidesAbout 0 = .ok (.aload_n 0, 1) := by decide +kernel
theorem dX5_changeSidesAbout_1 : decode cX5_changeSidesAbout 1 = .ok (.getfield 18, 3) := by decide +kernel
theorem dX5_changeSidesAbout_4 : decode cX5_changeSidesAbout 4 = .ok (.astore_n 1, 1) := by decide +kernel
theorem dX5_changeSidesAbout_5 : decode cX5_changeSidesAbout 5 = .ok (.aload_n 0, 1) := by decide +kernel
theorem dX5_changeSidesAbout_6 : decode cX5_changeSidesAbout 6 = .ok (.aload_n 0, 1) := by decide +kernel
theorem dX5_changeSidesAbout_7 : decode cX5_changeSidesAbout 7 = .ok (.getfield 21, 3) := by decide +kernel
theorem dX5_changeSidesAbout_10 : decode cX5_changeSidesAbout 10 = .ok (.putfield 18, 3) := by decide +kernel
theorem dX5_changeSidesAbout_13 : decode cX5_changeSidesAbout 13 = .ok (.aload_n 0, 1) := by decide +kernel
theorem dX5_changeSidesAbout_14 : decode cX5_changeSidesAbout 14 = .ok (.aload_n 1, 1) := by decide +kernel
theorem dX5_changeSidesAbout_15 : decode cX5_changeSidesAbout 15 = .ok (.putfield 21, 3) := by decide +kernel
theorem dX5_changeSidesAbout_18 : decode cX5_changeSidesAbout 18 = .ok (.aload_n 0, 1) := by decide +kernel
theorem dX5_changeSidesAbout_19 : decode cX5_changeSidesAbout 19 = .ok (.getfield 18, 3) := by decide +kernel
theorem dX5_changeSidesAbout_22 : decode cX5_changeSidesAbout 22 = .ok (.invokevirtual 160, 3) := by decide +kernel
theorem dX5_changeSidesAbout_25 : decode cX5_changeSidesAbout 25 = .ok (.aload_n 0, 1) := by decide +kernel
theorem dX5_changeSidesAbout_26 : decode cX5_changeSidesAbout 26 = .ok (.getfield 21, 3) := by decide +kernel
theorem dX5_changeSidesAbout_29 : decode cX5_changeSidesAbout 29 = .ok (.invokevirtual 160, 3) := by decide +kernel
theorem dX5_changeSidesAbout_32 : decode cX5_changeSidesAbout 32 = .ok (.aload_n 0, 1) := by decide +kernel
theorem dX5_changeSidesAbout_33 : decode cX5_changeSidesAbout 33 = .ok (.getfield 57, 3) := by decide +kernel
theorem dX5_changeSidesAbout_36 : decode cX5_changeSidesAbout 36 = .ok (.istore_n 2, 1) := by decide +kernel
theorem dX5_changeSidesAbout_37 : decode cX5_changeSidesAbout 37 = .ok (.aload_n 0, 1) := by decide +kernel
theorem dX5_changeSidesAbout_38 : decode cX5_changeSidesAbout 38 = .ok (.aload_n 0, 1) := by decide +kernel
theorem dX5_changeSidesAbout_39 : decode cX5_changeSidesAbout 39 = .ok (.getfield 60, 3) := by decide +kernel
theorem dX5_changeSidesAbout_42 : decode cX5_changeSidesAbout 42 = .ok (.putfield 57, 3) := by decide +kernel
theorem dX5_changeSidesAbout_45 : decode cX5_changeSidesAbout 45 = .ok (.aload_n 0, 1) := by decide +kernel
theorem dX5_changeSidesAbout_46 : decode cX5_changeSidesAbout 46 = .ok (.iload_n 2, 1) := by decide +kernel
theorem dX5_changeSidesAbout_47 : decode cX5_changeSidesAbout 47 = .ok (.putfield 60, 3) := by decide +kernel
theorem dX5_changeSidesAbout_50 : decode cX5_changeSidesAbout 50 = .ok (.aload_n 0, 1) := by decide +kernel
theorem dX5_changeSidesAbout_51 : decode cX5_changeSidesAbout 51 = .ok (.invokevirtual 163, 3) := by decide +kernel
theorem dX5_changeSidesAbout_54 : decode cX5_changeSidesAbout 54 = .ok (.return_, 1) := by decide +kernel
theorem dX5_changeChoicesAbout_0 : decode cX5_changeChoicesAbout 0 = .ok (.iconst 0, 1) := by decide +kernel
theorem dX5_changeChoicesAbout_1 : decode cX5_changeChoicesAbout 1 = .ok (.istore_n 1, 1) := by decide +kernel
theorem dX5_changeChoicesAbout_2 : decode cX5_changeChoicesAbout 2 = .ok (.iload_n 1, 1) := by decide +kernel
theorem dX5_changeChoicesAbout_3 : decode cX5_changeChoicesAbout 3 = .ok (.iconst 2, 1) := by decide +kernel
theorem dX5_changeChoicesAbout_4 : decode cX5_changeChoicesAbout 4 = .ok (.if_icmp .ge 51, 3) := by decide +kernel
theorem dX5_changeChoicesAbout_7 : decode cX5_changeChoicesAbout 7 = .ok (.aload_n 0, 1) := by decide +kernel
theorem dX5_changeChoicesAbout_8 : decode cX5_changeChoicesAbout 8 = .ok (.iconst 3, 1) := by decide +kernel
theorem dX5_changeChoicesAbout_9 : decode cX5_changeChoicesAbout 9 = .ok (.iconst 5, 1) := by decide +kernel
theorem dX5_changeChoicesAbout_10 : decode cX5_changeChoicesAbout 10 = .ok (.iload_n 1, 1) := by decide +kernel
theorem dX5_changeChoicesAbout_11 : decode cX5_changeChoicesAbout 11 = .ok (.iadd, 1) := by decide +kernel
theorem dX5_changeChoicesAbout_12 : decode cX5_changeChoicesAbout 12 = .ok (.iconst 0, 1) := by decide +kernel
theorem dX5_changeChoicesAbout_13 : decode cX5_changeChoicesAbout 13 = .ok (.bipush 7, 2) := by decide +kernel
theorem dX5_changeChoicesAbout_15 : decode cX5_changeChoicesAbout 15 = .ok (.iload_n 1, 1) := by decide +kernel
theorem dX5_changeChoicesAbout_16 : decode cX5_changeChoicesAbout 16 = .ok (.iadd, 1) := by decide +kernel
theorem dX5_changeChoicesAbout_17 : decode cX5_changeChoicesAbout 17 = .ok (.iconst 0, 1) := by decide +kernel
theorem dX5_changeChoicesAbout_18 : decode cX5_changeChoicesAbout 18 = .ok (.invokevirtual 166, 3) := by decide +kernel
theorem dX5_changeChoicesAbout_21 : decode cX5_changeChoicesAbout 21 = .ok (.iconst 0, 1) := by decide +kernel
theorem dX5_changeChoicesAbout_22 : decode cX5_changeChoicesAbout 22 = .ok (.istore_n 2, 1) := by decide +kernel
theorem dX5_changeChoicesAbout_23 : decode cX5_changeChoicesAbout 23 = .ok (.iload_n 2, 1) := by decide +kernel
theorem dX5_changeChoicesAbout_24 : decode cX5_changeChoicesAbout 24 = .ok (.bipush 20, 2) := by decide +kernel
theorem dX5_changeChoicesAbout_26 : decode cX5_changeChoicesAbout 26 = .ok (.if_icmp .ge 23, 3) := by decide +kernel
theorem dX5_changeChoicesAbout_29 : decode cX5_changeChoicesAbout 29 = .ok (.aload_n 0, 1) := by decide +kernel
theorem dX5_changeChoicesAbout_30 : decode cX5_changeChoicesAbout 30 = .ok (.iconst 5, 1) := by decide +kernel
theorem dX5_changeChoicesAbout_31 : decode cX5_changeChoicesAbout 31 = .ok (.iload_n 2, 1) := by decide +kernel
theorem dX5_changeChoicesAbout_32 : decode cX5_changeChoicesAbout 32 = .ok (.iconst 5, 1) := by decide +kernel
theorem dX5_changeChoicesAbout_33 : decode cX5_changeChoicesAbout 33 = .ok (.iload_n 1, 1) := by decide +kernel
theorem dX5_changeChoicesAbout_34 : decode cX5_changeChoicesAbout 34 = .ok (.iadd, 1) := by decide +kernel
theorem dX5_changeChoicesAbout_35 : decode cX5_changeChoicesAbout 35 = .ok (.iload_n 2, 1) := by decide +kernel
theorem dX5_changeChoicesAbout_36 : decode cX5_changeChoicesAbout 36 = .ok (.bipush 7, 2) := by decide +kernel
theorem dX5_changeChoicesAbout_38 : decode cX5_changeChoicesAbout 38 = .ok (.iload_n 1, 1) := by decide +kernel
theorem dX5_changeChoicesAbout_39 : decode cX5_changeChoicesAbout 39 = .ok (.iadd, 1) := by decide +kernel
theorem dX5_changeChoicesAbout_40 : decode cX5_changeChoicesAbout 40 = .ok (.invokevirtual 166, 3) := by decide +kernel
theorem dX5_changeChoicesAbout_43 : decode cX5_changeChoicesAbout 43 = .ok (.iinc 2 1, 3) := by decide +kernel
theorem dX5_changeChoicesAbout_46 : decode cX5_changeChoicesAbout 46 = .ok (.goto (-23), 3) := by decide +kernel
theorem dX5_changeChoicesAbout_49 : decode cX5_changeChoicesAbout 49 = .ok (.iinc 1 1, 3) := by decide +kernel
theorem dX5_changeChoicesAbout_52 : decode cX5_changeChoicesAbout 52 = .ok (.goto (-50), 3) := by decide +kernel
theorem dX5_changeChoicesAbout_55 : decode cX5_changeChoicesAbout 55 = .ok (.iconst 0, 1) := by decide +kernel
theorem dX5_changeChoicesAbout_56 : decode cX5_changeChoicesAbout 56 = .ok (.istore_n 1, 1) := by decide +kernel
theorem dX5_changeChoicesAbout_57 : decode cX5_changeChoicesAbout 57 = .ok (.iload_n 1, 1) := by decide +kernel
theorem dX5_changeChoicesAbout_58 : decode cX5_changeChoicesAbout 58 = .ok (.sipush 316, 3) := by decide +kernel
theorem dX5_changeChoicesAbout_61 : decode cX5_changeChoicesAbout 61 = .ok (.if_icmp .ge 39, 3) := by decide +kernel
theorem dX5_changeChoicesAbout_64 : decode cX5_changeChoicesAbout 64 = .ok (.aload_n 0, 1) := by decide +kernel
theorem dX5_changeChoicesAbout_65 : decode cX5_changeChoicesAbout 65 = .ok (.getfield 34, 3) := by decide +kernel
theorem dX5_changeChoicesAbout_68 : decode cX5_changeChoicesAbout 68 = .ok (.iload_n 1, 1) := by decide +kernel
theorem dX5_changeChoicesAbout_69 : decode cX5_changeChoicesAbout 69 = .ok (.iaload, 1) := by decide +kernel
theorem dX5_changeChoicesAbout_70 : decode cX5_changeChoicesAbout 70 = .ok (.ifCond .le 24, 3) := by decide +kernel
theorem dX5_changeChoicesAbout_73 : decode cX5_changeChoicesAbout 73 = .ok (.iload_n 1, 1) := by decide +kernel
theorem dX5_changeChoicesAbout_74 : decode cX5_changeChoicesAbout 74 = .ok (.invokestatic 170, 3) := by decide +kernel
theorem dX5_changeChoicesAbout_77 : decode cX5_changeChoicesAbout 77 = .ok (.ifCond .eq 17, 3) := by decide +kernel
theorem dX5_changeChoicesAbout_80 : decode cX5_changeChoicesAbout 80 = .ok (.aload_n 0, 1) := by decide +kernel
theorem dX5_changeChoicesAbout_81 : decode cX5_changeChoicesAbout 81 = .ok (.getfield 34, 3) := by decide +kernel
theorem dX5_changeChoicesAbout_84 : decode cX5_changeChoicesAbout 84 = .ok (.iload_n 1, 1) := by decide +kernel
theorem dX5_changeChoicesAbout_85 : decode cX5_changeChoicesAbout 85 = .ok (.iconst 3, 1) := by decide +kernel
theorem dX5_changeChoicesAbout_86 : decode cX5_changeChoicesAbout 86 = .ok (.aload_n 0, 1) := by decide +kernel
theorem dX5_changeChoicesAbout_87 : decode cX5_changeChoicesAbout 87 = .ok (.getfield 34, 3) := by decide +kernel
theorem dX5_changeChoicesAbout_90 : decode cX5_changeChoicesAbout 90 = .ok (.iload_n 1, 1) := by decide +kernel
theorem dX5_changeChoicesAbout_91 : decode cX5_changeChoicesAbout 91 = .ok (.iaload, 1) := by decide +kernel
theorem dX5_changeChoicesAbout_92 : decode cX5_changeChoicesAbout 92 = .ok (.isub, 1) := by decide +kernel
theorem dX5_changeChoicesAbout_93 : decode cX5_changeChoicesAbout 93 = .ok (.iastore, 1) := by decide +kernel
theorem dX5_changeChoicesAbout_94 : decode cX5_changeChoicesAbout 94 = .ok (.iinc 1 1, 3) := by decide +kernel
theorem dX5_changeChoicesAbout_97 : decode cX5_changeChoicesAbout 97 = .ok (.goto (-40), 3) := by decide +kernel
theorem dX5_changeChoicesAbout_100 : decode cX5_changeChoicesAbout 100 = .ok (.return_, 1) := by decide +kernel
theorem dX5_swapChoices_0 : decode cX5_swapChoices 0 = .ok (.aload_n 0, 1) := by decide +kernel
theorem dX5_swapChoices_1 : decode cX5_swapChoices 1 = .ok (.getfield 34, 3) := by decide +kernel
theorem dX5_swapChoices_4 : decode cX5_swapChoices 4 = .ok (.iload_n 1, 1) := by decide +kernel
theorem dX5_swapChoices_5 : decode cX5_swapChoices 5 = .ok (.iload_n 2, 1) := by decide +kernel
theorem dX5_swapChoices_6 : decode cX5_swapChoices 6 = .ok (.iload_n 3, 1) := by decide +kernel
theorem dX5_swapChoices_7 : decode cX5_swapChoices 7 = .ok (.invokestatic 175, 3) := by decide +kernel
theorem dX5_swapChoices_10 : decode cX5_swapChoices 10 = .ok (.iload_n 1, 1) := by decide +kernel
theorem dX5_swapChoices_11 : decode cX5_swapChoices 11 = .ok (.iload 4, 2) := by decide +kernel
theorem dX5_swapChoices_13 : decode cX5_swapChoices 13 = .ok (.iload 5, 2) := by decide +kernel
theorem dX5_swapChoices_15 : decode cX5_swapChoices 15 = .ok (.invokestatic 175, 3) := by decide +kernel
theorem dX5_swapChoices_18 : decode cX5_swapChoices 18 = .ok (.invokestatic 178, 3) := by decide +kernel
theorem dX5_swapChoices_21 : decode cX5_swapChoices 21 = .ok (.return_, 1) := by decide +kernel
theorem dX5_becomeMerged_0 : decode cX5_becomeMerged 0 = .ok (.aload_n 0, 1) := by decide +kernel
theorem dX5_becomeMerged_1 : decode cX5_becomeMerged 1 = .ok (.aload_n 1, 1) := by decide +kernel
theorem dX5_becomeMerged_2 : decode cX5_becomeMerged 2 = .ok (.invokevirtual 182, 3) := by decide +kernel
theorem dX5_becomeMerged_5 : decode cX5_becomeMerged 5 = .ok (.aload_n 0, 1) := by decide +kernel
theorem dX5_becomeMerged_6 : decode cX5_becomeMerged 6 = .ok (.getfield 12, 3) := by decide +kernel
theorem dX5_becomeMerged_9 : decode cX5_becomeMerged 9 = .ok (.invokevirtual 43, 3) := by decide +kernel
theorem dX5_becomeMerged_12 : decode cX5_becomeMerged 12 = .ok (.aload_n 0, 1) := by decide +kernel
theorem dX5_becomeMerged_13 : decode cX5_becomeMerged 13 = .ok (.getfield 12, 3) := by decide +kernel
theorem dX5_becomeMerged_16 : decode cX5_becomeMerged 16 = .ok (.aload_n 1, 1) := by decide +kernel
theorem dX5_becomeMerged_17 : decode cX5_becomeMerged 17 = .ok (.getfield 132, 3) := by decide +kernel
theorem dX5_becomeMerged_20 : decode cX5_becomeMerged 20 = .ok (.putfield 132, 3) := by decide +kernel
theorem dX5_becomeMerged_23 : decode cX5_becomeMerged 23 = .ok (.iconst 0, 1) := by decide +kernel
theorem dX5_becomeMerged_24 : decode cX5_becomeMerged 24 = .ok (.istore_n 2, 1) := by decide +kernel
theorem dX5_becomeMerged_25 : decode cX5_becomeMerged 25 = .ok (.iconst 0, 1) := by decide +kernel
theorem dX5_becomeMerged_26 : decode cX5_becomeMerged 26 = .ok (.istore_n 3, 1) := by decide +kernel
theorem dX5_becomeMerged_27 : decode cX5_becomeMerged 27 = .ok (.iload_n 3, 1) := by decide +kernel
theorem dX5_becomeMerged_28 : decode cX5_becomeMerged 28 = .ok (.bipush 9, 2) := by decide +kernel
theorem dX5_becomeMerged_30 : decode cX5_becomeMerged 30 = .ok (.if_icmp .ge 73, 3) := by decide +kernel
theorem dX5_becomeMerged_33 : decode cX5_becomeMerged 33 = .ok (.aload_n 1, 1) := by decide +kernel
theorem dX5_becomeMerged_34 : decode cX5_becomeMerged 34 = .ok (.iload_n 3, 1) := by decide +kernel
theorem dX5_becomeMerged_35 : decode cX5_becomeMerged 35 = .ok (.invokevirtual 77, 3) := by decide +kernel
theorem dX5_becomeMerged_38 : decode cX5_becomeMerged 38 = .ok (.ifCond .eq 59, 3) := by decide +kernel
theorem dX5_becomeMerged_41 : decode cX5_becomeMerged 41 = .ok (.aload_n 0, 1) := by decide +kernel
theorem dX5_becomeMerged_42 : decode cX5_becomeMerged 42 = .ok (.getfield 12, 3) := by decide +kernel
theorem dX5_becomeMerged_45 : decode cX5_becomeMerged 45 = .ok (.iload_n 2, 1) := by decide +kernel
theorem dX5_becomeMerged_46 : decode cX5_becomeMerged 46 = .ok (.aload_n 1, 1) := by decide +kernel
theorem dX5_becomeMerged_47 : decode cX5_becomeMerged 47 = .ok (.getfield 151, 3) := by decide +kernel
theorem dX5_becomeMerged_50 : decode cX5_becomeMerged 50 = .ok (.iload_n 3, 1) := by decide +kernel
theorem dX5_becomeMerged_51 : decode cX5_becomeMerged 51 = .ok (.iaload, 1) := by decide +kernel
theorem dX5_becomeMerged_52 : decode cX5_becomeMerged 52 = .ok (.aload_n 1, 1) := by decide +kernel
theorem dX5_becomeMerged_53 : decode cX5_becomeMerged 53 = .ok (.getfield 81, 3) := by decide +kernel
theorem dX5_becomeMerged_56 : decode cX5_becomeMerged 56 = .ok (.iload_n 3, 1) := by decide +kernel
theorem dX5_becomeMerged_57 : decode cX5_becomeMerged 57 = .ok (.iaload, 1) := by decide +kernel
theorem dX5_becomeMerged_58 : decode cX5_becomeMerged 58 = .ok (.invokevirtual 154, 3) := by decide +kernel
theorem dX5_becomeMerged_61 : decode cX5_becomeMerged 61 = .ok (.iconst 0, 1) := by decide +kernel
theorem dX5_becomeMerged_62 : decode cX5_becomeMerged 62 = .ok (.istore 4, 2) := by decide +kernel
theorem dX5_becomeMerged_64 : decode cX5_becomeMerged 64 = .ok (.iload 4, 2) := by decide +kernel
theorem dX5_becomeMerged_66 : decode cX5_becomeMerged 66 = .ok (.bipush 20, 2) := by decide +kernel
theorem dX5_becomeMerged_68 : decode cX5_becomeMerged 68 = .ok (.if_icmp .ge 26, 3) := by decide +kernel
theorem dX5_becomeMerged_71 : decode cX5_becomeMerged 71 = .ok (.aload_n 0, 1) := by decide +kernel
theorem dX5_becomeMerged_72 : decode cX5_becomeMerged 72 = .ok (.getfield 12, 3) := by decide +kernel
theorem dX5_becomeMerged_75 : decode cX5_becomeMerged 75 = .ok (.iload 4, 2) := by decide +kernel
theorem dX5_becomeMerged_77 : decode cX5_becomeMerged 77 = .ok (.iload_n 2, 1) := by decide +kernel
theorem dX5_becomeMerged_78 : decode cX5_becomeMerged 78 = .ok (.aload_n 1, 1) := by decide +kernel
theorem dX5_becomeMerged_79 : decode cX5_becomeMerged 79 = .ok (.iload 4, 2) := by decide +kernel
theorem dX5_becomeMerged_81 : decode cX5_becomeMerged 81 = .ok (.iload_n 3, 1) := by decide +kernel
theorem dX5_becomeMerged_82 : decode cX5_becomeMerged 82 = .ok (.invokevirtual 73, 3) := by decide +kernel
theorem dX5_becomeMerged_85 : decode cX5_becomeMerged 85 = .ok (.invokevirtual 125, 3) := by decide +kernel
theorem dX5_becomeMerged_88 : decode cX5_becomeMerged 88 = .ok (.iinc 4 1, 3) := by decide +kernel
theorem dX5_becomeMerged_91 : decode cX5_becomeMerged 91 = .ok (.goto (-27), 3) := by decide +kernel
theorem dX5_becomeMerged_94 : decode cX5_becomeMerged 94 = .ok (.iinc 2 1, 3) := by decide +kernel
theorem dX5_becomeMerged_97 : decode cX5_becomeMerged 97 = .ok (.iinc 3 1, 3) := by decide +kernel
theorem dX5_becomeMerged_100 : decode cX5_becomeMerged 100 = .ok (.goto (-73), 3) := by decide +kernel
theorem dX5_becomeMerged_103 : decode cX5_becomeMerged 103 = .ok (.aload_n 0, 1) := by decide +kernel
theorem dX5_becomeMerged_104 : decode cX5_becomeMerged 104 = .ok (.invokevirtual 50, 3) := by decide +kernel
theorem dX5_becomeMerged_107 : decode cX5_becomeMerged 107 = .ok (.return_, 1) := by decide +kernel
theorem dX5_keepDemandsOf_0 : decode cX5_keepDemandsOf 0 = .ok (.aload_n 0, 1) := by decide +kernel
theorem dX5_keepDemandsOf_1 : decode cX5_keepDemandsOf 1 = .ok (.getfield 46, 3) := by decide +kernel
theorem dX5_keepDemandsOf_4 : decode cX5_keepDemandsOf 4 = .ok (.istore_n 2, 1) := by decide +kernel
theorem dX5_keepDemandsOf_5 : decode cX5_keepDemandsOf 5 = .ok (.aload_n 0, 1) := by decide +kernel
theorem dX5_keepDemandsOf_6 : decode cX5_keepDemandsOf 6 = .ok (.iconst 0, 1) := by decide +kernel
theorem dX5_keepDemandsOf_7 : decode cX5_keepDemandsOf 7 = .ok (.putfield 46, 3) := by decide +kernel
theorem dX5_keepDemandsOf_10 : decode cX5_keepDemandsOf 10 = .ok (.iconst 0, 1) := by decide +kernel
theorem dX5_keepDemandsOf_11 : decode cX5_keepDemandsOf 11 = .ok (.istore_n 3, 1) := by decide +kernel
theorem dX5_keepDemandsOf_12 : decode cX5_keepDemandsOf 12 = .ok (.iload_n 3, 1) := by decide +kernel
theorem dX5_keepDemandsOf_13 : decode cX5_keepDemandsOf 13 = .ok (.iload_n 2, 1) := by decide +kernel
theorem dX5_keepDemandsOf_14 : decode cX5_keepDemandsOf 14 = .ok (.if_icmp .ge 70, 3) := by decide +kernel
theorem dX5_keepDemandsOf_17 : decode cX5_keepDemandsOf 17 = .ok (.iload_n 3, 1) := by decide +kernel
theorem dX5_keepDemandsOf_18 : decode cX5_keepDemandsOf 18 = .ok (.iconst 4, 1) := by decide +kernel
theorem dX5_keepDemandsOf_19 : decode cX5_keepDemandsOf 19 = .ok (.if_icmp .ge 65, 3) := by decide +kernel
theorem dX5_keepDemandsOf_22 : decode cX5_keepDemandsOf 22 = .ok (.aload_n 0, 1) := by decide +kernel
theorem dX5_keepDemandsOf_23 : decode cX5_keepDemandsOf 23 = .ok (.getfield 28, 3) := by decide +kernel
theorem dX5_keepDemandsOf_26 : decode cX5_keepDemandsOf 26 = .ok (.iload_n 3, 1) := by decide +kernel
theorem dX5_keepDemandsOf_27 : decode cX5_keepDemandsOf 27 = .ok (.iaload, 1) := by decide +kernel
theorem dX5_keepDemandsOf_28 : decode cX5_keepDemandsOf 28 = .ok (.istore 4, 2) := by decide +kernel
theorem dX5_keepDemandsOf_30 : decode cX5_keepDemandsOf 30 = .ok (.aload_n 0, 1) := by decide +kernel
theorem dX5_keepDemandsOf_31 : decode cX5_keepDemandsOf 31 = .ok (.getfield 31, 3) := by decide +kernel
theorem dX5_keepDemandsOf_34 : decode cX5_keepDemandsOf 34 = .ok (.iload_n 3, 1) := by decide +kernel
theorem dX5_keepDemandsOf_35 : decode cX5_keepDemandsOf 35 = .ok (.iaload, 1) := by decide +kernel
theorem dX5_keepDemandsOf_36 : decode cX5_keepDemandsOf 36 = .ok (.istore 5, 2) := by decide +kernel
theorem dX5_keepDemandsOf_38 : decode cX5_keepDemandsOf 38 = .ok (.aload_n 1, 1) := by decide +kernel
theorem dX5_keepDemandsOf_39 : decode cX5_keepDemandsOf 39 = .ok (.iload 4, 2) := by decide +kernel
theorem dX5_keepDemandsOf_41 : decode cX5_keepDemandsOf 41 = .ok (.invokevirtual 77, 3) := by decide +kernel
theorem dX5_keepDemandsOf_44 : decode cX5_keepDemandsOf 44 = .ok (.ifCond .eq 34, 3) := by decide +kernel
theorem dX5_keepDemandsOf_47 : decode cX5_keepDemandsOf 47 = .ok (.aload_n 1, 1) := by decide +kernel
theorem dX5_keepDemandsOf_48 : decode cX5_keepDemandsOf 48 = .ok (.iload 5, 2) := by decide +kernel
theorem dX5_keepDemandsOf_50 : decode cX5_keepDemandsOf 50 = .ok (.invokevirtual 77, 3) := by decide +kernel
theorem dX5_keepDemandsOf_53 : decode cX5_keepDemandsOf 53 = .ok (.ifCond .eq 25, 3) := by decide +kernel
theorem dX5_keepDemandsOf_56 : decode cX5_keepDemandsOf 56 = .ok (.aload_n 0, 1) := by decide +kernel
theorem dX5_keepDemandsOf_57 : decode cX5_keepDemandsOf 57 = .ok (.aload_n 0, 1) := by decide +kernel
theorem dX5_keepDemandsOf_58 : decode cX5_keepDemandsOf 58 = .ok (.getfield 24, 3) := by decide +kernel
theorem dX5_keepDemandsOf_61 : decode cX5_keepDemandsOf 61 = .ok (.iload_n 3, 1) := by decide +kernel
theorem dX5_keepDemandsOf_62 : decode cX5_keepDemandsOf 62 = .ok (.iaload, 1) := by decide +kernel
theorem dX5_keepDemandsOf_63 : decode cX5_keepDemandsOf 63 = .ok (.aload_n 1, 1) := by decide +kernel
theorem dX5_keepDemandsOf_64 : decode cX5_keepDemandsOf 64 = .ok (.iload 4, 2) := by decide +kernel
theorem dX5_keepDemandsOf_66 : decode cX5_keepDemandsOf 66 = .ok (.invokestatic 185, 3) := by decide +kernel
theorem dX5_keepDemandsOf_69 : decode cX5_keepDemandsOf 69 = .ok (.aload_n 1, 1) := by decide +kernel
theorem dX5_keepDemandsOf_70 : decode cX5_keepDemandsOf 70 = .ok (.iload 5, 2) := by decide +kernel
theorem dX5_keepDemandsOf_72 : decode cX5_keepDemandsOf 72 = .ok (.invokestatic 185, 3) := by decide +kernel
theorem dX5_keepDemandsOf_75 : decode cX5_keepDemandsOf 75 = .ok (.invokevirtual 189, 3) := by decide +kernel
theorem dX5_keepDemandsOf_78 : decode cX5_keepDemandsOf 78 = .ok (.iinc 3 1, 3) := by decide +kernel
theorem dX5_keepDemandsOf_81 : decode cX5_keepDemandsOf 81 = .ok (.goto (-69), 3) := by decide +kernel
theorem dX5_keepDemandsOf_84 : decode cX5_keepDemandsOf 84 = .ok (.return_, 1) := by decide +kernel
theorem dX5_placeAmong_0 : decode cX5_placeAmong 0 = .ok (.aload_n 0, 1) := by decide +kernel
theorem dX5_placeAmong_1 : decode cX5_placeAmong 1 = .ok (.getfield 192, 3) := by decide +kernel
theorem dX5_placeAmong_4 : decode cX5_placeAmong 4 = .ok (.iconst 1, 1) := by decide +kernel
theorem dX5_placeAmong_5 : decode cX5_placeAmong 5 = .ok (.iload_n 1, 1) := by decide +kernel
theorem dX5_placeAmong_6 : decode cX5_placeAmong 6 = .ok (.ishl, 1) := by decide +kernel
theorem dX5_placeAmong_7 : decode cX5_placeAmong 7 = .ok (.iconst 1, 1) := by decide +kernel
theorem dX5_placeAmong_8 : decode cX5_placeAmong 8 = .ok (.isub, 1) := by decide +kernel
theorem dX5_placeAmong_9 : decode cX5_placeAmong 9 = .ok (.iand, 1) := by decide +kernel
theorem dX5_placeAmong_10 : decode cX5_placeAmong 10 = .ok (.invokestatic 135, 3) := by decide +kernel
theorem dX5_placeAmong_13 : decode cX5_placeAmong 13 = .ok (.ireturn, 1) := by decide +kernel
theorem dX6_init_0 : decode cX6_init 0 = .ok (.aload_n 0, 1) := by decide +kernel
theorem dX6_init_1 : decode cX6_init 1 = .ok (.invokespecial 3, 3) := by decide +kernel
theorem dX6_init_4 : decode cX6_init 4 = .ok (.aload_n 0, 1) := by decide +kernel
theorem dX6_init_5 : decode cX6_init 5 = .ok (.bipush 9, 2) := by decide +kernel
theorem dX6_init_7 : decode cX6_init 7 = .ok (.newarray .int, 2) := by decide +kernel
theorem dX6_init_9 : decode cX6_init 9 = .ok (.putfield 9, 3) := by decide +kernel
theorem dX6_init_12 : decode cX6_init 12 = .ok (.aload_n 0, 1) := by decide +kernel
theorem dX6_init_13 : decode cX6_init 13 = .ok (.bipush 9, 2) := by decide +kernel
theorem dX6_init_15 : decode cX6_init 15 = .ok (.newarray .int, 2) := by decide +kernel
theorem dX6_init_17 : decode cX6_init 17 = .ok (.putfield 15, 3) := by decide +kernel
theorem dX6_init_20 : decode cX6_init 20 = .ok (.aload_n 0, 1) := by decide +kernel
theorem dX6_init_21 : decode cX6_init 21 = .ok (.sipush 180, 3) := by decide +kernel
theorem dX6_init_24 : decode cX6_init 24 = .ok (.newarray .int, 2) := by decide +kernel
theorem dX6_init_26 : decode cX6_init 26 = .ok (.putfield 18, 3) := by decide +kernel
theorem dX6_init_29 : decode cX6_init 29 = .ok (.aload_n 0, 1) := by decide +kernel
theorem dX6_init_30 : decode cX6_init 30 = .ok (.getfield 18, 3) := by decide +kernel
theorem dX6_init_33 : decode cX6_init 33 = .ok (.sipush 9999, 3) := by decide +kernel
theorem dX6_init_36 : decode cX6_init 36 = .ok (.invokestatic 21, 3) := by decide +kernel
theorem dX6_init_39 : decode cX6_init 39 = .ok (.return_, 1) := by decide +kernel
theorem dX6_clear_0 : decode cX6_clear 0 = .ok (.aload_n 0, 1) := by decide +kernel
theorem dX6_clear_1 : decode cX6_clear 1 = .ok (.iconst 0, 1) := by decide +kernel
theorem dX6_clear_2 : decode cX6_clear 2 = .ok (.putfield 27, 3) := by decide +kernel
theorem dX6_clear_5 : decode cX6_clear 5 = .ok (.aload_n 0, 1) := by decide +kernel
theorem dX6_clear_6 : decode cX6_clear 6 = .ok (.iconst 0, 1) := by decide +kernel
theorem dX6_clear_7 : decode cX6_clear 7 = .ok (.putfield 31, 3) := by decide +kernel
theorem dX6_clear_10 : decode cX6_clear 10 = .ok (.aload_n 0, 1) := by decide +kernel
theorem dX6_clear_11 : decode cX6_clear 11 = .ok (.getfield 18, 3) := by decide +kernel
theorem dX6_clear_14 : decode cX6_clear 14 = .ok (.sipush 9999, 3) := by decide +kernel
theorem dX6_clear_17 : decode cX6_clear 17 = .ok (.invokestatic 21, 3) := by decide +kernel
theorem dX6_clear_20 : decode cX6_clear 20 = .ok (.return_, 1) := by decide +kernel
theorem dX6_copyFrom_0 : decode cX6_copyFrom 0 = .ok (.aload_n 0, 1) := by decide +kernel
theorem dX6_copyFrom_1 : decode cX6_copyFrom 1 = .ok (.aload_n 1, 1) := by decide +kernel
theorem dX6_copyFrom_2 : decode cX6_copyFrom 2 = .ok (.getfield 27, 3) := by decide +kernel
theorem dX6_copyFrom_5 : decode cX6_copyFrom 5 = .ok (.putfield 27, 3) := by decide +kernel
theorem dX6_copyFrom_8 : decode cX6_copyFrom 8 = .ok (.aload_n 0, 1) := by decide +kernel
theorem dX6_copyFrom_9 : decode cX6_copyFrom 9 = .ok (.aload_n 1, 1) := by decide +kernel
theorem dX6_copyFrom_10 : decode cX6_copyFrom 10 = .ok (.getfield 31, 3) := by decide +kernel
theorem dX6_copyFrom_13 : decode cX6_copyFrom 13 = .ok (.putfield 31, 3) := by decide +kernel
theorem dX6_copyFrom_16 : decode cX6_copyFrom 16 = .ok (.aload_n 1, 1) := by decide +kernel
theorem dX6_copyFrom_17 : decode cX6_copyFrom 17 = .ok (.getfield 9, 3) := by decide +kernel
theorem dX6_copyFrom_20 : decode cX6_copyFrom 20 = .ok (.iconst 0, 1) := by decide +kernel
theorem dX6_copyFrom_21 : decode cX6_copyFrom 21 = .ok (.aload_n 0, 1) := by decide +kernel
theorem dX6_copyFrom_22 : decode cX6_copyFrom 22 = .ok (.getfield 9, 3) := by decide +kernel
theorem dX6_copyFrom_25 : decode cX6_copyFrom 25 = .ok (.iconst 0, 1) := by decide +kernel
theorem dX6_copyFrom_26 : decode cX6_copyFrom 26 = .ok (.bipush 9, 2) := by decide +kernel
theorem dX6_copyFrom_28 : decode cX6_copyFrom 28 = .ok (.invokestatic 34, 3) := by decide +kernel
theorem dX6_copyFrom_31 : decode cX6_copyFrom 31 = .ok (.aload_n 1, 1) := by decide +kernel
theorem dX6_copyFrom_32 : decode cX6_copyFrom 32 = .ok (.getfield 15, 3) := by decide +kernel
theorem dX6_copyFrom_35 : decode cX6_copyFrom 35 = .ok (.iconst 0, 1) := by decide +kernel
theorem dX6_copyFrom_36 : decode cX6_copyFrom 36 = .ok (.aload_n 0, 1) := by decide +kernel
theorem dX6_copyFrom_37 : decode cX6_copyFrom 37 = .ok (.getfield 15, 3) := by decide +kernel
theorem dX6_copyFrom_40 : decode cX6_copyFrom 40 = .ok (.iconst 0, 1) := by decide +kernel
theorem dX6_copyFrom_41 : decode cX6_copyFrom 41 = .ok (.bipush 9, 2) := by decide +kernel
theorem dX6_copyFrom_43 : decode cX6_copyFrom 43 = .ok (.invokestatic 34, 3) := by decide +kernel
theorem dX6_copyFrom_46 : decode cX6_copyFrom 46 = .ok (.aload_n 1, 1) := by decide +kernel
theorem dX6_copyFrom_47 : decode cX6_copyFrom 47 = .ok (.getfield 18, 3) := by decide +kernel
theorem dX6_copyFrom_50 : decode cX6_copyFrom 50 = .ok (.iconst 0, 1) := by decide +kernel
theorem dX6_copyFrom_51 : decode cX6_copyFrom 51 = .ok (.aload_n 0, 1) := by decide +kernel
theorem dX6_copyFrom_52 : decode cX6_copyFrom 52 = .ok (.getfield 18, 3) := by decide +kernel
theorem dX6_copyFrom_55 : decode cX6_copyFrom 55 = .ok (.iconst 0, 1) := by decide +kernel
theorem dX6_copyFrom_56 : decode cX6_copyFrom 56 = .ok (.sipush 180, 3) := by decide +kernel
theorem dX6_copyFrom_59 : decode cX6_copyFrom 59 = .ok (.invokestatic 34, 3) := by decide +kernel
theorem dX6_copyFrom_62 : decode cX6_copyFrom 62 = .ok (.return_, 1) := by decide +kernel
theorem dX6_hasColumn_0 : decode cX6_hasColumn 0 = .ok (.iload_n 1, 1) := by decide +kernel
theorem dX6_hasColumn_1 : decode cX6_hasColumn 1 = .ok (.ifCond .lt 24, 3) := by decide +kernel
theorem dX6_hasColumn_4 : decode cX6_hasColumn 4 = .ok (.iload_n 1, 1) := by decide +kernel
theorem dX6_hasColumn_5 : decode cX6_hasColumn 5 = .ok (.bipush 9, 2) := by decide +kernel
theorem dX6_hasColumn_7 : decode cX6_hasColumn 7 = .ok (.if_icmp .ge 18, 3) := by decide +kernel
theorem dX6_hasColumn_10 : decode cX6_hasColumn 10 = .ok (.aload_n 0, 1) := by decide +kernel
theorem dX6_hasColumn_11 : decode cX6_hasColumn 11 = .ok (.getfield 27, 3) := by decide +kernel
theorem dX6_hasColumn_14 : decode cX6_hasColumn 14 = .ok (.iload_n 1, 1) := by decide +kernel
theorem dX6_hasColumn_15 : decode cX6_hasColumn 15 = .ok (.ishr, 1) := by decide +kernel
theorem dX6_hasColumn_16 : decode cX6_hasColumn 16 = .ok (.iconst 1, 1) := by decide +kernel
theorem dX6_hasColumn_17 : decode cX6_hasColumn 17 = .ok (.iand, 1) := by decide +kernel
theorem dX6_hasColumn_18 : decode cX6_hasColumn 18 = .ok (.ifCond .eq 7, 3) := by decide +kernel
theorem dX6_hasColumn_21 : decode cX6_hasColumn 21 = .ok (.iconst 1, 1) := by decide +kernel
theorem dX6_hasColumn_22 : decode cX6_hasColumn 22 = .ok (.goto 4, 3) := by decide +kernel
theorem dX6_hasColumn_25 : decode cX6_hasColumn 25 = .ok (.iconst 0, 1) := by decide +kernel
theorem dX6_hasColumn_26 : decode cX6_hasColumn 26 = .ok (.ireturn, 1) := by decide +kernel
theorem dX6_hasRow_0 : decode cX6_hasRow 0 = .ok (.iload_n 1, 1) := by decide +kernel
theorem dX6_hasRow_1 : decode cX6_hasRow 1 = .ok (.ifCond .lt 24, 3) := by decide +kernel
theorem dX6_hasRow_4 : decode cX6_hasRow 4 = .ok (.iload_n 1, 1) := by decide +kernel
theorem dX6_hasRow_5 : decode cX6_hasRow 5 = .ok (.bipush 20, 2) := by decide +kernel
theorem dX6_hasRow_7 : decode cX6_hasRow 7 = .ok (.if_icmp .ge 18, 3) := by decide +kernel
theorem dX6_hasRow_10 : decode cX6_hasRow 10 = .ok (.aload_n 0, 1) := by decide +kernel
theorem dX6_hasRow_11 : decode cX6_hasRow 11 = .ok (.getfield 31, 3) := by decide +kernel
theorem dX6_hasRow_14 : decode cX6_hasRow 14 = .ok (.iload_n 1, 1) := by decide +kernel
theorem dX6_hasRow_15 : decode cX6_hasRow 15 = .ok (.ishr, 1) := by decide +kernel
theorem dX6_hasRow_16 : decode cX6_hasRow 16 = .ok (.iconst 1, 1) := by decide +kernel
theorem dX6_hasRow_17 : decode cX6_hasRow 17 = .ok (.iand, 1) := by decide +kernel
theorem dX6_hasRow_18 : decode cX6_hasRow 18 = .ok (.ifCond .eq 7, 3) := by decide +kernel
theorem dX6_hasRow_21 : decode cX6_hasRow 21 = .ok (.iconst 1, 1) := by decide +kernel
theorem dX6_hasRow_22 : decode cX6_hasRow 22 = .ok (.goto 4, 3) := by decide +kernel
theorem dX6_hasRow_25 : decode cX6_hasRow 25 = .ok (.iconst 0, 1) := by decide +kernel
theorem dX6_hasRow_26 : decode cX6_hasRow 26 = .ok (.ireturn, 1) := by decide +kernel
theorem dX6_hasCell_0 : decode cX6_hasCell 0 = .ok (.iload_n 1, 1) := by decide +kernel
theorem dX6_hasCell_1 : decode cX6_hasCell 1 = .ok (.ifCond .lt 45, 3) := by decide +kernel
theorem dX6_hasCell_4 : decode cX6_hasCell 4 = .ok (.iload_n 1, 1) := by decide +kernel
theorem dX6_hasCell_5 : decode cX6_hasCell 5 = .ok (.bipush 20, 2) := by decide +kernel
theorem dX6_hasCell_7 : decode cX6_hasCell 7 = .ok (.if_icmp .ge 39, 3) := by decide +kernel
theorem dX6_hasCell_10 : decode cX6_hasCell 10 = .ok (.iload_n 2, 1) := by decide +kernel
theorem dX6_hasCell_11 : decode cX6_hasCell 11 = .ok (.ifCond .lt 35, 3) := by decide +kernel
theorem dX6_hasCell_14 : decode cX6_hasCell 14 = .ok (.iload_n 2, 1) := by decide +kernel
theorem dX6_hasCell_15 : decode cX6_hasCell 15 = .ok (.bipush 9, 2) := by decide +kernel
theorem dX6_hasCell_17 : decode cX6_hasCell 17 = .ok (.if_icmp .ge 29, 3) := by decide +kernel
theorem dX6_hasCell_20 : decode cX6_hasCell 20 = .ok (.aload_n 0, 1) := by decide +kernel
theorem dX6_hasCell_21 : decode cX6_hasCell 21 = .ok (.getfield 31, 3) := by decide +kernel
theorem dX6_hasCell_24 : decode cX6_hasCell 24 = .ok (.iload_n 1, 1) := by decide +kernel
theorem dX6_hasCell_25 : decode cX6_hasCell 25 = .ok (.ishr, 1) := by decide +kernel
theorem dX6_hasCell_26 : decode cX6_hasCell 26 = .ok (.iconst 1, 1) := by decide +kernel
theorem dX6_hasCell_27 : decode cX6_hasCell 27 = .ok (.iand, 1) := by decide +kernel
theorem dX6_hasCell_28 : decode cX6_hasCell 28 = .ok (.ifCond .eq 18, 3) := by decide +kernel
theorem dX6_hasCell_31 : decode cX6_hasCell 31 = .ok (.aload_n 0, 1) := by decide +kernel
theorem dX6_hasCell_32 : decode cX6_hasCell 32 = .ok (.getfield 27, 3) := by decide +kernel
theorem dX6_hasCell_35 : decode cX6_hasCell 35 = .ok (.iload_n 2, 1) := by decide +kernel
theorem dX6_hasCell_36 : decode cX6_hasCell 36 = .ok (.ishr, 1) := by decide +kernel
theorem dX6_hasCell_37 : decode cX6_hasCell 37 = .ok (.iconst 1, 1) := by decide +kernel
theorem dX6_hasCell_38 : decode cX6_hasCell 38 = .ok (.iand, 1) := by decide +kernel
theorem dX6_hasCell_39 : decode cX6_hasCell 39 = .ok (.ifCond .eq 7, 3) := by decide +kernel
theorem dX6_hasCell_42 : decode cX6_hasCell 42 = .ok (.iconst 1, 1) := by decide +kernel
theorem dX6_hasCell_43 : decode cX6_hasCell 43 = .ok (.goto 4, 3) := by decide +kernel
theorem dX6_hasCell_46 : decode cX6_hasCell 46 = .ok (.iconst 0, 1) := by decide +kernel
theorem dX6_hasCell_47 : decode cX6_hasCell 47 = .ok (.ireturn, 1) := by decide +kernel
theorem dX6_hasName_0 : decode cX6_hasName 0 = .ok (.iconst 0, 1) := by decide +kernel
theorem dX6_hasName_1 : decode cX6_hasName 1 = .ok (.istore_n 2, 1) := by decide +kernel
theorem dX6_hasName_2 : decode cX6_hasName 2 = .ok (.iload_n 2, 1) := by decide +kernel
theorem dX6_hasName_3 : decode cX6_hasName 3 = .ok (.bipush 9, 2) := by decide +kernel
theorem dX6_hasName_5 : decode cX6_hasName 5 = .ok (.if_icmp .ge 29, 3) := by decide +kernel
theorem dX6_hasName_8 : decode cX6_hasName 8 = .ok (.aload_n 0, 1) := by decide +kernel
theorem dX6_hasName_9 : decode cX6_hasName 9 = .ok (.iload_n 2, 1) := by decide +kernel
theorem dX6_hasName_10 : decode cX6_hasName 10 = .ok (.invokevirtual 40, 3) := by decide +kernel
theorem dX6_hasName_13 : decode cX6_hasName 13 = .ok (.ifCond .eq 15, 3) := by decide +kernel
theorem dX6_hasName_16 : decode cX6_hasName 16 = .ok (.aload_n 0, 1) := by decide +kernel
theorem dX6_hasName_17 : decode cX6_hasName 17 = .ok (.getfield 9, 3) := by decide +kernel
theorem dX6_hasName_20 : decode cX6_hasName 20 = .ok (.iload_n 2, 1) := by decide +kernel
theorem dX6_hasName_21 : decode cX6_hasName 21 = .ok (.iaload, 1) := by decide +kernel
theorem dX6_hasName_22 : decode cX6_hasName 22 = .ok (.iload_n 1, 1) := by decide +kernel
theorem dX6_hasName_23 : decode cX6_hasName 23 = .ok (.if_icmp .ne 5, 3) := by decide +kernel
theorem dX6_hasName_26 : decode cX6_hasName 26 = .ok (.iconst 1, 1) := by decide +kernel
theorem dX6_hasName_27 : decode cX6_hasName 27 = .ok (.ireturn, 1) := by decide +kernel
theorem dX6_hasName_28 : decode cX6_hasName 28 = .ok (.iinc 2 1, 3) := by decide +kernel
theorem dX6_hasName_31 : decode cX6_hasName 31 = .ok (.goto (-29), 3) := by decide +kernel
theorem dX6_hasName_34 : decode cX6_hasName 34 = .ok (.iconst 0, 1) := by decide +kernel
theorem dX6_hasName_35 : decode cX6_hasName 35 = .ok (.ireturn, 1) := by decide +kernel
theorem dX6_numberAt_0 : decode cX6_numberAt 0 = .ok (.iload_n 1, 1) := by decide +kernel
theorem dX6_numberAt_1 : decode cX6_numberAt 1 = .ok (.ifCond .lt 19, 3) := by decide +kernel
theorem dX6_numberAt_4 : decode cX6_numberAt 4 = .ok (.iload_n 1, 1) := by decide +kernel
theorem dX6_numberAt_5 : decode cX6_numberAt 5 = .ok (.bipush 20, 2) := by decide +kernel
theorem dX6_numberAt_7 : decode cX6_numberAt 7 = .ok (.if_icmp .ge 13, 3) := by decide +kernel
theorem dX6_numberAt_10 : decode cX6_numberAt 10 = .ok (.iload_n 2, 1) := by decide +kernel
theorem dX6_numberAt_11 : decode cX6_numberAt 11 = .ok (.ifCond .lt 9, 3) := by decide +kernel
theorem dX6_numberAt_14 : decode cX6_numberAt 14 = .ok (.iload_n 2, 1) := by decide +kernel
theorem dX6_numberAt_15 : decode cX6_numberAt 15 = .ok (.bipush 9, 2) := by decide +kernel
theorem dX6_numberAt_17 : decode cX6_numberAt 17 = .ok (.if_icmp .lt 7, 3) := by decide +kernel
theorem dX6_numberAt_20 : decode cX6_numberAt 20 = .ok (.sipush 9999, 3) := by decide +kernel
theorem dX6_numberAt_23 : decode cX6_numberAt 23 = .ok (.ireturn, 1) := by decide +kernel
theorem dX6_numberAt_24 : decode cX6_numberAt 24 = .ok (.aload_n 0, 1) := by decide +kernel
theorem dX6_numberAt_25 : decode cX6_numberAt 25 = .ok (.getfield 18, 3) := by decide +kernel
theorem dX6_numberAt_28 : decode cX6_numberAt 28 = .ok (.iload_n 1, 1) := by decide +kernel
theorem dX6_numberAt_29 : decode cX6_numberAt 29 = .ok (.bipush 9, 2) := by decide +kernel
theorem dX6_numberAt_31 : decode cX6_numberAt 31 = .ok (.imul, 1) := by decide +kernel
theorem dX6_numberAt_32 : decode cX6_numberAt 32 = .ok (.iload_n 2, 1) := by decide +kernel
theorem dX6_numberAt_33 : decode cX6_numberAt 33 = .ok (.iadd, 1) := by decide +kernel
theorem dX6_numberAt_34 : decode cX6_numberAt 34 = .ok (.iaload, 1) := by decide +kernel
theorem dX6_numberAt_35 : decode cX6_numberAt 35 = .ok (.ireturn, 1) := by decide +kernel
theorem dX6_putNumber_0 : decode cX6_putNumber 0 = .ok (.iload_n 1, 1) := by decide +kernel
theorem dX6_putNumber_1 : decode cX6_putNumber 1 = .ok (.ifCond .lt 31, 3) := by decide +kernel
theorem dX6_putNumber_4 : decode cX6_putNumber 4 = .ok (.iload_n 1, 1) := by decide +kernel
theorem dX6_putNumber_5 : decode cX6_putNumber 5 = .ok (.bipush 20, 2) := by decide +kernel
theorem dX6_putNumber_7 : decode cX6_putNumber 7 = .ok (.if_icmp .ge 25, 3) := by decide +kernel
theorem dX6_putNumber_10 : decode cX6_putNumber 10 = .ok (.iload_n 2, 1) := by decide +kernel
theorem dX6_putNumber_11 : decode cX6_putNumber 11 = .ok (.ifCond .lt 21, 3) := by decide +kernel
theorem dX6_putNumber_14 : decode cX6_putNumber 14 = .ok (.iload_n 2, 1) := by decide +kernel
theorem dX6_putNumber_15 : decode cX6_putNumber 15 = .ok (.bipush 9, 2) := by decide +kernel
theorem dX6_putNumber_17 : decode cX6_putNumber 17 = .ok (.if_icmp .ge 15, 3) := by decide +kernel
theorem dX6_putNumber_20 : decode cX6_putNumber 20 = .ok (.aload_n 0, 1) := by decide +kernel
theorem dX6_putNumber_21 : decode cX6_putNumber 21 = .ok (.getfield 18, 3) := by decide +kernel
theorem dX6_putNumber_24 : decode cX6_putNumber 24 = .ok (.iload_n 1, 1) := by decide +kernel
theorem dX6_putNumber_25 : decode cX6_putNumber 25 = .ok (.bipush 9, 2) := by decide +kernel
theorem dX6_putNumber_27 : decode cX6_putNumber 27 = .ok (.imul, 1) := by decide +kernel
theorem dX6_putNumber_28 : decode cX6_putNumber 28 = .ok (.iload_n 2, 1) := by decide +kernel
theorem dX6_putNumber_29 : decode cX6_putNumber 29 = .ok (.iadd, 1) := by decide +kernel
theorem dX6_putNumber_30 : decode cX6_putNumber 30 = .ok (.iload_n 3, 1) := by decide +kernel
theorem dX6_putNumber_31 : decode cX6_putNumber 31 = .ok (.iastore, 1) := by decide +kernel
theorem dX6_putNumber_32 : decode cX6_putNumber 32 = .ok (.return_, 1) := by decide +kernel
theorem dX6_putColumn_0 : decode cX6_putColumn 0 = .ok (.iload_n 1, 1) := by decide +kernel
theorem dX6_putColumn_1 : decode cX6_putColumn 1 = .ok (.ifCond .lt 35, 3) := by decide +kernel
theorem dX6_putColumn_4 : decode cX6_putColumn 4 = .ok (.iload_n 1, 1) := by decide +kernel
theorem dX6_putColumn_5 : decode cX6_putColumn 5 = .ok (.bipush 9, 2) := by decide +kernel
theorem dX6_putColumn_7 : decode cX6_putColumn 7 = .ok (.if_icmp .ge 29, 3) := by decide +kernel
theorem dX6_putColumn_10 : decode cX6_putColumn 10 = .ok (.aload_n 0, 1) := by decide +kernel
theorem dX6_putColumn_11 : decode cX6_putColumn 11 = .ok (.dup, 1) := by decide +kernel
theorem dX6_putColumn_12 : decode cX6_putColumn 12 = .ok (.getfield 27, 3) := by decide +kernel
theorem dX6_putColumn_15 : decode cX6_putColumn 15 = .ok (.iconst 1, 1) := by decide +kernel
theorem dX6_putColumn_16 : decode cX6_putColumn 16 = .ok (.iload_n 1, 1) := by decide +kernel
theorem dX6_putColumn_17 : decode cX6_putColumn 17 = .ok (.ishl, 1) := by decide +kernel
theorem dX6_putColumn_18 : decode cX6_putColumn 18 = .ok (.ior, 1) := by decide +kernel
theorem dX6_putColumn_19 : decode cX6_putColumn 19 = .ok (.putfield 27, 3) := by decide +kernel
theorem dX6_putColumn_22 : decode cX6_putColumn 22 = .ok (.aload_n 0, 1) := by decide +kernel
theorem dX6_putColumn_23 : decode cX6_putColumn 23 = .ok (.getfield 9, 3) := by decide +kernel
theorem dX6_putColumn_26 : decode cX6_putColumn 26 = .ok (.iload_n 1, 1) := by decide +kernel
theorem dX6_putColumn_27 : decode cX6_putColumn 27 = .ok (.iload_n 2, 1) := by decide +kernel
theorem dX6_putColumn_28 : decode cX6_putColumn 28 = .ok (.iastore, 1) := by decide +kernel
theorem dX6_putColumn_29 : decode cX6_putColumn 29 = .ok (.aload_n 0, 1) := by decide +kernel
theorem dX6_putColumn_30 : decode cX6_putColumn 30 = .ok (.getfield 15, 3) := by decide +kernel
theorem dX6_putColumn_33 : decode cX6_putColumn 33 = .ok (.iload_n 1, 1) := by decide +kernel
theorem dX6_putColumn_34 : decode cX6_putColumn 34 = .ok (.iload_n 3, 1) := by decide +kernel
theorem dX6_putColumn_35 : decode cX6_putColumn 35 = .ok (.iastore, 1) := by decide +kernel
theorem dX6_putColumn_36 : decode cX6_putColumn 36 = .ok (.return_, 1) := by decide +kernel
theorem dX6_takeColumn_0 : decode cX6_takeColumn 0 = .ok (.iconst 0, 1) := by decide +kernel
theorem dX6_takeColumn_1 : decode cX6_takeColumn 1 = .ok (.istore_n 2, 1) := by decide +kernel
theorem dX6_takeColumn_2 : decode cX6_takeColumn 2 = .ok (.iload_n 2, 1) := by decide +kernel
theorem dX6_takeColumn_3 : decode cX6_takeColumn 3 = .ok (.bipush 20, 2) := by decide +kernel
theorem dX6_takeColumn_5 : decode cX6_takeColumn 5 = .ok (.if_icmp .ge 18, 3) := by decide +kernel
theorem dX6_takeColumn_8 : decode cX6_takeColumn 8 = .ok (.aload_n 0, 1) := by decide +kernel
theorem dX6_takeColumn_9 : decode cX6_takeColumn 9 = .ok (.iload_n 2, 1) := by decide +kernel
theorem dX6_takeColumn_10 : decode cX6_takeColumn 10 = .ok (.iload_n 1, 1) := by decide +kernel
theorem dX6_takeColumn_11 : decode cX6_takeColumn 11 = .ok (.sipush 9999, 3) := by decide +kernel
theorem dX6_takeColumn_14 : decode cX6_takeColumn 14 = .ok (.invokevirtual 44, 3) := by decide +kernel
theorem dX6_takeColumn_17 : decode cX6_takeColumn 17 = .ok (.iinc 2 1, 3) := by decide +kernel
theorem dX6_takeColumn_20 : decode cX6_takeColumn 20 = .ok (.goto (-18), 3) := by decide +kernel
theorem dX6_takeColumn_23 : decode cX6_takeColumn 23 = .ok (.aload_n 0, 1) := by decide +kernel
theorem dX6_takeColumn_24 : decode cX6_takeColumn 24 = .ok (.iload_n 1, 1) := by decide +kernel
theorem dX6_takeColumn_25 : decode cX6_takeColumn 25 = .ok (.invokevirtual 40, 3) := by decide +kernel
theorem dX6_takeColumn_28 : decode cX6_takeColumn 28 = .ok (.ifCond .eq 17, 3) := by decide +kernel
theorem dX6_takeColumn_31 : decode cX6_takeColumn 31 = .ok (.aload_n 0, 1) := by decide +kernel
theorem dX6_takeColumn_32 : decode cX6_takeColumn 32 = .ok (.dup, 1) := by decide +kernel
theorem dX6_takeColumn_33 : decode cX6_takeColumn 33 = .ok (.getfield 27, 3) := by decide +kernel
theorem dX6_takeColumn_36 : decode cX6_takeColumn 36 = .ok (.iconst 1, 1) := by decide +kernel
theorem dX6_takeColumn_37 : decode cX6_takeColumn 37 = .ok (.iload_n 1, 1) := by decide +kernel
theorem dX6_takeColumn_38 : decode cX6_takeColumn 38 = .ok (.ishl, 1) := by decide +kernel
theorem dX6_takeColumn_39 : decode cX6_takeColumn 39 = .ok (.iconst (-1), 1) := by decide +kernel
theorem dX6_takeColumn_40 : decode cX6_takeColumn 40 = .ok (.ixor, 1) := by decide +kernel
theorem dX6_takeColumn_41 : decode cX6_takeColumn 41 = .ok (.iand, 1) := by decide +kernel
theorem dX6_takeColumn_42 : decode cX6_takeColumn 42 = .ok (.putfield 27, 3) := by decide +kernel
theorem dX6_takeColumn_45 : decode cX6_takeColumn 45 = .ok (.return_, 1) := by decide +kernel
theorem dX6_putRow_0 : decode cX6_putRow 0 = .ok (.iload_n 1, 1) := by decide +kernel
theorem dX6_putRow_1 : decode cX6_putRow 1 = .ok (.ifCond .lt 21, 3) := by decide +kernel
theorem dX6_putRow_4 : decode cX6_putRow 4 = .ok (.iload_n 1, 1) := by decide +kernel
theorem dX6_putRow_5 : decode cX6_putRow 5 = .ok (.bipush 20, 2) := by decide +kernel
theorem dX6_putRow_7 : decode cX6_putRow 7 = .ok (.if_icmp .ge 15, 3) := by decide +kernel
theorem dX6_putRow_10 : decode cX6_putRow 10 = .ok (.aload_n 0, 1) := by decide +kernel
theorem dX6_putRow_11 : decode cX6_putRow 11 = .ok (.dup, 1) := by decide +kernel
theorem dX6_putRow_12 : decode cX6_putRow 12 = .ok (.getfield 31, 3) := by decide +kernel
theorem dX6_putRow_15 : decode cX6_putRow 15 = .ok (.iconst 1, 1) := by decide +kernel
theorem dX6_putRow_16 : decode cX6_putRow 16 = .ok (.iload_n 1, 1) := by decide +kernel
theorem dX6_putRow_17 : decode cX6_putRow 17 = .ok (.ishl, 1) := by decide +kernel
theorem dX6_putRow_18 : decode cX6_putRow 18 = .ok (.ior, 1) := by decide +kernel
theorem dX6_putRow_19 : decode cX6_putRow 19 = .ok (.putfield 31, 3) := by decide +kernel
theorem dX6_putRow_22 : decode cX6_putRow 22 = .ok (.return_, 1) := by decide +kernel
theorem dX6_takeRow_0 : decode cX6_takeRow 0 = .ok (.iconst 0, 1) := by decide +kernel
theorem dX6_takeRow_1 : decode cX6_takeRow 1 = .ok (.istore_n 2, 1) := by decide +kernel
theorem dX6_takeRow_2 : decode cX6_takeRow 2 = .ok (.iload_n 2, 1) := by decide +kernel
theorem dX6_takeRow_3 : decode cX6_takeRow 3 = .ok (.bipush 9, 2) := by decide +kernel
theorem dX6_takeRow_5 : decode cX6_takeRow 5 = .ok (.if_icmp .ge 18, 3) := by decide +kernel
theorem dX6_takeRow_8 : decode cX6_takeRow 8 = .ok (.aload_n 0, 1) := by decide +kernel
theorem dX6_takeRow_9 : decode cX6_takeRow 9 = .ok (.iload_n 1, 1) := by decide +kernel
theorem dX6_takeRow_10 : decode cX6_takeRow 10 = .ok (.iload_n 2, 1) := by decide +kernel
theorem dX6_takeRow_11 : decode cX6_takeRow 11 = .ok (.sipush 9999, 3) := by decide +kernel
theorem dX6_takeRow_14 : decode cX6_takeRow 14 = .ok (.invokevirtual 44, 3) := by decide +kernel
theorem dX6_takeRow_17 : decode cX6_takeRow 17 = .ok (.iinc 2 1, 3) := by decide +kernel
theorem dX6_takeRow_20 : decode cX6_takeRow 20 = .ok (.goto (-18), 3) := by decide +kernel
theorem dX6_takeRow_23 : decode cX6_takeRow 23 = .ok (.aload_n 0, 1) := by decide +kernel
theorem dX6_takeRow_24 : decode cX6_takeRow 24 = .ok (.iload_n 1, 1) := by decide +kernel
theorem dX6_takeRow_25 : decode cX6_takeRow 25 = .ok (.invokevirtual 48, 3) := by decide +kernel
theorem dX6_takeRow_28 : decode cX6_takeRow 28 = .ok (.ifCond .eq 17, 3) := by decide +kernel
theorem dX6_takeRow_31 : decode cX6_takeRow 31 = .ok (.aload_n 0, 1) := by decide +kernel
theorem dX6_takeRow_32 : decode cX6_takeRow 32 = .ok (.dup, 1) := by decide +kernel
theorem dX6_takeRow_33 : decode cX6_takeRow 33 = .ok (.getfield 31, 3) := by decide +kernel
theorem dX6_takeRow_36 : decode cX6_takeRow 36 = .ok (.iconst 1, 1) := by decide +kernel
theorem dX6_takeRow_37 : decode cX6_takeRow 37 = .ok (.iload_n 1, 1) := by decide +kernel
theorem dX6_takeRow_38 : decode cX6_takeRow 38 = .ok (.ishl, 1) := by decide +kernel
theorem dX6_takeRow_39 : decode cX6_takeRow 39 = .ok (.iconst (-1), 1) := by decide +kernel
theorem dX6_takeRow_40 : decode cX6_takeRow 40 = .ok (.ixor, 1) := by decide +kernel
theorem dX6_takeRow_41 : decode cX6_takeRow 41 = .ok (.iand, 1) := by decide +kernel
theorem dX6_takeRow_42 : decode cX6_takeRow 42 = .ok (.putfield 31, 3) := by decide +kernel
theorem dX6_takeRow_45 : decode cX6_takeRow 45 = .ok (.return_, 1) := by decide +kernel
theorem dX6_renumberAdded_0 : decode cX6_renumberAdded 0 = .ok (.iconst 0, 1) := by decide +kernel
theorem dX6_renumberAdded_1 : decode cX6_renumberAdded 1 = .ok (.istore_n 1, 1) := by decide +kernel
theorem dX6_renumberAdded_2 : decode cX6_renumberAdded 2 = .ok (.iload_n 1, 1) := by decide +kernel
theorem dX6_renumberAdded_3 : decode cX6_renumberAdded 3 = .ok (.iconst 2, 1) := by decide +kernel
theorem dX6_renumberAdded_4 : decode cX6_renumberAdded 4 = .ok (.if_icmp .ge 73, 3) := by decide +kernel
theorem dX6_renumberAdded_7 : decode cX6_renumberAdded 7 = .ok (.iconst 5, 1) := by decide +kernel
theorem dX6_renumberAdded_8 : decode cX6_renumberAdded 8 = .ok (.iload_n 1, 1) := by decide +kernel
theorem dX6_renumberAdded_9 : decode cX6_renumberAdded 9 = .ok (.iadd, 1) := by decide +kernel
theorem dX6_renumberAdded_10 : decode cX6_renumberAdded 10 = .ok (.istore_n 2, 1) := by decide +kernel
theorem dX6_renumberAdded_11 : decode cX6_renumberAdded 11 = .ok (.bipush 7, 2) := by decide +kernel
theorem dX6_renumberAdded_13 : decode cX6_renumberAdded 13 = .ok (.iload_n 1, 1) := by decide +kernel
theorem dX6_renumberAdded_14 : decode cX6_renumberAdded 14 = .ok (.iadd, 1) := by decide +kernel
theorem dX6_renumberAdded_15 : decode cX6_renumberAdded 15 = .ok (.istore_n 3, 1) := by decide +kernel
theorem dX6_renumberAdded_16 : decode cX6_renumberAdded 16 = .ok (.aload_n 0, 1) := by decide +kernel
theorem dX6_renumberAdded_17 : decode cX6_renumberAdded 17 = .ok (.getfield 9, 3) := by decide +kernel
theorem dX6_renumberAdded_20 : decode cX6_renumberAdded 20 = .ok (.iload_n 2, 1) := by decide +kernel
theorem dX6_renumberAdded_21 : decode cX6_renumberAdded 21 = .ok (.iload_n 3, 1) := by decide +kernel
theorem dX6_renumberAdded_22 : decode cX6_renumberAdded 22 = .ok (.invokestatic 51, 3) := by decide +kernel
theorem dX6_renumberAdded_25 : decode cX6_renumberAdded 25 = .ok (.aload_n 0, 1) := by decide +kernel
theorem dX6_renumberAdded_26 : decode cX6_renumberAdded 26 = .ok (.getfield 15, 3) := by decide +kernel
theorem dX6_renumberAdded_29 : decode cX6_renumberAdded 29 = .ok (.iload_n 2, 1) := by decide +kernel
theorem dX6_renumberAdded_30 : decode cX6_renumberAdded 30 = .ok (.iload_n 3, 1) := by decide +kernel
theorem dX6_renumberAdded_31 : decode cX6_renumberAdded 31 = .ok (.invokestatic 51, 3) := by decide +kernel
theorem dX6_renumberAdded_34 : decode cX6_renumberAdded 34 = .ok (.iconst 0, 1) := by decide +kernel
theorem dX6_renumberAdded_35 : decode cX6_renumberAdded 35 = .ok (.istore 4, 2) := by decide +kernel
theorem dX6_renumberAdded_37 : decode cX6_renumberAdded 37 = .ok (.iload 4, 2) := by decide +kernel
theorem dX6_renumberAdded_39 : decode cX6_renumberAdded 39 = .ok (.bipush 20, 2) := by decide +kernel
theorem dX6_renumberAdded_41 : decode cX6_renumberAdded 41 = .ok (.if_icmp .ge 30, 3) := by decide +kernel
theorem dX6_renumberAdded_44 : decode cX6_renumberAdded 44 = .ok (.aload_n 0, 1) := by decide +kernel
theorem dX6_renumberAdded_45 : decode cX6_renumberAdded 45 = .ok (.getfield 18, 3) := by decide +kernel
theorem dX6_renumberAdded_48 : decode cX6_renumberAdded 48 = .ok (.iload 4, 2) := by decide +kernel
theorem dX6_renumberAdded_50 : decode cX6_renumberAdded 50 = .ok (.bipush 9, 2) := by decide +kernel
theorem dX6_renumberAdded_52 : decode cX6_renumberAdded 52 = .ok (.imul, 1) := by decide +kernel
theorem dX6_renumberAdded_53 : decode cX6_renumberAdded 53 = .ok (.iload_n 2, 1) := by decide +kernel
theorem dX6_renumberAdded_54 : decode cX6_renumberAdded 54 = .ok (.iadd, 1) := by decide +kernel
theorem dX6_renumberAdded_55 : decode cX6_renumberAdded 55 = .ok (.iload 4, 2) := by decide +kernel
theorem dX6_renumberAdded_57 : decode cX6_renumberAdded 57 = .ok (.bipush 9, 2) := by decide +kernel
theorem dX6_renumberAdded_59 : decode cX6_renumberAdded 59 = .ok (.imul, 1) := by decide +kernel
theorem dX6_renumberAdded_60 : decode cX6_renumberAdded 60 = .ok (.iload_n 3, 1) := by decide +kernel
theorem dX6_renumberAdded_61 : decode cX6_renumberAdded 61 = .ok (.iadd, 1) := by decide +kernel
theorem dX6_renumberAdded_62 : decode cX6_renumberAdded 62 = .ok (.invokestatic 51, 3) := by decide +kernel
theorem dX6_renumberAdded_65 : decode cX6_renumberAdded 65 = .ok (.iinc 4 1, 3) := by decide +kernel
theorem dX6_renumberAdded_68 : decode cX6_renumberAdded 68 = .ok (.goto (-31), 3) := by decide +kernel
theorem dX6_renumberAdded_71 : decode cX6_renumberAdded 71 = .ok (.iinc 1 1, 3) := by decide +kernel
theorem dX6_renumberAdded_74 : decode cX6_renumberAdded 74 = .ok (.goto (-72), 3) := by decide +kernel
theorem dX6_renumberAdded_77 : decode cX6_renumberAdded 77 = .ok (.aload_n 0, 1) := by decide +kernel
theorem dX6_renumberAdded_78 : decode cX6_renumberAdded 78 = .ok (.aload_n 0, 1) := by decide +kernel
theorem dX6_renumberAdded_79 : decode cX6_renumberAdded 79 = .ok (.getfield 27, 3) := by decide +kernel
theorem dX6_renumberAdded_82 : decode cX6_renumberAdded 82 = .ok (.bipush 31, 2) := by decide +kernel
theorem dX6_renumberAdded_84 : decode cX6_renumberAdded 84 = .ok (.iand, 1) := by decide +kernel
theorem dX6_renumberAdded_85 : decode cX6_renumberAdded 85 = .ok (.aload_n 0, 1) := by decide +kernel
theorem dX6_renumberAdded_86 : decode cX6_renumberAdded 86 = .ok (.getfield 27, 3) := by decide +kernel
theorem dX6_renumberAdded_89 : decode cX6_renumberAdded 89 = .ok (.iconst 5, 1) := by decide +kernel
theorem dX6_renumberAdded_90 : decode cX6_renumberAdded 90 = .ok (.ishr, 1) := by decide +kernel
theorem dX6_renumberAdded_91 : decode cX6_renumberAdded 91 = .ok (.iconst 3, 1) := by decide +kernel
theorem dX6_renumberAdded_92 : decode cX6_renumberAdded 92 = .ok (.iand, 1) := by decide +kernel
theorem dX6_renumberAdded_93 : decode cX6_renumberAdded 93 = .ok (.bipush 7, 2) := by decide +kernel
theorem dX6_renumberAdded_95 : decode cX6_renumberAdded 95 = .ok (.ishl, 1) := by decide +kernel
theorem dX6_renumberAdded_96 : decode cX6_renumberAdded 96 = .ok (.ior, 1) := by decide +kernel
theorem dX6_renumberAdded_97 : decode cX6_renumberAdded 97 = .ok (.aload_n 0, 1) := by decide +kernel
theorem dX6_renumberAdded_98 : decode cX6_renumberAdded 98 = .ok (.getfield 27, 3) := by decide +kernel
theorem dX6_renumberAdded_101 : decode cX6_renumberAdded 101 = .ok (.bipush 7, 2) := by decide +kernel
theorem dX6_renumberAdded_103 : decode cX6_renumberAdded 103 = .ok (.ishr, 1) := by decide +kernel
theorem dX6_renumberAdded_104 : decode cX6_renumberAdded 104 = .ok (.iconst 3, 1) := by decide +kernel
theorem dX6_renumberAdded_105 : decode cX6_renumberAdded 105 = .ok (.iand, 1) := by decide +kernel
theorem dX6_renumberAdded_106 : decode cX6_renumberAdded 106 = .ok (.iconst 5, 1) := by decide +kernel
theorem dX6_renumberAdded_107 : decode cX6_renumberAdded 107 = .ok (.ishl, 1) := by decide +kernel
theorem dX6_renumberAdded_108 : decode cX6_renumberAdded 108 = .ok (.ior, 1) := by decide +kernel
theorem dX6_renumberAdded_109 : decode cX6_renumberAdded 109 = .ok (.putfield 27, 3) := by decide +kernel
theorem dX6_renumberAdded_112 : decode cX6_renumberAdded 112 = .ok (.return_, 1) := by decide +kernel
theorem dX6_countFull_0 : decode cX6_countFull 0 = .ok (.iconst 0, 1) := by decide +kernel
theorem dX6_countFull_1 : decode cX6_countFull 1 = .ok (.istore_n 1, 1) := by decide +kernel
theorem dX6_countFull_2 : decode cX6_countFull 2 = .ok (.iconst 0, 1) := by decide +kernel
theorem dX6_countFull_3 : decode cX6_countFull 3 = .ok (.istore_n 2, 1) := by decide +kernel
theorem dX6_countFull_4 : decode cX6_countFull 4 = .ok (.iload_n 2, 1) := by decide +kernel
theorem dX6_countFull_5 : decode cX6_countFull 5 = .ok (.sipush 180, 3) := by decide +kernel
theorem dX6_countFull_8 : decode cX6_countFull 8 = .ok (.if_icmp .ge 24, 3) := by decide +kernel
theorem dX6_countFull_11 : decode cX6_countFull 11 = .ok (.aload_n 0, 1) := by decide +kernel
theorem dX6_countFull_12 : decode cX6_countFull 12 = .ok (.getfield 18, 3) := by decide +kernel
theorem dX6_countFull_15 : decode cX6_countFull 15 = .ok (.iload_n 2, 1) := by decide +kernel
theorem dX6_countFull_16 : decode cX6_countFull 16 = .ok (.iaload, 1) := by decide +kernel
theorem dX6_countFull_17 : decode cX6_countFull 17 = .ok (.sipush 9999, 3) := by decide +kernel
theorem dX6_countFull_20 : decode cX6_countFull 20 = .ok (.if_icmp .eq 6, 3) := by decide +kernel
theorem dX6_countFull_23 : decode cX6_countFull 23 = .ok (.iinc 1 1, 3) := by decide +kernel
theorem dX6_countFull_26 : decode cX6_countFull 26 = .ok (.iinc 2 1, 3) := by decide +kernel
theorem dX6_countFull_29 : decode cX6_countFull 29 = .ok (.goto (-25), 3) := by decide +kernel
theorem dX6_countFull_32 : decode cX6_countFull 32 = .ok (.iload_n 1, 1) := by decide +kernel
theorem dX6_countFull_33 : decode cX6_countFull 33 = .ok (.ireturn, 1) := by decide +kernel
theorem dX6_countOtherNames_0 : decode cX6_countOtherNames 0 = .ok (.iconst 0, 1) := by decide +kernel
theorem dX6_countOtherNames_1 : decode cX6_countOtherNames 1 = .ok (.istore_n 2, 1) := by decide +kernel
theorem dX6_countOtherNames_2 : decode cX6_countOtherNames 2 = .ok (.iconst 0, 1) := by decide +kernel
theorem dX6_countOtherNames_3 : decode cX6_countOtherNames 3 = .ok (.istore_n 3, 1) := by decide +kernel
theorem dX6_countOtherNames_4 : decode cX6_countOtherNames 4 = .ok (.iload_n 3, 1) := by decide +kernel
theorem dX6_countOtherNames_5 : decode cX6_countOtherNames 5 = .ok (.bipush 9, 2) := by decide +kernel
theorem dX6_countOtherNames_7 : decode cX6_countOtherNames 7 = .ok (.if_icmp .ge 43, 3) := by decide +kernel
theorem dX6_countOtherNames_10 : decode cX6_countOtherNames 10 = .ok (.aload_n 0, 1) := by decide +kernel
theorem dX6_countOtherNames_11 : decode cX6_countOtherNames 11 = .ok (.iload_n 3, 1) := by decide +kernel
theorem dX6_countOtherNames_12 : decode cX6_countOtherNames 12 = .ok (.invokevirtual 40, 3) := by decide +kernel
theorem dX6_countOtherNames_15 : decode cX6_countOtherNames 15 = .ok (.ifCond .eq 29, 3) := by decide +kernel
theorem dX6_countOtherNames_18 : decode cX6_countOtherNames 18 = .ok (.aload_n 1, 1) := by decide +kernel
theorem dX6_countOtherNames_19 : decode cX6_countOtherNames 19 = .ok (.iload_n 3, 1) := by decide +kernel
theorem dX6_countOtherNames_20 : decode cX6_countOtherNames 20 = .ok (.invokevirtual 40, 3) := by decide +kernel
theorem dX6_countOtherNames_23 : decode cX6_countOtherNames 23 = .ok (.ifCond .eq 21, 3) := by decide +kernel
theorem dX6_countOtherNames_26 : decode cX6_countOtherNames 26 = .ok (.aload_n 0, 1) := by decide +kernel
theorem dX6_countOtherNames_27 : decode cX6_countOtherNames 27 = .ok (.getfield 9, 3) := by decide +kernel
theorem dX6_countOtherNames_30 : decode cX6_countOtherNames 30 = .ok (.iload_n 3, 1) := by decide +kernel
theorem dX6_countOtherNames_31 : decode cX6_countOtherNames 31 = .ok (.iaload, 1) := by decide +kernel
theorem dX6_countOtherNames_32 : decode cX6_countOtherNames 32 = .ok (.aload_n 1, 1) := by decide +kernel
theorem dX6_countOtherNames_33 : decode cX6_countOtherNames 33 = .ok (.getfield 9, 3) := by decide +kernel
theorem dX6_countOtherNames_36 : decode cX6_countOtherNames 36 = .ok (.iload_n 3, 1) := by decide +kernel
theorem dX6_countOtherNames_37 : decode cX6_countOtherNames 37 = .ok (.iaload, 1) := by decide +kernel
theorem dX6_countOtherNames_38 : decode cX6_countOtherNames 38 = .ok (.if_icmp .eq 6, 3) := by decide +kernel
theorem dX6_countOtherNames_41 : decode cX6_countOtherNames 41 = .ok (.iinc 2 1, 3) := by decide +kernel
theorem dX6_countOtherNames_44 : decode cX6_countOtherNames 44 = .ok (.iinc 3 1, 3) := by decide +kernel
theorem dX6_countOtherNames_47 : decode cX6_countOtherNames 47 = .ok (.goto (-43), 3) := by decide +kernel
theorem dX6_countOtherNames_50 : decode cX6_countOtherNames 50 = .ok (.iload_n 2, 1) := by decide +kernel
theorem dX6_countOtherNames_51 : decode cX6_countOtherNames 51 = .ok (.ireturn, 1) := by decide +kernel
theorem dX6_countOtherTypes_0 : decode cX6_countOtherTypes 0 = .ok (.iconst 0, 1) := by decide +kernel
theorem dX6_countOtherTypes_1 : decode cX6_countOtherTypes 1 = .ok (.istore_n 2, 1) := by decide +kernel
theorem dX6_countOtherTypes_2 : decode cX6_countOtherTypes 2 = .ok (.iconst 0, 1) := by decide +kernel
theorem dX6_countOtherTypes_3 : decode cX6_countOtherTypes 3 = .ok (.istore_n 3, 1) := by decide +kernel
theorem dX6_countOtherTypes_4 : decode cX6_countOtherTypes 4 = .ok (.iload_n 3, 1) := by decide +kernel
theorem dX6_countOtherTypes_5 : decode cX6_countOtherTypes 5 = .ok (.bipush 9, 2) := by decide +kernel
theorem dX6_countOtherTypes_7 : decode cX6_countOtherTypes 7 = .ok (.if_icmp .ge 43, 3) := by decide +kernel
theorem dX6_countOtherTypes_10 : decode cX6_countOtherTypes 10 = .ok (.aload_n 0, 1) := by decide +kernel
theorem dX6_countOtherTypes_11 : decode cX6_countOtherTypes 11 = .ok (.iload_n 3, 1) := by decide +kernel
theorem dX6_countOtherTypes_12 : decode cX6_countOtherTypes 12 = .ok (.invokevirtual 40, 3) := by decide +kernel
theorem dX6_countOtherTypes_15 : decode cX6_countOtherTypes 15 = .ok (.ifCond .eq 29, 3) := by decide +kernel
theorem dX6_countOtherTypes_18 : decode cX6_countOtherTypes 18 = .ok (.aload_n 1, 1) := by decide +kernel
theorem dX6_countOtherTypes_19 : decode cX6_countOtherTypes 19 = .ok (.iload_n 3, 1) := by decide +kernel
theorem dX6_countOtherTypes_20 : decode cX6_countOtherTypes 20 = .ok (.invokevirtual 40, 3) := by decide +kernel
theorem dX6_countOtherTypes_23 : decode cX6_countOtherTypes 23 = .ok (.ifCond .eq 21, 3) := by decide +kernel
theorem dX6_countOtherTypes_26 : decode cX6_countOtherTypes 26 = .ok (.aload_n 0, 1) := by decide +kernel
theorem dX6_countOtherTypes_27 : decode cX6_countOtherTypes 27 = .ok (.getfield 15, 3) := by decide +kernel
theorem dX6_countOtherTypes_30 : decode cX6_countOtherTypes 30 = .ok (.iload_n 3, 1) := by decide +kernel
theorem dX6_countOtherTypes_31 : decode cX6_countOtherTypes 31 = .ok (.iaload, 1) := by decide +kernel
theorem dX6_countOtherTypes_32 : decode cX6_countOtherTypes 32 = .ok (.aload_n 1, 1) := by decide +kernel
theorem dX6_countOtherTypes_33 : decode cX6_countOtherTypes 33 = .ok (.getfield 15, 3) := by decide +kernel
theorem dX6_countOtherTypes_36 : decode cX6_countOtherTypes 36 = .ok (.iload_n 3, 1) := by decide +kernel
theorem dX6_countOtherTypes_37 : decode cX6_countOtherTypes 37 = .ok (.iaload, 1) := by decide +kernel
theorem dX6_countOtherTypes_38 : decode cX6_countOtherTypes 38 = .ok (.if_icmp .eq 6, 3) := by decide +kernel
theorem dX6_countOtherTypes_41 : decode cX6_countOtherTypes 41 = .ok (.iinc 2 1, 3) := by decide +kernel
theorem dX6_countOtherTypes_44 : decode cX6_countOtherTypes 44 = .ok (.iinc 3 1, 3) := by decide +kernel
theorem dX6_countOtherTypes_47 : decode cX6_countOtherTypes 47 = .ok (.goto (-43), 3) := by decide +kernel
theorem dX6_countOtherTypes_50 : decode cX6_countOtherTypes 50 = .ok (.iload_n 2, 1) := by decide +kernel
theorem dX6_countOtherTypes_51 : decode cX6_countOtherTypes 51 = .ok (.ireturn, 1) := by decide +kernel
theorem dX6_swap_0 : decode cX6_swap 0 = .ok (.iload_n 1, 1) := by decide +kernel
theorem dX6_swap_1 : decode cX6_swap 1 = .ok (.ifCond .lt 19, 3) := by decide +kernel
theorem dX6_swap_4 : decode cX6_swap 4 = .ok (.iload_n 2, 1) := by decide +kernel
theorem dX6_swap_5 : decode cX6_swap 5 = .ok (.ifCond .lt 15, 3) := by decide +kernel
theorem dX6_swap_8 : decode cX6_swap 8 = .ok (.iload_n 1, 1) := by decide +kernel
theorem dX6_swap_9 : decode cX6_swap 9 = .ok (.aload_n 0, 1) := by decide +kernel
theorem dX6_swap_10 : decode cX6_swap 10 = .ok (.arraylength, 1) := by decide +kernel
theorem dX6_swap_11 : decode cX6_swap 11 = .ok (.if_icmp .ge 9, 3) := by decide +kernel
theorem dX6_swap_14 : decode cX6_swap 14 = .ok (.iload_n 2, 1) := by decide +kernel
theorem dX6_swap_15 : decode cX6_swap 15 = .ok (.aload_n 0, 1) := by decide +kernel
theorem dX6_swap_16 : decode cX6_swap 16 = .ok (.arraylength, 1) := by decide +kernel
theorem dX6_swap_17 : decode cX6_swap 17 = .ok (.if_icmp .lt 4, 3) := by decide +kernel
theorem dX6_swap_20 : decode cX6_swap 20 = .ok (.return_, 1) := by decide +kernel
theorem dX6_swap_21 : decode cX6_swap 21 = .ok (.aload_n 0, 1) := by decide +kernel
theorem dX6_swap_22 : decode cX6_swap 22 = .ok (.iload_n 1, 1) := by decide +kernel
theorem dX6_swap_23 : decode cX6_swap 23 = .ok (.iaload, 1) := by decide +kernel
theorem dX6_swap_24 : decode cX6_swap 24 = .ok (.istore_n 3, 1) := by decide +kernel
theorem dX6_swap_25 : decode cX6_swap 25 = .ok (.aload_n 0, 1) := by decide +kernel
theorem dX6_swap_26 : decode cX6_swap 26 = .ok (.iload_n 1, 1) := by decide +kernel
theorem dX6_swap_27 : decode cX6_swap 27 = .ok (.aload_n 0, 1) := by decide +kernel
theorem dX6_swap_28 : decode cX6_swap 28 = .ok (.iload_n 2, 1) := by decide +kernel
theorem dX6_swap_29 : decode cX6_swap 29 = .ok (.iaload, 1) := by decide +kernel
theorem dX6_swap_30 : decode cX6_swap 30 = .ok (.iastore, 1) := by decide +kernel
theorem dX6_swap_31 : decode cX6_swap 31 = .ok (.aload_n 0, 1) := by decide +kernel
theorem dX6_swap_32 : decode cX6_swap 32 = .ok (.iload_n 2, 1) := by decide +kernel
theorem dX6_swap_33 : decode cX6_swap 33 = .ok (.iload_n 3, 1) := by decide +kernel
theorem dX6_swap_34 : decode cX6_swap 34 = .ok (.iastore, 1) := by decide +kernel
theorem dX6_swap_35 : decode cX6_swap 35 = .ok (.return_, 1) := by decide +kernel
theorem dX7_init_0 : decode cX7_init 0 = .ok (.aload_n 0, 1) := by decide +kernel
theorem dX7_init_1 : decode cX7_init 1 = .ok (.invokespecial 3, 3) := by decide +kernel
