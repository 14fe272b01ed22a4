theorem dX7_init_4 : decode cX7_init 4 = .ok (.aload_n 0, 1) := by decide +kernel
theorem dX7_init_5 : decode cX7_init 5 = .ok (.sipush 700, 3) := by decide +kernel
theorem dX7_init_8 : decode cX7_init 8 = .ok (.newarray .byte, 2) := by decide +kernel
theorem dX7_init_10 : decode cX7_init 10 = .ok (.putfield 9, 3) := by decide +kernel
theorem dX7_init_13 : decode cX7_init 13 = .ok (.aload_n 0, 1) := by decide +kernel
theorem dX7_init_14 : decode cX7_init 14 = .ok (.new 15, 3) := by decide +kernel
theorem dX7_init_17 : decode cX7_init 17 = .ok (.dup, 1) := by decide +kernel
theorem dX7_init_18 : decode cX7_init 18 = .ok (.invokespecial 17, 3) := by decide +kernel
theorem dX7_init_21 : decode cX7_init 21 = .ok (.putfield 18, 3) := by decide +kernel
theorem dX7_init_24 : decode cX7_init 24 = .ok (.aload_n 0, 1) := by decide +kernel
theorem dX7_init_25 : decode cX7_init 25 = .ok (.iconst (-1), 1) := by decide +kernel
theorem dX7_init_26 : decode cX7_init 26 = .ok (.putfield 22, 3) := by decide +kernel
theorem dX7_init_29 : decode cX7_init 29 = .ok (.return_, 1) := by decide +kernel
theorem dX7_hasRoom_0 : decode cX7_hasRoom 0 = .ok (.aload_n 0, 1) := by decide +kernel
theorem dX7_hasRoom_1 : decode cX7_hasRoom 1 = .ok (.getfield 26, 3) := by decide +kernel
theorem dX7_hasRoom_4 : decode cX7_hasRoom 4 = .ok (.iload_n 1, 1) := by decide +kernel
theorem dX7_hasRoom_5 : decode cX7_hasRoom 5 = .ok (.iadd, 1) := by decide +kernel
theorem dX7_hasRoom_6 : decode cX7_hasRoom 6 = .ok (.sipush 700, 3) := by decide +kernel
theorem dX7_hasRoom_9 : decode cX7_hasRoom 9 = .ok (.if_icmp .gt 7, 3) := by decide +kernel
theorem dX7_hasRoom_12 : decode cX7_hasRoom 12 = .ok (.iconst 1, 1) := by decide +kernel
theorem dX7_hasRoom_13 : decode cX7_hasRoom 13 = .ok (.goto 4, 3) := by decide +kernel
theorem dX7_hasRoom_16 : decode cX7_hasRoom 16 = .ok (.iconst 0, 1) := by decide +kernel
theorem dX7_hasRoom_17 : decode cX7_hasRoom 17 = .ok (.ireturn, 1) := by decide +kernel
theorem dX7_append_0 : decode cX7_append 0 = .ok (.aload_n 0, 1) := by decide +kernel
theorem dX7_append_1 : decode cX7_append 1 = .ok (.iconst 4, 1) := by decide +kernel
theorem dX7_append_2 : decode cX7_append 2 = .ok (.invokevirtual 29, 3) := by decide +kernel
theorem dX7_append_5 : decode cX7_append 5 = .ok (.ifCond .eq 39, 3) := by decide +kernel
theorem dX7_append_8 : decode cX7_append 8 = .ok (.bipush 24, 2) := by decide +kernel
theorem dX7_append_10 : decode cX7_append 10 = .ok (.istore_n 2, 1) := by decide +kernel
theorem dX7_append_11 : decode cX7_append 11 = .ok (.iload_n 2, 1) := by decide +kernel
theorem dX7_append_12 : decode cX7_append 12 = .ok (.ifCond .lt 32, 3) := by decide +kernel
theorem dX7_append_15 : decode cX7_append 15 = .ok (.aload_n 0, 1) := by decide +kernel
theorem dX7_append_16 : decode cX7_append 16 = .ok (.getfield 9, 3) := by decide +kernel
theorem dX7_append_19 : decode cX7_append 19 = .ok (.aload_n 0, 1) := by decide +kernel
theorem dX7_append_20 : decode cX7_append 20 = .ok (.getfield 26, 3) := by decide +kernel
theorem dX7_append_23 : decode cX7_append 23 = .ok (.iload_n 1, 1) := by decide +kernel
theorem dX7_append_24 : decode cX7_append 24 = .ok (.iload_n 2, 1) := by decide +kernel
theorem dX7_append_25 : decode cX7_append 25 = .ok (.ishr, 1) := by decide +kernel
theorem dX7_append_26 : decode cX7_append 26 = .ok (.i2b, 1) := by decide +kernel
theorem dX7_append_27 : decode cX7_append 27 = .ok (.bastore, 1) := by decide +kernel
theorem dX7_append_28 : decode cX7_append 28 = .ok (.aload_n 0, 1) := by decide +kernel
theorem dX7_append_29 : decode cX7_append 29 = .ok (.dup, 1) := by decide +kernel
theorem dX7_append_30 : decode cX7_append 30 = .ok (.getfield 26, 3) := by decide +kernel
theorem dX7_append_33 : decode cX7_append 33 = .ok (.iconst 1, 1) := by decide +kernel
theorem dX7_append_34 : decode cX7_append 34 = .ok (.iadd, 1) := by decide +kernel
theorem dX7_append_35 : decode cX7_append 35 = .ok (.putfield 26, 3) := by decide +kernel
theorem dX7_append_38 : decode cX7_append 38 = .ok (.iinc 2 (-8), 3) := by decide +kernel
theorem dX7_append_41 : decode cX7_append 41 = .ok (.goto (-30), 3) := by decide +kernel
theorem dX7_append_44 : decode cX7_append 44 = .ok (.return_, 1) := by decide +kernel
theorem dX7_readTables_0 : decode cX7_readTables 0 = .ok (.aload_n 0, 1) := by decide +kernel
theorem dX7_readTables_1 : decode cX7_readTables 1 = .ok (.iconst 0, 1) := by decide +kernel
theorem dX7_readTables_2 : decode cX7_readTables 2 = .ok (.iload_n 1, 1) := by decide +kernel
theorem dX7_readTables_3 : decode cX7_readTables 3 = .ok (.aload_n 0, 1) := by decide +kernel
theorem dX7_readTables_4 : decode cX7_readTables 4 = .ok (.getfield 26, 3) := by decide +kernel
theorem dX7_readTables_7 : decode cX7_readTables 7 = .ok (.invokestatic 33, 3) := by decide +kernel
theorem dX7_readTables_10 : decode cX7_readTables 10 = .ok (.invokestatic 39, 3) := by decide +kernel
theorem dX7_readTables_13 : decode cX7_readTables 13 = .ok (.putfield 42, 3) := by decide +kernel
theorem dX7_readTables_16 : decode cX7_readTables 16 = .ok (.aload_n 0, 1) := by decide +kernel
theorem dX7_readTables_17 : decode cX7_readTables 17 = .ok (.iconst 0, 1) := by decide +kernel
theorem dX7_readTables_18 : decode cX7_readTables 18 = .ok (.putfield 26, 3) := by decide +kernel
theorem dX7_readTables_21 : decode cX7_readTables 21 = .ok (.aload_n 0, 1) := by decide +kernel
theorem dX7_readTables_22 : decode cX7_readTables 22 = .ok (.iconst 0, 1) := by decide +kernel
theorem dX7_readTables_23 : decode cX7_readTables 23 = .ok (.putfield 45, 3) := by decide +kernel
theorem dX7_readTables_26 : decode cX7_readTables 26 = .ok (.aload_n 0, 1) := by decide +kernel
theorem dX7_readTables_27 : decode cX7_readTables 27 = .ok (.iconst (-1), 1) := by decide +kernel
theorem dX7_readTables_28 : decode cX7_readTables 28 = .ok (.putfield 22, 3) := by decide +kernel
theorem dX7_readTables_31 : decode cX7_readTables 31 = .ok (.aload_n 0, 1) := by decide +kernel
theorem dX7_readTables_32 : decode cX7_readTables 32 = .ok (.iconst 0, 1) := by decide +kernel
theorem dX7_readTables_33 : decode cX7_readTables 33 = .ok (.putfield 48, 3) := by decide +kernel
theorem dX7_readTables_36 : decode cX7_readTables 36 = .ok (.aload_n 0, 1) := by decide +kernel
theorem dX7_readTables_37 : decode cX7_readTables 37 = .ok (.iconst 0, 1) := by decide +kernel
theorem dX7_readTables_38 : decode cX7_readTables 38 = .ok (.putfield 51, 3) := by decide +kernel
theorem dX7_readTables_41 : decode cX7_readTables 41 = .ok (.aload_n 0, 1) := by decide +kernel
theorem dX7_readTables_42 : decode cX7_readTables 42 = .ok (.iconst 0, 1) := by decide +kernel
theorem dX7_readTables_43 : decode cX7_readTables 43 = .ok (.putfield 55, 3) := by decide +kernel
theorem dX7_readTables_46 : decode cX7_readTables 46 = .ok (.aload_n 0, 1) := by decide +kernel
theorem dX7_readTables_47 : decode cX7_readTables 47 = .ok (.getfield 18, 3) := by decide +kernel
theorem dX7_readTables_50 : decode cX7_readTables 50 = .ok (.invokevirtual 58, 3) := by decide +kernel
theorem dX7_readTables_53 : decode cX7_readTables 53 = .ok (.aload_n 0, 1) := by decide +kernel
theorem dX7_readTables_54 : decode cX7_readTables 54 = .ok (.invokevirtual 61, 3) := by decide +kernel
theorem dX7_readTables_57 : decode cX7_readTables 57 = .ok (.iconst 0, 1) := by decide +kernel
theorem dX7_readTables_58 : decode cX7_readTables 58 = .ok (.istore_n 2, 1) := by decide +kernel
theorem dX7_readTables_59 : decode cX7_readTables 59 = .ok (.iload_n 2, 1) := by decide +kernel
theorem dX7_readTables_60 : decode cX7_readTables 60 = .ok (.sipush 700, 3) := by decide +kernel
theorem dX7_readTables_63 : decode cX7_readTables 63 = .ok (.if_icmp .ge 27, 3) := by decide +kernel
theorem dX7_readTables_66 : decode cX7_readTables 66 = .ok (.aload_n 0, 1) := by decide +kernel
theorem dX7_readTables_67 : decode cX7_readTables 67 = .ok (.getfield 64, 3) := by decide +kernel
theorem dX7_readTables_70 : decode cX7_readTables 70 = .ok (.ifCond .eq 20, 3) := by decide +kernel
theorem dX7_readTables_73 : decode cX7_readTables 73 = .ok (.aload_n 0, 1) := by decide +kernel
theorem dX7_readTables_74 : decode cX7_readTables 74 = .ok (.getfield 45, 3) := by decide +kernel
theorem dX7_readTables_77 : decode cX7_readTables 77 = .ok (.ifCond .ne 13, 3) := by decide +kernel
theorem dX7_readTables_80 : decode cX7_readTables 80 = .ok (.aload_n 0, 1) := by decide +kernel
theorem dX7_readTables_81 : decode cX7_readTables 81 = .ok (.invokevirtual 67, 3) := by decide +kernel
theorem dX7_readTables_84 : decode cX7_readTables 84 = .ok (.iinc 2 1, 3) := by decide +kernel
theorem dX7_readTables_87 : decode cX7_readTables 87 = .ok (.goto (-28), 3) := by decide +kernel
theorem dX7_readTables_90 : decode cX7_readTables 90 = .ok (.aload_n 0, 1) := by decide +kernel
theorem dX7_readTables_91 : decode cX7_readTables 91 = .ok (.getfield 55, 3) := by decide +kernel
theorem dX7_readTables_94 : decode cX7_readTables 94 = .ok (.ifCond .ne 10, 3) := by decide +kernel
theorem dX7_readTables_97 : decode cX7_readTables 97 = .ok (.aload_n 0, 1) := by decide +kernel
theorem dX7_readTables_98 : decode cX7_readTables 98 = .ok (.getfield 18, 3) := by decide +kernel
theorem dX7_readTables_101 : decode cX7_readTables 101 = .ok (.invokevirtual 70, 3) := by decide +kernel
theorem dX7_readTables_104 : decode cX7_readTables 104 = .ok (.aload_n 0, 1) := by decide +kernel
theorem dX7_readTables_105 : decode cX7_readTables 105 = .ok (.getfield 45, 3) := by decide +kernel
theorem dX7_readTables_108 : decode cX7_readTables 108 = .ok (.ireturn, 1) := by decide +kernel
theorem dX7_readLine_0 : decode cX7_readLine 0 = .ok (.aload_n 0, 1) := by decide +kernel
theorem dX7_readLine_1 : decode cX7_readLine 1 = .ok (.ldc 73, 2) := by decide +kernel
theorem dX7_readLine_3 : decode cX7_readLine 3 = .ok (.invokevirtual 75, 3) := by decide +kernel
theorem dX7_readLine_6 : decode cX7_readLine 6 = .ok (.ifCond .eq 10, 3) := by decide +kernel
theorem dX7_readLine_9 : decode cX7_readLine 9 = .ok (.aload_n 0, 1) := by decide +kernel
theorem dX7_readLine_10 : decode cX7_readLine 10 = .ok (.invokevirtual 79, 3) := by decide +kernel
theorem dX7_readLine_13 : decode cX7_readLine 13 = .ok (.goto 114, 3) := by decide +kernel
theorem dX7_readLine_16 : decode cX7_readLine 16 = .ok (.aload_n 0, 1) := by decide +kernel
theorem dX7_readLine_17 : decode cX7_readLine 17 = .ok (.ldc 82, 2) := by decide +kernel
theorem dX7_readLine_19 : decode cX7_readLine 19 = .ok (.invokevirtual 75, 3) := by decide +kernel
theorem dX7_readLine_22 : decode cX7_readLine 22 = .ok (.ifCond .eq 10, 3) := by decide +kernel
theorem dX7_readLine_25 : decode cX7_readLine 25 = .ok (.aload_n 0, 1) := by decide +kernel
theorem dX7_readLine_26 : decode cX7_readLine 26 = .ok (.invokevirtual 84, 3) := by decide +kernel
theorem dX7_readLine_29 : decode cX7_readLine 29 = .ok (.goto 98, 3) := by decide +kernel
theorem dX7_readLine_32 : decode cX7_readLine 32 = .ok (.aload_n 0, 1) := by decide +kernel
theorem dX7_readLine_33 : decode cX7_readLine 33 = .ok (.ldc 87, 2) := by decide +kernel
theorem dX7_readLine_35 : decode cX7_readLine 35 = .ok (.invokevirtual 75, 3) := by decide +kernel
theorem dX7_readLine_38 : decode cX7_readLine 38 = .ok (.ifCond .eq 11, 3) := by decide +kernel
theorem dX7_readLine_41 : decode cX7_readLine 41 = .ok (.aload_n 0, 1) := by decide +kernel
theorem dX7_readLine_42 : decode cX7_readLine 42 = .ok (.iconst 0, 1) := by decide +kernel
theorem dX7_readLine_43 : decode cX7_readLine 43 = .ok (.invokevirtual 89, 3) := by decide +kernel
theorem dX7_readLine_46 : decode cX7_readLine 46 = .ok (.goto 81, 3) := by decide +kernel
theorem dX7_readLine_49 : decode cX7_readLine 49 = .ok (.aload_n 0, 1) := by decide +kernel
theorem dX7_readLine_50 : decode cX7_readLine 50 = .ok (.ldc 93, 2) := by decide +kernel
theorem dX7_readLine_52 : decode cX7_readLine 52 = .ok (.invokevirtual 75, 3) := by decide +kernel
theorem dX7_readLine_55 : decode cX7_readLine 55 = .ok (.ifCond .eq 11, 3) := by decide +kernel
theorem dX7_readLine_58 : decode cX7_readLine 58 = .ok (.aload_n 0, 1) := by decide +kernel
theorem dX7_readLine_59 : decode cX7_readLine 59 = .ok (.iconst 1, 1) := by decide +kernel
theorem dX7_readLine_60 : decode cX7_readLine 60 = .ok (.invokevirtual 89, 3) := by decide +kernel
theorem dX7_readLine_63 : decode cX7_readLine 63 = .ok (.goto 64, 3) := by decide +kernel
theorem dX7_readLine_66 : decode cX7_readLine 66 = .ok (.aload_n 0, 1) := by decide +kernel
theorem dX7_readLine_67 : decode cX7_readLine 67 = .ok (.ldc 95, 2) := by decide +kernel
theorem dX7_readLine_69 : decode cX7_readLine 69 = .ok (.invokevirtual 75, 3) := by decide +kernel
theorem dX7_readLine_72 : decode cX7_readLine 72 = .ok (.ifCond .eq 11, 3) := by decide +kernel
theorem dX7_readLine_75 : decode cX7_readLine 75 = .ok (.aload_n 0, 1) := by decide +kernel
theorem dX7_readLine_76 : decode cX7_readLine 76 = .ok (.iconst 2, 1) := by decide +kernel
theorem dX7_readLine_77 : decode cX7_readLine 77 = .ok (.invokevirtual 89, 3) := by decide +kernel
theorem dX7_readLine_80 : decode cX7_readLine 80 = .ok (.goto 47, 3) := by decide +kernel
theorem dX7_readLine_83 : decode cX7_readLine 83 = .ok (.aload_n 0, 1) := by decide +kernel
theorem dX7_readLine_84 : decode cX7_readLine 84 = .ok (.ldc 97, 2) := by decide +kernel
theorem dX7_readLine_86 : decode cX7_readLine 86 = .ok (.invokevirtual 75, 3) := by decide +kernel
theorem dX7_readLine_89 : decode cX7_readLine 89 = .ok (.ifCond .eq 11, 3) := by decide +kernel
theorem dX7_readLine_92 : decode cX7_readLine 92 = .ok (.aload_n 0, 1) := by decide +kernel
theorem dX7_readLine_93 : decode cX7_readLine 93 = .ok (.iconst 0, 1) := by decide +kernel
theorem dX7_readLine_94 : decode cX7_readLine 94 = .ok (.invokevirtual 99, 3) := by decide +kernel
theorem dX7_readLine_97 : decode cX7_readLine 97 = .ok (.goto 30, 3) := by decide +kernel
theorem dX7_readLine_100 : decode cX7_readLine 100 = .ok (.aload_n 0, 1) := by decide +kernel
theorem dX7_readLine_101 : decode cX7_readLine 101 = .ok (.ldc 102, 2) := by decide +kernel
theorem dX7_readLine_103 : decode cX7_readLine 103 = .ok (.invokevirtual 75, 3) := by decide +kernel
theorem dX7_readLine_106 : decode cX7_readLine 106 = .ok (.ifCond .eq 11, 3) := by decide +kernel
theorem dX7_readLine_109 : decode cX7_readLine 109 = .ok (.aload_n 0, 1) := by decide +kernel
theorem dX7_readLine_110 : decode cX7_readLine 110 = .ok (.iconst 1, 1) := by decide +kernel
theorem dX7_readLine_111 : decode cX7_readLine 111 = .ok (.invokevirtual 99, 3) := by decide +kernel
theorem dX7_readLine_114 : decode cX7_readLine 114 = .ok (.goto 13, 3) := by decide +kernel
theorem dX7_readLine_117 : decode cX7_readLine 117 = .ok (.aload_n 0, 1) := by decide +kernel
theorem dX7_readLine_118 : decode cX7_readLine 118 = .ok (.iconst 1, 1) := by decide +kernel
theorem dX7_readLine_119 : decode cX7_readLine 119 = .ok (.aload_n 0, 1) := by decide +kernel
theorem dX7_readLine_120 : decode cX7_readLine 120 = .ok (.getfield 104, 3) := by decide +kernel
theorem dX7_readLine_123 : decode cX7_readLine 123 = .ok (.invokevirtual 107, 3) := by decide +kernel
theorem dX7_readLine_126 : decode cX7_readLine 126 = .ok (.pop, 1) := by decide +kernel
theorem dX7_readLine_127 : decode cX7_readLine 127 = .ok (.return_, 1) := by decide +kernel
theorem dX7_readColumn_0 : decode cX7_readColumn 0 = .ok (.aload_n 0, 1) := by decide +kernel
theorem dX7_readColumn_1 : decode cX7_readColumn 1 = .ok (.getfield 18, 3) := by decide +kernel
theorem dX7_readColumn_4 : decode cX7_readColumn 4 = .ok (.getfield 110, 3) := by decide +kernel
theorem dX7_readColumn_7 : decode cX7_readColumn 7 = .ok (.getfield 114, 3) := by decide +kernel
theorem dX7_readColumn_10 : decode cX7_readColumn 10 = .ok (.invokestatic 119, 3) := by decide +kernel
theorem dX7_readColumn_13 : decode cX7_readColumn 13 = .ok (.istore_n 1, 1) := by decide +kernel
theorem dX7_readColumn_14 : decode cX7_readColumn 14 = .ok (.aload_n 0, 1) := by decide +kernel
theorem dX7_readColumn_15 : decode cX7_readColumn 15 = .ok (.aload_n 0, 1) := by decide +kernel
theorem dX7_readColumn_16 : decode cX7_readColumn 16 = .ok (.getfield 51, 3) := by decide +kernel
theorem dX7_readColumn_19 : decode cX7_readColumn 19 = .ok (.ifCond .ne 14, 3) := by decide +kernel
theorem dX7_readColumn_22 : decode cX7_readColumn 22 = .ok (.aload_n 0, 1) := by decide +kernel
theorem dX7_readColumn_23 : decode cX7_readColumn 23 = .ok (.getfield 55, 3) := by decide +kernel
theorem dX7_readColumn_26 : decode cX7_readColumn 26 = .ok (.ifCond .ne 7, 3) := by decide +kernel
theorem dX7_readColumn_29 : decode cX7_readColumn 29 = .ok (.iconst 1, 1) := by decide +kernel
theorem dX7_readColumn_30 : decode cX7_readColumn 30 = .ok (.goto 4, 3) := by decide +kernel
theorem dX7_readColumn_33 : decode cX7_readColumn 33 = .ok (.iconst 0, 1) := by decide +kernel
theorem dX7_readColumn_34 : decode cX7_readColumn 34 = .ok (.iload_n 1, 1) := by decide +kernel
theorem dX7_readColumn_35 : decode cX7_readColumn 35 = .ok (.iconst 5, 1) := by decide +kernel
theorem dX7_readColumn_36 : decode cX7_readColumn 36 = .ok (.if_icmp .ge 7, 3) := by decide +kernel
theorem dX7_readColumn_39 : decode cX7_readColumn 39 = .ok (.iconst 1, 1) := by decide +kernel
theorem dX7_readColumn_40 : decode cX7_readColumn 40 = .ok (.goto 4, 3) := by decide +kernel
theorem dX7_readColumn_43 : decode cX7_readColumn 43 = .ok (.iconst 0, 1) := by decide +kernel
theorem dX7_readColumn_44 : decode cX7_readColumn 44 = .ok (.invokevirtual 125, 3) := by decide +kernel
theorem dX7_readColumn_47 : decode cX7_readColumn 47 = .ok (.aload_n 0, 1) := by decide +kernel
theorem dX7_readColumn_48 : decode cX7_readColumn 48 = .ok (.getfield 104, 3) := by decide +kernel
theorem dX7_readColumn_51 : decode cX7_readColumn 51 = .ok (.istore_n 2, 1) := by decide +kernel
theorem dX7_readColumn_52 : decode cX7_readColumn 52 = .ok (.aload_n 0, 1) := by decide +kernel
theorem dX7_readColumn_53 : decode cX7_readColumn 53 = .ok (.invokevirtual 129, 3) := by decide +kernel
theorem dX7_readColumn_56 : decode cX7_readColumn 56 = .ok (.istore_n 3, 1) := by decide +kernel
theorem dX7_readColumn_57 : decode cX7_readColumn 57 = .ok (.aload_n 0, 1) := by decide +kernel
theorem dX7_readColumn_58 : decode cX7_readColumn 58 = .ok (.getfield 45, 3) := by decide +kernel
theorem dX7_readColumn_61 : decode cX7_readColumn 61 = .ok (.ifCond .ne 24, 3) := by decide +kernel
theorem dX7_readColumn_64 : decode cX7_readColumn 64 = .ok (.aload_n 0, 1) := by decide +kernel
theorem dX7_readColumn_65 : decode cX7_readColumn 65 = .ok (.getfield 18, 3) := by decide +kernel
theorem dX7_readColumn_68 : decode cX7_readColumn 68 = .ok (.getfield 110, 3) := by decide +kernel
theorem dX7_readColumn_71 : decode cX7_readColumn 71 = .ok (.iload_n 3, 1) := by decide +kernel
theorem dX7_readColumn_72 : decode cX7_readColumn 72 = .ok (.invokevirtual 133, 3) := by decide +kernel
theorem dX7_readColumn_75 : decode cX7_readColumn 75 = .ok (.ifCond .eq 10, 3) := by decide +kernel
theorem dX7_readColumn_78 : decode cX7_readColumn 78 = .ok (.aload_n 0, 1) := by decide +kernel
theorem dX7_readColumn_79 : decode cX7_readColumn 79 = .ok (.iconst 4, 1) := by decide +kernel
theorem dX7_readColumn_80 : decode cX7_readColumn 80 = .ok (.iload_n 2, 1) := by decide +kernel
theorem dX7_readColumn_81 : decode cX7_readColumn 81 = .ok (.invokevirtual 107, 3) := by decide +kernel
theorem dX7_readColumn_84 : decode cX7_readColumn 84 = .ok (.pop, 1) := by decide +kernel
theorem dX7_readColumn_85 : decode cX7_readColumn 85 = .ok (.aload_n 0, 1) := by decide +kernel
theorem dX7_readColumn_86 : decode cX7_readColumn 86 = .ok (.invokevirtual 136, 3) := by decide +kernel
theorem dX7_readColumn_89 : decode cX7_readColumn 89 = .ok (.istore 4, 2) := by decide +kernel
theorem dX7_readColumn_91 : decode cX7_readColumn 91 = .ok (.aload_n 0, 1) := by decide +kernel
theorem dX7_readColumn_92 : decode cX7_readColumn 92 = .ok (.invokevirtual 139, 3) := by decide +kernel
theorem dX7_readColumn_95 : decode cX7_readColumn 95 = .ok (.aload_n 0, 1) := by decide +kernel
theorem dX7_readColumn_96 : decode cX7_readColumn 96 = .ok (.getfield 45, 3) := by decide +kernel
theorem dX7_readColumn_99 : decode cX7_readColumn 99 = .ok (.ifCond .ne 17, 3) := by decide +kernel
theorem dX7_readColumn_102 : decode cX7_readColumn 102 = .ok (.aload_n 0, 1) := by decide +kernel
theorem dX7_readColumn_103 : decode cX7_readColumn 103 = .ok (.getfield 18, 3) := by decide +kernel
theorem dX7_readColumn_106 : decode cX7_readColumn 106 = .ok (.getfield 110, 3) := by decide +kernel
theorem dX7_readColumn_109 : decode cX7_readColumn 109 = .ok (.iload_n 1, 1) := by decide +kernel
theorem dX7_readColumn_110 : decode cX7_readColumn 110 = .ok (.iload_n 3, 1) := by decide +kernel
theorem dX7_readColumn_111 : decode cX7_readColumn 111 = .ok (.iload 4, 2) := by decide +kernel
theorem dX7_readColumn_113 : decode cX7_readColumn 113 = .ok (.invokevirtual 142, 3) := by decide +kernel
theorem dX7_readColumn_116 : decode cX7_readColumn 116 = .ok (.return_, 1) := by decide +kernel
theorem dX7_readRow_0 : decode cX7_readRow 0 = .ok (.aload_n 0, 1) := by decide +kernel
theorem dX7_readRow_1 : decode cX7_readRow 1 = .ok (.aload_n 0, 1) := by decide +kernel
theorem dX7_readRow_2 : decode cX7_readRow 2 = .ok (.getfield 55, 3) := by decide +kernel
theorem dX7_readRow_5 : decode cX7_readRow 5 = .ok (.ifCond .ne 7, 3) := by decide +kernel
theorem dX7_readRow_8 : decode cX7_readRow 8 = .ok (.iconst 1, 1) := by decide +kernel
theorem dX7_readRow_9 : decode cX7_readRow 9 = .ok (.goto 4, 3) := by decide +kernel
theorem dX7_readRow_12 : decode cX7_readRow 12 = .ok (.iconst 0, 1) := by decide +kernel
theorem dX7_readRow_13 : decode cX7_readRow 13 = .ok (.aload_n 0, 1) := by decide +kernel
theorem dX7_readRow_14 : decode cX7_readRow 14 = .ok (.getfield 18, 3) := by decide +kernel
theorem dX7_readRow_17 : decode cX7_readRow 17 = .ok (.getfield 110, 3) := by decide +kernel
theorem dX7_readRow_20 : decode cX7_readRow 20 = .ok (.getfield 146, 3) := by decide +kernel
theorem dX7_readRow_23 : decode cX7_readRow 23 = .ok (.invokestatic 119, 3) := by decide +kernel
theorem dX7_readRow_26 : decode cX7_readRow 26 = .ok (.bipush 12, 2) := by decide +kernel
theorem dX7_readRow_28 : decode cX7_readRow 28 = .ok (.if_icmp .ge 7, 3) := by decide +kernel
theorem dX7_readRow_31 : decode cX7_readRow 31 = .ok (.iconst 1, 1) := by decide +kernel
theorem dX7_readRow_32 : decode cX7_readRow 32 = .ok (.goto 4, 3) := by decide +kernel
theorem dX7_readRow_35 : decode cX7_readRow 35 = .ok (.iconst 0, 1) := by decide +kernel
theorem dX7_readRow_36 : decode cX7_readRow 36 = .ok (.invokevirtual 125, 3) := by decide +kernel
theorem dX7_readRow_39 : decode cX7_readRow 39 = .ok (.aload_n 0, 1) := by decide +kernel
theorem dX7_readRow_40 : decode cX7_readRow 40 = .ok (.iconst 1, 1) := by decide +kernel
theorem dX7_readRow_41 : decode cX7_readRow 41 = .ok (.putfield 51, 3) := by decide +kernel
theorem dX7_readRow_44 : decode cX7_readRow 44 = .ok (.aload_n 0, 1) := by decide +kernel
theorem dX7_readRow_45 : decode cX7_readRow 45 = .ok (.getfield 104, 3) := by decide +kernel
theorem dX7_readRow_48 : decode cX7_readRow 48 = .ok (.istore_n 1, 1) := by decide +kernel
theorem dX7_readRow_49 : decode cX7_readRow 49 = .ok (.aload_n 0, 1) := by decide +kernel
theorem dX7_readRow_50 : decode cX7_readRow 50 = .ok (.bipush 19, 2) := by decide +kernel
theorem dX7_readRow_52 : decode cX7_readRow 52 = .ok (.invokevirtual 149, 3) := by decide +kernel
theorem dX7_readRow_55 : decode cX7_readRow 55 = .ok (.istore_n 2, 1) := by decide +kernel
theorem dX7_readRow_56 : decode cX7_readRow 56 = .ok (.aload_n 0, 1) := by decide +kernel
theorem dX7_readRow_57 : decode cX7_readRow 57 = .ok (.getfield 45, 3) := by decide +kernel
theorem dX7_readRow_60 : decode cX7_readRow 60 = .ok (.ifCond .ne 24, 3) := by decide +kernel
theorem dX7_readRow_63 : decode cX7_readRow 63 = .ok (.aload_n 0, 1) := by decide +kernel
theorem dX7_readRow_64 : decode cX7_readRow 64 = .ok (.getfield 18, 3) := by decide +kernel
theorem dX7_readRow_67 : decode cX7_readRow 67 = .ok (.getfield 110, 3) := by decide +kernel
theorem dX7_readRow_70 : decode cX7_readRow 70 = .ok (.iload_n 2, 1) := by decide +kernel
theorem dX7_readRow_71 : decode cX7_readRow 71 = .ok (.invokevirtual 152, 3) := by decide +kernel
theorem dX7_readRow_74 : decode cX7_readRow 74 = .ok (.ifCond .eq 10, 3) := by decide +kernel
theorem dX7_readRow_77 : decode cX7_readRow 77 = .ok (.aload_n 0, 1) := by decide +kernel
theorem dX7_readRow_78 : decode cX7_readRow 78 = .ok (.iconst 4, 1) := by decide +kernel
theorem dX7_readRow_79 : decode cX7_readRow 79 = .ok (.iload_n 1, 1) := by decide +kernel
theorem dX7_readRow_80 : decode cX7_readRow 80 = .ok (.invokevirtual 107, 3) := by decide +kernel
theorem dX7_readRow_83 : decode cX7_readRow 83 = .ok (.pop, 1) := by decide +kernel
theorem dX7_readRow_84 : decode cX7_readRow 84 = .ok (.aload_n 0, 1) := by decide +kernel
theorem dX7_readRow_85 : decode cX7_readRow 85 = .ok (.getfield 45, 3) := by decide +kernel
theorem dX7_readRow_88 : decode cX7_readRow 88 = .ok (.ifCond .ne 14, 3) := by decide +kernel
theorem dX7_readRow_91 : decode cX7_readRow 91 = .ok (.aload_n 0, 1) := by decide +kernel
theorem dX7_readRow_92 : decode cX7_readRow 92 = .ok (.getfield 18, 3) := by decide +kernel
theorem dX7_readRow_95 : decode cX7_readRow 95 = .ok (.getfield 110, 3) := by decide +kernel
theorem dX7_readRow_98 : decode cX7_readRow 98 = .ok (.iload_n 2, 1) := by decide +kernel
theorem dX7_readRow_99 : decode cX7_readRow 99 = .ok (.invokevirtual 155, 3) := by decide +kernel
theorem dX7_readRow_102 : decode cX7_readRow 102 = .ok (.iconst 0, 1) := by decide +kernel
theorem dX7_readRow_103 : decode cX7_readRow 103 = .ok (.istore_n 3, 1) := by decide +kernel
theorem dX7_readRow_104 : decode cX7_readRow 104 = .ok (.iload_n 3, 1) := by decide +kernel
theorem dX7_readRow_105 : decode cX7_readRow 105 = .ok (.iconst 5, 1) := by decide +kernel
theorem dX7_readRow_106 : decode cX7_readRow 106 = .ok (.if_icmp .ge 98, 3) := by decide +kernel
theorem dX7_readRow_109 : decode cX7_readRow 109 = .ok (.aload_n 0, 1) := by decide +kernel
theorem dX7_readRow_110 : decode cX7_readRow 110 = .ok (.getfield 45, 3) := by decide +kernel
theorem dX7_readRow_113 : decode cX7_readRow 113 = .ok (.ifCond .ne 91, 3) := by decide +kernel
theorem dX7_readRow_116 : decode cX7_readRow 116 = .ok (.aload_n 0, 1) := by decide +kernel
theorem dX7_readRow_117 : decode cX7_readRow 117 = .ok (.getfield 18, 3) := by decide +kernel
theorem dX7_readRow_120 : decode cX7_readRow 120 = .ok (.getfield 110, 3) := by decide +kernel
theorem dX7_readRow_123 : decode cX7_readRow 123 = .ok (.iload_n 3, 1) := by decide +kernel
theorem dX7_readRow_124 : decode cX7_readRow 124 = .ok (.invokevirtual 158, 3) := by decide +kernel
theorem dX7_readRow_127 : decode cX7_readRow 127 = .ok (.ifCond .eq 77, 3) := by decide +kernel
theorem dX7_readRow_130 : decode cX7_readRow 130 = .ok (.aload_n 0, 1) := by decide +kernel
theorem dX7_readRow_131 : decode cX7_readRow 131 = .ok (.getfield 104, 3) := by decide +kernel
theorem dX7_readRow_134 : decode cX7_readRow 134 = .ok (.istore 4, 2) := by decide +kernel
theorem dX7_readRow_136 : decode cX7_readRow 136 = .ok (.aload_n 0, 1) := by decide +kernel
theorem dX7_readRow_137 : decode cX7_readRow 137 = .ok (.invokevirtual 161, 3) := by decide +kernel
theorem dX7_readRow_140 : decode cX7_readRow 140 = .ok (.istore 5, 2) := by decide +kernel
theorem dX7_readRow_142 : decode cX7_readRow 142 = .ok (.aload_n 0, 1) := by decide +kernel
theorem dX7_readRow_143 : decode cX7_readRow 143 = .ok (.getfield 45, 3) := by decide +kernel
theorem dX7_readRow_146 : decode cX7_readRow 146 = .ok (.ifCond .ne 31, 3) := by decide +kernel
theorem dX7_readRow_149 : decode cX7_readRow 149 = .ok (.aload_n 0, 1) := by decide +kernel
theorem dX7_readRow_150 : decode cX7_readRow 150 = .ok (.getfield 18, 3) := by decide +kernel
theorem dX7_readRow_153 : decode cX7_readRow 153 = .ok (.getfield 110, 3) := by decide +kernel
theorem dX7_readRow_156 : decode cX7_readRow 156 = .ok (.getfield 164, 3) := by decide +kernel
theorem dX7_readRow_159 : decode cX7_readRow 159 = .ok (.iload_n 3, 1) := by decide +kernel
theorem dX7_readRow_160 : decode cX7_readRow 160 = .ok (.iaload, 1) := by decide +kernel
theorem dX7_readRow_161 : decode cX7_readRow 161 = .ok (.iload 5, 2) := by decide +kernel
theorem dX7_readRow_163 : decode cX7_readRow 163 = .ok (.invokestatic 168, 3) := by decide +kernel
theorem dX7_readRow_166 : decode cX7_readRow 166 = .ok (.ifCond .ne 11, 3) := by decide +kernel
theorem dX7_readRow_169 : decode cX7_readRow 169 = .ok (.aload_n 0, 1) := by decide +kernel
theorem dX7_readRow_170 : decode cX7_readRow 170 = .ok (.iconst 5, 1) := by decide +kernel
theorem dX7_readRow_171 : decode cX7_readRow 171 = .ok (.iload 4, 2) := by decide +kernel
theorem dX7_readRow_173 : decode cX7_readRow 173 = .ok (.invokevirtual 107, 3) := by decide +kernel
theorem dX7_readRow_176 : decode cX7_readRow 176 = .ok (.pop, 1) := by decide +kernel
theorem dX7_readRow_177 : decode cX7_readRow 177 = .ok (.aload_n 0, 1) := by decide +kernel
theorem dX7_readRow_178 : decode cX7_readRow 178 = .ok (.getfield 45, 3) := by decide +kernel
theorem dX7_readRow_181 : decode cX7_readRow 181 = .ok (.ifCond .ne 17, 3) := by decide +kernel
theorem dX7_readRow_184 : decode cX7_readRow 184 = .ok (.aload_n 0, 1) := by decide +kernel
theorem dX7_readRow_185 : decode cX7_readRow 185 = .ok (.getfield 18, 3) := by decide +kernel
theorem dX7_readRow_188 : decode cX7_readRow 188 = .ok (.getfield 110, 3) := by decide +kernel
theorem dX7_readRow_191 : decode cX7_readRow 191 = .ok (.iload_n 2, 1) := by decide +kernel
theorem dX7_readRow_192 : decode cX7_readRow 192 = .ok (.iload_n 3, 1) := by decide +kernel
theorem dX7_readRow_193 : decode cX7_readRow 193 = .ok (.iload 5, 2) := by decide +kernel
theorem dX7_readRow_195 : decode cX7_readRow 195 = .ok (.invokevirtual 174, 3) := by decide +kernel
theorem dX7_readRow_198 : decode cX7_readRow 198 = .ok (.iinc 3 1, 3) := by decide +kernel
theorem dX7_readRow_201 : decode cX7_readRow 201 = .ok (.goto (-97), 3) := by decide +kernel
theorem dX7_readRow_204 : decode cX7_readRow 204 = .ok (.aload_n 0, 1) := by decide +kernel
theorem dX7_readRow_205 : decode cX7_readRow 205 = .ok (.invokevirtual 139, 3) := by decide +kernel
theorem dX7_readRow_208 : decode cX7_readRow 208 = .ok (.return_, 1) := by decide +kernel
theorem dX7_readDemand_0 : decode cX7_readDemand 0 = .ok (.aload_n 0, 1) := by decide +kernel
theorem dX7_readDemand_1 : decode cX7_readDemand 1 = .ok (.aload_n 0, 1) := by decide +kernel
theorem dX7_readDemand_2 : decode cX7_readDemand 2 = .ok (.getfield 55, 3) := by decide +kernel
theorem dX7_readDemand_5 : decode cX7_readDemand 5 = .ok (.ifCond .ne 7, 3) := by decide +kernel
theorem dX7_readDemand_8 : decode cX7_readDemand 8 = .ok (.iconst 1, 1) := by decide +kernel
theorem dX7_readDemand_9 : decode cX7_readDemand 9 = .ok (.goto 4, 3) := by decide +kernel
theorem dX7_readDemand_12 : decode cX7_readDemand 12 = .ok (.iconst 0, 1) := by decide +kernel
theorem dX7_readDemand_13 : decode cX7_readDemand 13 = .ok (.aload_n 0, 1) := by decide +kernel
theorem dX7_readDemand_14 : decode cX7_readDemand 14 = .ok (.getfield 18, 3) := by decide +kernel
theorem dX7_readDemand_17 : decode cX7_readDemand 17 = .ok (.getfield 177, 3) := by decide +kernel
theorem dX7_readDemand_20 : decode cX7_readDemand 20 = .ok (.iconst 4, 1) := by decide +kernel
theorem dX7_readDemand_21 : decode cX7_readDemand 21 = .ok (.if_icmp .ge 7, 3) := by decide +kernel
theorem dX7_readDemand_24 : decode cX7_readDemand 24 = .ok (.iconst 1, 1) := by decide +kernel
theorem dX7_readDemand_25 : decode cX7_readDemand 25 = .ok (.goto 4, 3) := by decide +kernel
theorem dX7_readDemand_28 : decode cX7_readDemand 28 = .ok (.iconst 0, 1) := by decide +kernel
theorem dX7_readDemand_29 : decode cX7_readDemand 29 = .ok (.invokevirtual 125, 3) := by decide +kernel
theorem dX7_readDemand_32 : decode cX7_readDemand 32 = .ok (.aload_n 0, 1) := by decide +kernel
theorem dX7_readDemand_33 : decode cX7_readDemand 33 = .ok (.iconst (-1), 1) := by decide +kernel
theorem dX7_readDemand_34 : decode cX7_readDemand 34 = .ok (.invokevirtual 180, 3) := by decide +kernel
theorem dX7_readDemand_37 : decode cX7_readDemand 37 = .ok (.istore_n 2, 1) := by decide +kernel
theorem dX7_readDemand_38 : decode cX7_readDemand 38 = .ok (.iload_n 1, 1) := by decide +kernel
theorem dX7_readDemand_39 : decode cX7_readDemand 39 = .ok (.iconst 2, 1) := by decide +kernel
theorem dX7_readDemand_40 : decode cX7_readDemand 40 = .ok (.if_icmp .ne 11, 3) := by decide +kernel
theorem dX7_readDemand_43 : decode cX7_readDemand 43 = .ok (.aload_n 0, 1) := by decide +kernel
theorem dX7_readDemand_44 : decode cX7_readDemand 44 = .ok (.iload_n 2, 1) := by decide +kernel
theorem dX7_readDemand_45 : decode cX7_readDemand 45 = .ok (.invokevirtual 180, 3) := by decide +kernel
theorem dX7_readDemand_48 : decode cX7_readDemand 48 = .ok (.goto 4, 3) := by decide +kernel
theorem dX7_readDemand_51 : decode cX7_readDemand 51 = .ok (.iload_n 2, 1) := by decide +kernel
theorem dX7_readDemand_52 : decode cX7_readDemand 52 = .ok (.istore_n 3, 1) := by decide +kernel
theorem dX7_readDemand_53 : decode cX7_readDemand 53 = .ok (.aload_n 0, 1) := by decide +kernel
theorem dX7_readDemand_54 : decode cX7_readDemand 54 = .ok (.invokevirtual 139, 3) := by decide +kernel
theorem dX7_readDemand_57 : decode cX7_readDemand 57 = .ok (.aload_n 0, 1) := by decide +kernel
theorem dX7_readDemand_58 : decode cX7_readDemand 58 = .ok (.getfield 45, 3) := by decide +kernel
theorem dX7_readDemand_61 : decode cX7_readDemand 61 = .ok (.ifCond .ne 13, 3) := by decide +kernel
theorem dX7_readDemand_64 : decode cX7_readDemand 64 = .ok (.aload_n 0, 1) := by decide +kernel
theorem dX7_readDemand_65 : decode cX7_readDemand 65 = .ok (.getfield 18, 3) := by decide +kernel
theorem dX7_readDemand_68 : decode cX7_readDemand 68 = .ok (.iload_n 1, 1) := by decide +kernel
theorem dX7_readDemand_69 : decode cX7_readDemand 69 = .ok (.iload_n 2, 1) := by decide +kernel
theorem dX7_readDemand_70 : decode cX7_readDemand 70 = .ok (.iload_n 3, 1) := by decide +kernel
theorem dX7_readDemand_71 : decode cX7_readDemand 71 = .ok (.invokevirtual 183, 3) := by decide +kernel
theorem dX7_readDemand_74 : decode cX7_readDemand 74 = .ok (.return_, 1) := by decide +kernel
theorem dX7_takeDemanded_0 : decode cX7_takeDemanded 0 = .ok (.aload_n 0, 1) := by decide +kernel
theorem dX7_takeDemanded_1 : decode cX7_takeDemanded 1 = .ok (.getfield 104, 3) := by decide +kernel
theorem dX7_takeDemanded_4 : decode cX7_takeDemanded 4 = .ok (.istore_n 2, 1) := by decide +kernel
theorem dX7_takeDemanded_5 : decode cX7_takeDemanded 5 = .ok (.aload_n 0, 1) := by decide +kernel
theorem dX7_takeDemanded_6 : decode cX7_takeDemanded 6 = .ok (.sipush 9999, 3) := by decide +kernel
theorem dX7_takeDemanded_9 : decode cX7_takeDemanded 9 = .ok (.invokevirtual 149, 3) := by decide +kernel
theorem dX7_takeDemanded_12 : decode cX7_takeDemanded 12 = .ok (.istore_n 3, 1) := by decide +kernel
theorem dX7_takeDemanded_13 : decode cX7_takeDemanded 13 = .ok (.aload_n 0, 1) := by decide +kernel
theorem dX7_takeDemanded_14 : decode cX7_takeDemanded 14 = .ok (.getfield 45, 3) := by decide +kernel
theorem dX7_takeDemanded_17 : decode cX7_takeDemanded 17 = .ok (.ifCond .ne 29, 3) := by decide +kernel
theorem dX7_takeDemanded_20 : decode cX7_takeDemanded 20 = .ok (.aload_n 0, 1) := by decide +kernel
theorem dX7_takeDemanded_21 : decode cX7_takeDemanded 21 = .ok (.getfield 18, 3) := by decide +kernel
theorem dX7_takeDemanded_24 : decode cX7_takeDemanded 24 = .ok (.getfield 110, 3) := by decide +kernel
theorem dX7_takeDemanded_27 : decode cX7_takeDemanded 27 = .ok (.iload_n 3, 1) := by decide +kernel
theorem dX7_takeDemanded_28 : decode cX7_takeDemanded 28 = .ok (.invokevirtual 158, 3) := by decide +kernel
theorem dX7_takeDemanded_31 : decode cX7_takeDemanded 31 = .ok (.ifCond .eq 8, 3) := by decide +kernel
theorem dX7_takeDemanded_34 : decode cX7_takeDemanded 34 = .ok (.iload_n 3, 1) := by decide +kernel
theorem dX7_takeDemanded_35 : decode cX7_takeDemanded 35 = .ok (.iload_n 1, 1) := by decide +kernel
theorem dX7_takeDemanded_36 : decode cX7_takeDemanded 36 = .ok (.if_icmp .ne 10, 3) := by decide +kernel
theorem dX7_takeDemanded_39 : decode cX7_takeDemanded 39 = .ok (.aload_n 0, 1) := by decide +kernel
theorem dX7_takeDemanded_40 : decode cX7_takeDemanded 40 = .ok (.iconst 3, 1) := by decide +kernel
theorem dX7_takeDemanded_41 : decode cX7_takeDemanded 41 = .ok (.iload_n 2, 1) := by decide +kernel
theorem dX7_takeDemanded_42 : decode cX7_takeDemanded 42 = .ok (.invokevirtual 107, 3) := by decide +kernel
theorem dX7_takeDemanded_45 : decode cX7_takeDemanded 45 = .ok (.pop, 1) := by decide +kernel
theorem dX7_takeDemanded_46 : decode cX7_takeDemanded 46 = .ok (.iload_n 3, 1) := by decide +kernel
theorem dX7_takeDemanded_47 : decode cX7_takeDemanded 47 = .ok (.ireturn, 1) := by decide +kernel
theorem dX7_readEdit_0 : decode cX7_readEdit 0 = .ok (.aload_n 0, 1) := by decide +kernel
theorem dX7_readEdit_1 : decode cX7_readEdit 1 = .ok (.getfield 104, 3) := by decide +kernel
theorem dX7_readEdit_4 : decode cX7_readEdit 4 = .ok (.istore_n 2, 1) := by decide +kernel
theorem dX7_readEdit_5 : decode cX7_readEdit 5 = .ok (.aload_n 0, 1) := by decide +kernel
theorem dX7_readEdit_6 : decode cX7_readEdit 6 = .ok (.getfield 55, 3) := by decide +kernel
theorem dX7_readEdit_9 : decode cX7_readEdit 9 = .ok (.ifCond .ne 15, 3) := by decide +kernel
theorem dX7_readEdit_12 : decode cX7_readEdit 12 = .ok (.aload_n 0, 1) := by decide +kernel
theorem dX7_readEdit_13 : decode cX7_readEdit 13 = .ok (.getfield 18, 3) := by decide +kernel
theorem dX7_readEdit_16 : decode cX7_readEdit 16 = .ok (.invokevirtual 70, 3) := by decide +kernel
theorem dX7_readEdit_19 : decode cX7_readEdit 19 = .ok (.aload_n 0, 1) := by decide +kernel
theorem dX7_readEdit_20 : decode cX7_readEdit 20 = .ok (.iconst 1, 1) := by decide +kernel
theorem dX7_readEdit_21 : decode cX7_readEdit 21 = .ok (.putfield 55, 3) := by decide +kernel
theorem dX7_readEdit_24 : decode cX7_readEdit 24 = .ok (.aload_n 0, 1) := by decide +kernel
theorem dX7_readEdit_25 : decode cX7_readEdit 25 = .ok (.invokevirtual 61, 3) := by decide +kernel
theorem dX7_readEdit_28 : decode cX7_readEdit 28 = .ok (.aload_n 0, 1) := by decide +kernel
theorem dX7_readEdit_29 : decode cX7_readEdit 29 = .ok (.invokevirtual 186, 3) := by decide +kernel
theorem dX7_readEdit_32 : decode cX7_readEdit 32 = .ok (.istore_n 3, 1) := by decide +kernel
theorem dX7_readEdit_33 : decode cX7_readEdit 33 = .ok (.iconst 0, 1) := by decide +kernel
theorem dX7_readEdit_34 : decode cX7_readEdit 34 = .ok (.istore 4, 2) := by decide +kernel
theorem dX7_readEdit_36 : decode cX7_readEdit 36 = .ok (.iconst 0, 1) := by decide +kernel
theorem dX7_readEdit_37 : decode cX7_readEdit 37 = .ok (.istore 5, 2) := by decide +kernel
theorem dX7_readEdit_39 : decode cX7_readEdit 39 = .ok (.iconst 0, 1) := by decide +kernel
theorem dX7_readEdit_40 : decode cX7_readEdit 40 = .ok (.istore 6, 2) := by decide +kernel
theorem dX7_readEdit_42 : decode cX7_readEdit 42 = .ok (.iload_n 3, 1) := by decide +kernel
theorem dX7_readEdit_43 : decode cX7_readEdit 43 = .ok (.tableswitch 125 0 5 #[37, 63, 63, 92, 74, 110], 37) := by decide +kernel
theorem dX7_readEdit_80 : decode cX7_readEdit 80 = .ok (.aload_n 0, 1) := by decide +kernel
theorem dX7_readEdit_81 : decode cX7_readEdit 81 = .ok (.bipush 19, 2) := by decide +kernel
theorem dX7_readEdit_83 : decode cX7_readEdit 83 = .ok (.invokevirtual 149, 3) := by decide +kernel
theorem dX7_readEdit_86 : decode cX7_readEdit 86 = .ok (.istore 4, 2) := by decide +kernel
theorem dX7_readEdit_88 : decode cX7_readEdit 88 = .ok (.aload_n 0, 1) := by decide +kernel
theorem dX7_readEdit_89 : decode cX7_readEdit 89 = .ok (.sipush 9999, 3) := by decide +kernel
theorem dX7_readEdit_92 : decode cX7_readEdit 92 = .ok (.invokevirtual 149, 3) := by decide +kernel
theorem dX7_readEdit_95 : decode cX7_readEdit 95 = .ok (.istore 5, 2) := by decide +kernel
theorem dX7_readEdit_97 : decode cX7_readEdit 97 = .ok (.aload_n 0, 1) := by decide +kernel
theorem dX7_readEdit_98 : decode cX7_readEdit 98 = .ok (.invokevirtual 161, 3) := by decide +kernel
theorem dX7_readEdit_101 : decode cX7_readEdit 101 = .ok (.istore 6, 2) := by decide +kernel
theorem dX7_readEdit_103 : decode cX7_readEdit 103 = .ok (.goto 74, 3) := by decide +kernel
theorem dX7_readEdit_106 : decode cX7_readEdit 106 = .ok (.aload_n 0, 1) := by decide +kernel
theorem dX7_readEdit_107 : decode cX7_readEdit 107 = .ok (.bipush 19, 2) := by decide +kernel
theorem dX7_readEdit_109 : decode cX7_readEdit 109 = .ok (.invokevirtual 149, 3) := by decide +kernel
theorem dX7_readEdit_112 : decode cX7_readEdit 112 = .ok (.istore 4, 2) := by decide +kernel
theorem dX7_readEdit_114 : decode cX7_readEdit 114 = .ok (.goto 63, 3) := by decide +kernel
theorem dX7_readEdit_117 : decode cX7_readEdit 117 = .ok (.aload_n 0, 1) := by decide +kernel
theorem dX7_readEdit_118 : decode cX7_readEdit 118 = .ok (.sipush 9999, 3) := by decide +kernel
theorem dX7_readEdit_121 : decode cX7_readEdit 121 = .ok (.invokevirtual 149, 3) := by decide +kernel
theorem dX7_readEdit_124 : decode cX7_readEdit 124 = .ok (.istore 4, 2) := by decide +kernel
theorem dX7_readEdit_126 : decode cX7_readEdit 126 = .ok (.aload_n 0, 1) := by decide +kernel
theorem dX7_readEdit_127 : decode cX7_readEdit 127 = .ok (.invokevirtual 129, 3) := by decide +kernel
theorem dX7_readEdit_130 : decode cX7_readEdit 130 = .ok (.istore 5, 2) := by decide +kernel
theorem dX7_readEdit_132 : decode cX7_readEdit 132 = .ok (.goto 45, 3) := by decide +kernel
theorem dX7_readEdit_135 : decode cX7_readEdit 135 = .ok (.aload_n 0, 1) := by decide +kernel
theorem dX7_readEdit_136 : decode cX7_readEdit 136 = .ok (.sipush 9999, 3) := by decide +kernel
theorem dX7_readEdit_139 : decode cX7_readEdit 139 = .ok (.invokevirtual 149, 3) := by decide +kernel
theorem dX7_readEdit_142 : decode cX7_readEdit 142 = .ok (.istore 4, 2) := by decide +kernel
theorem dX7_readEdit_144 : decode cX7_readEdit 144 = .ok (.aload_n 0, 1) := by decide +kernel
theorem dX7_readEdit_145 : decode cX7_readEdit 145 = .ok (.invokevirtual 136, 3) := by decide +kernel
theorem dX7_readEdit_148 : decode cX7_readEdit 148 = .ok (.istore 5, 2) := by decide +kernel
theorem dX7_readEdit_150 : decode cX7_readEdit 150 = .ok (.goto 27, 3) := by decide +kernel
theorem dX7_readEdit_153 : decode cX7_readEdit 153 = .ok (.aload_n 0, 1) := by decide +kernel
theorem dX7_readEdit_154 : decode cX7_readEdit 154 = .ok (.invokevirtual 129, 3) := by decide +kernel
theorem dX7_readEdit_157 : decode cX7_readEdit 157 = .ok (.istore 4, 2) := by decide +kernel
theorem dX7_readEdit_159 : decode cX7_readEdit 159 = .ok (.aload_n 0, 1) := by decide +kernel
theorem dX7_readEdit_160 : decode cX7_readEdit 160 = .ok (.invokevirtual 136, 3) := by decide +kernel
theorem dX7_readEdit_163 : decode cX7_readEdit 163 = .ok (.istore 5, 2) := by decide +kernel
theorem dX7_readEdit_165 : decode cX7_readEdit 165 = .ok (.goto 12, 3) := by decide +kernel
theorem dX7_readEdit_168 : decode cX7_readEdit 168 = .ok (.aload_n 0, 1) := by decide +kernel
theorem dX7_readEdit_169 : decode cX7_readEdit 169 = .ok (.sipush 9999, 3) := by decide +kernel
theorem dX7_readEdit_172 : decode cX7_readEdit 172 = .ok (.invokevirtual 149, 3) := by decide +kernel
theorem dX7_readEdit_175 : decode cX7_readEdit 175 = .ok (.istore 4, 2) := by decide +kernel
theorem dX7_readEdit_177 : decode cX7_readEdit 177 = .ok (.aload_n 0, 1) := by decide +kernel
theorem dX7_readEdit_178 : decode cX7_readEdit 178 = .ok (.invokevirtual 139, 3) := by decide +kernel
theorem dX7_readEdit_181 : decode cX7_readEdit 181 = .ok (.aload_n 0, 1) := by decide +kernel
theorem dX7_readEdit_182 : decode cX7_readEdit 182 = .ok (.getfield 45, 3) := by decide +kernel
theorem dX7_readEdit_185 : decode cX7_readEdit 185 = .ok (.ifCond .ne 30, 3) := by decide +kernel
theorem dX7_readEdit_188 : decode cX7_readEdit 188 = .ok (.aload_n 0, 1) := by decide +kernel
theorem dX7_readEdit_189 : decode cX7_readEdit 189 = .ok (.getfield 18, 3) := by decide +kernel
theorem dX7_readEdit_192 : decode cX7_readEdit 192 = .ok (.iload_n 3, 1) := by decide +kernel
theorem dX7_readEdit_193 : decode cX7_readEdit 193 = .ok (.iload_n 1, 1) := by decide +kernel
theorem dX7_readEdit_194 : decode cX7_readEdit 194 = .ok (.iload 4, 2) := by decide +kernel
theorem dX7_readEdit_196 : decode cX7_readEdit 196 = .ok (.iload 5, 2) := by decide +kernel
theorem dX7_readEdit_198 : decode cX7_readEdit 198 = .ok (.iload 6, 2) := by decide +kernel
theorem dX7_readEdit_200 : decode cX7_readEdit 200 = .ok (.invokevirtual 189, 3) := by decide +kernel
theorem dX7_readEdit_203 : decode cX7_readEdit 203 = .ok (.iconst (-1), 1) := by decide +kernel
theorem dX7_readEdit_204 : decode cX7_readEdit 204 = .ok (.if_icmp .ne 11, 3) := by decide +kernel
theorem dX7_readEdit_207 : decode cX7_readEdit 207 = .ok (.aload_n 0, 1) := by decide +kernel
theorem dX7_readEdit_208 : decode cX7_readEdit 208 = .ok (.bipush 6, 2) := by decide +kernel
theorem dX7_readEdit_210 : decode cX7_readEdit 210 = .ok (.iload_n 2, 1) := by decide +kernel
theorem dX7_readEdit_211 : decode cX7_readEdit 211 = .ok (.invokevirtual 107, 3) := by decide +kernel
theorem dX7_readEdit_214 : decode cX7_readEdit 214 = .ok (.pop, 1) := by decide +kernel
theorem dX7_readEdit_215 : decode cX7_readEdit 215 = .ok (.return_, 1) := by decide +kernel
theorem dX7_takeEditWord_0 : decode cX7_takeEditWord 0 = .ok (.iconst (-1), 1) := by decide +kernel
theorem dX7_takeEditWord_1 : decode cX7_takeEditWord 1 = .ok (.istore_n 1, 1) := by decide +kernel
theorem dX7_takeEditWord_2 : decode cX7_takeEditWord 2 = .ok (.aload_n 0, 1) := by decide +kernel
theorem dX7_takeEditWord_3 : decode cX7_takeEditWord 3 = .ok (.ldc 193, 2) := by decide +kernel
theorem dX7_takeEditWord_5 : decode cX7_takeEditWord 5 = .ok (.invokevirtual 75, 3) := by decide +kernel
theorem dX7_takeEditWord_8 : decode cX7_takeEditWord 8 = .ok (.ifCond .eq 8, 3) := by decide +kernel
theorem dX7_takeEditWord_11 : decode cX7_takeEditWord 11 = .ok (.iconst 0, 1) := by decide +kernel
theorem dX7_takeEditWord_12 : decode cX7_takeEditWord 12 = .ok (.istore_n 1, 1) := by decide +kernel
theorem dX7_takeEditWord_13 : decode cX7_takeEditWord 13 = .ok (.goto 85, 3) := by decide +kernel
theorem dX7_takeEditWord_16 : decode cX7_takeEditWord 16 = .ok (.aload_n 0, 1) := by decide +kernel
theorem dX7_takeEditWord_17 : decode cX7_takeEditWord 17 = .ok (.ldc 195, 2) := by decide +kernel
theorem dX7_takeEditWord_19 : decode cX7_takeEditWord 19 = .ok (.invokevirtual 75, 3) := by decide +kernel
theorem dX7_takeEditWord_22 : decode cX7_takeEditWord 22 = .ok (.ifCond .eq 8, 3) := by decide +kernel
theorem dX7_takeEditWord_25 : decode cX7_takeEditWord 25 = .ok (.iconst 1, 1) := by decide +kernel
theorem dX7_takeEditWord_26 : decode cX7_takeEditWord 26 = .ok (.istore_n 1, 1) := by decide +kernel
theorem dX7_takeEditWord_27 : decode cX7_takeEditWord 27 = .ok (.goto 71, 3) := by decide +kernel
theorem dX7_takeEditWord_30 : decode cX7_takeEditWord 30 = .ok (.aload_n 0, 1) := by decide +kernel
theorem dX7_takeEditWord_31 : decode cX7_takeEditWord 31 = .ok (.ldc 197, 2) := by decide +kernel
theorem dX7_takeEditWord_33 : decode cX7_takeEditWord 33 = .ok (.invokevirtual 75, 3) := by decide +kernel
theorem dX7_takeEditWord_36 : decode cX7_takeEditWord 36 = .ok (.ifCond .eq 8, 3) := by decide +kernel
theorem dX7_takeEditWord_39 : decode cX7_takeEditWord 39 = .ok (.iconst 2, 1) := by decide +kernel
theorem dX7_takeEditWord_40 : decode cX7_takeEditWord 40 = .ok (.istore_n 1, 1) := by decide +kernel
theorem dX7_takeEditWord_41 : decode cX7_takeEditWord 41 = .ok (.goto 57, 3) := by decide +kernel
theorem dX7_takeEditWord_44 : decode cX7_takeEditWord 44 = .ok (.aload_n 0, 1) := by decide +kernel
theorem dX7_takeEditWord_45 : decode cX7_takeEditWord 45 = .ok (.ldc 199, 2) := by decide +kernel
theorem dX7_takeEditWord_47 : decode cX7_takeEditWord 47 = .ok (.invokevirtual 75, 3) := by decide +kernel
theorem dX7_takeEditWord_50 : decode cX7_takeEditWord 50 = .ok (.ifCond .eq 8, 3) := by decide +kernel
theorem dX7_takeEditWord_53 : decode cX7_takeEditWord 53 = .ok (.iconst 4, 1) := by decide +kernel
theorem dX7_takeEditWord_54 : decode cX7_takeEditWord 54 = .ok (.istore_n 1, 1) := by decide +kernel
theorem dX7_takeEditWord_55 : decode cX7_takeEditWord 55 = .ok (.goto 43, 3) := by decide +kernel
theorem dX7_takeEditWord_58 : decode cX7_takeEditWord 58 = .ok (.aload_n 0, 1) := by decide +kernel
theorem dX7_takeEditWord_59 : decode cX7_takeEditWord 59 = .ok (.ldc 201, 2) := by decide +kernel
theorem dX7_takeEditWord_61 : decode cX7_takeEditWord 61 = .ok (.invokevirtual 75, 3) := by decide +kernel
theorem dX7_takeEditWord_64 : decode cX7_takeEditWord 64 = .ok (.ifCond .eq 8, 3) := by decide +kernel
theorem dX7_takeEditWord_67 : decode cX7_takeEditWord 67 = .ok (.iconst 3, 1) := by decide +kernel
theorem dX7_takeEditWord_68 : decode cX7_takeEditWord 68 = .ok (.istore_n 1, 1) := by decide +kernel
theorem dX7_takeEditWord_69 : decode cX7_takeEditWord 69 = .ok (.goto 29, 3) := by decide +kernel
theorem dX7_takeEditWord_72 : decode cX7_takeEditWord 72 = .ok (.aload_n 0, 1) := by decide +kernel
theorem dX7_takeEditWord_73 : decode cX7_takeEditWord 73 = .ok (.ldc 203, 2) := by decide +kernel
theorem dX7_takeEditWord_75 : decode cX7_takeEditWord 75 = .ok (.invokevirtual 75, 3) := by decide +kernel
theorem dX7_takeEditWord_78 : decode cX7_takeEditWord 78 = .ok (.ifCond .eq 8, 3) := by decide +kernel
theorem dX7_takeEditWord_81 : decode cX7_takeEditWord 81 = .ok (.iconst 5, 1) := by decide +kernel
theorem dX7_takeEditWord_82 : decode cX7_takeEditWord 82 = .ok (.istore_n 1, 1) := by decide +kernel
theorem dX7_takeEditWord_83 : decode cX7_takeEditWord 83 = .ok (.goto 15, 3) := by decide +kernel
theorem dX7_takeEditWord_86 : decode cX7_takeEditWord 86 = .ok (.aload_n 0, 1) := by decide +kernel
theorem dX7_takeEditWord_87 : decode cX7_takeEditWord 87 = .ok (.ldc 205, 2) := by decide +kernel
theorem dX7_takeEditWord_89 : decode cX7_takeEditWord 89 = .ok (.invokevirtual 75, 3) := by decide +kernel
theorem dX7_takeEditWord_92 : decode cX7_takeEditWord 92 = .ok (.ifCond .eq 6, 3) := by decide +kernel
theorem dX7_takeEditWord_95 : decode cX7_takeEditWord 95 = .ok (.bipush 6, 2) := by decide +kernel
theorem dX7_takeEditWord_97 : decode cX7_takeEditWord 97 = .ok (.istore_n 1, 1) := by decide +kernel
theorem dX7_takeEditWord_98 : decode cX7_takeEditWord 98 = .ok (.iload_n 1, 1) := by decide +kernel
theorem dX7_takeEditWord_99 : decode cX7_takeEditWord 99 = .ok (.iconst (-1), 1) := by decide +kernel
theorem dX7_takeEditWord_100 : decode cX7_takeEditWord 100 = .ok (.if_icmp .ne 15, 3) := by decide +kernel
theorem dX7_takeEditWord_103 : decode cX7_takeEditWord 103 = .ok (.aload_n 0, 1) := by decide +kernel
theorem dX7_takeEditWord_104 : decode cX7_takeEditWord 104 = .ok (.iconst 1, 1) := by decide +kernel
theorem dX7_takeEditWord_105 : decode cX7_takeEditWord 105 = .ok (.aload_n 0, 1) := by decide +kernel
theorem dX7_takeEditWord_106 : decode cX7_takeEditWord 106 = .ok (.getfield 104, 3) := by decide +kernel
theorem dX7_takeEditWord_109 : decode cX7_takeEditWord 109 = .ok (.invokevirtual 107, 3) := by decide +kernel
theorem dX7_takeEditWord_112 : decode cX7_takeEditWord 112 = .ok (.goto 8, 3) := by decide +kernel
theorem dX7_takeEditWord_115 : decode cX7_takeEditWord 115 = .ok (.aload_n 0, 1) := by decide +kernel
theorem dX7_takeEditWord_116 : decode cX7_takeEditWord 116 = .ok (.iload_n 1, 1) := by decide +kernel
theorem dX7_takeEditWord_117 : decode cX7_takeEditWord 117 = .ok (.invokevirtual 207, 3) := by decide +kernel
theorem dX7_takeEditWord_120 : decode cX7_takeEditWord 120 = .ok (.ireturn, 1) := by decide +kernel
theorem dX7_takeHead_0 : decode cX7_takeHead 0 = .ok (.iload_n 1, 1) := by decide +kernel
theorem dX7_takeHead_1 : decode cX7_takeHead 1 = .ok (.ifCond .ne 16, 3) := by decide +kernel
theorem dX7_takeHead_4 : decode cX7_takeHead 4 = .ok (.aload_n 0, 1) := by decide +kernel
theorem dX7_takeHead_5 : decode cX7_takeHead 5 = .ok (.iconst 1, 1) := by decide +kernel
theorem dX7_takeHead_6 : decode cX7_takeHead 6 = .ok (.aload_n 0, 1) := by decide +kernel
theorem dX7_takeHead_7 : decode cX7_takeHead 7 = .ok (.getfield 104, 3) := by decide +kernel
theorem dX7_takeHead_10 : decode cX7_takeHead 10 = .ok (.invokevirtual 107, 3) := by decide +kernel
theorem dX7_takeHead_13 : decode cX7_takeHead 13 = .ok (.pop, 1) := by decide +kernel
theorem dX7_takeHead_14 : decode cX7_takeHead 14 = .ok (.goto 24, 3) := by decide +kernel
theorem dX7_takeHead_17 : decode cX7_takeHead 17 = .ok (.iload_n 2, 1) := by decide +kernel
theorem dX7_takeHead_18 : decode cX7_takeHead 18 = .ok (.ifCond .ne 16, 3) := by decide +kernel
theorem dX7_takeHead_21 : decode cX7_takeHead 21 = .ok (.aload_n 0, 1) := by decide +kernel
theorem dX7_takeHead_22 : decode cX7_takeHead 22 = .ok (.iconst 2, 1) := by decide +kernel
theorem dX7_takeHead_23 : decode cX7_takeHead 23 = .ok (.aload_n 0, 1) := by decide +kernel
theorem dX7_takeHead_24 : decode cX7_takeHead 24 = .ok (.getfield 104, 3) := by decide +kernel
theorem dX7_takeHead_27 : decode cX7_takeHead 27 = .ok (.invokevirtual 107, 3) := by decide +kernel
theorem dX7_takeHead_30 : decode cX7_takeHead 30 = .ok (.pop, 1) := by decide +kernel
theorem dX7_takeHead_31 : decode cX7_takeHead 31 = .ok (.goto 7, 3) := by decide +kernel
theorem dX7_takeHead_34 : decode cX7_takeHead 34 = .ok (.aload_n 0, 1) := by decide +kernel
theorem dX7_takeHead_35 : decode cX7_takeHead 35 = .ok (.invokevirtual 61, 3) := by decide +kernel
theorem dX7_takeHead_38 : decode cX7_takeHead 38 = .ok (.return_, 1) := by decide +kernel
theorem dX7_takeName_0 : decode cX7_takeName 0 = .ok (.aload_n 0, 1) := by decide +kernel
theorem dX7_takeName_1 : decode cX7_takeName 1 = .ok (.getfield 64, 3) := by decide +kernel
theorem dX7_takeName_4 : decode cX7_takeName 4 = .ok (.iconst 1, 1) := by decide +kernel
theorem dX7_takeName_5 : decode cX7_takeName 5 = .ok (.if_icmp .ne 16, 3) := by decide +kernel
theorem dX7_takeName_8 : decode cX7_takeName 8 = .ok (.aload_n 0, 1) := by decide +kernel
theorem dX7_takeName_9 : decode cX7_takeName 9 = .ok (.getfield 48, 3) := by decide +kernel
theorem dX7_takeName_12 : decode cX7_takeName 12 = .ok (.aload_n 0, 1) := by decide +kernel
theorem dX7_takeName_13 : decode cX7_takeName 13 = .ok (.getfield 104, 3) := by decide +kernel
theorem dX7_takeName_16 : decode cX7_takeName 16 = .ok (.isub, 1) := by decide +kernel
theorem dX7_takeName_17 : decode cX7_takeName 17 = .ok (.iconst 1, 1) := by decide +kernel
theorem dX7_takeName_18 : decode cX7_takeName 18 = .ok (.if_icmp .eq 13, 3) := by decide +kernel
theorem dX7_takeName_21 : decode cX7_takeName 21 = .ok (.aload_n 0, 1) := by decide +kernel
theorem dX7_takeName_22 : decode cX7_takeName 22 = .ok (.iconst 1, 1) := by decide +kernel
theorem dX7_takeName_23 : decode cX7_takeName 23 = .ok (.aload_n 0, 1) := by decide +kernel
theorem dX7_takeName_24 : decode cX7_takeName 24 = .ok (.getfield 104, 3) := by decide +kernel
theorem dX7_takeName_27 : decode cX7_takeName 27 = .ok (.invokevirtual 107, 3) := by decide +kernel
theorem dX7_takeName_30 : decode cX7_takeName 30 = .ok (.ireturn, 1) := by decide +kernel
theorem dX7_takeName_31 : decode cX7_takeName 31 = .ok (.aload_n 0, 1) := by decide +kernel
theorem dX7_takeName_32 : decode cX7_takeName 32 = .ok (.aload_n 0, 1) := by decide +kernel
theorem dX7_takeName_33 : decode cX7_takeName 33 = .ok (.getfield 9, 3) := by decide +kernel
theorem dX7_takeName_36 : decode cX7_takeName 36 = .ok (.aload_n 0, 1) := by decide +kernel
theorem dX7_takeName_37 : decode cX7_takeName 37 = .ok (.getfield 104, 3) := by decide +kernel
theorem dX7_takeName_40 : decode cX7_takeName 40 = .ok (.baload, 1) := by decide +kernel
theorem dX7_takeName_41 : decode cX7_takeName 41 = .ok (.bipush 97, 2) := by decide +kernel
theorem dX7_takeName_43 : decode cX7_takeName 43 = .ok (.isub, 1) := by decide +kernel
theorem dX7_takeName_44 : decode cX7_takeName 44 = .ok (.invokevirtual 207, 3) := by decide +kernel
theorem dX7_takeName_47 : decode cX7_takeName 47 = .ok (.ireturn, 1) := by decide +kernel
theorem dX7_takeType_0 : decode cX7_takeType 0 = .ok (.aload_n 0, 1) := by decide +kernel
theorem dX7_takeType_1 : decode cX7_takeType 1 = .ok (.ldc 210, 2) := by decide +kernel
theorem dX7_takeType_3 : decode cX7_takeType 3 = .ok (.invokevirtual 75, 3) := by decide +kernel
theorem dX7_takeType_6 : decode cX7_takeType 6 = .ok (.ifCond .eq 9, 3) := by decide +kernel
theorem dX7_takeType_9 : decode cX7_takeType 9 = .ok (.aload_n 0, 1) := by decide +kernel
theorem dX7_takeType_10 : decode cX7_takeType 10 = .ok (.iconst 0, 1) := by decide +kernel
theorem dX7_takeType_11 : decode cX7_takeType 11 = .ok (.invokevirtual 207, 3) := by decide +kernel
theorem dX7_takeType_14 : decode cX7_takeType 14 = .ok (.ireturn, 1) := by decide +kernel
theorem dX7_takeType_15 : decode cX7_takeType 15 = .ok (.aload_n 0, 1) := by decide +kernel
theorem dX7_takeType_16 : decode cX7_takeType 16 = .ok (.ldc 212, 2) := by decide +kernel
theorem dX7_takeType_18 : decode cX7_takeType 18 = .ok (.invokevirtual 75, 3) := by decide +kernel
theorem dX7_takeType_21 : decode cX7_takeType 21 = .ok (.ifCond .eq 9, 3) := by decide +kernel
theorem dX7_takeType_24 : decode cX7_takeType 24 = .ok (.aload_n 0, 1) := by decide +kernel
theorem dX7_takeType_25 : decode cX7_takeType 25 = .ok (.iconst 1, 1) := by decide +kernel
theorem dX7_takeType_26 : decode cX7_takeType 26 = .ok (.invokevirtual 207, 3) := by decide +kernel
theorem dX7_takeType_29 : decode cX7_takeType 29 = .ok (.ireturn, 1) := by decide +kernel
theorem dX7_takeType_30 : decode cX7_takeType 30 = .ok (.aload_n 0, 1) := by decide +kernel
theorem dX7_takeType_31 : decode cX7_takeType 31 = .ok (.ldc 214, 2) := by decide +kernel
theorem dX7_takeType_33 : decode cX7_takeType 33 = .ok (.invokevirtual 75, 3) := by decide +kernel
theorem dX7_takeType_36 : decode cX7_takeType 36 = .ok (.ifCond .eq 9, 3) := by decide +kernel
theorem dX7_takeType_39 : decode cX7_takeType 39 = .ok (.aload_n 0, 1) := by decide +kernel
theorem dX7_takeType_40 : decode cX7_takeType 40 = .ok (.iconst 2, 1) := by decide +kernel
theorem dX7_takeType_41 : decode cX7_takeType 41 = .ok (.invokevirtual 207, 3) := by decide +kernel
theorem dX7_takeType_44 : decode cX7_takeType 44 = .ok (.ireturn, 1) := by decide +kernel
theorem dX7_takeType_45 : decode cX7_takeType 45 = .ok (.aload_n 0, 1) := by decide +kernel
theorem dX7_takeType_46 : decode cX7_takeType 46 = .ok (.ldc 216, 2) := by decide +kernel
theorem dX7_takeType_48 : decode cX7_takeType 48 = .ok (.invokevirtual 75, 3) := by decide +kernel
theorem dX7_takeType_51 : decode cX7_takeType 51 = .ok (.ifCond .eq 9, 3) := by decide +kernel
theorem dX7_takeType_54 : decode cX7_takeType 54 = .ok (.aload_n 0, 1) := by decide +kernel
theorem dX7_takeType_55 : decode cX7_takeType 55 = .ok (.iconst 3, 1) := by decide +kernel
theorem dX7_takeType_56 : decode cX7_takeType 56 = .ok (.invokevirtual 207, 3) := by decide +kernel
theorem dX7_takeType_59 : decode cX7_takeType 59 = .ok (.ireturn, 1) := by decide +kernel
theorem dX7_takeType_60 : decode cX7_takeType 60 = .ok (.aload_n 0, 1) := by decide +kernel
theorem dX7_takeType_61 : decode cX7_takeType 61 = .ok (.iconst 1, 1) := by decide +kernel
theorem dX7_takeType_62 : decode cX7_takeType 62 = .ok (.aload_n 0, 1) := by decide +kernel
theorem dX7_takeType_63 : decode cX7_takeType 63 = .ok (.getfield 104, 3) := by decide +kernel
theorem dX7_takeType_66 : decode cX7_takeType 66 = .ok (.invokevirtual 107, 3) := by decide +kernel
theorem dX7_takeType_69 : decode cX7_takeType 69 = .ok (.ireturn, 1) := by decide +kernel
theorem dX7_takeCell_0 : decode cX7_takeCell 0 = .ok (.aload_n 0, 1) := by decide +kernel
theorem dX7_takeCell_1 : decode cX7_takeCell 1 = .ok (.bipush 95, 2) := by decide +kernel
theorem dX7_takeCell_3 : decode cX7_takeCell 3 = .ok (.invokevirtual 218, 3) := by decide +kernel
theorem dX7_takeCell_6 : decode cX7_takeCell 6 = .ok (.ifCond .eq 11, 3) := by decide +kernel
theorem dX7_takeCell_9 : decode cX7_takeCell 9 = .ok (.aload_n 0, 1) := by decide +kernel
theorem dX7_takeCell_10 : decode cX7_takeCell 10 = .ok (.sipush 9999, 3) := by decide +kernel
theorem dX7_takeCell_13 : decode cX7_takeCell 13 = .ok (.invokevirtual 207, 3) := by decide +kernel
theorem dX7_takeCell_16 : decode cX7_takeCell 16 = .ok (.ireturn, 1) := by decide +kernel
theorem dX7_takeCell_17 : decode cX7_takeCell 17 = .ok (.aload_n 0, 1) := by decide +kernel
theorem dX7_takeCell_18 : decode cX7_takeCell 18 = .ok (.bipush 45, 2) := by decide +kernel
theorem dX7_takeCell_20 : decode cX7_takeCell 20 = .ok (.invokevirtual 218, 3) := by decide +kernel
theorem dX7_takeCell_23 : decode cX7_takeCell 23 = .ok (.istore_n 1, 1) := by decide +kernel
theorem dX7_takeCell_24 : decode cX7_takeCell 24 = .ok (.iload_n 1, 1) := by decide +kernel
theorem dX7_takeCell_25 : decode cX7_takeCell 25 = .ok (.ifCond .eq 7, 3) := by decide +kernel
theorem dX7_takeCell_28 : decode cX7_takeCell 28 = .ok (.aload_n 0, 1) := by decide +kernel
theorem dX7_takeCell_29 : decode cX7_takeCell 29 = .ok (.invokevirtual 61, 3) := by decide +kernel
theorem dX7_takeCell_32 : decode cX7_takeCell 32 = .ok (.aload_n 0, 1) := by decide +kernel
theorem dX7_takeCell_33 : decode cX7_takeCell 33 = .ok (.sipush 999, 3) := by decide +kernel
theorem dX7_takeCell_36 : decode cX7_takeCell 36 = .ok (.invokevirtual 149, 3) := by decide +kernel
theorem dX7_takeCell_39 : decode cX7_takeCell 39 = .ok (.istore_n 2, 1) := by decide +kernel
theorem dX7_takeCell_40 : decode cX7_takeCell 40 = .ok (.iload_n 1, 1) := by decide +kernel
theorem dX7_takeCell_41 : decode cX7_takeCell 41 = .ok (.ifCond .eq 8, 3) := by decide +kernel
theorem dX7_takeCell_44 : decode cX7_takeCell 44 = .ok (.iload_n 2, 1) := by decide +kernel
theorem dX7_takeCell_45 : decode cX7_takeCell 45 = .ok (.ineg, 1) := by decide +kernel
theorem dX7_takeCell_46 : decode cX7_takeCell 46 = .ok (.goto 4, 3) := by decide +kernel
theorem dX7_takeCell_49 : decode cX7_takeCell 49 = .ok (.iload_n 2, 1) := by decide +kernel
theorem dX7_takeCell_50 : decode cX7_takeCell 50 = .ok (.ireturn, 1) := by decide +kernel
theorem dX7_takeNumber_0 : decode cX7_takeNumber 0 = .ok (.aload_n 0, 1) := by decide +kernel
theorem dX7_takeNumber_1 : decode cX7_takeNumber 1 = .ok (.getfield 64, 3) := by decide +kernel
theorem dX7_takeNumber_4 : decode cX7_takeNumber 4 = .ok (.iconst 2, 1) := by decide +kernel
theorem dX7_takeNumber_5 : decode cX7_takeNumber 5 = .ok (.if_icmp .eq 13, 3) := by decide +kernel
theorem dX7_takeNumber_8 : decode cX7_takeNumber 8 = .ok (.aload_n 0, 1) := by decide +kernel
theorem dX7_takeNumber_9 : decode cX7_takeNumber 9 = .ok (.iconst 1, 1) := by decide +kernel
theorem dX7_takeNumber_10 : decode cX7_takeNumber 10 = .ok (.aload_n 0, 1) := by decide +kernel
theorem dX7_takeNumber_11 : decode cX7_takeNumber 11 = .ok (.getfield 104, 3) := by decide +kernel
theorem dX7_takeNumber_14 : decode cX7_takeNumber 14 = .ok (.invokevirtual 107, 3) := by decide +kernel
theorem dX7_takeNumber_17 : decode cX7_takeNumber 17 = .ok (.ireturn, 1) := by decide +kernel
theorem dX7_takeNumber_18 : decode cX7_takeNumber 18 = .ok (.aload_n 0, 1) := by decide +kernel
theorem dX7_takeNumber_19 : decode cX7_takeNumber 19 = .ok (.getfield 48, 3) := by decide +kernel
theorem dX7_takeNumber_22 : decode cX7_takeNumber 22 = .ok (.aload_n 0, 1) := by decide +kernel
theorem dX7_takeNumber_23 : decode cX7_takeNumber 23 = .ok (.getfield 104, 3) := by decide +kernel
theorem dX7_takeNumber_26 : decode cX7_takeNumber 26 = .ok (.isub, 1) := by decide +kernel
theorem dX7_takeNumber_27 : decode cX7_takeNumber 27 = .ok (.iconst 4, 1) := by decide +kernel
theorem dX7_takeNumber_28 : decode cX7_takeNumber 28 = .ok (.if_icmp .le 13, 3) := by decide +kernel
theorem dX7_takeNumber_31 : decode cX7_takeNumber 31 = .ok (.aload_n 0, 1) := by decide +kernel
theorem dX7_takeNumber_32 : decode cX7_takeNumber 32 = .ok (.iconst 2, 1) := by decide +kernel
theorem dX7_takeNumber_33 : decode cX7_takeNumber 33 = .ok (.aload_n 0, 1) := by decide +kernel
theorem dX7_takeNumber_34 : decode cX7_takeNumber 34 = .ok (.getfield 104, 3) := by decide +kernel
theorem dX7_takeNumber_37 : decode cX7_takeNumber 37 = .ok (.invokevirtual 107, 3) := by decide +kernel
theorem dX7_takeNumber_40 : decode cX7_takeNumber 40 = .ok (.ireturn, 1) := by decide +kernel
theorem dX7_takeNumber_41 : decode cX7_takeNumber 41 = .ok (.iconst 0, 1) := by decide +kernel
theorem dX7_takeNumber_42 : decode cX7_takeNumber 42 = .ok (.istore_n 2, 1) := by decide +kernel
theorem dX7_takeNumber_43 : decode cX7_takeNumber 43 = .ok (.aload_n 0, 1) := by decide +kernel
theorem dX7_takeNumber_44 : decode cX7_takeNumber 44 = .ok (.getfield 104, 3) := by decide +kernel
theorem dX7_takeNumber_47 : decode cX7_takeNumber 47 = .ok (.istore_n 3, 1) := by decide +kernel
theorem dX7_takeNumber_48 : decode cX7_takeNumber 48 = .ok (.iload_n 3, 1) := by decide +kernel
theorem dX7_takeNumber_49 : decode cX7_takeNumber 49 = .ok (.aload_n 0, 1) := by decide +kernel
theorem dX7_takeNumber_50 : decode cX7_takeNumber 50 = .ok (.getfield 48, 3) := by decide +kernel
theorem dX7_takeNumber_53 : decode cX7_takeNumber 53 = .ok (.if_icmp .ge 31, 3) := by decide +kernel
theorem dX7_takeNumber_56 : decode cX7_takeNumber 56 = .ok (.iload_n 3, 1) := by decide +kernel
theorem dX7_takeNumber_57 : decode cX7_takeNumber 57 = .ok (.sipush 700, 3) := by decide +kernel
theorem dX7_takeNumber_60 : decode cX7_takeNumber 60 = .ok (.if_icmp .ge 24, 3) := by decide +kernel
theorem dX7_takeNumber_63 : decode cX7_takeNumber 63 = .ok (.iload_n 2, 1) := by decide +kernel
theorem dX7_takeNumber_64 : decode cX7_takeNumber 64 = .ok (.bipush 10, 2) := by decide +kernel
theorem dX7_takeNumber_66 : decode cX7_takeNumber 66 = .ok (.imul, 1) := by decide +kernel
theorem dX7_takeNumber_67 : decode cX7_takeNumber 67 = .ok (.aload_n 0, 1) := by decide +kernel
theorem dX7_takeNumber_68 : decode cX7_takeNumber 68 = .ok (.getfield 9, 3) := by decide +kernel
theorem dX7_takeNumber_71 : decode cX7_takeNumber 71 = .ok (.iload_n 3, 1) := by decide +kernel
theorem dX7_takeNumber_72 : decode cX7_takeNumber 72 = .ok (.baload, 1) := by decide +kernel
theorem dX7_takeNumber_73 : decode cX7_takeNumber 73 = .ok (.iadd, 1) := by decide +kernel
theorem dX7_takeNumber_74 : decode cX7_takeNumber 74 = .ok (.bipush 48, 2) := by decide +kernel
theorem dX7_takeNumber_76 : decode cX7_takeNumber 76 = .ok (.isub, 1) := by decide +kernel
theorem dX7_takeNumber_77 : decode cX7_takeNumber 77 = .ok (.istore_n 2, 1) := by decide +kernel
theorem dX7_takeNumber_78 : decode cX7_takeNumber 78 = .ok (.iinc 3 1, 3) := by decide +kernel
theorem dX7_takeNumber_81 : decode cX7_takeNumber 81 = .ok (.goto (-33), 3) := by decide +kernel
theorem dX7_takeNumber_84 : decode cX7_takeNumber 84 = .ok (.iload_n 2, 1) := by decide +kernel
theorem dX7_takeNumber_85 : decode cX7_takeNumber 85 = .ok (.iload_n 1, 1) := by decide +kernel
theorem dX7_takeNumber_86 : decode cX7_takeNumber 86 = .ok (.if_icmp .le 13, 3) := by decide +kernel
theorem dX7_takeNumber_89 : decode cX7_takeNumber 89 = .ok (.aload_n 0, 1) := by decide +kernel
theorem dX7_takeNumber_90 : decode cX7_takeNumber 90 = .ok (.iconst 2, 1) := by decide +kernel
theorem dX7_takeNumber_91 : decode cX7_takeNumber 91 = .ok (.aload_n 0, 1) := by decide +kernel
theorem dX7_takeNumber_92 : decode cX7_takeNumber 92 = .ok (.getfield 104, 3) := by decide +kernel
theorem dX7_takeNumber_95 : decode cX7_takeNumber 95 = .ok (.invokevirtual 107, 3) := by decide +kernel
theorem dX7_takeNumber_98 : decode cX7_takeNumber 98 = .ok (.ireturn, 1) := by decide +kernel
theorem dX7_takeNumber_99 : decode cX7_takeNumber 99 = .ok (.aload_n 0, 1) := by decide +kernel
theorem dX7_takeNumber_100 : decode cX7_takeNumber 100 = .ok (.invokevirtual 61, 3) := by decide +kernel
theorem dX7_takeNumber_103 : decode cX7_takeNumber 103 = .ok (.iload_n 2, 1) := by decide +kernel
theorem dX7_takeNumber_104 : decode cX7_takeNumber 104 = .ok (.ireturn, 1) := by decide +kernel
theorem dX7_takeSemicolon_0 : decode cX7_takeSemicolon 0 = .ok (.aload_n 0, 1) := by decide +kernel
theorem dX7_takeSemicolon_1 : decode cX7_takeSemicolon 1 = .ok (.bipush 59, 2) := by decide +kernel
theorem dX7_takeSemicolon_3 : decode cX7_takeSemicolon 3 = .ok (.invokevirtual 218, 3) := by decide +kernel
theorem dX7_takeSemicolon_6 : decode cX7_takeSemicolon 6 = .ok (.ifCond .eq 10, 3) := by decide +kernel
theorem dX7_takeSemicolon_9 : decode cX7_takeSemicolon 9 = .ok (.aload_n 0, 1) := by decide +kernel
theorem dX7_takeSemicolon_10 : decode cX7_takeSemicolon 10 = .ok (.invokevirtual 61, 3) := by decide +kernel
theorem dX7_takeSemicolon_13 : decode cX7_takeSemicolon 13 = .ok (.goto 13, 3) := by decide +kernel
theorem dX7_takeSemicolon_16 : decode cX7_takeSemicolon 16 = .ok (.aload_n 0, 1) := by decide +kernel
theorem dX7_takeSemicolon_17 : decode cX7_takeSemicolon 17 = .ok (.iconst 1, 1) := by decide +kernel
theorem dX7_takeSemicolon_18 : decode cX7_takeSemicolon 18 = .ok (.aload_n 0, 1) := by decide +kernel
theorem dX7_takeSemicolon_19 : decode cX7_takeSemicolon 19 = .ok (.getfield 104, 3) := by decide +kernel
theorem dX7_takeSemicolon_22 : decode cX7_takeSemicolon 22 = .ok (.invokevirtual 107, 3) := by decide +kernel
theorem dX7_takeSemicolon_25 : decode cX7_takeSemicolon 25 = .ok (.pop, 1) := by decide +kernel
theorem dX7_takeSemicolon_26 : decode cX7_takeSemicolon 26 = .ok (.return_, 1) := by decide +kernel
theorem dX7_fail_0 : decode cX7_fail 0 = .ok (.aload_n 0, 1) := by decide +kernel
theorem dX7_fail_1 : decode cX7_fail 1 = .ok (.getfield 45, 3) := by decide +kernel
theorem dX7_fail_4 : decode cX7_fail 4 = .ok (.ifCond .ne 13, 3) := by decide +kernel
theorem dX7_fail_7 : decode cX7_fail 7 = .ok (.aload_n 0, 1) := by decide +kernel
theorem dX7_fail_8 : decode cX7_fail 8 = .ok (.iload_n 1, 1) := by decide +kernel
theorem dX7_fail_9 : decode cX7_fail 9 = .ok (.putfield 45, 3) := by decide +kernel
theorem dX7_fail_12 : decode cX7_fail 12 = .ok (.aload_n 0, 1) := by decide +kernel
theorem dX7_fail_13 : decode cX7_fail 13 = .ok (.iload_n 2, 1) := by decide +kernel
theorem dX7_fail_14 : decode cX7_fail 14 = .ok (.putfield 22, 3) := by decide +kernel
theorem dX7_fail_17 : decode cX7_fail 17 = .ok (.iconst (-1), 1) := by decide +kernel
theorem dX7_fail_18 : decode cX7_fail 18 = .ok (.ireturn, 1) := by decide +kernel
theorem dX7_passed_0 : decode cX7_passed 0 = .ok (.aload_n 0, 1) := by decide +kernel
theorem dX7_passed_1 : decode cX7_passed 1 = .ok (.invokevirtual 61, 3) := by decide +kernel
theorem dX7_passed_4 : decode cX7_passed 4 = .ok (.iload_n 1, 1) := by decide +kernel
theorem dX7_passed_5 : decode cX7_passed 5 = .ok (.ireturn, 1) := by decide +kernel
theorem dX7_isSign_0 : decode cX7_isSign 0 = .ok (.aload_n 0, 1) := by decide +kernel
theorem dX7_isSign_1 : decode cX7_isSign 1 = .ok (.getfield 64, 3) := by decide +kernel
theorem dX7_isSign_4 : decode cX7_isSign 4 = .ok (.iconst 3, 1) := by decide +kernel
theorem dX7_isSign_5 : decode cX7_isSign 5 = .ok (.if_icmp .ne 30, 3) := by decide +kernel
theorem dX7_isSign_8 : decode cX7_isSign 8 = .ok (.aload_n 0, 1) := by decide +kernel
theorem dX7_isSign_9 : decode cX7_isSign 9 = .ok (.getfield 104, 3) := by decide +kernel
theorem dX7_isSign_12 : decode cX7_isSign 12 = .ok (.sipush 700, 3) := by decide +kernel
theorem dX7_isSign_15 : decode cX7_isSign 15 = .ok (.if_icmp .ge 20, 3) := by decide +kernel
theorem dX7_isSign_18 : decode cX7_isSign 18 = .ok (.aload_n 0, 1) := by decide +kernel
theorem dX7_isSign_19 : decode cX7_isSign 19 = .ok (.getfield 9, 3) := by decide +kernel
theorem dX7_isSign_22 : decode cX7_isSign 22 = .ok (.aload_n 0, 1) := by decide +kernel
theorem dX7_isSign_23 : decode cX7_isSign 23 = .ok (.getfield 104, 3) := by decide +kernel
theorem dX7_isSign_26 : decode cX7_isSign 26 = .ok (.baload, 1) := by decide +kernel
theorem dX7_isSign_27 : decode cX7_isSign 27 = .ok (.iload_n 1, 1) := by decide +kernel
theorem dX7_isSign_28 : decode cX7_isSign 28 = .ok (.if_icmp .ne 7, 3) := by decide +kernel
theorem dX7_isSign_31 : decode cX7_isSign 31 = .ok (.iconst 1, 1) := by decide +kernel
theorem dX7_isSign_32 : decode cX7_isSign 32 = .ok (.goto 4, 3) := by decide +kernel
theorem dX7_isSign_35 : decode cX7_isSign 35 = .ok (.iconst 0, 1) := by decide +kernel
theorem dX7_isSign_36 : decode cX7_isSign 36 = .ok (.ireturn, 1) := by decide +kernel
theorem dX7_isWord_0 : decode cX7_isWord 0 = .ok (.aload_n 0, 1) := by decide +kernel
theorem dX7_isWord_1 : decode cX7_isWord 1 = .ok (.getfield 64, 3) := by decide +kernel
theorem dX7_isWord_4 : decode cX7_isWord 4 = .ok (.iconst 1, 1) := by decide +kernel
theorem dX7_isWord_5 : decode cX7_isWord 5 = .ok (.if_icmp .ne 19, 3) := by decide +kernel
theorem dX7_isWord_8 : decode cX7_isWord 8 = .ok (.aload_n 0, 1) := by decide +kernel
theorem dX7_isWord_9 : decode cX7_isWord 9 = .ok (.getfield 48, 3) := by decide +kernel
theorem dX7_isWord_12 : decode cX7_isWord 12 = .ok (.aload_n 0, 1) := by decide +kernel
theorem dX7_isWord_13 : decode cX7_isWord 13 = .ok (.getfield 104, 3) := by decide +kernel
theorem dX7_isWord_16 : decode cX7_isWord 16 = .ok (.isub, 1) := by decide +kernel
theorem dX7_isWord_17 : decode cX7_isWord 17 = .ok (.aload_n 1, 1) := by decide +kernel
theorem dX7_isWord_18 : decode cX7_isWord 18 = .ok (.invokevirtual 222, 3) := by decide +kernel
theorem dX7_isWord_21 : decode cX7_isWord 21 = .ok (.if_icmp .eq 5, 3) := by decide +kernel
theorem dX7_isWord_24 : decode cX7_isWord 24 = .ok (.iconst 0, 1) := by decide +kernel
theorem dX7_isWord_25 : decode cX7_isWord 25 = .ok (.ireturn, 1) := by decide +kernel
theorem dX7_isWord_26 : decode cX7_isWord 26 = .ok (.iconst 0, 1) := by decide +kernel
theorem dX7_isWord_27 : decode cX7_isWord 27 = .ok (.istore_n 2, 1) := by decide +kernel
theorem dX7_isWord_28 : decode cX7_isWord 28 = .ok (.iload_n 2, 1) := by decide +kernel
theorem dX7_isWord_29 : decode cX7_isWord 29 = .ok (.aload_n 1, 1) := by decide +kernel
theorem dX7_isWord_30 : decode cX7_isWord 30 = .ok (.invokevirtual 222, 3) := by decide +kernel
theorem dX7_isWord_33 : decode cX7_isWord 33 = .ok (.if_icmp .ge 42, 3) := by decide +kernel
theorem dX7_isWord_36 : decode cX7_isWord 36 = .ok (.aload_n 0, 1) := by decide +kernel
theorem dX7_isWord_37 : decode cX7_isWord 37 = .ok (.getfield 104, 3) := by decide +kernel
theorem dX7_isWord_40 : decode cX7_isWord 40 = .ok (.iload_n 2, 1) := by decide +kernel
theorem dX7_isWord_41 : decode cX7_isWord 41 = .ok (.iadd, 1) := by decide +kernel
theorem dX7_isWord_42 : decode cX7_isWord 42 = .ok (.sipush 700, 3) := by decide +kernel
theorem dX7_isWord_45 : decode cX7_isWord 45 = .ok (.if_icmp .ge 30, 3) := by decide +kernel
theorem dX7_isWord_48 : decode cX7_isWord 48 = .ok (.aload_n 0, 1) := by decide +kernel
theorem dX7_isWord_49 : decode cX7_isWord 49 = .ok (.getfield 9, 3) := by decide +kernel
theorem dX7_isWord_52 : decode cX7_isWord 52 = .ok (.aload_n 0, 1) := by decide +kernel
theorem dX7_isWord_53 : decode cX7_isWord 53 = .ok (.getfield 104, 3) := by decide +kernel
theorem dX7_isWord_56 : decode cX7_isWord 56 = .ok (.iload_n 2, 1) := by decide +kernel
theorem dX7_isWord_57 : decode cX7_isWord 57 = .ok (.iadd, 1) := by decide +kernel
theorem dX7_isWord_58 : decode cX7_isWord 58 = .ok (.baload, 1) := by decide +kernel
theorem dX7_isWord_59 : decode cX7_isWord 59 = .ok (.aload_n 1, 1) := by decide +kernel
theorem dX7_isWord_60 : decode cX7_isWord 60 = .ok (.iload_n 2, 1) := by decide +kernel
theorem dX7_isWord_61 : decode cX7_isWord 61 = .ok (.invokevirtual 226, 3) := by decide +kernel
theorem dX7_isWord_64 : decode cX7_isWord 64 = .ok (.if_icmp .eq 5, 3) := by decide +kernel
theorem dX7_isWord_67 : decode cX7_isWord 67 = .ok (.iconst 0, 1) := by decide +kernel
theorem dX7_isWord_68 : decode cX7_isWord 68 = .ok (.ireturn, 1) := by decide +kernel
theorem dX7_isWord_69 : decode cX7_isWord 69 = .ok (.iinc 2 1, 3) := by decide +kernel
theorem dX7_isWord_72 : decode cX7_isWord 72 = .ok (.goto (-44), 3) := by decide +kernel
theorem dX7_isWord_75 : decode cX7_isWord 75 = .ok (.iconst 1, 1) := by decide +kernel
theorem dX7_isWord_76 : decode cX7_isWord 76 = .ok (.ireturn, 1) := by decide +kernel
theorem dX7_step_0 : decode cX7_step 0 = .ok (.aload_n 0, 1) := by decide +kernel
theorem dX7_step_1 : decode cX7_step 1 = .ok (.aload_n 0, 1) := by decide +kernel
theorem dX7_step_2 : decode cX7_step 2 = .ok (.getfield 48, 3) := by decide +kernel
theorem dX7_step_5 : decode cX7_step 5 = .ok (.putfield 104, 3) := by decide +kernel
theorem dX7_step_8 : decode cX7_step 8 = .ok (.aload_n 0, 1) := by decide +kernel
theorem dX7_step_9 : decode cX7_step 9 = .ok (.getfield 104, 3) := by decide +kernel
theorem dX7_step_12 : decode cX7_step 12 = .ok (.aload_n 0, 1) := by decide +kernel
theorem dX7_step_13 : decode cX7_step 13 = .ok (.getfield 42, 3) := by decide +kernel
theorem dX7_step_16 : decode cX7_step 16 = .ok (.if_icmp .ge 44, 3) := by decide +kernel
theorem dX7_step_19 : decode cX7_step 19 = .ok (.aload_n 0, 1) := by decide +kernel
theorem dX7_step_20 : decode cX7_step 20 = .ok (.getfield 9, 3) := by decide +kernel
theorem dX7_step_23 : decode cX7_step 23 = .ok (.aload_n 0, 1) := by decide +kernel
theorem dX7_step_24 : decode cX7_step 24 = .ok (.getfield 104, 3) := by decide +kernel
theorem dX7_step_27 : decode cX7_step 27 = .ok (.baload, 1) := by decide +kernel
theorem dX7_step_28 : decode cX7_step 28 = .ok (.bipush 32, 2) := by decide +kernel
theorem dX7_step_30 : decode cX7_step 30 = .ok (.if_icmp .eq 17, 3) := by decide +kernel
theorem dX7_step_33 : decode cX7_step 33 = .ok (.aload_n 0, 1) := by decide +kernel
theorem dX7_step_34 : decode cX7_step 34 = .ok (.getfield 9, 3) := by decide +kernel
theorem dX7_step_37 : decode cX7_step 37 = .ok (.aload_n 0, 1) := by decide +kernel
theorem dX7_step_38 : decode cX7_step 38 = .ok (.getfield 104, 3) := by decide +kernel
theorem dX7_step_41 : decode cX7_step 41 = .ok (.baload, 1) := by decide +kernel
theorem dX7_step_42 : decode cX7_step 42 = .ok (.bipush 10, 2) := by decide +kernel
theorem dX7_step_44 : decode cX7_step 44 = .ok (.if_icmp .ne 16, 3) := by decide +kernel
theorem dX7_step_47 : decode cX7_step 47 = .ok (.aload_n 0, 1) := by decide +kernel
theorem dX7_step_48 : decode cX7_step 48 = .ok (.dup, 1) := by decide +kernel
theorem dX7_step_49 : decode cX7_step 49 = .ok (.getfield 104, 3) := by decide +kernel
theorem dX7_step_52 : decode cX7_step 52 = .ok (.iconst 1, 1) := by decide +kernel
theorem dX7_step_53 : decode cX7_step 53 = .ok (.iadd, 1) := by decide +kernel
theorem dX7_step_54 : decode cX7_step 54 = .ok (.putfield 104, 3) := by decide +kernel
theorem dX7_step_57 : decode cX7_step 57 = .ok (.goto (-49), 3) := by decide +kernel
theorem dX7_step_60 : decode cX7_step 60 = .ok (.aload_n 0, 1) := by decide +kernel
theorem dX7_step_61 : decode cX7_step 61 = .ok (.aload_n 0, 1) := by decide +kernel
theorem dX7_step_62 : decode cX7_step 62 = .ok (.getfield 104, 3) := by decide +kernel
theorem dX7_step_65 : decode cX7_step 65 = .ok (.putfield 48, 3) := by decide +kernel
theorem dX7_step_68 : decode cX7_step 68 = .ok (.aload_n 0, 1) := by decide +kernel
theorem dX7_step_69 : decode cX7_step 69 = .ok (.iconst 0, 1) := by decide +kernel
theorem dX7_step_70 : decode cX7_step 70 = .ok (.putfield 64, 3) := by decide +kernel
theorem dX7_step_73 : decode cX7_step 73 = .ok (.aload_n 0, 1) := by decide +kernel
theorem dX7_step_74 : decode cX7_step 74 = .ok (.getfield 104, 3) := by decide +kernel
theorem dX7_step_77 : decode cX7_step 77 = .ok (.aload_n 0, 1) := by decide +kernel
theorem dX7_step_78 : decode cX7_step 78 = .ok (.getfield 42, 3) := by decide +kernel
theorem dX7_step_81 : decode cX7_step 81 = .ok (.if_icmp .ge 80, 3) := by decide +kernel
theorem dX7_step_84 : decode cX7_step 84 = .ok (.aload_n 0, 1) := by decide +kernel
theorem dX7_step_85 : decode cX7_step 85 = .ok (.aload_n 0, 1) := by decide +kernel
theorem dX7_step_86 : decode cX7_step 86 = .ok (.getfield 9, 3) := by decide +kernel
theorem dX7_step_89 : decode cX7_step 89 = .ok (.aload_n 0, 1) := by decide +kernel
theorem dX7_step_90 : decode cX7_step 90 = .ok (.getfield 104, 3) := by decide +kernel
theorem dX7_step_93 : decode cX7_step 93 = .ok (.baload, 1) := by decide +kernel
theorem dX7_step_94 : decode cX7_step 94 = .ok (.invokestatic 230, 3) := by decide +kernel
theorem dX7_step_97 : decode cX7_step 97 = .ok (.putfield 64, 3) := by decide +kernel
theorem dX7_step_100 : decode cX7_step 100 = .ok (.aload_n 0, 1) := by decide +kernel
theorem dX7_step_101 : decode cX7_step 101 = .ok (.dup, 1) := by decide +kernel
theorem dX7_step_102 : decode cX7_step 102 = .ok (.getfield 48, 3) := by decide +kernel
theorem dX7_step_105 : decode cX7_step 105 = .ok (.iconst 1, 1) := by decide +kernel
theorem dX7_step_106 : decode cX7_step 106 = .ok (.iadd, 1) := by decide +kernel
theorem dX7_step_107 : decode cX7_step 107 = .ok (.putfield 48, 3) := by decide +kernel
theorem dX7_step_110 : decode cX7_step 110 = .ok (.aload_n 0, 1) := by decide +kernel
theorem dX7_step_111 : decode cX7_step 111 = .ok (.getfield 64, 3) := by decide +kernel
theorem dX7_step_114 : decode cX7_step 114 = .ok (.iconst 3, 1) := by decide +kernel
theorem dX7_step_115 : decode cX7_step 115 = .ok (.if_icmp .eq 46, 3) := by decide +kernel
theorem dX7_step_118 : decode cX7_step 118 = .ok (.aload_n 0, 1) := by decide +kernel
theorem dX7_step_119 : decode cX7_step 119 = .ok (.getfield 48, 3) := by decide +kernel
theorem dX7_step_122 : decode cX7_step 122 = .ok (.aload_n 0, 1) := by decide +kernel
theorem dX7_step_123 : decode cX7_step 123 = .ok (.getfield 42, 3) := by decide +kernel
theorem dX7_step_126 : decode cX7_step 126 = .ok (.if_icmp .ge 35, 3) := by decide +kernel
theorem dX7_step_129 : decode cX7_step 129 = .ok (.aload_n 0, 1) := by decide +kernel
theorem dX7_step_130 : decode cX7_step 130 = .ok (.getfield 9, 3) := by decide +kernel
theorem dX7_step_133 : decode cX7_step 133 = .ok (.aload_n 0, 1) := by decide +kernel
theorem dX7_step_134 : decode cX7_step 134 = .ok (.getfield 48, 3) := by decide +kernel
theorem dX7_step_137 : decode cX7_step 137 = .ok (.baload, 1) := by decide +kernel
theorem dX7_step_138 : decode cX7_step 138 = .ok (.invokestatic 230, 3) := by decide +kernel
theorem dX7_step_141 : decode cX7_step 141 = .ok (.aload_n 0, 1) := by decide +kernel
theorem dX7_step_142 : decode cX7_step 142 = .ok (.getfield 64, 3) := by decide +kernel
theorem dX7_step_145 : decode cX7_step 145 = .ok (.if_icmp .ne 16, 3) := by decide +kernel
theorem dX7_step_148 : decode cX7_step 148 = .ok (.aload_n 0, 1) := by decide +kernel
theorem dX7_step_149 : decode cX7_step 149 = .ok (.dup, 1) := by decide +kernel
theorem dX7_step_150 : decode cX7_step 150 = .ok (.getfield 48, 3) := by decide +kernel
theorem dX7_step_153 : decode cX7_step 153 = .ok (.iconst 1, 1) := by decide +kernel
theorem dX7_step_154 : decode cX7_step 154 = .ok (.iadd, 1) := by decide +kernel
theorem dX7_step_155 : decode cX7_step 155 = .ok (.putfield 48, 3) := by decide +kernel
theorem dX7_step_158 : decode cX7_step 158 = .ok (.goto (-48), 3) := by decide +kernel
theorem dX7_step_161 : decode cX7_step 161 = .ok (.return_, 1) := by decide +kernel
theorem dX7_kindOf_0 : decode cX7_kindOf 0 = .ok (.iload_n 0, 1) := by decide +kernel
theorem dX7_kindOf_1 : decode cX7_kindOf 1 = .ok (.bipush 97, 2) := by decide +kernel
theorem dX7_kindOf_3 : decode cX7_kindOf 3 = .ok (.if_icmp .lt 11, 3) := by decide +kernel
theorem dX7_kindOf_6 : decode cX7_kindOf 6 = .ok (.iload_n 0, 1) := by decide +kernel
theorem dX7_kindOf_7 : decode cX7_kindOf 7 = .ok (.bipush 122, 2) := by decide +kernel
theorem dX7_kindOf_9 : decode cX7_kindOf 9 = .ok (.if_icmp .gt 5, 3) := by decide +kernel
theorem dX7_kindOf_12 : decode cX7_kindOf 12 = .ok (.iconst 1, 1) := by decide +kernel
theorem dX7_kindOf_13 : decode cX7_kindOf 13 = .ok (.ireturn, 1) := by decide +kernel
theorem dX7_kindOf_14 : decode cX7_kindOf 14 = .ok (.iload_n 0, 1) := by decide +kernel
theorem dX7_kindOf_15 : decode cX7_kindOf 15 = .ok (.bipush 48, 2) := by decide +kernel
theorem dX7_kindOf_17 : decode cX7_kindOf 17 = .ok (.if_icmp .lt 13, 3) := by decide +kernel
theorem dX7_kindOf_20 : decode cX7_kindOf 20 = .ok (.iload_n 0, 1) := by decide +kernel
theorem dX7_kindOf_21 : decode cX7_kindOf 21 = .ok (.bipush 57, 2) := by decide +kernel
theorem dX7_kindOf_23 : decode cX7_kindOf 23 = .ok (.if_icmp .gt 7, 3) := by decide +kernel
theorem dX7_kindOf_26 : decode cX7_kindOf 26 = .ok (.iconst 2, 1) := by decide +kernel
theorem dX7_kindOf_27 : decode cX7_kindOf 27 = .ok (.goto 4, 3) := by decide +kernel
theorem dX7_kindOf_30 : decode cX7_kindOf 30 = .ok (.iconst 3, 1) := by decide +kernel
theorem dX7_kindOf_31 : decode cX7_kindOf 31 = .ok (.ireturn, 1) := by decide +kernel
theorem dX8_holds_0 : decode cX8_holds 0 = .ok (.iload_n 1, 1) := by decide +kernel
theorem dX8_holds_1 : decode cX8_holds 1 = .ok (.sipush 9999, 3) := by decide +kernel
theorem dX8_holds_4 : decode cX8_holds 4 = .ok (.if_icmp .ne 5, 3) := by decide +kernel
theorem dX8_holds_7 : decode cX8_holds 7 = .ok (.iconst 1, 1) := by decide +kernel
theorem dX8_holds_8 : decode cX8_holds 8 = .ok (.ireturn, 1) := by decide +kernel
theorem dX8_holds_9 : decode cX8_holds 9 = .ok (.iload_n 1, 1) := by decide +kernel
theorem dX8_holds_10 : decode cX8_holds 10 = .ok (.sipush (-999), 3) := by decide +kernel
theorem dX8_holds_13 : decode cX8_holds 13 = .ok (.if_icmp .lt 10, 3) := by decide +kernel
theorem dX8_holds_16 : decode cX8_holds 16 = .ok (.iload_n 1, 1) := by decide +kernel
theorem dX8_holds_17 : decode cX8_holds 17 = .ok (.sipush 999, 3) := by decide +kernel
theorem dX8_holds_20 : decode cX8_holds 20 = .ok (.if_icmp .le 5, 3) := by decide +kernel
theorem dX8_holds_23 : decode cX8_holds 23 = .ok (.iconst 0, 1) := by decide +kernel
theorem dX8_holds_24 : decode cX8_holds 24 = .ok (.ireturn, 1) := by decide +kernel
theorem dX8_holds_25 : decode cX8_holds 25 = .ok (.iload_n 0, 1) := by decide +kernel
theorem dX8_holds_26 : decode cX8_holds 26 = .ok (.tableswitch 75 0 3 #[30, 32, 48, 60], 30) := by decide +kernel
theorem dX8_holds_56 : decode cX8_holds 56 = .ok (.iconst 1, 1) := by decide +kernel
theorem dX8_holds_57 : decode cX8_holds 57 = .ok (.ireturn, 1) := by decide +kernel
theorem dX8_holds_58 : decode cX8_holds 58 = .ok (.iload_n 1, 1) := by decide +kernel
theorem dX8_holds_59 : decode cX8_holds 59 = .ok (.ifCond .lt 13, 3) := by decide +kernel
theorem dX8_holds_62 : decode cX8_holds 62 = .ok (.iload_n 1, 1) := by decide +kernel
theorem dX8_holds_63 : decode cX8_holds 63 = .ok (.bipush 9, 2) := by decide +kernel
theorem dX8_holds_65 : decode cX8_holds 65 = .ok (.if_icmp .gt 7, 3) := by decide +kernel
theorem dX8_holds_68 : decode cX8_holds 68 = .ok (.iconst 1, 1) := by decide +kernel
theorem dX8_holds_69 : decode cX8_holds 69 = .ok (.goto 4, 3) := by decide +kernel
theorem dX8_holds_72 : decode cX8_holds 72 = .ok (.iconst 0, 1) := by decide +kernel
theorem dX8_holds_73 : decode cX8_holds 73 = .ok (.ireturn, 1) := by decide +kernel
theorem dX8_holds_74 : decode cX8_holds 74 = .ok (.iload_n 1, 1) := by decide +kernel
theorem dX8_holds_75 : decode cX8_holds 75 = .ok (.iconst 1, 1) := by decide +kernel
theorem dX8_holds_76 : decode cX8_holds 76 = .ok (.iand, 1) := by decide +kernel
theorem dX8_holds_77 : decode cX8_holds 77 = .ok (.ifCond .ne 7, 3) := by decide +kernel
theorem dX8_holds_80 : decode cX8_holds 80 = .ok (.iconst 1, 1) := by decide +kernel
theorem dX8_holds_81 : decode cX8_holds 81 = .ok (.goto 4, 3) := by decide +kernel
theorem dX8_holds_84 : decode cX8_holds 84 = .ok (.iconst 0, 1) := by decide +kernel
theorem dX8_holds_85 : decode cX8_holds 85 = .ok (.ireturn, 1) := by decide +kernel
theorem dX8_holds_86 : decode cX8_holds 86 = .ok (.iload_n 1, 1) := by decide +kernel
theorem dX8_holds_87 : decode cX8_holds 87 = .ok (.ifCond .eq 8, 3) := by decide +kernel
theorem dX8_holds_90 : decode cX8_holds 90 = .ok (.iload_n 1, 1) := by decide +kernel
theorem dX8_holds_91 : decode cX8_holds 91 = .ok (.iconst 1, 1) := by decide +kernel
theorem dX8_holds_92 : decode cX8_holds 92 = .ok (.if_icmp .ne 7, 3) := by decide +kernel
theorem dX8_holds_95 : decode cX8_holds 95 = .ok (.iconst 1, 1) := by decide +kernel
theorem dX8_holds_96 : decode cX8_holds 96 = .ok (.goto 4, 3) := by decide +kernel
theorem dX8_holds_99 : decode cX8_holds 99 = .ok (.iconst 0, 1) := by decide +kernel
theorem dX8_holds_100 : decode cX8_holds 100 = .ok (.ireturn, 1) := by decide +kernel
theorem dX8_holds_101 : decode cX8_holds 101 = .ok (.iconst 0, 1) := by decide +kernel
theorem dX8_holds_102 : decode cX8_holds 102 = .ok (.ireturn, 1) := by decide +kernel
theorem dX8_cast_0 : decode cX8_cast 0 = .ok (.iload_n 0, 1) := by decide +kernel
theorem dX8_cast_1 : decode cX8_cast 1 = .ok (.sipush 9999, 3) := by decide +kernel
theorem dX8_cast_4 : decode cX8_cast 4 = .ok (.if_icmp .ne 7, 3) := by decide +kernel
theorem dX8_cast_7 : decode cX8_cast 7 = .ok (.sipush 9999, 3) := by decide +kernel
theorem dX8_cast_10 : decode cX8_cast 10 = .ok (.ireturn, 1) := by decide +kernel
theorem dX8_cast_11 : decode cX8_cast 11 = .ok (.iload_n 1, 1) := by decide +kernel
theorem dX8_cast_12 : decode cX8_cast 12 = .ok (.tableswitch 58 1 3 #[28, 42, 48], 28) := by decide +kernel
theorem dX8_cast_40 : decode cX8_cast 40 = .ok (.iload_n 0, 1) := by decide +kernel
theorem dX8_cast_41 : decode cX8_cast 41 = .ok (.ifCond .ge 8, 3) := by decide +kernel
theorem dX8_cast_44 : decode cX8_cast 44 = .ok (.iload_n 0, 1) := by decide +kernel
theorem dX8_cast_45 : decode cX8_cast 45 = .ok (.ineg, 1) := by decide +kernel
theorem dX8_cast_46 : decode cX8_cast 46 = .ok (.goto 4, 3) := by decide +kernel
theorem dX8_cast_49 : decode cX8_cast 49 = .ok (.iload_n 0, 1) := by decide +kernel
theorem dX8_cast_50 : decode cX8_cast 50 = .ok (.bipush 10, 2) := by decide +kernel
theorem dX8_cast_52 : decode cX8_cast 52 = .ok (.irem, 1) := by decide +kernel
theorem dX8_cast_53 : decode cX8_cast 53 = .ok (.ireturn, 1) := by decide +kernel
theorem dX8_cast_54 : decode cX8_cast 54 = .ok (.iload_n 0, 1) := by decide +kernel
theorem dX8_cast_55 : decode cX8_cast 55 = .ok (.iload_n 0, 1) := by decide +kernel
theorem dX8_cast_56 : decode cX8_cast 56 = .ok (.iconst 2, 1) := by decide +kernel
theorem dX8_cast_57 : decode cX8_cast 57 = .ok (.irem, 1) := by decide +kernel
theorem dX8_cast_58 : decode cX8_cast 58 = .ok (.isub, 1) := by decide +kernel
theorem dX8_cast_59 : decode cX8_cast 59 = .ok (.ireturn, 1) := by decide +kernel
theorem dX8_cast_60 : decode cX8_cast 60 = .ok (.iload_n 0, 1) := by decide +kernel
theorem dX8_cast_61 : decode cX8_cast 61 = .ok (.ifCond .ne 7, 3) := by decide +kernel
theorem dX8_cast_64 : decode cX8_cast 64 = .ok (.iconst 0, 1) := by decide +kernel
theorem dX8_cast_65 : decode cX8_cast 65 = .ok (.goto 4, 3) := by decide +kernel
theorem dX8_cast_68 : decode cX8_cast 68 = .ok (.iconst 1, 1) := by decide +kernel
theorem dX8_cast_69 : decode cX8_cast 69 = .ok (.ireturn, 1) := by decide +kernel
theorem dX8_cast_70 : decode cX8_cast 70 = .ok (.iload_n 0, 1) := by decide +kernel
theorem dX8_cast_71 : decode cX8_cast 71 = .ok (.ireturn, 1) := by decide +kernel
theorem dX8_together_0 : decode cX8_together 0 = .ok (.iload_n 0, 1) := by decide +kernel
theorem dX8_together_1 : decode cX8_together 1 = .ok (.iconst 3, 1) := by decide +kernel
theorem dX8_together_2 : decode cX8_together 2 = .ok (.if_icmp .ne 8, 3) := by decide +kernel
theorem dX8_together_5 : decode cX8_together 5 = .ok (.iload_n 1, 1) := by decide +kernel
theorem dX8_together_6 : decode cX8_together 6 = .ok (.iconst 1, 1) := by decide +kernel
theorem dX8_together_7 : decode cX8_together 7 = .ok (.if_icmp .eq 13, 3) := by decide +kernel
theorem dX8_together_10 : decode cX8_together 10 = .ok (.iload_n 0, 1) := by decide +kernel
theorem dX8_together_11 : decode cX8_together 11 = .ok (.iconst 1, 1) := by decide +kernel
theorem dX8_together_12 : decode cX8_together 12 = .ok (.if_icmp .ne 10, 3) := by decide +kernel
theorem dX8_together_15 : decode cX8_together 15 = .ok (.iload_n 1, 1) := by decide +kernel
theorem dX8_together_16 : decode cX8_together 16 = .ok (.iconst 3, 1) := by decide +kernel
theorem dX8_together_17 : decode cX8_together 17 = .ok (.if_icmp .ne 5, 3) := by decide +kernel
theorem dX8_together_20 : decode cX8_together 20 = .ok (.iconst 3, 1) := by decide +kernel
theorem dX8_together_21 : decode cX8_together 21 = .ok (.ireturn, 1) := by decide +kernel
theorem dX8_together_22 : decode cX8_together 22 = .ok (.iload_n 0, 1) := by decide +kernel
theorem dX8_together_23 : decode cX8_together 23 = .ok (.ifCond .ne 5, 3) := by decide +kernel
theorem dX8_together_26 : decode cX8_together 26 = .ok (.iload_n 1, 1) := by decide +kernel
theorem dX8_together_27 : decode cX8_together 27 = .ok (.ireturn, 1) := by decide +kernel
theorem dX8_together_28 : decode cX8_together 28 = .ok (.iload_n 1, 1) := by decide +kernel
theorem dX8_together_29 : decode cX8_together 29 = .ok (.ifCond .ne 5, 3) := by decide +kernel
theorem dX8_together_32 : decode cX8_together 32 = .ok (.iload_n 0, 1) := by decide +kernel
theorem dX8_together_33 : decode cX8_together 33 = .ok (.ireturn, 1) := by decide +kernel
theorem dX8_together_34 : decode cX8_together 34 = .ok (.iconst (-1), 1) := by decide +kernel
theorem dX8_together_35 : decode cX8_together 35 = .ok (.ireturn, 1) := by decide +kernel
theorem dX9_init_0 : decode cX9_init 0 = .ok (.aload_n 0, 1) := by decide +kernel
theorem dX9_init_1 : decode cX9_init 1 = .ok (.invokespecial 3, 3) := by decide +kernel
theorem dX9_init_4 : decode cX9_init 4 = .ok (.aload_n 0, 1) := by decide +kernel
theorem dX9_init_5 : decode cX9_init 5 = .ok (.new 9, 3) := by decide +kernel
theorem dX9_init_8 : decode cX9_init 8 = .ok (.dup, 1) := by decide +kernel
theorem dX9_init_9 : decode cX9_init 9 = .ok (.invokespecial 11, 3) := by decide +kernel
theorem dX9_init_12 : decode cX9_init 12 = .ok (.putfield 12, 3) := by decide +kernel
theorem dX9_init_15 : decode cX9_init 15 = .ok (.aload_n 0, 1) := by decide +kernel
theorem dX9_init_16 : decode cX9_init 16 = .ok (.new 16, 3) := by decide +kernel
theorem dX9_init_19 : decode cX9_init 19 = .ok (.dup, 1) := by decide +kernel
theorem dX9_init_20 : decode cX9_init 20 = .ok (.invokespecial 18, 3) := by decide +kernel
theorem dX9_init_23 : decode cX9_init 23 = .ok (.putfield 19, 3) := by decide +kernel
theorem dX9_init_26 : decode cX9_init 26 = .ok (.aload_n 0, 1) := by decide +kernel
theorem dX9_init_27 : decode cX9_init 27 = .ok (.new 23, 3) := by decide +kernel
theorem dX9_init_30 : decode cX9_init 30 = .ok (.dup, 1) := by decide +kernel
theorem dX9_init_31 : decode cX9_init 31 = .ok (.invokespecial 25, 3) := by decide +kernel
theorem dX9_init_34 : decode cX9_init 34 = .ok (.putfield 26, 3) := by decide +kernel
theorem dX9_init_37 : decode cX9_init 37 = .ok (.aload_n 0, 1) := by decide +kernel
theorem dX9_init_38 : decode cX9_init 38 = .ok (.new 30, 3) := by decide +kernel
theorem dX9_init_41 : decode cX9_init 41 = .ok (.dup, 1) := by decide +kernel
theorem dX9_init_42 : decode cX9_init 42 = .ok (.invokespecial 32, 3) := by decide +kernel
theorem dX9_init_45 : decode cX9_init 45 = .ok (.putfield 33, 3) := by decide +kernel
theorem dX9_init_48 : decode cX9_init 48 = .ok (.aload_n 0, 1) := by decide +kernel
theorem dX9_init_49 : decode cX9_init 49 = .ok (.new 37, 3) := by decide +kernel
theorem dX9_init_52 : decode cX9_init 52 = .ok (.dup, 1) := by decide +kernel
theorem dX9_init_53 : decode cX9_init 53 = .ok (.invokespecial 39, 3) := by decide +kernel
theorem dX9_init_56 : decode cX9_init 56 = .ok (.putfield 40, 3) := by decide +kernel
theorem dX9_init_59 : decode cX9_init 59 = .ok (.aload_n 0, 1) := by decide +kernel
theorem dX9_init_60 : decode cX9_init 60 = .ok (.new 44, 3) := by decide +kernel
theorem dX9_init_63 : decode cX9_init 63 = .ok (.dup, 1) := by decide +kernel
theorem dX9_init_64 : decode cX9_init 64 = .ok (.invokespecial 46, 3) := by decide +kernel
theorem dX9_init_67 : decode cX9_init 67 = .ok (.putfield 47, 3) := by decide +kernel
theorem dX9_init_70 : decode cX9_init 70 = .ok (.aload_n 0, 1) := by decide +kernel
theorem dX9_init_71 : decode cX9_init 71 = .ok (.new 9, 3) := by decide +kernel
theorem dX9_init_74 : decode cX9_init 74 = .ok (.dup, 1) := by decide +kernel
theorem dX9_init_75 : decode cX9_init 75 = .ok (.invokespecial 11, 3) := by decide +kernel
theorem dX9_init_78 : decode cX9_init 78 = .ok (.putfield 51, 3) := by decide +kernel
theorem dX9_init_81 : decode cX9_init 81 = .ok (.aload_n 0, 1) := by decide +kernel
theorem dX9_init_82 : decode cX9_init 82 = .ok (.new 30, 3) := by decide +kernel
theorem dX9_init_85 : decode cX9_init 85 = .ok (.dup, 1) := by decide +kernel
theorem dX9_init_86 : decode cX9_init 86 = .ok (.invokespecial 32, 3) := by decide +kernel
theorem dX9_init_89 : decode cX9_init 89 = .ok (.putfield 54, 3) := by decide +kernel
theorem dX9_init_92 : decode cX9_init 92 = .ok (.aload_n 0, 1) := by decide +kernel
theorem dX9_init_93 : decode cX9_init 93 = .ok (.new 37, 3) := by decide +kernel
theorem dX9_init_96 : decode cX9_init 96 = .ok (.dup, 1) := by decide +kernel
theorem dX9_init_97 : decode cX9_init 97 = .ok (.invokespecial 39, 3) := by decide +kernel
theorem dX9_init_100 : decode cX9_init 100 = .ok (.putfield 57, 3) := by decide +kernel
theorem dX9_init_103 : decode cX9_init 103 = .ok (.aload_n 0, 1) := by decide +kernel
theorem dX9_init_104 : decode cX9_init 104 = .ok (.iconst (-1), 1) := by decide +kernel
theorem dX9_init_105 : decode cX9_init 105 = .ok (.putfield 60, 3) := by decide +kernel
theorem dX9_init_108 : decode cX9_init 108 = .ok (.aload_n 0, 1) := by decide +kernel
theorem dX9_init_109 : decode cX9_init 109 = .ok (.iconst 3, 1) := by decide +kernel
theorem dX9_init_110 : decode cX9_init 110 = .ok (.newarray .int, 2) := by decide +kernel
theorem dX9_init_112 : decode cX9_init 112 = .ok (.putfield 64, 3) := by decide +kernel
theorem dX9_init_115 : decode cX9_init 115 = .ok (.return_, 1) := by decide +kernel
theorem dX9_feed_0 : decode cX9_feed 0 = .ok (.aload_n 0, 1) := by decide +kernel
theorem dX9_feed_1 : decode cX9_feed 1 = .ok (.getfield 26, 3) := by decide +kernel
theorem dX9_feed_4 : decode cX9_feed 4 = .ok (.bipush 20, 2) := by decide +kernel
theorem dX9_feed_6 : decode cX9_feed 6 = .ok (.invokevirtual 68, 3) := by decide +kernel
theorem dX9_feed_9 : decode cX9_feed 9 = .ok (.ifCond .ne 5, 3) := by decide +kernel
theorem dX9_feed_12 : decode cX9_feed 12 = .ok (.iconst (-1), 1) := by decide +kernel
theorem dX9_feed_13 : decode cX9_feed 13 = .ok (.ireturn, 1) := by decide +kernel
theorem dX9_feed_14 : decode cX9_feed 14 = .ok (.aload_n 0, 1) := by decide +kernel
theorem dX9_feed_15 : decode cX9_feed 15 = .ok (.getfield 26, 3) := by decide +kernel
theorem dX9_feed_18 : decode cX9_feed 18 = .ok (.iload_n 1, 1) := by decide +kernel
theorem dX9_feed_19 : decode cX9_feed 19 = .ok (.invokevirtual 72, 3) := by decide +kernel
theorem dX9_feed_22 : decode cX9_feed 22 = .ok (.aload_n 0, 1) := by decide +kernel
theorem dX9_feed_23 : decode cX9_feed 23 = .ok (.getfield 26, 3) := by decide +kernel
theorem dX9_feed_26 : decode cX9_feed 26 = .ok (.iload_n 2, 1) := by decide +kernel
theorem dX9_feed_27 : decode cX9_feed 27 = .ok (.invokevirtual 72, 3) := by decide +kernel
theorem dX9_feed_30 : decode cX9_feed 30 = .ok (.aload_n 0, 1) := by decide +kernel
theorem dX9_feed_31 : decode cX9_feed 31 = .ok (.getfield 26, 3) := by decide +kernel
theorem dX9_feed_34 : decode cX9_feed 34 = .ok (.iload_n 3, 1) := by decide +kernel
theorem dX9_feed_35 : decode cX9_feed 35 = .ok (.invokevirtual 72, 3) := by decide +kernel
theorem dX9_feed_38 : decode cX9_feed 38 = .ok (.aload_n 0, 1) := by decide +kernel
theorem dX9_feed_39 : decode cX9_feed 39 = .ok (.getfield 26, 3) := by decide +kernel
theorem dX9_feed_42 : decode cX9_feed 42 = .ok (.iload 4, 2) := by decide +kernel
theorem dX9_feed_44 : decode cX9_feed 44 = .ok (.invokevirtual 72, 3) := by decide +kernel
theorem dX9_feed_47 : decode cX9_feed 47 = .ok (.aload_n 0, 1) := by decide +kernel
theorem dX9_feed_48 : decode cX9_feed 48 = .ok (.getfield 26, 3) := by decide +kernel
theorem dX9_feed_51 : decode cX9_feed 51 = .ok (.iload 5, 2) := by decide +kernel
theorem dX9_feed_53 : decode cX9_feed 53 = .ok (.invokevirtual 72, 3) := by decide +kernel
theorem dX9_feed_56 : decode cX9_feed 56 = .ok (.aload_n 0, 1) := by decide +kernel
theorem dX9_feed_57 : decode cX9_feed 57 = .ok (.getfield 26, 3) := by decide +kernel
theorem dX9_feed_60 : decode cX9_feed 60 = .ok (.getfield 76, 3) := by decide +kernel
theorem dX9_feed_63 : decode cX9_feed 63 = .ok (.ireturn, 1) := by decide +kernel
theorem dX9_tables_0 : decode cX9_tables 0 = .ok (.iload_n 1, 1) := by decide +kernel
theorem dX9_tables_1 : decode cX9_tables 1 = .ok (.ifCond .lt 14, 3) := by decide +kernel
theorem dX9_tables_4 : decode cX9_tables 4 = .ok (.iload_n 1, 1) := by decide +kernel
theorem dX9_tables_5 : decode cX9_tables 5 = .ok (.aload_n 0, 1) := by decide +kernel
theorem dX9_tables_6 : decode cX9_tables 6 = .ok (.getfield 26, 3) := by decide +kernel
theorem dX9_tables_9 : decode cX9_tables 9 = .ok (.getfield 76, 3) := by decide +kernel
theorem dX9_tables_12 : decode cX9_tables 12 = .ok (.if_icmp .le 13, 3) := by decide +kernel
theorem dX9_tables_15 : decode cX9_tables 15 = .ok (.new 79, 3) := by decide +kernel
theorem dX9_tables_18 : decode cX9_tables 18 = .ok (.dup, 1) := by decide +kernel
theorem dX9_tables_19 : decode cX9_tables 19 = .ok (.ldc 81, 2) := by decide +kernel
theorem dX9_tables_21 : decode cX9_tables 21 = .ok (.invokespecial 83, 3) := by decide +kernel
theorem dX9_tables_24 : decode cX9_tables 24 = .ok (.athrow, 1) := by decide +kernel
theorem dX9_tables_25 : decode cX9_tables 25 = .ok (.aload_n 0, 1) := by decide +kernel
theorem dX9_tables_26 : decode cX9_tables 26 = .ok (.getfield 26, 3) := by decide +kernel
theorem dX9_tables_29 : decode cX9_tables 29 = .ok (.iload_n 1, 1) := by decide +kernel
theorem dX9_tables_30 : decode cX9_tables 30 = .ok (.invokevirtual 86, 3) := by decide +kernel
theorem dX9_tables_33 : decode cX9_tables 33 = .ok (.istore_n 2, 1) := by decide +kernel
theorem dX9_tables_34 : decode cX9_tables 34 = .ok (.aload_n 0, 1) := by decide +kernel
theorem dX9_tables_35 : decode cX9_tables 35 = .ok (.aload_n 0, 1) := by decide +kernel
theorem dX9_tables_36 : decode cX9_tables 36 = .ok (.getfield 26, 3) := by decide +kernel
theorem dX9_tables_39 : decode cX9_tables 39 = .ok (.getfield 90, 3) := by decide +kernel
theorem dX9_tables_42 : decode cX9_tables 42 = .ok (.putfield 60, 3) := by decide +kernel
theorem dX9_tables_45 : decode cX9_tables 45 = .ok (.iload_n 2, 1) := by decide +kernel
theorem dX9_tables_46 : decode cX9_tables 46 = .ok (.ifCond .eq 15, 3) := by decide +kernel
theorem dX9_tables_49 : decode cX9_tables 49 = .ok (.aload_n 0, 1) := by decide +kernel
theorem dX9_tables_50 : decode cX9_tables 50 = .ok (.getfield 64, 3) := by decide +kernel
theorem dX9_tables_53 : decode cX9_tables 53 = .ok (.iconst 0, 1) := by decide +kernel
theorem dX9_tables_54 : decode cX9_tables 54 = .ok (.dup2, 1) := by decide +kernel
theorem dX9_tables_55 : decode cX9_tables 55 = .ok (.iaload, 1) := by decide +kernel
theorem dX9_tables_56 : decode cX9_tables 56 = .ok (.iconst 1, 1) := by decide +kernel
theorem dX9_tables_57 : decode cX9_tables 57 = .ok (.iadd, 1) := by decide +kernel
theorem dX9_tables_58 : decode cX9_tables 58 = .ok (.iastore, 1) := by decide +kernel
theorem dX9_tables_59 : decode cX9_tables 59 = .ok (.iload_n 2, 1) := by decide +kernel
theorem dX9_tables_60 : decode cX9_tables 60 = .ok (.ireturn, 1) := by decide +kernel
theorem dX9_tables_61 : decode cX9_tables 61 = .ok (.aload_n 0, 1) := by decide +kernel
theorem dX9_tables_62 : decode cX9_tables 62 = .ok (.getfield 12, 3) := by decide +kernel
theorem dX9_tables_65 : decode cX9_tables 65 = .ok (.aload_n 0, 1) := by decide +kernel
theorem dX9_tables_66 : decode cX9_tables 66 = .ok (.getfield 26, 3) := by decide +kernel
theorem dX9_tables_69 : decode cX9_tables 69 = .ok (.getfield 93, 3) := by decide +kernel
theorem dX9_tables_72 : decode cX9_tables 72 = .ok (.invokevirtual 96, 3) := by decide +kernel
theorem dX9_tables_75 : decode cX9_tables 75 = .ok (.aload_n 0, 1) := by decide +kernel
theorem dX9_tables_76 : decode cX9_tables 76 = .ok (.getfield 33, 3) := by decide +kernel
theorem dX9_tables_79 : decode cX9_tables 79 = .ok (.invokevirtual 100, 3) := by decide +kernel
theorem dX9_tables_82 : decode cX9_tables 82 = .ok (.aload_n 0, 1) := by decide +kernel
theorem dX9_tables_83 : decode cX9_tables 83 = .ok (.getfield 40, 3) := by decide +kernel
theorem dX9_tables_86 : decode cX9_tables 86 = .ok (.invokevirtual 103, 3) := by decide +kernel
theorem dX9_tables_89 : decode cX9_tables 89 = .ok (.aload_n 0, 1) := by decide +kernel
theorem dX9_tables_90 : decode cX9_tables 90 = .ok (.iconst 0, 1) := by decide +kernel
theorem dX9_tables_91 : decode cX9_tables 91 = .ok (.putfield 104, 3) := by decide +kernel
theorem dX9_tables_94 : decode cX9_tables 94 = .ok (.aload_n 0, 1) := by decide +kernel
theorem dX9_tables_95 : decode cX9_tables 95 = .ok (.invokevirtual 108, 3) := by decide +kernel
theorem dX9_tables_98 : decode cX9_tables 98 = .ok (.iconst 0, 1) := by decide +kernel
theorem dX9_tables_99 : decode cX9_tables 99 = .ok (.ireturn, 1) := by decide +kernel
theorem dX9_fault_0 : decode cX9_fault 0 = .ok (.aload_n 0, 1) := by decide +kernel
theorem dX9_fault_1 : decode cX9_fault 1 = .ok (.getfield 60, 3) := by decide +kernel
theorem dX9_fault_4 : decode cX9_fault 4 = .ok (.ireturn, 1) := by decide +kernel
theorem dX9_count_0 : decode cX9_count 0 = .ok (.iload_n 1, 1) := by decide +kernel
theorem dX9_count_1 : decode cX9_count 1 = .ok (.tableswitch 227 0 14 #[75, 89, 103, 111, 125, 139, 147, 155, 171, 182, 190, 198, 206, 213, 220], 75) := by decide +kernel
theorem dX9_count_76 : decode cX9_count 76 = .ok (.aload_n 0, 1) := by decide +kernel
theorem dX9_count_77 : decode cX9_count 77 = .ok (.getfield 12, 3) := by decide +kernel
theorem dX9_count_80 : decode cX9_count 80 = .ok (.getfield 111, 3) := by decide +kernel
theorem dX9_count_83 : decode cX9_count 83 = .ok (.getfield 115, 3) := by decide +kernel
theorem dX9_count_86 : decode cX9_count 86 = .ok (.invokestatic 120, 3) := by decide +kernel
theorem dX9_count_89 : decode cX9_count 89 = .ok (.ireturn, 1) := by decide +kernel
theorem dX9_count_90 : decode cX9_count 90 = .ok (.aload_n 0, 1) := by decide +kernel
theorem dX9_count_91 : decode cX9_count 91 = .ok (.getfield 12, 3) := by decide +kernel
theorem dX9_count_94 : decode cX9_count 94 = .ok (.getfield 111, 3) := by decide +kernel
theorem dX9_count_97 : decode cX9_count 97 = .ok (.getfield 125, 3) := by decide +kernel
theorem dX9_count_100 : decode cX9_count 100 = .ok (.invokestatic 120, 3) := by decide +kernel
theorem dX9_count_103 : decode cX9_count 103 = .ok (.ireturn, 1) := by decide +kernel
theorem dX9_count_104 : decode cX9_count 104 = .ok (.aload_n 0, 1) := by decide +kernel
theorem dX9_count_105 : decode cX9_count 105 = .ok (.getfield 12, 3) := by decide +kernel
theorem dX9_count_108 : decode cX9_count 108 = .ok (.getfield 128, 3) := by decide +kernel
theorem dX9_count_111 : decode cX9_count 111 = .ok (.ireturn, 1) := by decide +kernel
theorem dX9_count_112 : decode cX9_count 112 = .ok (.aload_n 0, 1) := by decide +kernel
theorem dX9_count_113 : decode cX9_count 113 = .ok (.invokevirtual 131, 3) := by decide +kernel
theorem dX9_count_116 : decode cX9_count 116 = .ok (.getfield 135, 3) := by decide +kernel
theorem dX9_count_119 : decode cX9_count 119 = .ok (.getfield 115, 3) := by decide +kernel
theorem dX9_count_122 : decode cX9_count 122 = .ok (.invokestatic 120, 3) := by decide +kernel
theorem dX9_count_125 : decode cX9_count 125 = .ok (.ireturn, 1) := by decide +kernel
theorem dX9_count_126 : decode cX9_count 126 = .ok (.aload_n 0, 1) := by decide +kernel
theorem dX9_count_127 : decode cX9_count 127 = .ok (.invokevirtual 131, 3) := by decide +kernel
theorem dX9_count_130 : decode cX9_count 130 = .ok (.getfield 135, 3) := by decide +kernel
theorem dX9_count_133 : decode cX9_count 133 = .ok (.getfield 125, 3) := by decide +kernel
theorem dX9_count_136 : decode cX9_count 136 = .ok (.invokestatic 120, 3) := by decide +kernel
theorem dX9_count_139 : decode cX9_count 139 = .ok (.ireturn, 1) := by decide +kernel
theorem dX9_count_140 : decode cX9_count 140 = .ok (.aload_n 0, 1) := by decide +kernel
theorem dX9_count_141 : decode cX9_count 141 = .ok (.invokevirtual 131, 3) := by decide +kernel
theorem dX9_count_144 : decode cX9_count 144 = .ok (.getfield 138, 3) := by decide +kernel
theorem dX9_count_147 : decode cX9_count 147 = .ok (.ireturn, 1) := by decide +kernel
theorem dX9_count_148 : decode cX9_count 148 = .ok (.aload_n 0, 1) := by decide +kernel
theorem dX9_count_149 : decode cX9_count 149 = .ok (.getfield 12, 3) := by decide +kernel
theorem dX9_count_152 : decode cX9_count 152 = .ok (.invokevirtual 141, 3) := by decide +kernel
theorem dX9_count_155 : decode cX9_count 155 = .ok (.ireturn, 1) := by decide +kernel
theorem dX9_count_156 : decode cX9_count 156 = .ok (.aload_n 0, 1) := by decide +kernel
theorem dX9_count_157 : decode cX9_count 157 = .ok (.getfield 12, 3) := by decide +kernel
theorem dX9_count_160 : decode cX9_count 160 = .ok (.invokevirtual 141, 3) := by decide +kernel
theorem dX9_count_163 : decode cX9_count 163 = .ok (.aload_n 0, 1) := by decide +kernel
theorem dX9_count_164 : decode cX9_count 164 = .ok (.invokevirtual 131, 3) := by decide +kernel
theorem dX9_count_167 : decode cX9_count 167 = .ok (.getfield 145, 3) := by decide +kernel
theorem dX9_count_170 : decode cX9_count 170 = .ok (.isub, 1) := by decide +kernel
theorem dX9_count_171 : decode cX9_count 171 = .ok (.ireturn, 1) := by decide +kernel
theorem dX9_count_172 : decode cX9_count 172 = .ok (.aload_n 0, 1) := by decide +kernel
theorem dX9_count_173 : decode cX9_count 173 = .ok (.invokevirtual 131, 3) := by decide +kernel
theorem dX9_count_176 : decode cX9_count 176 = .ok (.getfield 135, 3) := by decide +kernel
theorem dX9_count_179 : decode cX9_count 179 = .ok (.invokevirtual 148, 3) := by decide +kernel
theorem dX9_count_182 : decode cX9_count 182 = .ok (.ireturn, 1) := by decide +kernel
theorem dX9_count_183 : decode cX9_count 183 = .ok (.aload_n 0, 1) := by decide +kernel
theorem dX9_count_184 : decode cX9_count 184 = .ok (.getfield 33, 3) := by decide +kernel
theorem dX9_count_187 : decode cX9_count 187 = .ok (.getfield 151, 3) := by decide +kernel
theorem dX9_count_190 : decode cX9_count 190 = .ok (.ireturn, 1) := by decide +kernel
theorem dX9_count_191 : decode cX9_count 191 = .ok (.aload_n 0, 1) := by decide +kernel
theorem dX9_count_192 : decode cX9_count 192 = .ok (.getfield 40, 3) := by decide +kernel
theorem dX9_count_195 : decode cX9_count 195 = .ok (.getfield 152, 3) := by decide +kernel
theorem dX9_count_198 : decode cX9_count 198 = .ok (.ireturn, 1) := by decide +kernel
theorem dX9_count_199 : decode cX9_count 199 = .ok (.aload_n 0, 1) := by decide +kernel
theorem dX9_count_200 : decode cX9_count 200 = .ok (.getfield 26, 3) := by decide +kernel
theorem dX9_count_203 : decode cX9_count 203 = .ok (.getfield 76, 3) := by decide +kernel
theorem dX9_count_206 : decode cX9_count 206 = .ok (.ireturn, 1) := by decide +kernel
theorem dX9_count_207 : decode cX9_count 207 = .ok (.aload_n 0, 1) := by decide +kernel
theorem dX9_count_208 : decode cX9_count 208 = .ok (.getfield 64, 3) := by decide +kernel
theorem dX9_count_211 : decode cX9_count 211 = .ok (.iconst 0, 1) := by decide +kernel
theorem dX9_count_212 : decode cX9_count 212 = .ok (.iaload, 1) := by decide +kernel
theorem dX9_count_213 : decode cX9_count 213 = .ok (.ireturn, 1) := by decide +kernel
theorem dX9_count_214 : decode cX9_count 214 = .ok (.aload_n 0, 1) := by decide +kernel
theorem dX9_count_215 : decode cX9_count 215 = .ok (.getfield 64, 3) := by decide +kernel
theorem dX9_count_218 : decode cX9_count 218 = .ok (.iconst 1, 1) := by decide +kernel
theorem dX9_count_219 : decode cX9_count 219 = .ok (.iaload, 1) := by decide +kernel
theorem dX9_count_220 : decode cX9_count 220 = .ok (.ireturn, 1) := by decide +kernel
theorem dX9_count_221 : decode cX9_count 221 = .ok (.aload_n 0, 1) := by decide +kernel
theorem dX9_count_222 : decode cX9_count 222 = .ok (.getfield 64, 3) := by decide +kernel
theorem dX9_count_225 : decode cX9_count 225 = .ok (.iconst 2, 1) := by decide +kernel
theorem dX9_count_226 : decode cX9_count 226 = .ok (.iaload, 1) := by decide +kernel
theorem dX9_count_227 : decode cX9_count 227 = .ok (.ireturn, 1) := by decide +kernel
theorem dX9_count_228 : decode cX9_count 228 = .ok (.new 153, 3) := by decide +kernel
theorem dX9_count_231 : decode cX9_count 231 = .ok (.dup, 1) := by decide +kernel
theorem dX9_count_232 : decode cX9_count 232 = .ok (.ldc 155, 2) := by decide +kernel
theorem dX9_count_234 : decode cX9_count 234 = .ok (.invokespecial 157, 3) := by decide +kernel
theorem dX9_count_237 : decode cX9_count 237 = .ok (.athrow, 1) := by decide +kernel
theorem dX9_table_0 : decode cX9_table 0 = .ok (.aload_n 0, 1) := by decide +kernel
theorem dX9_table_1 : decode cX9_table 1 = .ok (.iload_n 1, 1) := by decide +kernel
theorem dX9_table_2 : decode cX9_table 2 = .ok (.invokevirtual 158, 3) := by decide +kernel
theorem dX9_table_5 : decode cX9_table 5 = .ok (.astore_n 3, 1) := by decide +kernel
theorem dX9_table_6 : decode cX9_table 6 = .ok (.iload_n 2, 1) := by decide +kernel
theorem dX9_table_7 : decode cX9_table 7 = .ok (.ifCond .ne 8, 3) := by decide +kernel
theorem dX9_table_10 : decode cX9_table 10 = .ok (.aload_n 3, 1) := by decide +kernel
theorem dX9_table_11 : decode cX9_table 11 = .ok (.getfield 115, 3) := by decide +kernel
theorem dX9_table_14 : decode cX9_table 14 = .ok (.ireturn, 1) := by decide +kernel
theorem dX9_table_15 : decode cX9_table 15 = .ok (.iload_n 2, 1) := by decide +kernel
theorem dX9_table_16 : decode cX9_table 16 = .ok (.iconst 1, 1) := by decide +kernel
theorem dX9_table_17 : decode cX9_table 17 = .ok (.if_icmp .ne 8, 3) := by decide +kernel
theorem dX9_table_20 : decode cX9_table 20 = .ok (.aload_n 3, 1) := by decide +kernel
theorem dX9_table_21 : decode cX9_table 21 = .ok (.getfield 125, 3) := by decide +kernel
theorem dX9_table_24 : decode cX9_table 24 = .ok (.ireturn, 1) := by decide +kernel
theorem dX9_table_25 : decode cX9_table 25 = .ok (.new 153, 3) := by decide +kernel
theorem dX9_table_28 : decode cX9_table 28 = .ok (.dup, 1) := by decide +kernel
theorem dX9_table_29 : decode cX9_table 29 = .ok (.ldc 162, 2) := by decide +kernel
theorem dX9_table_31 : decode cX9_table 31 = .ok (.invokespecial 157, 3) := by decide +kernel
theorem dX9_table_34 : decode cX9_table 34 = .ok (.athrow, 1) := by decide +kernel
theorem dX9_column_0 : decode cX9_column 0 = .ok (.aload_n 0, 1) := by decide +kernel
theorem dX9_column_1 : decode cX9_column 1 = .ok (.iload_n 1, 1) := by decide +kernel
theorem dX9_column_2 : decode cX9_column 2 = .ok (.invokevirtual 158, 3) := by decide +kernel
theorem dX9_column_5 : decode cX9_column 5 = .ok (.astore 4, 2) := by decide +kernel
theorem dX9_column_7 : decode cX9_column 7 = .ok (.aload 4, 2) := by decide +kernel
theorem dX9_column_9 : decode cX9_column 9 = .ok (.iload_n 2, 1) := by decide +kernel
theorem dX9_column_10 : decode cX9_column 10 = .ok (.invokevirtual 164, 3) := by decide +kernel
theorem dX9_column_13 : decode cX9_column 13 = .ok (.ifCond .eq 12, 3) := by decide +kernel
theorem dX9_column_16 : decode cX9_column 16 = .ok (.iload_n 3, 1) := by decide +kernel
theorem dX9_column_17 : decode cX9_column 17 = .ok (.ifCond .lt 8, 3) := by decide +kernel
theorem dX9_column_20 : decode cX9_column 20 = .ok (.iload_n 3, 1) := by decide +kernel
theorem dX9_column_21 : decode cX9_column 21 = .ok (.iconst 1, 1) := by decide +kernel
theorem dX9_column_22 : decode cX9_column 22 = .ok (.if_icmp .le 13, 3) := by decide +kernel
theorem dX9_column_25 : decode cX9_column 25 = .ok (.new 153, 3) := by decide +kernel
theorem dX9_column_28 : decode cX9_column 28 = .ok (.dup, 1) := by decide +kernel
theorem dX9_column_29 : decode cX9_column 29 = .ok (.ldc 167, 2) := by decide +kernel
theorem dX9_column_31 : decode cX9_column 31 = .ok (.invokespecial 157, 3) := by decide +kernel
theorem dX9_column_34 : decode cX9_column 34 = .ok (.athrow, 1) := by decide +kernel
theorem dX9_column_35 : decode cX9_column 35 = .ok (.iload_n 3, 1) := by decide +kernel
theorem dX9_column_36 : decode cX9_column 36 = .ok (.ifCond .ne 13, 3) := by decide +kernel
theorem dX9_column_39 : decode cX9_column 39 = .ok (.aload 4, 2) := by decide +kernel
theorem dX9_column_41 : decode cX9_column 41 = .ok (.getfield 169, 3) := by decide +kernel
theorem dX9_column_44 : decode cX9_column 44 = .ok (.iload_n 2, 1) := by decide +kernel
theorem dX9_column_45 : decode cX9_column 45 = .ok (.iaload, 1) := by decide +kernel
theorem dX9_column_46 : decode cX9_column 46 = .ok (.goto 10, 3) := by decide +kernel
theorem dX9_column_49 : decode cX9_column 49 = .ok (.aload 4, 2) := by decide +kernel
theorem dX9_column_51 : decode cX9_column 51 = .ok (.getfield 172, 3) := by decide +kernel
theorem dX9_column_54 : decode cX9_column 54 = .ok (.iload_n 2, 1) := by decide +kernel
theorem dX9_column_55 : decode cX9_column 55 = .ok (.iaload, 1) := by decide +kernel
theorem dX9_column_56 : decode cX9_column 56 = .ok (.ireturn, 1) := by decide +kernel
theorem dX9_cell_0 : decode cX9_cell 0 = .ok (.aload_n 0, 1) := by decide +kernel
theorem dX9_cell_1 : decode cX9_cell 1 = .ok (.iload_n 1, 1) := by decide +kernel
theorem dX9_cell_2 : decode cX9_cell 2 = .ok (.invokevirtual 158, 3) := by decide +kernel
theorem dX9_cell_5 : decode cX9_cell 5 = .ok (.astore 4, 2) := by decide +kernel
theorem dX9_cell_7 : decode cX9_cell 7 = .ok (.aload 4, 2) := by decide +kernel
theorem dX9_cell_9 : decode cX9_cell 9 = .ok (.iload_n 2, 1) := by decide +kernel
theorem dX9_cell_10 : decode cX9_cell 10 = .ok (.iload_n 3, 1) := by decide +kernel
theorem dX9_cell_11 : decode cX9_cell 11 = .ok (.invokevirtual 175, 3) := by decide +kernel
theorem dX9_cell_14 : decode cX9_cell 14 = .ok (.ifCond .ne 13, 3) := by decide +kernel
theorem dX9_cell_17 : decode cX9_cell 17 = .ok (.new 153, 3) := by decide +kernel
theorem dX9_cell_20 : decode cX9_cell 20 = .ok (.dup, 1) := by decide +kernel
theorem dX9_cell_21 : decode cX9_cell 21 = .ok (.ldc 179, 2) := by decide +kernel
theorem dX9_cell_23 : decode cX9_cell 23 = .ok (.invokespecial 157, 3) := by decide +kernel
theorem dX9_cell_26 : decode cX9_cell 26 = .ok (.athrow, 1) := by decide +kernel
theorem dX9_cell_27 : decode cX9_cell 27 = .ok (.aload 4, 2) := by decide +kernel
theorem dX9_cell_29 : decode cX9_cell 29 = .ok (.iload_n 2, 1) := by decide +kernel
theorem dX9_cell_30 : decode cX9_cell 30 = .ok (.iload_n 3, 1) := by decide +kernel
theorem dX9_cell_31 : decode cX9_cell 31 = .ok (.invokevirtual 181, 3) := by decide +kernel
theorem dX9_cell_34 : decode cX9_cell 34 = .ok (.ireturn, 1) := by decide +kernel
theorem dX9_whose_0 : decode cX9_whose 0 = .ok (.aload_n 0, 1) := by decide +kernel
theorem dX9_whose_1 : decode cX9_whose 1 = .ok (.invokevirtual 131, 3) := by decide +kernel
theorem dX9_whose_4 : decode cX9_whose 4 = .ok (.astore_n 3, 1) := by decide +kernel
theorem dX9_whose_5 : decode cX9_whose 5 = .ok (.aload_n 3, 1) := by decide +kernel
theorem dX9_whose_6 : decode cX9_whose 6 = .ok (.getfield 135, 3) := by decide +kernel
theorem dX9_whose_9 : decode cX9_whose 9 = .ok (.iload_n 1, 1) := by decide +kernel
theorem dX9_whose_10 : decode cX9_whose 10 = .ok (.iload_n 2, 1) := by decide +kernel
theorem dX9_whose_11 : decode cX9_whose 11 = .ok (.invokevirtual 175, 3) := by decide +kernel
theorem dX9_whose_14 : decode cX9_whose 14 = .ok (.ifCond .ne 13, 3) := by decide +kernel
theorem dX9_whose_17 : decode cX9_whose 17 = .ok (.new 153, 3) := by decide +kernel
theorem dX9_whose_20 : decode cX9_whose 20 = .ok (.dup, 1) := by decide +kernel
theorem dX9_whose_21 : decode cX9_whose 21 = .ok (.ldc 185, 2) := by decide +kernel
theorem dX9_whose_23 : decode cX9_whose 23 = .ok (.invokespecial 157, 3) := by decide +kernel
theorem dX9_whose_26 : decode cX9_whose 26 = .ok (.athrow, 1) := by decide +kernel
theorem dX9_whose_27 : decode cX9_whose 27 = .ok (.aload_n 3, 1) := by decide +kernel
theorem dX9_whose_28 : decode cX9_whose 28 = .ok (.getfield 187, 3) := by decide +kernel
theorem dX9_whose_31 : decode cX9_whose 31 = .ok (.iload_n 1, 1) := by decide +kernel
theorem dX9_whose_32 : decode cX9_whose 32 = .ok (.bipush 9, 2) := by decide +kernel
theorem dX9_whose_34 : decode cX9_whose 34 = .ok (.imul, 1) := by decide +kernel
theorem dX9_whose_35 : decode cX9_whose 35 = .ok (.iload_n 2, 1) := by decide +kernel
theorem dX9_whose_36 : decode cX9_whose 36 = .ok (.iadd, 1) := by decide +kernel
theorem dX9_whose_37 : decode cX9_whose 37 = .ok (.iaload, 1) := by decide +kernel
theorem dX9_whose_38 : decode cX9_whose 38 = .ok (.ireturn, 1) := by decide +kernel
theorem dX9_conflict_0 : decode cX9_conflict 0 = .ok (.aload_n 0, 1) := by decide +kernel
theorem dX9_conflict_1 : decode cX9_conflict 1 = .ok (.invokevirtual 131, 3) := by decide +kernel
theorem dX9_conflict_4 : decode cX9_conflict 4 = .ok (.astore_n 3, 1) := by decide +kernel
theorem dX9_conflict_5 : decode cX9_conflict 5 = .ok (.iload_n 1, 1) := by decide +kernel
theorem dX9_conflict_6 : decode cX9_conflict 6 = .ok (.ifCond .lt 11, 3) := by decide +kernel
theorem dX9_conflict_9 : decode cX9_conflict 9 = .ok (.iload_n 1, 1) := by decide +kernel
theorem dX9_conflict_10 : decode cX9_conflict 10 = .ok (.aload_n 3, 1) := by decide +kernel
theorem dX9_conflict_11 : decode cX9_conflict 11 = .ok (.getfield 138, 3) := by decide +kernel
theorem dX9_conflict_14 : decode cX9_conflict 14 = .ok (.if_icmp .lt 13, 3) := by decide +kernel
theorem dX9_conflict_17 : decode cX9_conflict 17 = .ok (.new 153, 3) := by decide +kernel
theorem dX9_conflict_20 : decode cX9_conflict 20 = .ok (.dup, 1) := by decide +kernel
theorem dX9_conflict_21 : decode cX9_conflict 21 = .ok (.ldc 190, 2) := by decide +kernel
theorem dX9_conflict_23 : decode cX9_conflict 23 = .ok (.invokespecial 157, 3) := by decide +kernel
theorem dX9_conflict_26 : decode cX9_conflict 26 = .ok (.athrow, 1) := by decide +kernel
theorem dX9_conflict_27 : decode cX9_conflict 27 = .ok (.aload_n 3, 1) := by decide +kernel
theorem dX9_conflict_28 : decode cX9_conflict 28 = .ok (.getfield 192, 3) := by decide +kernel
theorem dX9_conflict_31 : decode cX9_conflict 31 = .ok (.iload_n 1, 1) := by decide +kernel
theorem dX9_conflict_32 : decode cX9_conflict 32 = .ok (.iaload, 1) := by decide +kernel
theorem dX9_conflict_33 : decode cX9_conflict 33 = .ok (.istore 4, 2) := by decide +kernel
theorem dX9_conflict_35 : decode cX9_conflict 35 = .ok (.iload_n 2, 1) := by decide +kernel
theorem dX9_conflict_36 : decode cX9_conflict 36 = .ok (.tableswitch 78 0 5 #[40, 46, 52, 58, 65, 72], 40) := by decide +kernel
theorem dX9_conflict_76 : decode cX9_conflict 76 = .ok (.iload 4, 2) := by decide +kernel
theorem dX9_conflict_78 : decode cX9_conflict 78 = .ok (.invokestatic 195, 3) := by decide +kernel
theorem dX9_conflict_81 : decode cX9_conflict 81 = .ok (.ireturn, 1) := by decide +kernel
theorem dX9_conflict_82 : decode cX9_conflict 82 = .ok (.iload 4, 2) := by decide +kernel
theorem dX9_conflict_84 : decode cX9_conflict 84 = .ok (.invokestatic 200, 3) := by decide +kernel
theorem dX9_conflict_87 : decode cX9_conflict 87 = .ok (.ireturn, 1) := by decide +kernel
theorem dX9_conflict_88 : decode cX9_conflict 88 = .ok (.iload 4, 2) := by decide +kernel
theorem dX9_conflict_90 : decode cX9_conflict 90 = .ok (.invokestatic 203, 3) := by decide +kernel
theorem dX9_conflict_93 : decode cX9_conflict 93 = .ok (.ireturn, 1) := by decide +kernel
theorem dX9_conflict_94 : decode cX9_conflict 94 = .ok (.aload_n 3, 1) := by decide +kernel
theorem dX9_conflict_95 : decode cX9_conflict 95 = .ok (.getfield 206, 3) := by decide +kernel
theorem dX9_conflict_98 : decode cX9_conflict 98 = .ok (.iload_n 1, 1) := by decide +kernel
theorem dX9_conflict_99 : decode cX9_conflict 99 = .ok (.iaload, 1) := by decide +kernel
theorem dX9_conflict_100 : decode cX9_conflict 100 = .ok (.ireturn, 1) := by decide +kernel
theorem dX9_conflict_101 : decode cX9_conflict 101 = .ok (.aload_n 3, 1) := by decide +kernel
theorem dX9_conflict_102 : decode cX9_conflict 102 = .ok (.getfield 209, 3) := by decide +kernel
theorem dX9_conflict_105 : decode cX9_conflict 105 = .ok (.iload_n 1, 1) := by decide +kernel
theorem dX9_conflict_106 : decode cX9_conflict 106 = .ok (.iaload, 1) := by decide +kernel
theorem dX9_conflict_107 : decode cX9_conflict 107 = .ok (.ireturn, 1) := by decide +kernel
theorem dX9_conflict_108 : decode cX9_conflict 108 = .ok (.iload 4, 2) := by decide +kernel
theorem dX9_conflict_110 : decode cX9_conflict 110 = .ok (.invokestatic 212, 3) := by decide +kernel
theorem dX9_conflict_113 : decode cX9_conflict 113 = .ok (.ireturn, 1) := by decide +kernel
theorem dX9_conflict_114 : decode cX9_conflict 114 = .ok (.new 153, 3) := by decide +kernel
theorem dX9_conflict_117 : decode cX9_conflict 117 = .ok (.dup, 1) := by decide +kernel
theorem dX9_conflict_118 : decode cX9_conflict 118 = .ok (.ldc 215, 2) := by decide +kernel
theorem dX9_conflict_120 : decode cX9_conflict 120 = .ok (.invokespecial 157, 3) := by decide +kernel
theorem dX9_conflict_123 : decode cX9_conflict 123 = .ok (.athrow, 1) := by decide +kernel
theorem dX9_set_0 : decode cX9_set 0 = .ok (.aload_n 0, 1) := by decide +kernel
theorem dX9_set_1 : decode cX9_set 1 = .ok (.iconst 0, 1) := by decide +kernel
theorem dX9_set_2 : decode cX9_set 2 = .ok (.iload_n 1, 1) := by decide +kernel
theorem dX9_set_3 : decode cX9_set 3 = .ok (.iload_n 2, 1) := by decide +kernel
theorem dX9_set_4 : decode cX9_set 4 = .ok (.iload_n 3, 1) := by decide +kernel
theorem dX9_set_5 : decode cX9_set 5 = .ok (.iload 4, 2) := by decide +kernel
theorem dX9_set_7 : decode cX9_set 7 = .ok (.invokevirtual 217, 3) := by decide +kernel
theorem dX9_set_10 : decode cX9_set 10 = .ok (.iconst (-1), 1) := by decide +kernel
theorem dX9_set_11 : decode cX9_set 11 = .ok (.if_icmp .eq 7, 3) := by decide +kernel
theorem dX9_set_14 : decode cX9_set 14 = .ok (.iconst 1, 1) := by decide +kernel
theorem dX9_set_15 : decode cX9_set 15 = .ok (.goto 4, 3) := by decide +kernel
theorem dX9_set_18 : decode cX9_set 18 = .ok (.iconst 0, 1) := by decide +kernel
theorem dX9_set_19 : decode cX9_set 19 = .ok (.ireturn, 1) := by decide +kernel
theorem dX9_insert_0 : decode cX9_insert 0 = .ok (.aload_n 0, 1) := by decide +kernel
theorem dX9_insert_1 : decode cX9_insert 1 = .ok (.iconst 1, 1) := by decide +kernel
theorem dX9_insert_2 : decode cX9_insert 2 = .ok (.iload_n 1, 1) := by decide +kernel
theorem dX9_insert_3 : decode cX9_insert 3 = .ok (.iload_n 2, 1) := by decide +kernel
theorem dX9_insert_4 : decode cX9_insert 4 = .ok (.iconst 0, 1) := by decide +kernel
theorem dX9_insert_5 : decode cX9_insert 5 = .ok (.iconst 0, 1) := by decide +kernel
theorem dX9_insert_6 : decode cX9_insert 6 = .ok (.invokevirtual 217, 3) := by decide +kernel
theorem dX9_insert_9 : decode cX9_insert 9 = .ok (.iconst (-1), 1) := by decide +kernel
theorem dX9_insert_10 : decode cX9_insert 10 = .ok (.if_icmp .eq 7, 3) := by decide +kernel
theorem dX9_insert_13 : decode cX9_insert 13 = .ok (.iconst 1, 1) := by decide +kernel
theorem dX9_insert_14 : decode cX9_insert 14 = .ok (.goto 4, 3) := by decide +kernel
theorem dX9_insert_17 : decode cX9_insert 17 = .ok (.iconst 0, 1) := by decide +kernel
theorem dX9_insert_18 : decode cX9_insert 18 = .ok (.ireturn, 1) := by decide +kernel
theorem dX9_delete_0 : decode cX9_delete 0 = .ok (.aload_n 0, 1) := by decide +kernel
theorem dX9_delete_1 : decode cX9_delete 1 = .ok (.iconst 2, 1) := by decide +kernel
theorem dX9_delete_2 : decode cX9_delete 2 = .ok (.iload_n 1, 1) := by decide +kernel
theorem dX9_delete_3 : decode cX9_delete 3 = .ok (.iload_n 2, 1) := by decide +kernel
theorem dX9_delete_4 : decode cX9_delete 4 = .ok (.iconst 0, 1) := by decide +kernel
theorem dX9_delete_5 : decode cX9_delete 5 = .ok (.iconst 0, 1) := by decide +kernel
theorem dX9_delete_6 : decode cX9_delete 6 = .ok (.invokevirtual 217, 3) := by decide +kernel
theorem dX9_delete_9 : decode cX9_delete 9 = .ok (.iconst (-1), 1) := by decide +kernel
theorem dX9_delete_10 : decode cX9_delete 10 = .ok (.if_icmp .eq 7, 3) := by decide +kernel
theorem dX9_delete_13 : decode cX9_delete 13 = .ok (.iconst 1, 1) := by decide +kernel
theorem dX9_delete_14 : decode cX9_delete 14 = .ok (.goto 4, 3) := by decide +kernel
theorem dX9_delete_17 : decode cX9_delete 17 = .ok (.iconst 0, 1) := by decide +kernel
theorem dX9_delete_18 : decode cX9_delete 18 = .ok (.ireturn, 1) := by decide +kernel
theorem dX9_rename_0 : decode cX9_rename 0 = .ok (.aload_n 0, 1) := by decide +kernel
theorem dX9_rename_1 : decode cX9_rename 1 = .ok (.iconst 4, 1) := by decide +kernel
theorem dX9_rename_2 : decode cX9_rename 2 = .ok (.iload_n 1, 1) := by decide +kernel
theorem dX9_rename_3 : decode cX9_rename 3 = .ok (.iload_n 2, 1) := by decide +kernel
theorem dX9_rename_4 : decode cX9_rename 4 = .ok (.iload_n 3, 1) := by decide +kernel
theorem dX9_rename_5 : decode cX9_rename 5 = .ok (.iconst 0, 1) := by decide +kernel
theorem dX9_rename_6 : decode cX9_rename 6 = .ok (.invokevirtual 217, 3) := by decide +kernel
theorem dX9_rename_9 : decode cX9_rename 9 = .ok (.iconst (-1), 1) := by decide +kernel
theorem dX9_rename_10 : decode cX9_rename 10 = .ok (.if_icmp .eq 7, 3) := by decide +kernel
theorem dX9_rename_13 : decode cX9_rename 13 = .ok (.iconst 1, 1) := by decide +kernel
theorem dX9_rename_14 : decode cX9_rename 14 = .ok (.goto 4, 3) := by decide +kernel
theorem dX9_rename_17 : decode cX9_rename 17 = .ok (.iconst 0, 1) := by decide +kernel
theorem dX9_rename_18 : decode cX9_rename 18 = .ok (.ireturn, 1) := by decide +kernel
theorem dX9_retype_0 : decode cX9_retype 0 = .ok (.aload_n 0, 1) := by decide +kernel
theorem dX9_retype_1 : decode cX9_retype 1 = .ok (.iconst 3, 1) := by decide +kernel
theorem dX9_retype_2 : decode cX9_retype 2 = .ok (.iload_n 1, 1) := by decide +kernel
theorem dX9_retype_3 : decode cX9_retype 3 = .ok (.iload_n 2, 1) := by decide +kernel
theorem dX9_retype_4 : decode cX9_retype 4 = .ok (.iload_n 3, 1) := by decide +kernel
theorem dX9_retype_5 : decode cX9_retype 5 = .ok (.iconst 0, 1) := by decide +kernel
theorem dX9_retype_6 : decode cX9_retype 6 = .ok (.invokevirtual 217, 3) := by decide +kernel
theorem dX9_retype_9 : decode cX9_retype 9 = .ok (.iconst (-1), 1) := by decide +kernel
theorem dX9_retype_10 : decode cX9_retype 10 = .ok (.if_icmp .eq 7, 3) := by decide +kernel
theorem dX9_retype_13 : decode cX9_retype 13 = .ok (.iconst 1, 1) := by decide +kernel
theorem dX9_retype_14 : decode cX9_retype 14 = .ok (.goto 4, 3) := by decide +kernel
theorem dX9_retype_17 : decode cX9_retype 17 = .ok (.iconst 0, 1) := by decide +kernel
theorem dX9_retype_18 : decode cX9_retype 18 = .ok (.ireturn, 1) := by decide +kernel
theorem dX9_add_0 : decode cX9_add 0 = .ok (.aload_n 0, 1) := by decide +kernel
theorem dX9_add_1 : decode cX9_add 1 = .ok (.iconst 5, 1) := by decide +kernel
theorem dX9_add_2 : decode cX9_add 2 = .ok (.iload_n 1, 1) := by decide +kernel
theorem dX9_add_3 : decode cX9_add 3 = .ok (.iload_n 2, 1) := by decide +kernel
theorem dX9_add_4 : decode cX9_add 4 = .ok (.iload_n 3, 1) := by decide +kernel
theorem dX9_add_5 : decode cX9_add 5 = .ok (.iconst 0, 1) := by decide +kernel
theorem dX9_add_6 : decode cX9_add 6 = .ok (.invokevirtual 217, 3) := by decide +kernel
theorem dX9_add_9 : decode cX9_add 9 = .ok (.ireturn, 1) := by decide +kernel
theorem dX9_drop_0 : decode cX9_drop 0 = .ok (.aload_n 0, 1) := by decide +kernel
theorem dX9_drop_1 : decode cX9_drop 1 = .ok (.bipush 6, 2) := by decide +kernel
theorem dX9_drop_3 : decode cX9_drop 3 = .ok (.iload_n 1, 1) := by decide +kernel
theorem dX9_drop_4 : decode cX9_drop 4 = .ok (.iload_n 2, 1) := by decide +kernel
theorem dX9_drop_5 : decode cX9_drop 5 = .ok (.iconst 0, 1) := by decide +kernel
theorem dX9_drop_6 : decode cX9_drop 6 = .ok (.iconst 0, 1) := by decide +kernel
theorem dX9_drop_7 : decode cX9_drop 7 = .ok (.invokevirtual 217, 3) := by decide +kernel
theorem dX9_drop_10 : decode cX9_drop 10 = .ok (.iconst (-1), 1) := by decide +kernel
theorem dX9_drop_11 : decode cX9_drop 11 = .ok (.if_icmp .eq 7, 3) := by decide +kernel
theorem dX9_drop_14 : decode cX9_drop 14 = .ok (.iconst 1, 1) := by decide +kernel
theorem dX9_drop_15 : decode cX9_drop 15 = .ok (.goto 4, 3) := by decide +kernel
theorem dX9_drop_18 : decode cX9_drop 18 = .ok (.iconst 0, 1) := by decide +kernel
theorem dX9_drop_19 : decode cX9_drop 19 = .ok (.ireturn, 1) := by decide +kernel
theorem dX9_settle_0 : decode cX9_settle 0 = .ok (.iload_n 1, 1) := by decide +kernel
theorem dX9_settle_1 : decode cX9_settle 1 = .ok (.iload_n 2, 1) := by decide +kernel
theorem dX9_settle_2 : decode cX9_settle 2 = .ok (.iload_n 3, 1) := by decide +kernel
theorem dX9_settle_3 : decode cX9_settle 3 = .ok (.invokestatic 221, 3) := by decide +kernel
theorem dX9_settle_6 : decode cX9_settle 6 = .ok (.istore 5, 2) := by decide +kernel
theorem dX9_settle_8 : decode cX9_settle 8 = .ok (.iload 5, 2) := by decide +kernel
theorem dX9_settle_10 : decode cX9_settle 10 = .ok (.iconst (-1), 1) := by decide +kernel
theorem dX9_settle_11 : decode cX9_settle 11 = .ok (.if_icmp .eq 30, 3) := by decide +kernel
theorem dX9_settle_14 : decode cX9_settle 14 = .ok (.aload_n 0, 1) := by decide +kernel
theorem dX9_settle_15 : decode cX9_settle 15 = .ok (.invokevirtual 131, 3) := by decide +kernel
theorem dX9_settle_18 : decode cX9_settle 18 = .ok (.iload 5, 2) := by decide +kernel
theorem dX9_settle_20 : decode cX9_settle 20 = .ok (.invokevirtual 225, 3) := by decide +kernel
theorem dX9_settle_23 : decode cX9_settle 23 = .ok (.ifCond .eq 18, 3) := by decide +kernel
theorem dX9_settle_26 : decode cX9_settle 26 = .ok (.iload 4, 2) := by decide +kernel
theorem dX9_settle_28 : decode cX9_settle 28 = .ok (.ifCond .lt 13, 3) := by decide +kernel
theorem dX9_settle_31 : decode cX9_settle 31 = .ok (.iload 4, 2) := by decide +kernel
theorem dX9_settle_33 : decode cX9_settle 33 = .ok (.iload 5, 2) := by decide +kernel
theorem dX9_settle_35 : decode cX9_settle 35 = .ok (.invokestatic 212, 3) := by decide +kernel
theorem dX9_settle_38 : decode cX9_settle 38 = .ok (.if_icmp .lt 8, 3) := by decide +kernel
theorem dX9_settle_41 : decode cX9_settle 41 = .ok (.aload_n 0, 1) := by decide +kernel
theorem dX9_settle_42 : decode cX9_settle 42 = .ok (.invokevirtual 228, 3) := by decide +kernel
theorem dX9_settle_45 : decode cX9_settle 45 = .ok (.ireturn, 1) := by decide +kernel
theorem dX9_settle_46 : decode cX9_settle 46 = .ok (.aload_n 0, 1) := by decide +kernel
theorem dX9_settle_47 : decode cX9_settle 47 = .ok (.getfield 33, 3) := by decide +kernel
theorem dX9_settle_50 : decode cX9_settle 50 = .ok (.aload_n 0, 1) := by decide +kernel
theorem dX9_settle_51 : decode cX9_settle 51 = .ok (.getfield 12, 3) := by decide +kernel
theorem dX9_settle_54 : decode cX9_settle 54 = .ok (.invokevirtual 231, 3) := by decide +kernel
theorem dX9_settle_57 : decode cX9_settle 57 = .ok (.aload_n 0, 1) := by decide +kernel
theorem dX9_settle_58 : decode cX9_settle 58 = .ok (.getfield 12, 3) := by decide +kernel
theorem dX9_settle_61 : decode cX9_settle 61 = .ok (.getfield 234, 3) := by decide +kernel
theorem dX9_settle_64 : decode cX9_settle 64 = .ok (.iload 5, 2) := by decide +kernel
theorem dX9_settle_66 : decode cX9_settle 66 = .ok (.iload 4, 2) := by decide +kernel
theorem dX9_settle_68 : decode cX9_settle 68 = .ok (.iastore, 1) := by decide +kernel
theorem dX9_settle_69 : decode cX9_settle 69 = .ok (.aload_n 0, 1) := by decide +kernel
theorem dX9_settle_70 : decode cX9_settle 70 = .ok (.invokevirtual 237, 3) := by decide +kernel
theorem dX9_settle_73 : decode cX9_settle 73 = .ok (.aload_n 0, 1) := by decide +kernel
theorem dX9_settle_74 : decode cX9_settle 74 = .ok (.invokevirtual 131, 3) := by decide +kernel
theorem dX9_settle_77 : decode cX9_settle 77 = .ok (.getfield 138, 3) := by decide +kernel
theorem dX9_settle_80 : decode cX9_settle 80 = .ok (.ireturn, 1) := by decide +kernel
theorem dX9_unsettle_0 : decode cX9_unsettle 0 = .ok (.iload_n 1, 1) := by decide +kernel
theorem dX9_unsettle_1 : decode cX9_unsettle 1 = .ok (.iload_n 2, 1) := by decide +kernel
theorem dX9_unsettle_2 : decode cX9_unsettle 2 = .ok (.iload_n 3, 1) := by decide +kernel
theorem dX9_unsettle_3 : decode cX9_unsettle 3 = .ok (.invokestatic 221, 3) := by decide +kernel
theorem dX9_unsettle_6 : decode cX9_unsettle 6 = .ok (.istore 4, 2) := by decide +kernel
theorem dX9_unsettle_8 : decode cX9_unsettle 8 = .ok (.iload 4, 2) := by decide +kernel
theorem dX9_unsettle_10 : decode cX9_unsettle 10 = .ok (.iconst (-1), 1) := by decide +kernel
theorem dX9_unsettle_11 : decode cX9_unsettle 11 = .ok (.if_icmp .eq 17, 3) := by decide +kernel
theorem dX9_unsettle_14 : decode cX9_unsettle 14 = .ok (.aload_n 0, 1) := by decide +kernel
theorem dX9_unsettle_15 : decode cX9_unsettle 15 = .ok (.getfield 12, 3) := by decide +kernel
theorem dX9_unsettle_18 : decode cX9_unsettle 18 = .ok (.getfield 234, 3) := by decide +kernel
theorem dX9_unsettle_21 : decode cX9_unsettle 21 = .ok (.iload 4, 2) := by decide +kernel
theorem dX9_unsettle_23 : decode cX9_unsettle 23 = .ok (.iaload, 1) := by decide +kernel
theorem dX9_unsettle_24 : decode cX9_unsettle 24 = .ok (.iconst (-1), 1) := by decide +kernel
theorem dX9_unsettle_25 : decode cX9_unsettle 25 = .ok (.if_icmp .ne 8, 3) := by decide +kernel
theorem dX9_unsettle_28 : decode cX9_unsettle 28 = .ok (.aload_n 0, 1) := by decide +kernel
theorem dX9_unsettle_29 : decode cX9_unsettle 29 = .ok (.invokevirtual 228, 3) := by decide +kernel
theorem dX9_unsettle_32 : decode cX9_unsettle 32 = .ok (.ireturn, 1) := by decide +kernel
theorem dX9_unsettle_33 : decode cX9_unsettle 33 = .ok (.aload_n 0, 1) := by decide +kernel
theorem dX9_unsettle_34 : decode cX9_unsettle 34 = .ok (.getfield 33, 3) := by decide +kernel
theorem dX9_unsettle_37 : decode cX9_unsettle 37 = .ok (.aload_n 0, 1) := by decide +kernel
theorem dX9_unsettle_38 : decode cX9_unsettle 38 = .ok (.getfield 12, 3) := by decide +kernel
theorem dX9_unsettle_41 : decode cX9_unsettle 41 = .ok (.invokevirtual 231, 3) := by decide +kernel
theorem dX9_unsettle_44 : decode cX9_unsettle 44 = .ok (.aload_n 0, 1) := by decide +kernel
theorem dX9_unsettle_45 : decode cX9_unsettle 45 = .ok (.getfield 12, 3) := by decide +kernel
theorem dX9_unsettle_48 : decode cX9_unsettle 48 = .ok (.getfield 234, 3) := by decide +kernel
theorem dX9_unsettle_51 : decode cX9_unsettle 51 = .ok (.iload 4, 2) := by decide +kernel
theorem dX9_unsettle_53 : decode cX9_unsettle 53 = .ok (.iaload, 1) := by decide +kernel
theorem dX9_unsettle_54 : decode cX9_unsettle 54 = .ok (.istore 5, 2) := by decide +kernel
theorem dX9_unsettle_56 : decode cX9_unsettle 56 = .ok (.aload_n 0, 1) := by decide +kernel
theorem dX9_unsettle_57 : decode cX9_unsettle 57 = .ok (.getfield 12, 3) := by decide +kernel
theorem dX9_unsettle_60 : decode cX9_unsettle 60 = .ok (.getfield 234, 3) := by decide +kernel
theorem dX9_unsettle_63 : decode cX9_unsettle 63 = .ok (.iload 4, 2) := by decide +kernel
theorem dX9_unsettle_65 : decode cX9_unsettle 65 = .ok (.iconst (-1), 1) := by decide +kernel
theorem dX9_unsettle_66 : decode cX9_unsettle 66 = .ok (.iastore, 1) := by decide +kernel
theorem dX9_unsettle_67 : decode cX9_unsettle 67 = .ok (.aload_n 0, 1) := by decide +kernel
theorem dX9_unsettle_68 : decode cX9_unsettle 68 = .ok (.invokevirtual 237, 3) := by decide +kernel
theorem dX9_unsettle_71 : decode cX9_unsettle 71 = .ok (.iload 5, 2) := by decide +kernel
theorem dX9_unsettle_73 : decode cX9_unsettle 73 = .ok (.ireturn, 1) := by decide +kernel
theorem dX9_flip_0 : decode cX9_flip 0 = .ok (.aload_n 0, 1) := by decide +kernel
theorem dX9_flip_1 : decode cX9_flip 1 = .ok (.getfield 33, 3) := by decide +kernel
theorem dX9_flip_4 : decode cX9_flip 4 = .ok (.aload_n 0, 1) := by decide +kernel
theorem dX9_flip_5 : decode cX9_flip 5 = .ok (.getfield 12, 3) := by decide +kernel
theorem dX9_flip_8 : decode cX9_flip 8 = .ok (.invokevirtual 231, 3) := by decide +kernel
theorem dX9_flip_11 : decode cX9_flip 11 = .ok (.aload_n 0, 1) := by decide +kernel
theorem dX9_flip_12 : decode cX9_flip 12 = .ok (.getfield 12, 3) := by decide +kernel
theorem dX9_flip_15 : decode cX9_flip 15 = .ok (.invokevirtual 240, 3) := by decide +kernel
theorem dX9_flip_18 : decode cX9_flip 18 = .ok (.aload_n 0, 1) := by decide +kernel
theorem dX9_flip_19 : decode cX9_flip 19 = .ok (.invokevirtual 237, 3) := by decide +kernel
theorem dX9_flip_22 : decode cX9_flip 22 = .ok (.return_, 1) := by decide +kernel
theorem dX9_commit_0 : decode cX9_commit 0 = .ok (.aload_n 0, 1) := by decide +kernel
theorem dX9_commit_1 : decode cX9_commit 1 = .ok (.invokevirtual 131, 3) := by decide +kernel
theorem dX9_commit_4 : decode cX9_commit 4 = .ok (.astore_n 1, 1) := by decide +kernel
theorem dX9_commit_5 : decode cX9_commit 5 = .ok (.aload_n 1, 1) := by decide +kernel
theorem dX9_commit_6 : decode cX9_commit 6 = .ok (.getfield 135, 3) := by decide +kernel
theorem dX9_commit_9 : decode cX9_commit 9 = .ok (.getfield 125, 3) := by decide +kernel
theorem dX9_commit_12 : decode cX9_commit 12 = .ok (.invokestatic 120, 3) := by decide +kernel
theorem dX9_commit_15 : decode cX9_commit 15 = .ok (.istore_n 2, 1) := by decide +kernel
theorem dX9_commit_16 : decode cX9_commit 16 = .ok (.aload_n 1, 1) := by decide +kernel
theorem dX9_commit_17 : decode cX9_commit 17 = .ok (.getfield 138, 3) := by decide +kernel
theorem dX9_commit_20 : decode cX9_commit 20 = .ok (.ifCond .gt 23, 3) := by decide +kernel
theorem dX9_commit_23 : decode cX9_commit 23 = .ok (.iload_n 2, 1) := by decide +kernel
theorem dX9_commit_24 : decode cX9_commit 24 = .ok (.bipush 12, 2) := by decide +kernel
theorem dX9_commit_26 : decode cX9_commit 26 = .ok (.if_icmp .gt 17, 3) := by decide +kernel
theorem dX9_commit_29 : decode cX9_commit 29 = .ok (.aload_n 1, 1) := by decide +kernel
theorem dX9_commit_30 : decode cX9_commit 30 = .ok (.getfield 135, 3) := by decide +kernel
theorem dX9_commit_33 : decode cX9_commit 33 = .ok (.getfield 115, 3) := by decide +kernel
theorem dX9_commit_36 : decode cX9_commit 36 = .ok (.invokestatic 120, 3) := by decide +kernel
theorem dX9_commit_39 : decode cX9_commit 39 = .ok (.iconst 5, 1) := by decide +kernel
theorem dX9_commit_40 : decode cX9_commit 40 = .ok (.if_icmp .le 8, 3) := by decide +kernel
theorem dX9_commit_43 : decode cX9_commit 43 = .ok (.aload_n 0, 1) := by decide +kernel
theorem dX9_commit_44 : decode cX9_commit 44 = .ok (.invokevirtual 228, 3) := by decide +kernel
theorem dX9_commit_47 : decode cX9_commit 47 = .ok (.ireturn, 1) := by decide +kernel
theorem dX9_commit_48 : decode cX9_commit 48 = .ok (.aload_n 0, 1) := by decide +kernel
theorem dX9_commit_49 : decode cX9_commit 49 = .ok (.getfield 33, 3) := by decide +kernel
theorem dX9_commit_52 : decode cX9_commit 52 = .ok (.aload_n 0, 1) := by decide +kernel
theorem dX9_commit_53 : decode cX9_commit 53 = .ok (.getfield 12, 3) := by decide +kernel
theorem dX9_commit_56 : decode cX9_commit 56 = .ok (.invokevirtual 231, 3) := by decide +kernel
theorem dX9_commit_59 : decode cX9_commit 59 = .ok (.aload_n 0, 1) := by decide +kernel
theorem dX9_commit_60 : decode cX9_commit 60 = .ok (.getfield 12, 3) := by decide +kernel
theorem dX9_commit_63 : decode cX9_commit 63 = .ok (.aload_n 1, 1) := by decide +kernel
theorem dX9_commit_64 : decode cX9_commit 64 = .ok (.getfield 135, 3) := by decide +kernel
theorem dX9_commit_67 : decode cX9_commit 67 = .ok (.invokevirtual 243, 3) := by decide +kernel
theorem dX9_commit_70 : decode cX9_commit 70 = .ok (.aload_n 0, 1) := by decide +kernel
theorem dX9_commit_71 : decode cX9_commit 71 = .ok (.invokevirtual 237, 3) := by decide +kernel
theorem dX9_commit_74 : decode cX9_commit 74 = .ok (.iload_n 2, 1) := by decide +kernel
theorem dX9_commit_75 : decode cX9_commit 75 = .ok (.ireturn, 1) := by decide +kernel
theorem dX9_undo_0 : decode cX9_undo 0 = .ok (.aload_n 0, 1) := by decide +kernel
theorem dX9_undo_1 : decode cX9_undo 1 = .ok (.getfield 33, 3) := by decide +kernel
theorem dX9_undo_4 : decode cX9_undo 4 = .ok (.aload_n 0, 1) := by decide +kernel
theorem dX9_undo_5 : decode cX9_undo 5 = .ok (.getfield 12, 3) := by decide +kernel
theorem dX9_undo_8 : decode cX9_undo 8 = .ok (.invokevirtual 247, 3) := by decide +kernel
theorem dX9_undo_11 : decode cX9_undo 11 = .ok (.ifCond .ne 5, 3) := by decide +kernel
theorem dX9_undo_14 : decode cX9_undo 14 = .ok (.iconst (-1), 1) := by decide +kernel
theorem dX9_undo_15 : decode cX9_undo 15 = .ok (.ireturn, 1) := by decide +kernel
theorem dX9_undo_16 : decode cX9_undo 16 = .ok (.aload_n 0, 1) := by decide +kernel
theorem dX9_undo_17 : decode cX9_undo 17 = .ok (.invokevirtual 108, 3) := by decide +kernel
theorem dX9_undo_20 : decode cX9_undo 20 = .ok (.aload_n 0, 1) := by decide +kernel
theorem dX9_undo_21 : decode cX9_undo 21 = .ok (.getfield 33, 3) := by decide +kernel
theorem dX9_undo_24 : decode cX9_undo 24 = .ok (.getfield 151, 3) := by decide +kernel
theorem dX9_undo_27 : decode cX9_undo 27 = .ok (.ireturn, 1) := by decide +kernel
theorem dX9_difference_0 : decode cX9_difference 0 = .ok (.iload_n 1, 1) := by decide +kernel
theorem dX9_difference_1 : decode cX9_difference 1 = .ok (.invokestatic 251, 3) := by decide +kernel
theorem dX9_difference_4 : decode cX9_difference 4 = .ok (.aload_n 0, 1) := by decide +kernel
theorem dX9_difference_5 : decode cX9_difference 5 = .ok (.getfield 12, 3) := by decide +kernel
theorem dX9_difference_8 : decode cX9_difference 8 = .ok (.iload_n 1, 1) := by decide +kernel
theorem dX9_difference_9 : decode cX9_difference 9 = .ok (.invokevirtual 254, 3) := by decide +kernel
theorem dX9_difference_12 : decode cX9_difference 12 = .ok (.astore_n 3, 1) := by decide +kernel
theorem dX9_difference_13 : decode cX9_difference 13 = .ok (.aload_n 0, 1) := by decide +kernel
theorem dX9_difference_14 : decode cX9_difference 14 = .ok (.getfield 12, 3) := by decide +kernel
theorem dX9_difference_17 : decode cX9_difference 17 = .ok (.getfield 111, 3) := by decide +kernel
theorem dX9_difference_20 : decode cX9_difference 20 = .ok (.astore 4, 2) := by decide +kernel
theorem dX9_difference_22 : decode cX9_difference 22 = .ok (.iload_n 2, 1) := by decide +kernel
theorem dX9_difference_23 : decode cX9_difference 23 = .ok (.tableswitch 128 0 6 #[41, 50, 66, 82, 98, 114, 121], 41) := by decide +kernel
theorem dX9_difference_64 : decode cX9_difference 64 = .ok (.aload_n 0, 1) := by decide +kernel
theorem dX9_difference_65 : decode cX9_difference 65 = .ok (.getfield 12, 3) := by decide +kernel
theorem dX9_difference_68 : decode cX9_difference 68 = .ok (.iload_n 1, 1) := by decide +kernel
theorem dX9_difference_69 : decode cX9_difference 69 = .ok (.invokevirtual 257, 3) := by decide +kernel
theorem dX9_difference_72 : decode cX9_difference 72 = .ok (.ireturn, 1) := by decide +kernel
theorem dX9_difference_73 : decode cX9_difference 73 = .ok (.aload_n 3, 1) := by decide +kernel
theorem dX9_difference_74 : decode cX9_difference 74 = .ok (.getfield 125, 3) := by decide +kernel
theorem dX9_difference_77 : decode cX9_difference 77 = .ok (.aload 4, 2) := by decide +kernel
theorem dX9_difference_79 : decode cX9_difference 79 = .ok (.getfield 125, 3) := by decide +kernel
theorem dX9_difference_82 : decode cX9_difference 82 = .ok (.iconst (-1), 1) := by decide +kernel
theorem dX9_difference_83 : decode cX9_difference 83 = .ok (.ixor, 1) := by decide +kernel
theorem dX9_difference_84 : decode cX9_difference 84 = .ok (.iand, 1) := by decide +kernel
theorem dX9_difference_85 : decode cX9_difference 85 = .ok (.invokestatic 120, 3) := by decide +kernel
theorem dX9_difference_88 : decode cX9_difference 88 = .ok (.ireturn, 1) := by decide +kernel
theorem dX9_difference_89 : decode cX9_difference 89 = .ok (.aload 4, 2) := by decide +kernel
theorem dX9_difference_91 : decode cX9_difference 91 = .ok (.getfield 125, 3) := by decide +kernel
theorem dX9_difference_94 : decode cX9_difference 94 = .ok (.aload_n 3, 1) := by decide +kernel
theorem dX9_difference_95 : decode cX9_difference 95 = .ok (.getfield 125, 3) := by decide +kernel
theorem dX9_difference_98 : decode cX9_difference 98 = .ok (.iconst (-1), 1) := by decide +kernel
theorem dX9_difference_99 : decode cX9_difference 99 = .ok (.ixor, 1) := by decide +kernel
theorem dX9_difference_100 : decode cX9_difference 100 = .ok (.iand, 1) := by decide +kernel
theorem dX9_difference_101 : decode cX9_difference 101 = .ok (.invokestatic 120, 3) := by decide +kernel
theorem dX9_difference_104 : decode cX9_difference 104 = .ok (.ireturn, 1) := by decide +kernel
theorem dX9_difference_105 : decode cX9_difference 105 = .ok (.aload_n 3, 1) := by decide +kernel
theorem dX9_difference_106 : decode cX9_difference 106 = .ok (.getfield 115, 3) := by decide +kernel
theorem dX9_difference_109 : decode cX9_difference 109 = .ok (.aload 4, 2) := by decide +kernel
theorem dX9_difference_111 : decode cX9_difference 111 = .ok (.getfield 115, 3) := by decide +kernel
theorem dX9_difference_114 : decode cX9_difference 114 = .ok (.iconst (-1), 1) := by decide +kernel
theorem dX9_difference_115 : decode cX9_difference 115 = .ok (.ixor, 1) := by decide +kernel
theorem dX9_difference_116 : decode cX9_difference 116 = .ok (.iand, 1) := by decide +kernel
theorem dX9_difference_117 : decode cX9_difference 117 = .ok (.invokestatic 120, 3) := by decide +kernel
theorem dX9_difference_120 : decode cX9_difference 120 = .ok (.ireturn, 1) := by decide +kernel
theorem dX9_difference_121 : decode cX9_difference 121 = .ok (.aload 4, 2) := by decide +kernel
theorem dX9_difference_123 : decode cX9_difference 123 = .ok (.getfield 115, 3) := by decide +kernel
theorem dX9_difference_126 : decode cX9_difference 126 = .ok (.aload_n 3, 1) := by decide +kernel
theorem dX9_difference_127 : decode cX9_difference 127 = .ok (.getfield 115, 3) := by decide +kernel
theorem dX9_difference_130 : decode cX9_difference 130 = .ok (.iconst (-1), 1) := by decide +kernel
theorem dX9_difference_131 : decode cX9_difference 131 = .ok (.ixor, 1) := by decide +kernel
theorem dX9_difference_132 : decode cX9_difference 132 = .ok (.iand, 1) := by decide +kernel
theorem dX9_difference_133 : decode cX9_difference 133 = .ok (.invokestatic 120, 3) := by decide +kernel
theorem dX9_difference_136 : decode cX9_difference 136 = .ok (.ireturn, 1) := by decide +kernel
theorem dX9_difference_137 : decode cX9_difference 137 = .ok (.aload_n 3, 1) := by decide +kernel
theorem dX9_difference_138 : decode cX9_difference 138 = .ok (.aload 4, 2) := by decide +kernel
theorem dX9_difference_140 : decode cX9_difference 140 = .ok (.invokevirtual 260, 3) := by decide +kernel
theorem dX9_difference_143 : decode cX9_difference 143 = .ok (.ireturn, 1) := by decide +kernel
theorem dX9_difference_144 : decode cX9_difference 144 = .ok (.aload_n 3, 1) := by decide +kernel
theorem dX9_difference_145 : decode cX9_difference 145 = .ok (.aload 4, 2) := by decide +kernel
theorem dX9_difference_147 : decode cX9_difference 147 = .ok (.invokevirtual 264, 3) := by decide +kernel
theorem dX9_difference_150 : decode cX9_difference 150 = .ok (.ireturn, 1) := by decide +kernel
theorem dX9_difference_151 : decode cX9_difference 151 = .ok (.new 153, 3) := by decide +kernel
theorem dX9_difference_154 : decode cX9_difference 154 = .ok (.dup, 1) := by decide +kernel
theorem dX9_difference_155 : decode cX9_difference 155 = .ok (.ldc_w 267, 3) := by decide +kernel
theorem dX9_difference_158 : decode cX9_difference 158 = .ok (.invokespecial 157, 3) := by decide +kernel
theorem dX9_difference_161 : decode cX9_difference 161 = .ok (.athrow, 1) := by decide +kernel
theorem dX9_along_0 : decode cX9_along 0 = .ok (.iload_n 2, 1) := by decide +kernel
theorem dX9_along_1 : decode cX9_along 1 = .ok (.invokestatic 269, 3) := by decide +kernel
theorem dX9_along_4 : decode cX9_along 4 = .ok (.iload_n 1, 1) := by decide +kernel
theorem dX9_along_5 : decode cX9_along 5 = .ok (.ifCond .lt 8, 3) := by decide +kernel
theorem dX9_along_8 : decode cX9_along 8 = .ok (.iload_n 1, 1) := by decide +kernel
theorem dX9_along_9 : decode cX9_along 9 = .ok (.iconst 2, 1) := by decide +kernel
theorem dX9_along_10 : decode cX9_along 10 = .ok (.if_icmp .le 14, 3) := by decide +kernel
theorem dX9_along_13 : decode cX9_along 13 = .ok (.new 79, 3) := by decide +kernel
theorem dX9_along_16 : decode cX9_along 16 = .ok (.dup, 1) := by decide +kernel
theorem dX9_along_17 : decode cX9_along 17 = .ok (.ldc_w 272, 3) := by decide +kernel
theorem dX9_along_20 : decode cX9_along 20 = .ok (.invokespecial 83, 3) := by decide +kernel
theorem dX9_along_23 : decode cX9_along 23 = .ok (.athrow, 1) := by decide +kernel
theorem dX9_along_24 : decode cX9_along 24 = .ok (.iconst 2, 1) := by decide +kernel
theorem dX9_along_25 : decode cX9_along 25 = .ok (.iload_n 1, 1) := by decide +kernel
theorem dX9_along_26 : decode cX9_along 26 = .ok (.iadd, 1) := by decide +kernel
theorem dX9_along_27 : decode cX9_along 27 = .ok (.istore_n 3, 1) := by decide +kernel
theorem dX9_along_28 : decode cX9_along 28 = .ok (.aload_n 0, 1) := by decide +kernel
theorem dX9_along_29 : decode cX9_along 29 = .ok (.getfield 47, 3) := by decide +kernel
theorem dX9_along_32 : decode cX9_along 32 = .ok (.iload_n 3, 1) := by decide +kernel
theorem dX9_along_33 : decode cX9_along 33 = .ok (.invokevirtual 274, 3) := by decide +kernel
theorem dX9_along_36 : decode cX9_along 36 = .ok (.ifCond .ne 15, 3) := by decide +kernel
theorem dX9_along_39 : decode cX9_along 39 = .ok (.aload_n 0, 1) := by decide +kernel
theorem dX9_along_40 : decode cX9_along 40 = .ok (.getfield 47, 3) := by decide +kernel
theorem dX9_along_43 : decode cX9_along 43 = .ok (.aload_n 0, 1) := by decide +kernel
theorem dX9_along_44 : decode cX9_along 44 = .ok (.getfield 12, 3) := by decide +kernel
theorem dX9_along_47 : decode cX9_along 47 = .ok (.iload_n 1, 1) := by decide +kernel
theorem dX9_along_48 : decode cX9_along 48 = .ok (.invokevirtual 277, 3) := by decide +kernel
theorem dX9_along_51 : decode cX9_along 51 = .ok (.aload_n 0, 1) := by decide +kernel
theorem dX9_along_52 : decode cX9_along 52 = .ok (.getfield 47, 3) := by decide +kernel
theorem dX9_along_55 : decode cX9_along 55 = .ok (.iload_n 3, 1) := by decide +kernel
theorem dX9_along_56 : decode cX9_along 56 = .ok (.iload_n 2, 1) := by decide +kernel
theorem dX9_along_57 : decode cX9_along 57 = .ok (.invokevirtual 281, 3) := by decide +kernel
theorem dX9_along_60 : decode cX9_along 60 = .ok (.ireturn, 1) := by decide +kernel
theorem dX9_alone_0 : decode cX9_alone 0 = .ok (.iload_n 1, 1) := by decide +kernel
theorem dX9_alone_1 : decode cX9_alone 1 = .ok (.invokestatic 251, 3) := by decide +kernel
theorem dX9_alone_4 : decode cX9_alone 4 = .ok (.iload_n 2, 1) := by decide +kernel
theorem dX9_alone_5 : decode cX9_alone 5 = .ok (.invokestatic 269, 3) := by decide +kernel
theorem dX9_alone_8 : decode cX9_alone 8 = .ok (.iconst 0, 1) := by decide +kernel
theorem dX9_alone_9 : decode cX9_alone 9 = .ok (.iload_n 1, 1) := by decide +kernel
theorem dX9_alone_10 : decode cX9_alone 10 = .ok (.iadd, 1) := by decide +kernel
theorem dX9_alone_11 : decode cX9_alone 11 = .ok (.istore_n 3, 1) := by decide +kernel
theorem dX9_alone_12 : decode cX9_alone 12 = .ok (.aload_n 0, 1) := by decide +kernel
theorem dX9_alone_13 : decode cX9_alone 13 = .ok (.getfield 47, 3) := by decide +kernel
theorem dX9_alone_16 : decode cX9_alone 16 = .ok (.iload_n 3, 1) := by decide +kernel
theorem dX9_alone_17 : decode cX9_alone 17 = .ok (.invokevirtual 274, 3) := by decide +kernel
theorem dX9_alone_20 : decode cX9_alone 20 = .ok (.ifCond .ne 31, 3) := by decide +kernel
theorem dX9_alone_23 : decode cX9_alone 23 = .ok (.aload_n 0, 1) := by decide +kernel
theorem dX9_alone_24 : decode cX9_alone 24 = .ok (.getfield 47, 3) := by decide +kernel
theorem dX9_alone_27 : decode cX9_alone 27 = .ok (.aload_n 0, 1) := by decide +kernel
theorem dX9_alone_28 : decode cX9_alone 28 = .ok (.getfield 12, 3) := by decide +kernel
theorem dX9_alone_31 : decode cX9_alone 31 = .ok (.aload_n 0, 1) := by decide +kernel
theorem dX9_alone_32 : decode cX9_alone 32 = .ok (.invokevirtual 131, 3) := by decide +kernel
theorem dX9_alone_35 : decode cX9_alone 35 = .ok (.iload_n 1, 1) := by decide +kernel
theorem dX9_alone_36 : decode cX9_alone 36 = .ok (.invokevirtual 284, 3) := by decide +kernel
theorem dX9_alone_39 : decode cX9_alone 39 = .ok (.aload_n 0, 1) := by decide +kernel
theorem dX9_alone_40 : decode cX9_alone 40 = .ok (.getfield 47, 3) := by decide +kernel
theorem dX9_alone_43 : decode cX9_alone 43 = .ok (.aload_n 0, 1) := by decide +kernel
theorem dX9_alone_44 : decode cX9_alone 44 = .ok (.getfield 12, 3) := by decide +kernel
theorem dX9_alone_47 : decode cX9_alone 47 = .ok (.iload_n 1, 1) := by decide +kernel
theorem dX9_alone_48 : decode cX9_alone 48 = .ok (.invokevirtual 288, 3) := by decide +kernel
theorem dX9_alone_51 : decode cX9_alone 51 = .ok (.aload_n 0, 1) := by decide +kernel
theorem dX9_alone_52 : decode cX9_alone 52 = .ok (.getfield 47, 3) := by decide +kernel
theorem dX9_alone_55 : decode cX9_alone 55 = .ok (.iload_n 3, 1) := by decide +kernel
theorem dX9_alone_56 : decode cX9_alone 56 = .ok (.iload_n 2, 1) := by decide +kernel
theorem dX9_alone_57 : decode cX9_alone 57 = .ok (.invokevirtual 281, 3) := by decide +kernel
theorem dX9_alone_60 : decode cX9_alone 60 = .ok (.ireturn, 1) := by decide +kernel
theorem dX9_see_0 : decode cX9_see 0 = .ok (.aload_n 0, 1) := by decide +kernel
theorem dX9_see_1 : decode cX9_see 1 = .ok (.getfield 40, 3) := by decide +kernel
theorem dX9_see_4 : decode cX9_see 4 = .ok (.iload_n 1, 1) := by decide +kernel
theorem dX9_see_5 : decode cX9_see 5 = .ok (.iload_n 2, 1) := by decide +kernel
theorem dX9_see_6 : decode cX9_see 6 = .ok (.iload_n 3, 1) := by decide +kernel
theorem dX9_see_7 : decode cX9_see 7 = .ok (.invokevirtual 291, 3) := by decide +kernel
theorem dX9_see_10 : decode cX9_see 10 = .ok (.ifCond .ne 15, 3) := by decide +kernel
theorem dX9_see_13 : decode cX9_see 13 = .ok (.aload_n 0, 1) := by decide +kernel
theorem dX9_see_14 : decode cX9_see 14 = .ok (.getfield 64, 3) := by decide +kernel
theorem dX9_see_17 : decode cX9_see 17 = .ok (.iconst 2, 1) := by decide +kernel
theorem dX9_see_18 : decode cX9_see 18 = .ok (.dup2, 1) := by decide +kernel
theorem dX9_see_19 : decode cX9_see 19 = .ok (.iaload, 1) := by decide +kernel
theorem dX9_see_20 : decode cX9_see 20 = .ok (.iconst 1, 1) := by decide +kernel
theorem dX9_see_21 : decode cX9_see 21 = .ok (.iadd, 1) := by decide +kernel
theorem dX9_see_22 : decode cX9_see 22 = .ok (.iastore, 1) := by decide +kernel
theorem dX9_see_23 : decode cX9_see 23 = .ok (.iconst (-1), 1) := by decide +kernel
theorem dX9_see_24 : decode cX9_see 24 = .ok (.ireturn, 1) := by decide +kernel
theorem dX9_see_25 : decode cX9_see 25 = .ok (.aload_n 0, 1) := by decide +kernel
theorem dX9_see_26 : decode cX9_see 26 = .ok (.getfield 47, 3) := by decide +kernel
theorem dX9_see_29 : decode cX9_see 29 = .ok (.invokevirtual 295, 3) := by decide +kernel
theorem dX9_see_32 : decode cX9_see 32 = .ok (.aload_n 0, 1) := by decide +kernel
theorem dX9_see_33 : decode cX9_see 33 = .ok (.getfield 40, 3) := by decide +kernel
theorem dX9_see_36 : decode cX9_see 36 = .ok (.getfield 152, 3) := by decide +kernel
theorem dX9_see_39 : decode cX9_see 39 = .ok (.ireturn, 1) := by decide +kernel
theorem dX9_forget_0 : decode cX9_forget 0 = .ok (.aload_n 0, 1) := by decide +kernel
theorem dX9_forget_1 : decode cX9_forget 1 = .ok (.getfield 40, 3) := by decide +kernel
theorem dX9_forget_4 : decode cX9_forget 4 = .ok (.invokevirtual 103, 3) := by decide +kernel
theorem dX9_forget_7 : decode cX9_forget 7 = .ok (.aload_n 0, 1) := by decide +kernel
theorem dX9_forget_8 : decode cX9_forget 8 = .ok (.getfield 47, 3) := by decide +kernel
theorem dX9_forget_11 : decode cX9_forget 11 = .ok (.invokevirtual 295, 3) := by decide +kernel
theorem dX9_forget_14 : decode cX9_forget 14 = .ok (.return_, 1) := by decide +kernel
theorem dX9_edited_0 : decode cX9_edited 0 = .ok (.iload_n 1, 1) := by decide +kernel
theorem dX9_edited_1 : decode cX9_edited 1 = .ok (.invokestatic 269, 3) := by decide +kernel
theorem dX9_edited_4 : decode cX9_edited 4 = .ok (.aload_n 0, 1) := by decide +kernel
theorem dX9_edited_5 : decode cX9_edited 5 = .ok (.getfield 47, 3) := by decide +kernel
theorem dX9_edited_8 : decode cX9_edited 8 = .ok (.iconst 5, 1) := by decide +kernel
theorem dX9_edited_9 : decode cX9_edited 9 = .ok (.invokevirtual 274, 3) := by decide +kernel
theorem dX9_edited_12 : decode cX9_edited 12 = .ok (.ifCond .ne 18, 3) := by decide +kernel
theorem dX9_edited_15 : decode cX9_edited 15 = .ok (.aload_n 0, 1) := by decide +kernel
theorem dX9_edited_16 : decode cX9_edited 16 = .ok (.getfield 47, 3) := by decide +kernel
theorem dX9_edited_19 : decode cX9_edited 19 = .ok (.aload_n 0, 1) := by decide +kernel
theorem dX9_edited_20 : decode cX9_edited 20 = .ok (.getfield 12, 3) := by decide +kernel
theorem dX9_edited_23 : decode cX9_edited 23 = .ok (.aload_n 0, 1) := by decide +kernel
theorem dX9_edited_24 : decode cX9_edited 24 = .ok (.getfield 40, 3) := by decide +kernel
theorem dX9_edited_27 : decode cX9_edited 27 = .ok (.invokevirtual 296, 3) := by decide +kernel
theorem dX9_edited_30 : decode cX9_edited 30 = .ok (.aload_n 0, 1) := by decide +kernel
theorem dX9_edited_31 : decode cX9_edited 31 = .ok (.getfield 47, 3) := by decide +kernel
theorem dX9_edited_34 : decode cX9_edited 34 = .ok (.iconst 5, 1) := by decide +kernel
theorem dX9_edited_35 : decode cX9_edited 35 = .ok (.iload_n 1, 1) := by decide +kernel
theorem dX9_edited_36 : decode cX9_edited 36 = .ok (.invokevirtual 281, 3) := by decide +kernel
theorem dX9_edited_39 : decode cX9_edited 39 = .ok (.ireturn, 1) := by decide +kernel
theorem dX9_years_0 : decode cX9_years 0 = .ok (.iload_n 3, 1) := by decide +kernel
theorem dX9_years_1 : decode cX9_years 1 = .ok (.invokestatic 269, 3) := by decide +kernel
theorem dX9_years_4 : decode cX9_years 4 = .ok (.iload_n 2, 1) := by decide +kernel
theorem dX9_years_5 : decode cX9_years 5 = .ok (.ifCond .lt 9, 3) := by decide +kernel
theorem dX9_years_8 : decode cX9_years 8 = .ok (.iload_n 2, 1) := by decide +kernel
theorem dX9_years_9 : decode cX9_years 9 = .ok (.bipush 60, 2) := by decide +kernel
theorem dX9_years_11 : decode cX9_years 11 = .ok (.if_icmp .le 14, 3) := by decide +kernel
theorem dX9_years_14 : decode cX9_years 14 = .ok (.new 79, 3) := by decide +kernel
theorem dX9_years_17 : decode cX9_years 17 = .ok (.dup, 1) := by decide +kernel
theorem dX9_years_18 : decode cX9_years 18 = .ok (.ldc_w 300, 3) := by decide +kernel
theorem dX9_years_21 : decode cX9_years 21 = .ok (.invokespecial 83, 3) := by decide +kernel
theorem dX9_years_24 : decode cX9_years 24 = .ok (.athrow, 1) := by decide +kernel
theorem dX9_years_25 : decode cX9_years 25 = .ok (.aload_n 0, 1) := by decide +kernel
theorem dX9_years_26 : decode cX9_years 26 = .ok (.getfield 47, 3) := by decide +kernel
theorem dX9_years_29 : decode cX9_years 29 = .ok (.aload_n 0, 1) := by decide +kernel
theorem dX9_years_30 : decode cX9_years 30 = .ok (.getfield 12, 3) := by decide +kernel
theorem dX9_years_33 : decode cX9_years 33 = .ok (.iload_n 1, 1) := by decide +kernel
theorem dX9_years_34 : decode cX9_years 34 = .ok (.iload_n 2, 1) := by decide +kernel
theorem dX9_years_35 : decode cX9_years 35 = .ok (.invokevirtual 302, 3) := by decide +kernel
theorem dX9_years_38 : decode cX9_years 38 = .ok (.aload_n 0, 1) := by decide +kernel
theorem dX9_years_39 : decode cX9_years 39 = .ok (.getfield 47, 3) := by decide +kernel
theorem dX9_years_42 : decode cX9_years 42 = .ok (.bipush 6, 2) := by decide +kernel
theorem dX9_years_44 : decode cX9_years 44 = .ok (.iload_n 3, 1) := by decide +kernel
theorem dX9_years_45 : decode cX9_years 45 = .ok (.invokevirtual 281, 3) := by decide +kernel
theorem dX9_years_48 : decode cX9_years 48 = .ok (.ireturn, 1) := by decide +kernel
theorem dX9_image_0 : decode cX9_image 0 = .ok (.aload_n 0, 1) := by decide +kernel
theorem dX9_image_1 : decode cX9_image 1 = .ok (.getfield 51, 3) := by decide +kernel
theorem dX9_image_4 : decode cX9_image 4 = .ok (.aload_n 0, 1) := by decide +kernel
theorem dX9_image_5 : decode cX9_image 5 = .ok (.getfield 12, 3) := by decide +kernel
theorem dX9_image_8 : decode cX9_image 8 = .ok (.invokevirtual 96, 3) := by decide +kernel
theorem dX9_image_11 : decode cX9_image 11 = .ok (.aload_n 0, 1) := by decide +kernel
theorem dX9_image_12 : decode cX9_image 12 = .ok (.getfield 54, 3) := by decide +kernel
theorem dX9_image_15 : decode cX9_image 15 = .ok (.aload_n 0, 1) := by decide +kernel
theorem dX9_image_16 : decode cX9_image 16 = .ok (.getfield 33, 3) := by decide +kernel
theorem dX9_image_19 : decode cX9_image 19 = .ok (.invokevirtual 306, 3) := by decide +kernel
theorem dX9_image_22 : decode cX9_image 22 = .ok (.aload_n 0, 1) := by decide +kernel
theorem dX9_image_23 : decode cX9_image 23 = .ok (.getfield 57, 3) := by decide +kernel
theorem dX9_image_26 : decode cX9_image 26 = .ok (.aload_n 0, 1) := by decide +kernel
theorem dX9_image_27 : decode cX9_image 27 = .ok (.getfield 40, 3) := by decide +kernel
theorem dX9_image_30 : decode cX9_image 30 = .ok (.invokevirtual 309, 3) := by decide +kernel
theorem dX9_image_33 : decode cX9_image 33 = .ok (.aload_n 0, 1) := by decide +kernel
theorem dX9_image_34 : decode cX9_image 34 = .ok (.iconst 1, 1) := by decide +kernel
theorem dX9_image_35 : decode cX9_image 35 = .ok (.putfield 104, 3) := by decide +kernel
theorem dX9_image_38 : decode cX9_image 38 = .ok (.return_, 1) := by decide +kernel
theorem dX9_restore_0 : decode cX9_restore 0 = .ok (.aload_n 0, 1) := by decide +kernel
theorem dX9_restore_1 : decode cX9_restore 1 = .ok (.getfield 104, 3) := by decide +kernel
theorem dX9_restore_4 : decode cX9_restore 4 = .ok (.ifCond .ne 5, 3) := by decide +kernel
theorem dX9_restore_7 : decode cX9_restore 7 = .ok (.iconst 0, 1) := by decide +kernel
theorem dX9_restore_8 : decode cX9_restore 8 = .ok (.ireturn, 1) := by decide +kernel
theorem dX9_restore_9 : decode cX9_restore 9 = .ok (.aload_n 0, 1) := by decide +kernel
theorem dX9_restore_10 : decode cX9_restore 10 = .ok (.getfield 12, 3) := by decide +kernel
theorem dX9_restore_13 : decode cX9_restore 13 = .ok (.aload_n 0, 1) := by decide +kernel
theorem dX9_restore_14 : decode cX9_restore 14 = .ok (.getfield 51, 3) := by decide +kernel
theorem dX9_restore_17 : decode cX9_restore 17 = .ok (.invokevirtual 96, 3) := by decide +kernel
theorem dX9_restore_20 : decode cX9_restore 20 = .ok (.aload_n 0, 1) := by decide +kernel
theorem dX9_restore_21 : decode cX9_restore 21 = .ok (.getfield 33, 3) := by decide +kernel
theorem dX9_restore_24 : decode cX9_restore 24 = .ok (.aload_n 0, 1) := by decide +kernel
theorem dX9_restore_25 : decode cX9_restore 25 = .ok (.getfield 54, 3) := by decide +kernel
theorem dX9_restore_28 : decode cX9_restore 28 = .ok (.invokevirtual 306, 3) := by decide +kernel
theorem dX9_restore_31 : decode cX9_restore 31 = .ok (.aload_n 0, 1) := by decide +kernel
theorem dX9_restore_32 : decode cX9_restore 32 = .ok (.getfield 40, 3) := by decide +kernel
theorem dX9_restore_35 : decode cX9_restore 35 = .ok (.aload_n 0, 1) := by decide +kernel
theorem dX9_restore_36 : decode cX9_restore 36 = .ok (.getfield 57, 3) := by decide +kernel
theorem dX9_restore_39 : decode cX9_restore 39 = .ok (.invokevirtual 309, 3) := by decide +kernel
theorem dX9_restore_42 : decode cX9_restore 42 = .ok (.aload_n 0, 1) := by decide +kernel
theorem dX9_restore_43 : decode cX9_restore 43 = .ok (.invokevirtual 108, 3) := by decide +kernel
theorem dX9_restore_46 : decode cX9_restore 46 = .ok (.iconst 1, 1) := by decide +kernel
theorem dX9_restore_47 : decode cX9_restore 47 = .ok (.ireturn, 1) := by decide +kernel
theorem dX9_demandSide_0 : decode cX9_demandSide 0 = .ok (.iload_n 0, 1) := by decide +kernel
theorem dX9_demandSide_1 : decode cX9_demandSide 1 = .ok (.ifCond .eq 19, 3) := by decide +kernel
theorem dX9_demandSide_4 : decode cX9_demandSide 4 = .ok (.iload_n 0, 1) := by decide +kernel
theorem dX9_demandSide_5 : decode cX9_demandSide 5 = .ok (.iconst 1, 1) := by decide +kernel
theorem dX9_demandSide_6 : decode cX9_demandSide 6 = .ok (.if_icmp .eq 14, 3) := by decide +kernel
theorem dX9_demandSide_9 : decode cX9_demandSide 9 = .ok (.new 153, 3) := by decide +kernel
theorem dX9_demandSide_12 : decode cX9_demandSide 12 = .ok (.dup, 1) := by decide +kernel
theorem dX9_demandSide_13 : decode cX9_demandSide 13 = .ok (.ldc_w 312, 3) := by decide +kernel
theorem dX9_demandSide_16 : decode cX9_demandSide 16 = .ok (.invokespecial 157, 3) := by decide +kernel
theorem dX9_demandSide_19 : decode cX9_demandSide 19 = .ok (.athrow, 1) := by decide +kernel
theorem dX9_demandSide_20 : decode cX9_demandSide 20 = .ok (.return_, 1) := by decide +kernel
theorem dX9_demandThreefold_0 : decode cX9_demandThreefold 0 = .ok (.iload_n 0, 1) := by decide +kernel
theorem dX9_demandThreefold_1 : decode cX9_demandThreefold 1 = .ok (.ifCond .lt 8, 3) := by decide +kernel
theorem dX9_demandThreefold_4 : decode cX9_demandThreefold 4 = .ok (.iload_n 0, 1) := by decide +kernel
theorem dX9_demandThreefold_5 : decode cX9_demandThreefold 5 = .ok (.iconst 2, 1) := by decide +kernel
theorem dX9_demandThreefold_6 : decode cX9_demandThreefold 6 = .ok (.if_icmp .le 14, 3) := by decide +kernel
theorem dX9_demandThreefold_9 : decode cX9_demandThreefold 9 = .ok (.new 153, 3) := by decide +kernel
theorem dX9_demandThreefold_12 : decode cX9_demandThreefold 12 = .ok (.dup, 1) := by decide +kernel
theorem dX9_demandThreefold_13 : decode cX9_demandThreefold 13 = .ok (.ldc_w 314, 3) := by decide +kernel
theorem dX9_demandThreefold_16 : decode cX9_demandThreefold 16 = .ok (.invokespecial 157, 3) := by decide +kernel
theorem dX9_demandThreefold_19 : decode cX9_demandThreefold 19 = .ok (.athrow, 1) := by decide +kernel
theorem dX9_demandThreefold_20 : decode cX9_demandThreefold 20 = .ok (.return_, 1) := by decide +kernel
theorem dX9_tableOf_0 : decode cX9_tableOf 0 = .ok (.iload_n 1, 1) := by decide +kernel
theorem dX9_tableOf_1 : decode cX9_tableOf 1 = .ok (.tableswitch 63 0 3 #[31, 39, 47, 55], 31) := by decide +kernel
theorem dX9_tableOf_32 : decode cX9_tableOf 32 = .ok (.aload_n 0, 1) := by decide +kernel
theorem dX9_tableOf_33 : decode cX9_tableOf 33 = .ok (.getfield 12, 3) := by decide +kernel
theorem dX9_tableOf_36 : decode cX9_tableOf 36 = .ok (.getfield 316, 3) := by decide +kernel
theorem dX9_tableOf_39 : decode cX9_tableOf 39 = .ok (.areturn, 1) := by decide +kernel
theorem dX9_tableOf_40 : decode cX9_tableOf 40 = .ok (.aload_n 0, 1) := by decide +kernel
theorem dX9_tableOf_41 : decode cX9_tableOf 41 = .ok (.getfield 12, 3) := by decide +kernel
theorem dX9_tableOf_44 : decode cX9_tableOf 44 = .ok (.getfield 319, 3) := by decide +kernel
theorem dX9_tableOf_47 : decode cX9_tableOf 47 = .ok (.areturn, 1) := by decide +kernel
theorem dX9_tableOf_48 : decode cX9_tableOf 48 = .ok (.aload_n 0, 1) := by decide +kernel
theorem dX9_tableOf_49 : decode cX9_tableOf 49 = .ok (.getfield 12, 3) := by decide +kernel
theorem dX9_tableOf_52 : decode cX9_tableOf 52 = .ok (.getfield 111, 3) := by decide +kernel
theorem dX9_tableOf_55 : decode cX9_tableOf 55 = .ok (.areturn, 1) := by decide +kernel
theorem dX9_tableOf_56 : decode cX9_tableOf 56 = .ok (.aload_n 0, 1) := by decide +kernel
theorem dX9_tableOf_57 : decode cX9_tableOf 57 = .ok (.invokevirtual 131, 3) := by decide +kernel
theorem dX9_tableOf_60 : decode cX9_tableOf 60 = .ok (.getfield 135, 3) := by decide +kernel
theorem dX9_tableOf_63 : decode cX9_tableOf 63 = .ok (.areturn, 1) := by decide +kernel
theorem dX9_tableOf_64 : decode cX9_tableOf 64 = .ok (.new 153, 3) := by decide +kernel
theorem dX9_tableOf_67 : decode cX9_tableOf 67 = .ok (.dup, 1) := by decide +kernel
theorem dX9_tableOf_68 : decode cX9_tableOf 68 = .ok (.ldc_w 322, 3) := by decide +kernel
theorem dX9_tableOf_71 : decode cX9_tableOf 71 = .ok (.invokespecial 157, 3) := by decide +kernel
theorem dX9_tableOf_74 : decode cX9_tableOf 74 = .ok (.athrow, 1) := by decide +kernel
theorem dX9_freshMerge_0 : decode cX9_freshMerge 0 = .ok (.aload_n 0, 1) := by decide +kernel
theorem dX9_freshMerge_1 : decode cX9_freshMerge 1 = .ok (.getfield 324, 3) := by decide +kernel
theorem dX9_freshMerge_4 : decode cX9_freshMerge 4 = .ok (.ifCond .ne 19, 3) := by decide +kernel
theorem dX9_freshMerge_7 : decode cX9_freshMerge 7 = .ok (.aload_n 0, 1) := by decide +kernel
theorem dX9_freshMerge_8 : decode cX9_freshMerge 8 = .ok (.getfield 19, 3) := by decide +kernel
theorem dX9_freshMerge_11 : decode cX9_freshMerge 11 = .ok (.aload_n 0, 1) := by decide +kernel
theorem dX9_freshMerge_12 : decode cX9_freshMerge 12 = .ok (.getfield 12, 3) := by decide +kernel
theorem dX9_freshMerge_15 : decode cX9_freshMerge 15 = .ok (.invokevirtual 327, 3) := by decide +kernel
theorem dX9_freshMerge_18 : decode cX9_freshMerge 18 = .ok (.aload_n 0, 1) := by decide +kernel
theorem dX9_freshMerge_19 : decode cX9_freshMerge 19 = .ok (.iconst 1, 1) := by decide +kernel
theorem dX9_freshMerge_20 : decode cX9_freshMerge 20 = .ok (.putfield 324, 3) := by decide +kernel
theorem dX9_freshMerge_23 : decode cX9_freshMerge 23 = .ok (.aload_n 0, 1) := by decide +kernel
theorem dX9_freshMerge_24 : decode cX9_freshMerge 24 = .ok (.getfield 19, 3) := by decide +kernel
theorem dX9_freshMerge_27 : decode cX9_freshMerge 27 = .ok (.areturn, 1) := by decide +kernel
theorem dX9_editByHand_0 : decode cX9_editByHand 0 = .ok (.iload_n 2, 1) := by decide +kernel
theorem dX9_editByHand_1 : decode cX9_editByHand 1 = .ok (.invokestatic 251, 3) := by decide +kernel
theorem dX9_editByHand_4 : decode cX9_editByHand 4 = .ok (.aload_n 0, 1) := by decide +kernel
theorem dX9_editByHand_5 : decode cX9_editByHand 5 = .ok (.getfield 33, 3) := by decide +kernel
theorem dX9_editByHand_8 : decode cX9_editByHand 8 = .ok (.aload_n 0, 1) := by decide +kernel
theorem dX9_editByHand_9 : decode cX9_editByHand 9 = .ok (.getfield 12, 3) := by decide +kernel
theorem dX9_editByHand_12 : decode cX9_editByHand 12 = .ok (.invokevirtual 231, 3) := by decide +kernel
theorem dX9_editByHand_15 : decode cX9_editByHand 15 = .ok (.aload_n 0, 1) := by decide +kernel
theorem dX9_editByHand_16 : decode cX9_editByHand 16 = .ok (.getfield 12, 3) := by decide +kernel
theorem dX9_editByHand_19 : decode cX9_editByHand 19 = .ok (.iload_n 1, 1) := by decide +kernel
theorem dX9_editByHand_20 : decode cX9_editByHand 20 = .ok (.iload_n 2, 1) := by decide +kernel
theorem dX9_editByHand_21 : decode cX9_editByHand 21 = .ok (.iload_n 3, 1) := by decide +kernel
theorem dX9_editByHand_22 : decode cX9_editByHand 22 = .ok (.iload 4, 2) := by decide +kernel
theorem dX9_editByHand_24 : decode cX9_editByHand 24 = .ok (.iload 5, 2) := by decide +kernel
theorem dX9_editByHand_26 : decode cX9_editByHand 26 = .ok (.invokevirtual 330, 3) := by decide +kernel
theorem dX9_editByHand_29 : decode cX9_editByHand 29 = .ok (.istore 6, 2) := by decide +kernel
theorem dX9_editByHand_31 : decode cX9_editByHand 31 = .ok (.iload 6, 2) := by decide +kernel
theorem dX9_editByHand_33 : decode cX9_editByHand 33 = .ok (.iconst (-1), 1) := by decide +kernel
theorem dX9_editByHand_34 : decode cX9_editByHand 34 = .ok (.if_icmp .ne 8, 3) := by decide +kernel
theorem dX9_editByHand_37 : decode cX9_editByHand 37 = .ok (.aload_n 0, 1) := by decide +kernel
theorem dX9_editByHand_38 : decode cX9_editByHand 38 = .ok (.invokevirtual 228, 3) := by decide +kernel
theorem dX9_editByHand_41 : decode cX9_editByHand 41 = .ok (.ireturn, 1) := by decide +kernel
theorem dX9_editByHand_42 : decode cX9_editByHand 42 = .ok (.aload_n 0, 1) := by decide +kernel
theorem dX9_editByHand_43 : decode cX9_editByHand 43 = .ok (.invokevirtual 237, 3) := by decide +kernel
theorem dX9_editByHand_46 : decode cX9_editByHand 46 = .ok (.iload 6, 2) := by decide +kernel
theorem dX9_editByHand_48 : decode cX9_editByHand 48 = .ok (.ireturn, 1) := by decide +kernel
theorem dX9_refuseAct_0 : decode cX9_refuseAct 0 = .ok (.aload_n 0, 1) := by decide +kernel
theorem dX9_refuseAct_1 : decode cX9_refuseAct 1 = .ok (.getfield 64, 3) := by decide +kernel
theorem dX9_refuseAct_4 : decode cX9_refuseAct 4 = .ok (.iconst 1, 1) := by decide +kernel
theorem dX9_refuseAct_5 : decode cX9_refuseAct 5 = .ok (.dup2, 1) := by decide +kernel
theorem dX9_refuseAct_6 : decode cX9_refuseAct 6 = .ok (.iaload, 1) := by decide +kernel
theorem dX9_refuseAct_7 : decode cX9_refuseAct 7 = .ok (.iconst 1, 1) := by decide +kernel
theorem dX9_refuseAct_8 : decode cX9_refuseAct 8 = .ok (.iadd, 1) := by decide +kernel
theorem dX9_refuseAct_9 : decode cX9_refuseAct 9 = .ok (.iastore, 1) := by decide +kernel
theorem dX9_refuseAct_10 : decode cX9_refuseAct 10 = .ok (.iconst (-1), 1) := by decide +kernel
theorem dX9_refuseAct_11 : decode cX9_refuseAct 11 = .ok (.ireturn, 1) := by decide +kernel
theorem dX9_keepAct_0 : decode cX9_keepAct 0 = .ok (.aload_n 0, 1) := by decide +kernel
theorem dX9_keepAct_1 : decode cX9_keepAct 1 = .ok (.getfield 33, 3) := by decide +kernel
theorem dX9_keepAct_4 : decode cX9_keepAct 4 = .ok (.invokevirtual 333, 3) := by decide +kernel
theorem dX9_keepAct_7 : decode cX9_keepAct 7 = .ok (.aload_n 0, 1) := by decide +kernel
theorem dX9_keepAct_8 : decode cX9_keepAct 8 = .ok (.invokevirtual 108, 3) := by decide +kernel
theorem dX9_keepAct_11 : decode cX9_keepAct 11 = .ok (.return_, 1) := by decide +kernel
theorem dX9_noteChange_0 : decode cX9_noteChange 0 = .ok (.aload_n 0, 1) := by decide +kernel
theorem dX9_noteChange_1 : decode cX9_noteChange 1 = .ok (.iconst 0, 1) := by decide +kernel
theorem dX9_noteChange_2 : decode cX9_noteChange 2 = .ok (.putfield 324, 3) := by decide +kernel
theorem dX9_noteChange_5 : decode cX9_noteChange 5 = .ok (.aload_n 0, 1) := by decide +kernel
theorem dX9_noteChange_6 : decode cX9_noteChange 6 = .ok (.getfield 47, 3) := by decide +kernel
theorem dX9_noteChange_9 : decode cX9_noteChange 9 = .ok (.invokevirtual 295, 3) := by decide +kernel
theorem dX9_noteChange_12 : decode cX9_noteChange 12 = .ok (.return_, 1) := by decide +kernel
theorem dX10_init_0 : decode cX10_init 0 = .ok (.aload_n 0, 1) := by decide +kernel
theorem dX10_init_1 : decode cX10_init 1 = .ok (.invokespecial 1, 3) := by decide +kernel
theorem dX10_init_4 : decode cX10_init 4 = .ok (.aload_n 0, 1) := by decide +kernel
theorem dX10_init_5 : decode cX10_init 5 = .ok (.sipush 700, 3) := by decide +kernel
theorem dX10_init_8 : decode cX10_init 8 = .ok (.newarray .int, 2) := by decide +kernel
theorem dX10_init_10 : decode cX10_init 10 = .ok (.putfield 7, 3) := by decide +kernel
theorem dX10_init_13 : decode cX10_init 13 = .ok (.aload_n 0, 1) := by decide +kernel
theorem dX10_init_14 : decode cX10_init 14 = .ok (.iconst (-1), 1) := by decide +kernel
theorem dX10_init_15 : decode cX10_init 15 = .ok (.putfield 13, 3) := by decide +kernel
theorem dX10_init_18 : decode cX10_init 18 = .ok (.aload_n 0, 1) := by decide +kernel
theorem dX10_init_19 : decode cX10_init 19 = .ok (.iconst 3, 1) := by decide +kernel
theorem dX10_init_20 : decode cX10_init 20 = .ok (.newarray .int, 2) := by decide +kernel
theorem dX10_init_22 : decode cX10_init 22 = .ok (.putfield 17, 3) := by decide +kernel
theorem dX10_init_25 : decode cX10_init 25 = .ok (.aload_n 0, 1) := by decide +kernel
theorem dX10_init_26 : decode cX10_init 26 = .ok (.sipush 1862, 3) := by decide +kernel
theorem dX10_init_29 : decode cX10_init 29 = .ok (.newarray .int, 2) := by decide +kernel
theorem dX10_init_31 : decode cX10_init 31 = .ok (.putfield 20, 3) := by decide +kernel
theorem dX10_init_34 : decode cX10_init 34 = .ok (.aload_n 0, 1) := by decide +kernel
theorem dX10_init_35 : decode cX10_init 35 = .ok (.sipush 27930, 3) := by decide +kernel
theorem dX10_init_38 : decode cX10_init 38 = .ok (.newarray .int, 2) := by decide +kernel
theorem dX10_init_40 : decode cX10_init 40 = .ok (.putfield 23, 3) := by decide +kernel
theorem dX10_init_43 : decode cX10_init 43 = .ok (.aload_n 0, 1) := by decide +kernel
theorem dX10_init_44 : decode cX10_init 44 = .ok (.bipush 9, 2) := by decide +kernel
theorem dX10_init_46 : decode cX10_init 46 = .ok (.newarray .int, 2) := by decide +kernel
theorem dX10_init_48 : decode cX10_init 48 = .ok (.putfield 26, 3) := by decide +kernel
theorem dX10_init_51 : decode cX10_init 51 = .ok (.aload_n 0, 1) := by decide +kernel
theorem dX10_init_52 : decode cX10_init 52 = .ok (.bipush 9, 2) := by decide +kernel
theorem dX10_init_54 : decode cX10_init 54 = .ok (.newarray .int, 2) := by decide +kernel
theorem dX10_init_56 : decode cX10_init 56 = .ok (.putfield 29, 3) := by decide +kernel
theorem dX10_init_59 : decode cX10_init 59 = .ok (.aload_n 0, 1) := by decide +kernel
theorem dX10_init_60 : decode cX10_init 60 = .ok (.sipush 180, 3) := by decide +kernel
theorem dX10_init_63 : decode cX10_init 63 = .ok (.newarray .int, 2) := by decide +kernel
theorem dX10_init_65 : decode cX10_init 65 = .ok (.putfield 32, 3) := by decide +kernel
theorem dX10_init_68 : decode cX10_init 68 = .ok (.aload_n 0, 1) := by decide +kernel
theorem dX10_init_69 : decode cX10_init 69 = .ok (.sipush 180, 3) := by decide +kernel
theorem dX10_init_72 : decode cX10_init 72 = .ok (.newarray .int, 2) := by decide +kernel
theorem dX10_init_74 : decode cX10_init 74 = .ok (.putfield 35, 3) := by decide +kernel
theorem dX10_init_77 : decode cX10_init 77 = .ok (.aload_n 0, 1) := by decide +kernel
theorem dX10_init_78 : decode cX10_init 78 = .ok (.bipush 18, 2) := by decide +kernel
theorem dX10_init_80 : decode cX10_init 80 = .ok (.newarray .int, 2) := by decide +kernel
theorem dX10_init_82 : decode cX10_init 82 = .ok (.putfield 38, 3) := by decide +kernel
theorem dX10_init_85 : decode cX10_init 85 = .ok (.aload_n 0, 1) := by decide +kernel
theorem dX10_init_86 : decode cX10_init 86 = .ok (.sipush 2000, 3) := by decide +kernel
theorem dX10_init_89 : decode cX10_init 89 = .ok (.newarray .int, 2) := by decide +kernel
theorem dX10_init_91 : decode cX10_init 91 = .ok (.putfield 41, 3) := by decide +kernel
theorem dX10_init_94 : decode cX10_init 94 = .ok (.aload_n 0, 1) := by decide +kernel
theorem dX10_init_95 : decode cX10_init 95 = .ok (.sipush 316, 3) := by decide +kernel
theorem dX10_init_98 : decode cX10_init 98 = .ok (.newarray .int, 2) := by decide +kernel
theorem dX10_init_100 : decode cX10_init 100 = .ok (.putfield 44, 3) := by decide +kernel
theorem dX10_init_103 : decode cX10_init 103 = .ok (.aload_n 0, 1) := by decide +kernel
theorem dX10_init_104 : decode cX10_init 104 = .ok (.bipush 9, 2) := by decide +kernel
theorem dX10_init_106 : decode cX10_init 106 = .ok (.newarray .int, 2) := by decide +kernel
theorem dX10_init_108 : decode cX10_init 108 = .ok (.putfield 47, 3) := by decide +kernel
theorem dX10_init_111 : decode cX10_init 111 = .ok (.aload_n 0, 1) := by decide +kernel
theorem dX10_init_112 : decode cX10_init 112 = .ok (.bipush 10, 2) := by decide +kernel
theorem dX10_init_114 : decode cX10_init 114 = .ok (.newarray .int, 2) := by decide +kernel
theorem dX10_init_116 : decode cX10_init 116 = .ok (.putfield 50, 3) := by decide +kernel
theorem dX10_init_119 : decode cX10_init 119 = .ok (.aload_n 0, 1) := by decide +kernel
theorem dX10_init_120 : decode cX10_init 120 = .ok (.bipush 24, 2) := by decide +kernel
theorem dX10_init_122 : decode cX10_init 122 = .ok (.newarray .int, 2) := by decide +kernel
theorem dX10_init_124 : decode cX10_init 124 = .ok (.putfield 53, 3) := by decide +kernel
theorem dX10_init_127 : decode cX10_init 127 = .ok (.aload_n 0, 1) := by decide +kernel
theorem dX10_init_128 : decode cX10_init 128 = .ok (.sipush 931, 3) := by decide +kernel
theorem dX10_init_131 : decode cX10_init 131 = .ok (.newarray .int, 2) := by decide +kernel
theorem dX10_init_133 : decode cX10_init 133 = .ok (.putfield 56, 3) := by decide +kernel
theorem dX10_init_136 : decode cX10_init 136 = .ok (.aload_n 0, 1) := by decide +kernel
theorem dX10_init_137 : decode cX10_init 137 = .ok (.sipush 27930, 3) := by decide +kernel
theorem dX10_init_140 : decode cX10_init 140 = .ok (.newarray .int, 2) := by decide +kernel
theorem dX10_init_142 : decode cX10_init 142 = .ok (.putfield 59, 3) := by decide +kernel
theorem dX10_init_145 : decode cX10_init 145 = .ok (.aload_n 0, 1) := by decide +kernel
theorem dX10_init_146 : decode cX10_init 146 = .ok (.bipush 24, 2) := by decide +kernel
theorem dX10_init_148 : decode cX10_init 148 = .ok (.newarray .int, 2) := by decide +kernel
theorem dX10_init_150 : decode cX10_init 150 = .ok (.putfield 62, 3) := by decide +kernel
theorem dX10_init_153 : decode cX10_init 153 = .ok (.iconst 0, 1) := by decide +kernel
theorem dX10_init_154 : decode cX10_init 154 = .ok (.istore_n 1, 1) := by decide +kernel
theorem dX10_init_155 : decode cX10_init 155 = .ok (.iload_n 1, 1) := by decide +kernel
theorem dX10_init_156 : decode cX10_init 156 = .ok (.sipush 316, 3) := by decide +kernel
theorem dX10_init_159 : decode cX10_init 159 = .ok (.if_icmp .ge 20, 3) := by decide +kernel
theorem dX10_init_162 : decode cX10_init 162 = .ok (.aload_n 0, 1) := by decide +kernel
theorem dX10_init_163 : decode cX10_init 163 = .ok (.getfield 20, 3) := by decide +kernel
theorem dX10_init_166 : decode cX10_init 166 = .ok (.sipush 615, 3) := by decide +kernel
theorem dX10_init_169 : decode cX10_init 169 = .ok (.iload_n 1, 1) := by decide +kernel
theorem dX10_init_170 : decode cX10_init 170 = .ok (.iadd, 1) := by decide +kernel
theorem dX10_init_171 : decode cX10_init 171 = .ok (.iconst (-1), 1) := by decide +kernel
theorem dX10_init_172 : decode cX10_init 172 = .ok (.iastore, 1) := by decide +kernel
theorem dX10_init_173 : decode cX10_init 173 = .ok (.iinc 1 1, 3) := by decide +kernel
theorem dX10_init_176 : decode cX10_init 176 = .ok (.goto (-21), 3) := by decide +kernel
theorem dX10_init_179 : decode cX10_init 179 = .ok (.return_, 1) := by decide +kernel
theorem dX10_thrown_0 : decode cX10_thrown 0 = .ok (.aload_n 0, 1) := by decide +kernel
theorem dX10_thrown_1 : decode cX10_thrown 1 = .ok (.getfield 65, 3) := by decide +kernel
theorem dX10_thrown_4 : decode cX10_thrown 4 = .ok (.ireturn, 1) := by decide +kernel
theorem dX10_right_0 : decode cX10_right 0 = .ok (.aload_n 0, 1) := by decide +kernel
theorem dX10_right_1 : decode cX10_right 1 = .ok (.getfield 65, 3) := by decide +kernel
theorem dX10_right_4 : decode cX10_right 4 = .ok (.ifCond .ne 12, 3) := by decide +kernel
theorem dX10_right_7 : decode cX10_right 7 = .ok (.iload_n 1, 1) := by decide +kernel
theorem dX10_right_8 : decode cX10_right 8 = .ok (.ifCond .ne 8, 3) := by decide +kernel
theorem dX10_right_11 : decode cX10_right 11 = .ok (.aload_n 0, 1) := by decide +kernel
theorem dX10_right_12 : decode cX10_right 12 = .ok (.iload_n 2, 1) := by decide +kernel
theorem dX10_right_13 : decode cX10_right 13 = .ok (.putfield 65, 3) := by decide +kernel
theorem dX10_right_16 : decode cX10_right 16 = .ok (.aload_n 0, 1) := by decide +kernel
theorem dX10_right_17 : decode cX10_right 17 = .ok (.getfield 65, 3) := by decide +kernel
theorem dX10_right_20 : decode cX10_right 20 = .ok (.ifCond .ne 7, 3) := by decide +kernel
theorem dX10_right_23 : decode cX10_right 23 = .ok (.iconst 1, 1) := by decide +kernel
theorem dX10_right_24 : decode cX10_right 24 = .ok (.goto 4, 3) := by decide +kernel
theorem dX10_right_27 : decode cX10_right 27 = .ok (.iconst 0, 1) := by decide +kernel
theorem dX10_right_28 : decode cX10_right 28 = .ok (.ireturn, 1) := by decide +kernel
theorem dX10_within_0 : decode cX10_within 0 = .ok (.iload_n 0, 1) := by decide +kernel
theorem dX10_within_1 : decode cX10_within 1 = .ok (.iload_n 1, 1) := by decide +kernel
theorem dX10_within_2 : decode cX10_within 2 = .ok (.if_icmp .lt 12, 3) := by decide +kernel
theorem dX10_within_5 : decode cX10_within 5 = .ok (.iload_n 0, 1) := by decide +kernel
theorem dX10_within_6 : decode cX10_within 6 = .ok (.iload_n 2, 1) := by decide +kernel
theorem dX10_within_7 : decode cX10_within 7 = .ok (.if_icmp .gt 7, 3) := by decide +kernel
theorem dX10_within_10 : decode cX10_within 10 = .ok (.iconst 1, 1) := by decide +kernel
theorem dX10_within_11 : decode cX10_within 11 = .ok (.goto 4, 3) := by decide +kernel
theorem dX10_within_14 : decode cX10_within 14 = .ok (.iconst 0, 1) := by decide +kernel
theorem dX10_within_15 : decode cX10_within 15 = .ok (.ireturn, 1) := by decide +kernel
theorem dX10_lesser_0 : decode cX10_lesser 0 = .ok (.iload_n 0, 1) := by decide +kernel
theorem dX10_lesser_1 : decode cX10_lesser 1 = .ok (.iload_n 1, 1) := by decide +kernel
theorem dX10_lesser_2 : decode cX10_lesser 2 = .ok (.if_icmp .ge 7, 3) := by decide +kernel
theorem dX10_lesser_5 : decode cX10_lesser 5 = .ok (.iload_n 0, 1) := by decide +kernel
theorem dX10_lesser_6 : decode cX10_lesser 6 = .ok (.goto 4, 3) := by decide +kernel
theorem dX10_lesser_9 : decode cX10_lesser 9 = .ok (.iload_n 1, 1) := by decide +kernel
theorem dX10_lesser_10 : decode cX10_lesser 10 = .ok (.ireturn, 1) := by decide +kernel
theorem dX10_bits_0 : decode cX10_bits 0 = .ok (.iconst 0, 1) := by decide +kernel
theorem dX10_bits_1 : decode cX10_bits 1 = .ok (.istore_n 1, 1) := by decide +kernel
theorem dX10_bits_2 : decode cX10_bits 2 = .ok (.iconst 0, 1) := by decide +kernel
theorem dX10_bits_3 : decode cX10_bits 3 = .ok (.istore_n 2, 1) := by decide +kernel
theorem dX10_bits_4 : decode cX10_bits 4 = .ok (.iload_n 2, 1) := by decide +kernel
theorem dX10_bits_5 : decode cX10_bits 5 = .ok (.bipush 20, 2) := by decide +kernel
theorem dX10_bits_7 : decode cX10_bits 7 = .ok (.if_icmp .ge 17, 3) := by decide +kernel
theorem dX10_bits_10 : decode cX10_bits 10 = .ok (.iload_n 1, 1) := by decide +kernel
theorem dX10_bits_11 : decode cX10_bits 11 = .ok (.iload_n 0, 1) := by decide +kernel
theorem dX10_bits_12 : decode cX10_bits 12 = .ok (.iload_n 2, 1) := by decide +kernel
theorem dX10_bits_13 : decode cX10_bits 13 = .ok (.ishr, 1) := by decide +kernel
theorem dX10_bits_14 : decode cX10_bits 14 = .ok (.iconst 1, 1) := by decide +kernel
theorem dX10_bits_15 : decode cX10_bits 15 = .ok (.iand, 1) := by decide +kernel
theorem dX10_bits_16 : decode cX10_bits 16 = .ok (.iadd, 1) := by decide +kernel
theorem dX10_bits_17 : decode cX10_bits 17 = .ok (.istore_n 1, 1) := by decide +kernel
theorem dX10_bits_18 : decode cX10_bits 18 = .ok (.iinc 2 1, 3) := by decide +kernel
theorem dX10_bits_21 : decode cX10_bits 21 = .ok (.goto (-17), 3) := by decide +kernel
theorem dX10_bits_24 : decode cX10_bits 24 = .ok (.iload_n 1, 1) := by decide +kernel
theorem dX10_bits_25 : decode cX10_bits 25 = .ok (.ireturn, 1) := by decide +kernel
theorem dX10_feed_0 : decode cX10_feed 0 = .ok (.aload_n 0, 1) := by decide +kernel
theorem dX10_feed_1 : decode cX10_feed 1 = .ok (.iconst 0, 1) := by decide +kernel
theorem dX10_feed_2 : decode cX10_feed 2 = .ok (.putfield 65, 3) := by decide +kernel
theorem dX10_feed_5 : decode cX10_feed 5 = .ok (.aload_n 0, 1) := by decide +kernel
theorem dX10_feed_6 : decode cX10_feed 6 = .ok (.getfield 68, 3) := by decide +kernel
theorem dX10_feed_9 : decode cX10_feed 9 = .ok (.bipush 20, 2) := by decide +kernel
theorem dX10_feed_11 : decode cX10_feed 11 = .ok (.iadd, 1) := by decide +kernel
theorem dX10_feed_12 : decode cX10_feed 12 = .ok (.sipush 700, 3) := by decide +kernel
theorem dX10_feed_15 : decode cX10_feed 15 = .ok (.if_icmp .le 5, 3) := by decide +kernel
theorem dX10_feed_18 : decode cX10_feed 18 = .ok (.iconst (-1), 1) := by decide +kernel
theorem dX10_feed_19 : decode cX10_feed 19 = .ok (.ireturn, 1) := by decide +kernel
theorem dX10_feed_20 : decode cX10_feed 20 = .ok (.aload_n 0, 1) := by decide +kernel
theorem dX10_feed_21 : decode cX10_feed 21 = .ok (.iload_n 1, 1) := by decide +kernel
theorem dX10_feed_22 : decode cX10_feed 22 = .ok (.invokevirtual 71, 3) := by decide +kernel
theorem dX10_feed_25 : decode cX10_feed 25 = .ok (.aload_n 0, 1) := by decide +kernel
theorem dX10_feed_26 : decode cX10_feed 26 = .ok (.iload_n 2, 1) := by decide +kernel
theorem dX10_feed_27 : decode cX10_feed 27 = .ok (.invokevirtual 71, 3) := by decide +kernel
theorem dX10_feed_30 : decode cX10_feed 30 = .ok (.aload_n 0, 1) := by decide +kernel
theorem dX10_feed_31 : decode cX10_feed 31 = .ok (.iload_n 3, 1) := by decide +kernel
theorem dX10_feed_32 : decode cX10_feed 32 = .ok (.invokevirtual 71, 3) := by decide +kernel
theorem dX10_feed_35 : decode cX10_feed 35 = .ok (.aload_n 0, 1) := by decide +kernel
theorem dX10_feed_36 : decode cX10_feed 36 = .ok (.iload 4, 2) := by decide +kernel
theorem dX10_feed_38 : decode cX10_feed 38 = .ok (.invokevirtual 71, 3) := by decide +kernel
theorem dX10_feed_41 : decode cX10_feed 41 = .ok (.aload_n 0, 1) := by decide +kernel
theorem dX10_feed_42 : decode cX10_feed 42 = .ok (.iload 5, 2) := by decide +kernel
theorem dX10_feed_44 : decode cX10_feed 44 = .ok (.invokevirtual 71, 3) := by decide +kernel
theorem dX10_feed_47 : decode cX10_feed 47 = .ok (.aload_n 0, 1) := by decide +kernel
theorem dX10_feed_48 : decode cX10_feed 48 = .ok (.getfield 68, 3) := by decide +kernel
theorem dX10_feed_51 : decode cX10_feed 51 = .ok (.ireturn, 1) := by decide +kernel
theorem dX10_lays_0 : decode cX10_lays 0 = .ok (.bipush 24, 2) := by decide +kernel
theorem dX10_lays_2 : decode cX10_lays 2 = .ok (.istore_n 2, 1) := by decide +kernel
theorem dX10_lays_3 : decode cX10_lays 3 = .ok (.iload_n 2, 1) := by decide +kernel
theorem dX10_lays_4 : decode cX10_lays 4 = .ok (.ifCond .lt 35, 3) := by decide +kernel
theorem dX10_lays_7 : decode cX10_lays 7 = .ok (.aload_n 0, 1) := by decide +kernel
theorem dX10_lays_8 : decode cX10_lays 8 = .ok (.getfield 7, 3) := by decide +kernel
theorem dX10_lays_11 : decode cX10_lays 11 = .ok (.aload_n 0, 1) := by decide +kernel
theorem dX10_lays_12 : decode cX10_lays 12 = .ok (.getfield 68, 3) := by decide +kernel
theorem dX10_lays_15 : decode cX10_lays 15 = .ok (.iload_n 1, 1) := by decide +kernel
theorem dX10_lays_16 : decode cX10_lays 16 = .ok (.iload_n 2, 1) := by decide +kernel
theorem dX10_lays_17 : decode cX10_lays 17 = .ok (.ishr, 1) := by decide +kernel
theorem dX10_lays_18 : decode cX10_lays 18 = .ok (.sipush 255, 3) := by decide +kernel
theorem dX10_lays_21 : decode cX10_lays 21 = .ok (.iand, 1) := by decide +kernel
theorem dX10_lays_22 : decode cX10_lays 22 = .ok (.iastore, 1) := by decide +kernel
theorem dX10_lays_23 : decode cX10_lays 23 = .ok (.aload_n 0, 1) := by decide +kernel
theorem dX10_lays_24 : decode cX10_lays 24 = .ok (.dup, 1) := by decide +kernel
theorem dX10_lays_25 : decode cX10_lays 25 = .ok (.getfield 68, 3) := by decide +kernel
theorem dX10_lays_28 : decode cX10_lays 28 = .ok (.iconst 1, 1) := by decide +kernel
theorem dX10_lays_29 : decode cX10_lays 29 = .ok (.iadd, 1) := by decide +kernel
theorem dX10_lays_30 : decode cX10_lays 30 = .ok (.putfield 68, 3) := by decide +kernel
theorem dX10_lays_33 : decode cX10_lays 33 = .ok (.iinc 2 (-8), 3) := by decide +kernel
theorem dX10_lays_36 : decode cX10_lays 36 = .ok (.goto (-33), 3) := by decide +kernel
theorem dX10_lays_39 : decode cX10_lays 39 = .ok (.return_, 1) := by decide +kernel
theorem dX10_byteAt_0 : decode cX10_byteAt 0 = .ok (.iload_n 1, 1) := by decide +kernel
theorem dX10_byteAt_1 : decode cX10_byteAt 1 = .ok (.aload_n 0, 1) := by decide +kernel
theorem dX10_byteAt_2 : decode cX10_byteAt 2 = .ok (.getfield 75, 3) := by decide +kernel
theorem dX10_byteAt_5 : decode cX10_byteAt 5 = .ok (.if_icmp .ge 12, 3) := by decide +kernel
theorem dX10_byteAt_8 : decode cX10_byteAt 8 = .ok (.aload_n 0, 1) := by decide +kernel
theorem dX10_byteAt_9 : decode cX10_byteAt 9 = .ok (.getfield 7, 3) := by decide +kernel
theorem dX10_byteAt_12 : decode cX10_byteAt 12 = .ok (.iload_n 1, 1) := by decide +kernel
theorem dX10_byteAt_13 : decode cX10_byteAt 13 = .ok (.iaload, 1) := by decide +kernel
theorem dX10_byteAt_14 : decode cX10_byteAt 14 = .ok (.goto 4, 3) := by decide +kernel
theorem dX10_byteAt_17 : decode cX10_byteAt 17 = .ok (.iconst 0, 1) := by decide +kernel
theorem dX10_byteAt_18 : decode cX10_byteAt 18 = .ok (.ireturn, 1) := by decide +kernel
theorem dX10_isLetter_0 : decode cX10_isLetter 0 = .ok (.iload_n 0, 1) := by decide +kernel
theorem dX10_isLetter_1 : decode cX10_isLetter 1 = .ok (.bipush 97, 2) := by decide +kernel
theorem dX10_isLetter_3 : decode cX10_isLetter 3 = .ok (.if_icmp .lt 13, 3) := by decide +kernel
theorem dX10_isLetter_6 : decode cX10_isLetter 6 = .ok (.iload_n 0, 1) := by decide +kernel
theorem dX10_isLetter_7 : decode cX10_isLetter 7 = .ok (.bipush 122, 2) := by decide +kernel
theorem dX10_isLetter_9 : decode cX10_isLetter 9 = .ok (.if_icmp .gt 7, 3) := by decide +kernel
theorem dX10_isLetter_12 : decode cX10_isLetter 12 = .ok (.iconst 1, 1) := by decide +kernel
theorem dX10_isLetter_13 : decode cX10_isLetter 13 = .ok (.goto 4, 3) := by decide +kernel
theorem dX10_isLetter_16 : decode cX10_isLetter 16 = .ok (.iconst 0, 1) := by decide +kernel
theorem dX10_isLetter_17 : decode cX10_isLetter 17 = .ok (.ireturn, 1) := by decide +kernel
theorem dX10_isDigit_0 : decode cX10_isDigit 0 = .ok (.iload_n 0, 1) := by decide +kernel
theorem dX10_isDigit_1 : decode cX10_isDigit 1 = .ok (.bipush 48, 2) := by decide +kernel
theorem dX10_isDigit_3 : decode cX10_isDigit 3 = .ok (.if_icmp .lt 13, 3) := by decide +kernel
theorem dX10_isDigit_6 : decode cX10_isDigit 6 = .ok (.iload_n 0, 1) := by decide +kernel
theorem dX10_isDigit_7 : decode cX10_isDigit 7 = .ok (.bipush 57, 2) := by decide +kernel
theorem dX10_isDigit_9 : decode cX10_isDigit 9 = .ok (.if_icmp .gt 7, 3) := by decide +kernel
theorem dX10_isDigit_12 : decode cX10_isDigit 12 = .ok (.iconst 1, 1) := by decide +kernel
theorem dX10_isDigit_13 : decode cX10_isDigit 13 = .ok (.goto 4, 3) := by decide +kernel
theorem dX10_isDigit_16 : decode cX10_isDigit 16 = .ok (.iconst 0, 1) := by decide +kernel
theorem dX10_isDigit_17 : decode cX10_isDigit 17 = .ok (.ireturn, 1) := by decide +kernel
theorem dX10_goes_0 : decode cX10_goes 0 = .ok (.aload_n 0, 1) := by decide +kernel
theorem dX10_goes_1 : decode cX10_goes 1 = .ok (.getfield 78, 3) := by decide +kernel
theorem dX10_goes_4 : decode cX10_goes 4 = .ok (.aload_n 0, 1) := by decide +kernel
theorem dX10_goes_5 : decode cX10_goes 5 = .ok (.getfield 75, 3) := by decide +kernel
theorem dX10_goes_8 : decode cX10_goes 8 = .ok (.if_icmp .ge 42, 3) := by decide +kernel
theorem dX10_goes_11 : decode cX10_goes 11 = .ok (.aload_n 0, 1) := by decide +kernel
theorem dX10_goes_12 : decode cX10_goes 12 = .ok (.aload_n 0, 1) := by decide +kernel
theorem dX10_goes_13 : decode cX10_goes 13 = .ok (.getfield 78, 3) := by decide +kernel
theorem dX10_goes_16 : decode cX10_goes 16 = .ok (.invokevirtual 81, 3) := by decide +kernel
theorem dX10_goes_19 : decode cX10_goes 19 = .ok (.bipush 32, 2) := by decide +kernel
theorem dX10_goes_21 : decode cX10_goes 21 = .ok (.if_icmp .eq 16, 3) := by decide +kernel
theorem dX10_goes_24 : decode cX10_goes 24 = .ok (.aload_n 0, 1) := by decide +kernel
theorem dX10_goes_25 : decode cX10_goes 25 = .ok (.aload_n 0, 1) := by decide +kernel
theorem dX10_goes_26 : decode cX10_goes 26 = .ok (.getfield 78, 3) := by decide +kernel
theorem dX10_goes_29 : decode cX10_goes 29 = .ok (.invokevirtual 81, 3) := by decide +kernel
theorem dX10_goes_32 : decode cX10_goes 32 = .ok (.bipush 10, 2) := by decide +kernel
theorem dX10_goes_34 : decode cX10_goes 34 = .ok (.if_icmp .ne 16, 3) := by decide +kernel
theorem dX10_goes_37 : decode cX10_goes 37 = .ok (.aload_n 0, 1) := by decide +kernel
theorem dX10_goes_38 : decode cX10_goes 38 = .ok (.dup, 1) := by decide +kernel
theorem dX10_goes_39 : decode cX10_goes 39 = .ok (.getfield 78, 3) := by decide +kernel
theorem dX10_goes_42 : decode cX10_goes 42 = .ok (.iconst 1, 1) := by decide +kernel
theorem dX10_goes_43 : decode cX10_goes 43 = .ok (.iadd, 1) := by decide +kernel
theorem dX10_goes_44 : decode cX10_goes 44 = .ok (.putfield 78, 3) := by decide +kernel
theorem dX10_goes_47 : decode cX10_goes 47 = .ok (.goto (-47), 3) := by decide +kernel
theorem dX10_goes_50 : decode cX10_goes 50 = .ok (.aload_n 0, 1) := by decide +kernel
theorem dX10_goes_51 : decode cX10_goes 51 = .ok (.aload_n 0, 1) := by decide +kernel
theorem dX10_goes_52 : decode cX10_goes 52 = .ok (.getfield 78, 3) := by decide +kernel
theorem dX10_goes_55 : decode cX10_goes 55 = .ok (.putfield 85, 3) := by decide +kernel
theorem dX10_goes_58 : decode cX10_goes 58 = .ok (.aload_n 0, 1) := by decide +kernel
theorem dX10_goes_59 : decode cX10_goes 59 = .ok (.lconst 0, 1) := by decide +kernel
theorem dX10_goes_60 : decode cX10_goes 60 = .ok (.putfield 88, 3) := by decide +kernel
theorem dX10_goes_63 : decode cX10_goes 63 = .ok (.aload_n 0, 1) := by decide +kernel
theorem dX10_goes_64 : decode cX10_goes 64 = .ok (.iconst 0, 1) := by decide +kernel
theorem dX10_goes_65 : decode cX10_goes 65 = .ok (.putfield 92, 3) := by decide +kernel
theorem dX10_goes_68 : decode cX10_goes 68 = .ok (.aload_n 0, 1) := by decide +kernel
theorem dX10_goes_69 : decode cX10_goes 69 = .ok (.aload_n 0, 1) := by decide +kernel
theorem dX10_goes_70 : decode cX10_goes 70 = .ok (.getfield 78, 3) := by decide +kernel
theorem dX10_goes_73 : decode cX10_goes 73 = .ok (.invokevirtual 81, 3) := by decide +kernel
theorem dX10_goes_76 : decode cX10_goes 76 = .ok (.istore_n 1, 1) := by decide +kernel
theorem dX10_goes_77 : decode cX10_goes 77 = .ok (.aload_n 0, 1) := by decide +kernel
theorem dX10_goes_78 : decode cX10_goes 78 = .ok (.iload_n 1, 1) := by decide +kernel
theorem dX10_goes_79 : decode cX10_goes 79 = .ok (.putfield 95, 3) := by decide +kernel
theorem dX10_goes_82 : decode cX10_goes 82 = .ok (.aload_n 0, 1) := by decide +kernel
theorem dX10_goes_83 : decode cX10_goes 83 = .ok (.getfield 78, 3) := by decide +kernel
theorem dX10_goes_86 : decode cX10_goes 86 = .ok (.aload_n 0, 1) := by decide +kernel
theorem dX10_goes_87 : decode cX10_goes 87 = .ok (.getfield 75, 3) := by decide +kernel
theorem dX10_goes_90 : decode cX10_goes 90 = .ok (.if_icmp .lt 11, 3) := by decide +kernel
theorem dX10_goes_93 : decode cX10_goes 93 = .ok (.aload_n 0, 1) := by decide +kernel
theorem dX10_goes_94 : decode cX10_goes 94 = .ok (.iconst 0, 1) := by decide +kernel
theorem dX10_goes_95 : decode cX10_goes 95 = .ok (.putfield 98, 3) := by decide +kernel
theorem dX10_goes_98 : decode cX10_goes 98 = .ok (.goto 197, 3) := by decide +kernel
theorem dX10_goes_101 : decode cX10_goes 101 = .ok (.iload_n 1, 1) := by decide +kernel
theorem dX10_goes_102 : decode cX10_goes 102 = .ok (.invokestatic 101, 3) := by decide +kernel
theorem dX10_goes_105 : decode cX10_goes 105 = .ok (.ifCond .eq 75, 3) := by decide +kernel
theorem dX10_goes_108 : decode cX10_goes 108 = .ok (.aload_n 0, 1) := by decide +kernel
theorem dX10_goes_109 : decode cX10_goes 109 = .ok (.aload_n 0, 1) := by decide +kernel
theorem dX10_goes_110 : decode cX10_goes 110 = .ok (.getfield 78, 3) := by decide +kernel
theorem dX10_goes_113 : decode cX10_goes 113 = .ok (.invokevirtual 81, 3) := by decide +kernel
theorem dX10_goes_116 : decode cX10_goes 116 = .ok (.invokestatic 101, 3) := by decide +kernel
theorem dX10_goes_119 : decode cX10_goes 119 = .ok (.ifCond .eq 53, 3) := by decide +kernel
theorem dX10_goes_122 : decode cX10_goes 122 = .ok (.aload_n 0, 1) := by decide +kernel
theorem dX10_goes_123 : decode cX10_goes 123 = .ok (.getfield 78, 3) := by decide +kernel
theorem dX10_goes_126 : decode cX10_goes 126 = .ok (.aload_n 0, 1) := by decide +kernel
theorem dX10_goes_127 : decode cX10_goes 127 = .ok (.getfield 85, 3) := by decide +kernel
theorem dX10_goes_130 : decode cX10_goes 130 = .ok (.isub, 1) := by decide +kernel
theorem dX10_goes_131 : decode cX10_goes 131 = .ok (.bipush 6, 2) := by decide +kernel
theorem dX10_goes_133 : decode cX10_goes 133 = .ok (.if_icmp .ge 26, 3) := by decide +kernel
theorem dX10_goes_136 : decode cX10_goes 136 = .ok (.aload_n 0, 1) := by decide +kernel
theorem dX10_goes_137 : decode cX10_goes 137 = .ok (.aload_n 0, 1) := by decide +kernel
theorem dX10_goes_138 : decode cX10_goes 138 = .ok (.getfield 88, 3) := by decide +kernel
theorem dX10_goes_141 : decode cX10_goes 141 = .ok (.iconst 5, 1) := by decide +kernel
theorem dX10_goes_142 : decode cX10_goes 142 = .ok (.lshl, 1) := by decide +kernel
theorem dX10_goes_143 : decode cX10_goes 143 = .ok (.aload_n 0, 1) := by decide +kernel
theorem dX10_goes_144 : decode cX10_goes 144 = .ok (.aload_n 0, 1) := by decide +kernel
theorem dX10_goes_145 : decode cX10_goes 145 = .ok (.getfield 78, 3) := by decide +kernel
theorem dX10_goes_148 : decode cX10_goes 148 = .ok (.invokevirtual 81, 3) := by decide +kernel
theorem dX10_goes_151 : decode cX10_goes 151 = .ok (.bipush 96, 2) := by decide +kernel
theorem dX10_goes_153 : decode cX10_goes 153 = .ok (.isub, 1) := by decide +kernel
theorem dX10_goes_154 : decode cX10_goes 154 = .ok (.i2l, 1) := by decide +kernel
theorem dX10_goes_155 : decode cX10_goes 155 = .ok (.lor, 1) := by decide +kernel
theorem dX10_goes_156 : decode cX10_goes 156 = .ok (.putfield 88, 3) := by decide +kernel
theorem dX10_goes_159 : decode cX10_goes 159 = .ok (.aload_n 0, 1) := by decide +kernel
theorem dX10_goes_160 : decode cX10_goes 160 = .ok (.dup, 1) := by decide +kernel
theorem dX10_goes_161 : decode cX10_goes 161 = .ok (.getfield 78, 3) := by decide +kernel
theorem dX10_goes_164 : decode cX10_goes 164 = .ok (.iconst 1, 1) := by decide +kernel
theorem dX10_goes_165 : decode cX10_goes 165 = .ok (.iadd, 1) := by decide +kernel
theorem dX10_goes_166 : decode cX10_goes 166 = .ok (.putfield 78, 3) := by decide +kernel
theorem dX10_goes_169 : decode cX10_goes 169 = .ok (.goto (-61), 3) := by decide +kernel
theorem dX10_goes_172 : decode cX10_goes 172 = .ok (.aload_n 0, 1) := by decide +kernel
theorem dX10_goes_173 : decode cX10_goes 173 = .ok (.iconst 1, 1) := by decide +kernel
theorem dX10_goes_174 : decode cX10_goes 174 = .ok (.putfield 98, 3) := by decide +kernel
theorem dX10_goes_177 : decode cX10_goes 177 = .ok (.goto 118, 3) := by decide +kernel
theorem dX10_goes_180 : decode cX10_goes 180 = .ok (.iload_n 1, 1) := by decide +kernel
theorem dX10_goes_181 : decode cX10_goes 181 = .ok (.invokestatic 105, 3) := by decide +kernel
theorem dX10_goes_184 : decode cX10_goes 184 = .ok (.ifCond .eq 74, 3) := by decide +kernel
theorem dX10_goes_187 : decode cX10_goes 187 = .ok (.aload_n 0, 1) := by decide +kernel
theorem dX10_goes_188 : decode cX10_goes 188 = .ok (.aload_n 0, 1) := by decide +kernel
theorem dX10_goes_189 : decode cX10_goes 189 = .ok (.getfield 78, 3) := by decide +kernel
theorem dX10_goes_192 : decode cX10_goes 192 = .ok (.invokevirtual 81, 3) := by decide +kernel
theorem dX10_goes_195 : decode cX10_goes 195 = .ok (.invokestatic 105, 3) := by decide +kernel
theorem dX10_goes_198 : decode cX10_goes 198 = .ok (.ifCond .eq 52, 3) := by decide +kernel
theorem dX10_goes_201 : decode cX10_goes 201 = .ok (.aload_n 0, 1) := by decide +kernel
theorem dX10_goes_202 : decode cX10_goes 202 = .ok (.getfield 78, 3) := by decide +kernel
theorem dX10_goes_205 : decode cX10_goes 205 = .ok (.aload_n 0, 1) := by decide +kernel
theorem dX10_goes_206 : decode cX10_goes 206 = .ok (.getfield 85, 3) := by decide +kernel
theorem dX10_goes_209 : decode cX10_goes 209 = .ok (.isub, 1) := by decide +kernel
theorem dX10_goes_210 : decode cX10_goes 210 = .ok (.iconst 4, 1) := by decide +kernel
theorem dX10_goes_211 : decode cX10_goes 211 = .ok (.if_icmp .ge 26, 3) := by decide +kernel
theorem dX10_goes_214 : decode cX10_goes 214 = .ok (.aload_n 0, 1) := by decide +kernel
theorem dX10_goes_215 : decode cX10_goes 215 = .ok (.bipush 10, 2) := by decide +kernel
theorem dX10_goes_217 : decode cX10_goes 217 = .ok (.aload_n 0, 1) := by decide +kernel
theorem dX10_goes_218 : decode cX10_goes 218 = .ok (.getfield 92, 3) := by decide +kernel
theorem dX10_goes_221 : decode cX10_goes 221 = .ok (.imul, 1) := by decide +kernel
theorem dX10_goes_222 : decode cX10_goes 222 = .ok (.aload_n 0, 1) := by decide +kernel
theorem dX10_goes_223 : decode cX10_goes 223 = .ok (.aload_n 0, 1) := by decide +kernel
theorem dX10_goes_224 : decode cX10_goes 224 = .ok (.getfield 78, 3) := by decide +kernel
theorem dX10_goes_227 : decode cX10_goes 227 = .ok (.invokevirtual 81, 3) := by decide +kernel
theorem dX10_goes_230 : decode cX10_goes 230 = .ok (.iadd, 1) := by decide +kernel
theorem dX10_goes_231 : decode cX10_goes 231 = .ok (.bipush 48, 2) := by decide +kernel
theorem dX10_goes_233 : decode cX10_goes 233 = .ok (.isub, 1) := by decide +kernel
theorem dX10_goes_234 : decode cX10_goes 234 = .ok (.putfield 92, 3) := by decide +kernel
theorem dX10_goes_237 : decode cX10_goes 237 = .ok (.aload_n 0, 1) := by decide +kernel
theorem dX10_goes_238 : decode cX10_goes 238 = .ok (.dup, 1) := by decide +kernel
theorem dX10_goes_239 : decode cX10_goes 239 = .ok (.getfield 78, 3) := by decide +kernel
theorem dX10_goes_242 : decode cX10_goes 242 = .ok (.iconst 1, 1) := by decide +kernel
theorem dX10_goes_243 : decode cX10_goes 243 = .ok (.iadd, 1) := by decide +kernel
theorem dX10_goes_244 : decode cX10_goes 244 = .ok (.putfield 78, 3) := by decide +kernel
theorem dX10_goes_247 : decode cX10_goes 247 = .ok (.goto (-60), 3) := by decide +kernel
theorem dX10_goes_250 : decode cX10_goes 250 = .ok (.aload_n 0, 1) := by decide +kernel
theorem dX10_goes_251 : decode cX10_goes 251 = .ok (.iconst 2, 1) := by decide +kernel
theorem dX10_goes_252 : decode cX10_goes 252 = .ok (.putfield 98, 3) := by decide +kernel
theorem dX10_goes_255 : decode cX10_goes 255 = .ok (.goto 40, 3) := by decide +kernel
theorem dX10_goes_258 : decode cX10_goes 258 = .ok (.aload_n 0, 1) := by decide +kernel
theorem dX10_goes_259 : decode cX10_goes 259 = .ok (.dup, 1) := by decide +kernel
theorem dX10_goes_260 : decode cX10_goes 260 = .ok (.getfield 78, 3) := by decide +kernel
theorem dX10_goes_263 : decode cX10_goes 263 = .ok (.iconst 1, 1) := by decide +kernel
theorem dX10_goes_264 : decode cX10_goes 264 = .ok (.iadd, 1) := by decide +kernel
theorem dX10_goes_265 : decode cX10_goes 265 = .ok (.putfield 78, 3) := by decide +kernel
theorem dX10_goes_268 : decode cX10_goes 268 = .ok (.aload_n 0, 1) := by decide +kernel
theorem dX10_goes_269 : decode cX10_goes 269 = .ok (.iload_n 1, 1) := by decide +kernel
theorem dX10_goes_270 : decode cX10_goes 270 = .ok (.bipush 59, 2) := by decide +kernel
theorem dX10_goes_272 : decode cX10_goes 272 = .ok (.if_icmp .eq 15, 3) := by decide +kernel
theorem dX10_goes_275 : decode cX10_goes 275 = .ok (.iload_n 1, 1) := by decide +kernel
theorem dX10_goes_276 : decode cX10_goes 276 = .ok (.bipush 45, 2) := by decide +kernel
theorem dX10_goes_278 : decode cX10_goes 278 = .ok (.if_icmp .eq 9, 3) := by decide +kernel
theorem dX10_goes_281 : decode cX10_goes 281 = .ok (.iload_n 1, 1) := by decide +kernel
theorem dX10_goes_282 : decode cX10_goes 282 = .ok (.bipush 95, 2) := by decide +kernel
theorem dX10_goes_284 : decode cX10_goes 284 = .ok (.if_icmp .ne 7, 3) := by decide +kernel
theorem dX10_goes_287 : decode cX10_goes 287 = .ok (.iconst 3, 1) := by decide +kernel
theorem dX10_goes_288 : decode cX10_goes 288 = .ok (.goto 4, 3) := by decide +kernel
theorem dX10_goes_291 : decode cX10_goes 291 = .ok (.iconst 4, 1) := by decide +kernel
theorem dX10_goes_292 : decode cX10_goes 292 = .ok (.putfield 98, 3) := by decide +kernel
theorem dX10_goes_295 : decode cX10_goes 295 = .ok (.aload_n 0, 1) := by decide +kernel
theorem dX10_goes_296 : decode cX10_goes 296 = .ok (.aload_n 0, 1) := by decide +kernel
theorem dX10_goes_297 : decode cX10_goes 297 = .ok (.getfield 78, 3) := by decide +kernel
theorem dX10_goes_300 : decode cX10_goes 300 = .ok (.aload_n 0, 1) := by decide +kernel
theorem dX10_goes_301 : decode cX10_goes 301 = .ok (.getfield 85, 3) := by decide +kernel
theorem dX10_goes_304 : decode cX10_goes 304 = .ok (.isub, 1) := by decide +kernel
theorem dX10_goes_305 : decode cX10_goes 305 = .ok (.putfield 108, 3) := by decide +kernel
theorem dX10_goes_308 : decode cX10_goes 308 = .ok (.return_, 1) := by decide +kernel
theorem dX10_spelled_0 : decode cX10_spelled 0 = .ok (.iload_n 0, 1) := by decide +kernel
theorem dX10_spelled_1 : decode cX10_spelled 1 = .ok (.i2l, 1) := by decide +kernel
theorem dX10_spelled_2 : decode cX10_spelled 2 = .ok (.ldc2_w 111, 3) := by decide +kernel
theorem dX10_spelled_5 : decode cX10_spelled 5 = .ok (.lsub, 1) := by decide +kernel
theorem dX10_spelled_6 : decode cX10_spelled 6 = .ok (.iconst 5, 1) := by decide +kernel
theorem dX10_spelled_7 : decode cX10_spelled 7 = .ok (.lshl, 1) := by decide +kernel
theorem dX10_spelled_8 : decode cX10_spelled 8 = .ok (.iload_n 1, 1) := by decide +kernel
theorem dX10_spelled_9 : decode cX10_spelled 9 = .ok (.bipush 96, 2) := by decide +kernel
theorem dX10_spelled_11 : decode cX10_spelled 11 = .ok (.isub, 1) := by decide +kernel
theorem dX10_spelled_12 : decode cX10_spelled 12 = .ok (.i2l, 1) := by decide +kernel
theorem dX10_spelled_13 : decode cX10_spelled 13 = .ok (.lor, 1) := by decide +kernel
theorem dX10_spelled_14 : decode cX10_spelled 14 = .ok (.lstore 6, 2) := by decide +kernel
theorem dX10_spelled_16 : decode cX10_spelled 16 = .ok (.iload_n 2, 1) := by decide +kernel
theorem dX10_spelled_17 : decode cX10_spelled 17 = .ok (.ifCond .eq 15, 3) := by decide +kernel
theorem dX10_spelled_20 : decode cX10_spelled 20 = .ok (.lload 6, 2) := by decide +kernel
theorem dX10_spelled_22 : decode cX10_spelled 22 = .ok (.iconst 5, 1) := by decide +kernel
theorem dX10_spelled_23 : decode cX10_spelled 23 = .ok (.lshl, 1) := by decide +kernel
theorem dX10_spelled_24 : decode cX10_spelled 24 = .ok (.iload_n 2, 1) := by decide +kernel
theorem dX10_spelled_25 : decode cX10_spelled 25 = .ok (.bipush 96, 2) := by decide +kernel
theorem dX10_spelled_27 : decode cX10_spelled 27 = .ok (.isub, 1) := by decide +kernel
theorem dX10_spelled_28 : decode cX10_spelled 28 = .ok (.i2l, 1) := by decide +kernel
theorem dX10_spelled_29 : decode cX10_spelled 29 = .ok (.lor, 1) := by decide +kernel
theorem dX10_spelled_30 : decode cX10_spelled 30 = .ok (.lstore 6, 2) := by decide +kernel
theorem dX10_spelled_32 : decode cX10_spelled 32 = .ok (.iload_n 3, 1) := by decide +kernel
theorem dX10_spelled_33 : decode cX10_spelled 33 = .ok (.ifCond .eq 15, 3) := by decide +kernel
theorem dX10_spelled_36 : decode cX10_spelled 36 = .ok (.lload 6, 2) := by decide +kernel
theorem dX10_spelled_38 : decode cX10_spelled 38 = .ok (.iconst 5, 1) := by decide +kernel
theorem dX10_spelled_39 : decode cX10_spelled 39 = .ok (.lshl, 1) := by decide +kernel
theorem dX10_spelled_40 : decode cX10_spelled 40 = .ok (.iload_n 3, 1) := by decide +kernel
theorem dX10_spelled_41 : decode cX10_spelled 41 = .ok (.bipush 96, 2) := by decide +kernel
theorem dX10_spelled_43 : decode cX10_spelled 43 = .ok (.isub, 1) := by decide +kernel
theorem dX10_spelled_44 : decode cX10_spelled 44 = .ok (.i2l, 1) := by decide +kernel
theorem dX10_spelled_45 : decode cX10_spelled 45 = .ok (.lor, 1) := by decide +kernel
theorem dX10_spelled_46 : decode cX10_spelled 46 = .ok (.lstore 6, 2) := by decide +kernel
theorem dX10_spelled_48 : decode cX10_spelled 48 = .ok (.iload 4, 2) := by decide +kernel
theorem dX10_spelled_50 : decode cX10_spelled 50 = .ok (.ifCond .eq 16, 3) := by decide +kernel
theorem dX10_spelled_53 : decode cX10_spelled 53 = .ok (.lload 6, 2) := by decide +kernel
theorem dX10_spelled_55 : decode cX10_spelled 55 = .ok (.iconst 5, 1) := by decide +kernel
theorem dX10_spelled_56 : decode cX10_spelled 56 = .ok (.lshl, 1) := by decide +kernel
theorem dX10_spelled_57 : decode cX10_spelled 57 = .ok (.iload 4, 2) := by decide +kernel
theorem dX10_spelled_59 : decode cX10_spelled 59 = .ok (.bipush 96, 2) := by decide +kernel
theorem dX10_spelled_61 : decode cX10_spelled 61 = .ok (.isub, 1) := by decide +kernel
theorem dX10_spelled_62 : decode cX10_spelled 62 = .ok (.i2l, 1) := by decide +kernel
theorem dX10_spelled_63 : decode cX10_spelled 63 = .ok (.lor, 1) := by decide +kernel
theorem dX10_spelled_64 : decode cX10_spelled 64 = .ok (.lstore 6, 2) := by decide +kernel
theorem dX10_spelled_66 : decode cX10_spelled 66 = .ok (.iload 5, 2) := by decide +kernel
theorem dX10_spelled_68 : decode cX10_spelled 68 = .ok (.ifCond .eq 16, 3) := by decide +kernel
theorem dX10_spelled_71 : decode cX10_spelled 71 = .ok (.lload 6, 2) := by decide +kernel
theorem dX10_spelled_73 : decode cX10_spelled 73 = .ok (.iconst 5, 1) := by decide +kernel
theorem dX10_spelled_74 : decode cX10_spelled 74 = .ok (.lshl, 1) := by decide +kernel
theorem dX10_spelled_75 : decode cX10_spelled 75 = .ok (.iload 5, 2) := by decide +kernel
theorem dX10_spelled_77 : decode cX10_spelled 77 = .ok (.bipush 96, 2) := by decide +kernel
theorem dX10_spelled_79 : decode cX10_spelled 79 = .ok (.isub, 1) := by decide +kernel
theorem dX10_spelled_80 : decode cX10_spelled 80 = .ok (.i2l, 1) := by decide +kernel
theorem dX10_spelled_81 : decode cX10_spelled 81 = .ok (.lor, 1) := by decide +kernel
theorem dX10_spelled_82 : decode cX10_spelled 82 = .ok (.lstore 6, 2) := by decide +kernel
theorem dX10_spelled_84 : decode cX10_spelled 84 = .ok (.lload 6, 2) := by decide +kernel
theorem dX10_spelled_86 : decode cX10_spelled 86 = .ok (.lreturn, 1) := by decide +kernel
theorem dX10_letters_0 : decode cX10_letters 0 = .ok (.iload_n 0, 1) := by decide +kernel
theorem dX10_letters_1 : decode cX10_letters 1 = .ok (.tableswitch 337 0 16 #[83, 99, 114, 128, 142, 158, 171, 187, 203, 218, 232, 247, 260, 276, 292, 308, 324], 83) := by decide +kernel
theorem dX10_letters_84 : decode cX10_letters 84 = .ok (.bipush 110, 2) := by decide +kernel
theorem dX10_letters_86 : decode cX10_letters 86 = .ok (.bipush 117, 2) := by decide +kernel
theorem dX10_letters_88 : decode cX10_letters 88 = .ok (.bipush 109, 2) := by decide +kernel
theorem dX10_letters_90 : decode cX10_letters 90 = .ok (.bipush 98, 2) := by decide +kernel
theorem dX10_letters_92 : decode cX10_letters 92 = .ok (.bipush 101, 2) := by decide +kernel
theorem dX10_letters_94 : decode cX10_letters 94 = .ok (.bipush 114, 2) := by decide +kernel
theorem dX10_letters_96 : decode cX10_letters 96 = .ok (.invokestatic 113, 3) := by decide +kernel
theorem dX10_letters_99 : decode cX10_letters 99 = .ok (.lreturn, 1) := by decide +kernel
theorem dX10_letters_100 : decode cX10_letters 100 = .ok (.bipush 100, 2) := by decide +kernel
theorem dX10_letters_102 : decode cX10_letters 102 = .ok (.bipush 105, 2) := by decide +kernel
theorem dX10_letters_104 : decode cX10_letters 104 = .ok (.bipush 103, 2) := by decide +kernel
theorem dX10_letters_106 : decode cX10_letters 106 = .ok (.bipush 105, 2) := by decide +kernel
theorem dX10_letters_108 : decode cX10_letters 108 = .ok (.bipush 116, 2) := by decide +kernel
theorem dX10_letters_110 : decode cX10_letters 110 = .ok (.iconst 0, 1) := by decide +kernel
theorem dX10_letters_111 : decode cX10_letters 111 = .ok (.invokestatic 113, 3) := by decide +kernel
theorem dX10_letters_114 : decode cX10_letters 114 = .ok (.lreturn, 1) := by decide +kernel
theorem dX10_letters_115 : decode cX10_letters 115 = .ok (.bipush 101, 2) := by decide +kernel
theorem dX10_letters_117 : decode cX10_letters 117 = .ok (.bipush 118, 2) := by decide +kernel
theorem dX10_letters_119 : decode cX10_letters 119 = .ok (.bipush 101, 2) := by decide +kernel
theorem dX10_letters_121 : decode cX10_letters 121 = .ok (.bipush 110, 2) := by decide +kernel
theorem dX10_letters_123 : decode cX10_letters 123 = .ok (.iconst 0, 1) := by decide +kernel
theorem dX10_letters_124 : decode cX10_letters 124 = .ok (.iconst 0, 1) := by decide +kernel
theorem dX10_letters_125 : decode cX10_letters 125 = .ok (.invokestatic 113, 3) := by decide +kernel
theorem dX10_letters_128 : decode cX10_letters 128 = .ok (.lreturn, 1) := by decide +kernel
theorem dX10_letters_129 : decode cX10_letters 129 = .ok (.bipush 102, 2) := by decide +kernel
theorem dX10_letters_131 : decode cX10_letters 131 = .ok (.bipush 108, 2) := by decide +kernel
theorem dX10_letters_133 : decode cX10_letters 133 = .ok (.bipush 97, 2) := by decide +kernel
theorem dX10_letters_135 : decode cX10_letters 135 = .ok (.bipush 103, 2) := by decide +kernel
theorem dX10_letters_137 : decode cX10_letters 137 = .ok (.iconst 0, 1) := by decide +kernel
theorem dX10_letters_138 : decode cX10_letters 138 = .ok (.iconst 0, 1) := by decide +kernel
theorem dX10_letters_139 : decode cX10_letters 139 = .ok (.invokestatic 113, 3) := by decide +kernel
theorem dX10_letters_142 : decode cX10_letters 142 = .ok (.lreturn, 1) := by decide +kernel
theorem dX10_letters_143 : decode cX10_letters 143 = .ok (.bipush 99, 2) := by decide +kernel
theorem dX10_letters_145 : decode cX10_letters 145 = .ok (.bipush 111, 2) := by decide +kernel
theorem dX10_letters_147 : decode cX10_letters 147 = .ok (.bipush 108, 2) := by decide +kernel
theorem dX10_letters_149 : decode cX10_letters 149 = .ok (.bipush 117, 2) := by decide +kernel
theorem dX10_letters_151 : decode cX10_letters 151 = .ok (.bipush 109, 2) := by decide +kernel
theorem dX10_letters_153 : decode cX10_letters 153 = .ok (.bipush 110, 2) := by decide +kernel
theorem dX10_letters_155 : decode cX10_letters 155 = .ok (.invokestatic 113, 3) := by decide +kernel
theorem dX10_letters_158 : decode cX10_letters 158 = .ok (.lreturn, 1) := by decide +kernel
theorem dX10_letters_159 : decode cX10_letters 159 = .ok (.bipush 114, 2) := by decide +kernel
theorem dX10_letters_161 : decode cX10_letters 161 = .ok (.bipush 111, 2) := by decide +kernel
theorem dX10_letters_163 : decode cX10_letters 163 = .ok (.bipush 119, 2) := by decide +kernel
theorem dX10_letters_165 : decode cX10_letters 165 = .ok (.iconst 0, 1) := by decide +kernel
theorem dX10_letters_166 : decode cX10_letters 166 = .ok (.iconst 0, 1) := by decide +kernel
theorem dX10_letters_167 : decode cX10_letters 167 = .ok (.iconst 0, 1) := by decide +kernel
theorem dX10_letters_168 : decode cX10_letters 168 = .ok (.invokestatic 113, 3) := by decide +kernel
theorem dX10_letters_171 : decode cX10_letters 171 = .ok (.lreturn, 1) := by decide +kernel
theorem dX10_letters_172 : decode cX10_letters 172 = .ok (.bipush 117, 2) := by decide +kernel
theorem dX10_letters_174 : decode cX10_letters 174 = .ok (.bipush 110, 2) := by decide +kernel
theorem dX10_letters_176 : decode cX10_letters 176 = .ok (.bipush 105, 2) := by decide +kernel
theorem dX10_letters_178 : decode cX10_letters 178 = .ok (.bipush 113, 2) := by decide +kernel
theorem dX10_letters_180 : decode cX10_letters 180 = .ok (.bipush 117, 2) := by decide +kernel
theorem dX10_letters_182 : decode cX10_letters 182 = .ok (.bipush 101, 2) := by decide +kernel
theorem dX10_letters_184 : decode cX10_letters 184 = .ok (.invokestatic 113, 3) := by decide +kernel
theorem dX10_letters_187 : decode cX10_letters 187 = .ok (.lreturn, 1) := by decide +kernel
theorem dX10_letters_188 : decode cX10_letters 188 = .ok (.bipush 110, 2) := by decide +kernel
theorem dX10_letters_190 : decode cX10_letters 190 = .ok (.bipush 101, 2) := by decide +kernel
theorem dX10_letters_192 : decode cX10_letters 192 = .ok (.bipush 101, 2) := by decide +kernel
theorem dX10_letters_194 : decode cX10_letters 194 = .ok (.bipush 100, 2) := by decide +kernel
theorem dX10_letters_196 : decode cX10_letters 196 = .ok (.bipush 101, 2) := by decide +kernel
theorem dX10_letters_198 : decode cX10_letters 198 = .ok (.bipush 100, 2) := by decide +kernel
theorem dX10_letters_200 : decode cX10_letters 200 = .ok (.invokestatic 113, 3) := by decide +kernel
theorem dX10_letters_203 : decode cX10_letters 203 = .ok (.lreturn, 1) := by decide +kernel
theorem dX10_letters_204 : decode cX10_letters 204 = .ok (.bipush 98, 2) := by decide +kernel
theorem dX10_letters_206 : decode cX10_letters 206 = .ok (.bipush 101, 2) := by decide +kernel
theorem dX10_letters_208 : decode cX10_letters 208 = .ok (.bipush 108, 2) := by decide +kernel
theorem dX10_letters_210 : decode cX10_letters 210 = .ok (.bipush 111, 2) := by decide +kernel
theorem dX10_letters_212 : decode cX10_letters 212 = .ok (.bipush 119, 2) := by decide +kernel
theorem dX10_letters_214 : decode cX10_letters 214 = .ok (.iconst 0, 1) := by decide +kernel
theorem dX10_letters_215 : decode cX10_letters 215 = .ok (.invokestatic 113, 3) := by decide +kernel
theorem dX10_letters_218 : decode cX10_letters 218 = .ok (.lreturn, 1) := by decide +kernel
theorem dX10_letters_219 : decode cX10_letters 219 = .ok (.bipush 108, 2) := by decide +kernel
theorem dX10_letters_221 : decode cX10_letters 221 = .ok (.bipush 101, 2) := by decide +kernel
theorem dX10_letters_223 : decode cX10_letters 223 = .ok (.bipush 102, 2) := by decide +kernel
theorem dX10_letters_225 : decode cX10_letters 225 = .ok (.bipush 116, 2) := by decide +kernel
theorem dX10_letters_227 : decode cX10_letters 227 = .ok (.iconst 0, 1) := by decide +kernel
theorem dX10_letters_228 : decode cX10_letters 228 = .ok (.iconst 0, 1) := by decide +kernel
theorem dX10_letters_229 : decode cX10_letters 229 = .ok (.invokestatic 113, 3) := by decide +kernel
theorem dX10_letters_232 : decode cX10_letters 232 = .ok (.lreturn, 1) := by decide +kernel
theorem dX10_letters_233 : decode cX10_letters 233 = .ok (.bipush 114, 2) := by decide +kernel
theorem dX10_letters_235 : decode cX10_letters 235 = .ok (.bipush 105, 2) := by decide +kernel
theorem dX10_letters_237 : decode cX10_letters 237 = .ok (.bipush 103, 2) := by decide +kernel
theorem dX10_letters_239 : decode cX10_letters 239 = .ok (.bipush 104, 2) := by decide +kernel
theorem dX10_letters_241 : decode cX10_letters 241 = .ok (.bipush 116, 2) := by decide +kernel
theorem dX10_letters_243 : decode cX10_letters 243 = .ok (.iconst 0, 1) := by decide +kernel
theorem dX10_letters_244 : decode cX10_letters 244 = .ok (.invokestatic 113, 3) := by decide +kernel
theorem dX10_letters_247 : decode cX10_letters 247 = .ok (.lreturn, 1) := by decide +kernel
theorem dX10_letters_248 : decode cX10_letters 248 = .ok (.bipush 115, 2) := by decide +kernel
theorem dX10_letters_250 : decode cX10_letters 250 = .ok (.bipush 101, 2) := by decide +kernel
theorem dX10_letters_252 : decode cX10_letters 252 = .ok (.bipush 116, 2) := by decide +kernel
theorem dX10_letters_254 : decode cX10_letters 254 = .ok (.iconst 0, 1) := by decide +kernel
theorem dX10_letters_255 : decode cX10_letters 255 = .ok (.iconst 0, 1) := by decide +kernel
theorem dX10_letters_256 : decode cX10_letters 256 = .ok (.iconst 0, 1) := by decide +kernel
theorem dX10_letters_257 : decode cX10_letters 257 = .ok (.invokestatic 113, 3) := by decide +kernel
theorem dX10_letters_260 : decode cX10_letters 260 = .ok (.lreturn, 1) := by decide +kernel
theorem dX10_letters_261 : decode cX10_letters 261 = .ok (.bipush 105, 2) := by decide +kernel
theorem dX10_letters_263 : decode cX10_letters 263 = .ok (.bipush 110, 2) := by decide +kernel
theorem dX10_letters_265 : decode cX10_letters 265 = .ok (.bipush 115, 2) := by decide +kernel
theorem dX10_letters_267 : decode cX10_letters 267 = .ok (.bipush 101, 2) := by decide +kernel
theorem dX10_letters_269 : decode cX10_letters 269 = .ok (.bipush 114, 2) := by decide +kernel
theorem dX10_letters_271 : decode cX10_letters 271 = .ok (.bipush 116, 2) := by decide +kernel
theorem dX10_letters_273 : decode cX10_letters 273 = .ok (.invokestatic 113, 3) := by decide +kernel
theorem dX10_letters_276 : decode cX10_letters 276 = .ok (.lreturn, 1) := by decide +kernel
theorem dX10_letters_277 : decode cX10_letters 277 = .ok (.bipush 100, 2) := by decide +kernel
theorem dX10_letters_279 : decode cX10_letters 279 = .ok (.bipush 101, 2) := by decide +kernel
theorem dX10_letters_281 : decode cX10_letters 281 = .ok (.bipush 108, 2) := by decide +kernel
theorem dX10_letters_283 : decode cX10_letters 283 = .ok (.bipush 101, 2) := by decide +kernel
theorem dX10_letters_285 : decode cX10_letters 285 = .ok (.bipush 116, 2) := by decide +kernel
theorem dX10_letters_287 : decode cX10_letters 287 = .ok (.bipush 101, 2) := by decide +kernel
theorem dX10_letters_289 : decode cX10_letters 289 = .ok (.invokestatic 113, 3) := by decide +kernel
theorem dX10_letters_292 : decode cX10_letters 292 = .ok (.lreturn, 1) := by decide +kernel
theorem dX10_letters_293 : decode cX10_letters 293 = .ok (.bipush 114, 2) := by decide +kernel
theorem dX10_letters_295 : decode cX10_letters 295 = .ok (.bipush 101, 2) := by decide +kernel
theorem dX10_letters_297 : decode cX10_letters 297 = .ok (.bipush 110, 2) := by decide +kernel
theorem dX10_letters_299 : decode cX10_letters 299 = .ok (.bipush 97, 2) := by decide +kernel
theorem dX10_letters_301 : decode cX10_letters 301 = .ok (.bipush 109, 2) := by decide +kernel
theorem dX10_letters_303 : decode cX10_letters 303 = .ok (.bipush 101, 2) := by decide +kernel
theorem dX10_letters_305 : decode cX10_letters 305 = .ok (.invokestatic 113, 3) := by decide +kernel
theorem dX10_letters_308 : decode cX10_letters 308 = .ok (.lreturn, 1) := by decide +kernel
theorem dX10_letters_309 : decode cX10_letters 309 = .ok (.bipush 114, 2) := by decide +kernel
theorem dX10_letters_311 : decode cX10_letters 311 = .ok (.bipush 101, 2) := by decide +kernel
theorem dX10_letters_313 : decode cX10_letters 313 = .ok (.bipush 116, 2) := by decide +kernel
theorem dX10_letters_315 : decode cX10_letters 315 = .ok (.bipush 121, 2) := by decide +kernel
theorem dX10_letters_317 : decode cX10_letters 317 = .ok (.bipush 112, 2) := by decide +kernel
theorem dX10_letters_319 : decode cX10_letters 319 = .ok (.bipush 101, 2) := by decide +kernel
theorem dX10_letters_321 : decode cX10_letters 321 = .ok (.invokestatic 113, 3) := by decide +kernel
theorem dX10_letters_324 : decode cX10_letters 324 = .ok (.lreturn, 1) := by decide +kernel
theorem dX10_letters_325 : decode cX10_letters 325 = .ok (.bipush 97, 2) := by decide +kernel
theorem dX10_letters_327 : decode cX10_letters 327 = .ok (.bipush 100, 2) := by decide +kernel
theorem dX10_letters_329 : decode cX10_letters 329 = .ok (.bipush 100, 2) := by decide +kernel
theorem dX10_letters_331 : decode cX10_letters 331 = .ok (.iconst 0, 1) := by decide +kernel
theorem dX10_letters_332 : decode cX10_letters 332 = .ok (.iconst 0, 1) := by decide +kernel
theorem dX10_letters_333 : decode cX10_letters 333 = .ok (.iconst 0, 1) := by decide +kernel
theorem dX10_letters_334 : decode cX10_letters 334 = .ok (.invokestatic 113, 3) := by decide +kernel
theorem dX10_letters_337 : decode cX10_letters 337 = .ok (.lreturn, 1) := by decide +kernel
theorem dX10_letters_338 : decode cX10_letters 338 = .ok (.bipush 100, 2) := by decide +kernel
theorem dX10_letters_340 : decode cX10_letters 340 = .ok (.bipush 114, 2) := by decide +kernel
theorem dX10_letters_342 : decode cX10_letters 342 = .ok (.bipush 111, 2) := by decide +kernel
theorem dX10_letters_344 : decode cX10_letters 344 = .ok (.bipush 112, 2) := by decide +kernel
theorem dX10_letters_346 : decode cX10_letters 346 = .ok (.iconst 0, 1) := by decide +kernel
theorem dX10_letters_347 : decode cX10_letters 347 = .ok (.iconst 0, 1) := by decide +kernel
theorem dX10_letters_348 : decode cX10_letters 348 = .ok (.invokestatic 113, 3) := by decide +kernel
theorem dX10_letters_351 : decode cX10_letters 351 = .ok (.lreturn, 1) := by decide +kernel
theorem dX10_knownWord_0 : decode cX10_knownWord 0 = .ok (.aload_n 0, 1) := by decide +kernel
theorem dX10_knownWord_1 : decode cX10_knownWord 1 = .ok (.getfield 98, 3) := by decide +kernel
theorem dX10_knownWord_4 : decode cX10_knownWord 4 = .ok (.iconst 1, 1) := by decide +kernel
theorem dX10_knownWord_5 : decode cX10_knownWord 5 = .ok (.if_icmp .ne 20, 3) := by decide +kernel
theorem dX10_knownWord_8 : decode cX10_knownWord 8 = .ok (.aload_n 0, 1) := by decide +kernel
theorem dX10_knownWord_9 : decode cX10_knownWord 9 = .ok (.getfield 108, 3) := by decide +kernel
theorem dX10_knownWord_12 : decode cX10_knownWord 12 = .ok (.bipush 6, 2) := by decide +kernel
theorem dX10_knownWord_14 : decode cX10_knownWord 14 = .ok (.if_icmp .gt 11, 3) := by decide +kernel
theorem dX10_knownWord_17 : decode cX10_knownWord 17 = .ok (.aload_n 0, 1) := by decide +kernel
theorem dX10_knownWord_18 : decode cX10_knownWord 18 = .ok (.getfield 108, 3) := by decide +kernel
theorem dX10_knownWord_21 : decode cX10_knownWord 21 = .ok (.iconst 1, 1) := by decide +kernel
theorem dX10_knownWord_22 : decode cX10_knownWord 22 = .ok (.if_icmp .ne 5, 3) := by decide +kernel
theorem dX10_knownWord_25 : decode cX10_knownWord 25 = .ok (.iconst (-1), 1) := by decide +kernel
theorem dX10_knownWord_26 : decode cX10_knownWord 26 = .ok (.ireturn, 1) := by decide +kernel
theorem dX10_knownWord_27 : decode cX10_knownWord 27 = .ok (.iconst 0, 1) := by decide +kernel
theorem dX10_knownWord_28 : decode cX10_knownWord 28 = .ok (.istore_n 1, 1) := by decide +kernel
theorem dX10_knownWord_29 : decode cX10_knownWord 29 = .ok (.iload_n 1, 1) := by decide +kernel
theorem dX10_knownWord_30 : decode cX10_knownWord 30 = .ok (.bipush 18, 2) := by decide +kernel
theorem dX10_knownWord_32 : decode cX10_knownWord 32 = .ok (.if_icmp .ge 23, 3) := by decide +kernel
theorem dX10_knownWord_35 : decode cX10_knownWord 35 = .ok (.iload_n 1, 1) := by decide +kernel
theorem dX10_knownWord_36 : decode cX10_knownWord 36 = .ok (.invokestatic 117, 3) := by decide +kernel
theorem dX10_knownWord_39 : decode cX10_knownWord 39 = .ok (.aload_n 0, 1) := by decide +kernel
theorem dX10_knownWord_40 : decode cX10_knownWord 40 = .ok (.getfield 88, 3) := by decide +kernel
theorem dX10_knownWord_43 : decode cX10_knownWord 43 = .ok (.lcmp, 1) := by decide +kernel
theorem dX10_knownWord_44 : decode cX10_knownWord 44 = .ok (.ifCond .ne 5, 3) := by decide +kernel
theorem dX10_knownWord_47 : decode cX10_knownWord 47 = .ok (.iload_n 1, 1) := by decide +kernel
theorem dX10_knownWord_48 : decode cX10_knownWord 48 = .ok (.ireturn, 1) := by decide +kernel
theorem dX10_knownWord_49 : decode cX10_knownWord 49 = .ok (.iinc 1 1, 3) := by decide +kernel
theorem dX10_knownWord_52 : decode cX10_knownWord 52 = .ok (.goto (-23), 3) := by decide +kernel
theorem dX10_knownWord_55 : decode cX10_knownWord 55 = .ok (.iconst (-1), 1) := by decide +kernel
theorem dX10_knownWord_56 : decode cX10_knownWord 56 = .ok (.ireturn, 1) := by decide +kernel
theorem dX10_wrong_0 : decode cX10_wrong 0 = .ok (.aload_n 0, 1) := by decide +kernel
theorem dX10_wrong_1 : decode cX10_wrong 1 = .ok (.getfield 121, 3) := by decide +kernel
theorem dX10_wrong_4 : decode cX10_wrong 4 = .ok (.ifCond .eq 4, 3) := by decide +kernel
theorem dX10_wrong_7 : decode cX10_wrong 7 = .ok (.return_, 1) := by decide +kernel
theorem dX10_wrong_8 : decode cX10_wrong 8 = .ok (.aload_n 0, 1) := by decide +kernel
theorem dX10_wrong_9 : decode cX10_wrong 9 = .ok (.iload_n 1, 1) := by decide +kernel
theorem dX10_wrong_10 : decode cX10_wrong 10 = .ok (.putfield 121, 3) := by decide +kernel
theorem dX10_wrong_13 : decode cX10_wrong 13 = .ok (.aload_n 0, 1) := by decide +kernel
theorem dX10_wrong_14 : decode cX10_wrong 14 = .ok (.aload_n 0, 1) := by decide +kernel
theorem dX10_wrong_15 : decode cX10_wrong 15 = .ok (.getfield 85, 3) := by decide +kernel
theorem dX10_wrong_18 : decode cX10_wrong 18 = .ok (.putfield 13, 3) := by decide +kernel
theorem dX10_wrong_21 : decode cX10_wrong 21 = .ok (.return_, 1) := by decide +kernel
theorem dX10_isGood_0 : decode cX10_isGood 0 = .ok (.aload_n 0, 1) := by decide +kernel
theorem dX10_isGood_1 : decode cX10_isGood 1 = .ok (.getfield 121, 3) := by decide +kernel
theorem dX10_isGood_4 : decode cX10_isGood 4 = .ok (.ifCond .ne 7, 3) := by decide +kernel
theorem dX10_isGood_7 : decode cX10_isGood 7 = .ok (.iconst 1, 1) := by decide +kernel
theorem dX10_isGood_8 : decode cX10_isGood 8 = .ok (.goto 4, 3) := by decide +kernel
theorem dX10_isGood_11 : decode cX10_isGood 11 = .ok (.iconst 0, 1) := by decide +kernel
theorem dX10_isGood_12 : decode cX10_isGood 12 = .ok (.ireturn, 1) := by decide +kernel
theorem dX10_isSign_0 : decode cX10_isSign 0 = .ok (.aload_n 0, 1) := by decide +kernel
theorem dX10_isSign_1 : decode cX10_isSign 1 = .ok (.getfield 98, 3) := by decide +kernel
theorem dX10_isSign_4 : decode cX10_isSign 4 = .ok (.iconst 3, 1) := by decide +kernel
theorem dX10_isSign_5 : decode cX10_isSign 5 = .ok (.if_icmp .ne 15, 3) := by decide +kernel
theorem dX10_isSign_8 : decode cX10_isSign 8 = .ok (.aload_n 0, 1) := by decide +kernel
theorem dX10_isSign_9 : decode cX10_isSign 9 = .ok (.getfield 95, 3) := by decide +kernel
theorem dX10_isSign_12 : decode cX10_isSign 12 = .ok (.iload_n 1, 1) := by decide +kernel
theorem dX10_isSign_13 : decode cX10_isSign 13 = .ok (.if_icmp .ne 7, 3) := by decide +kernel
theorem dX10_isSign_16 : decode cX10_isSign 16 = .ok (.iconst 1, 1) := by decide +kernel
theorem dX10_isSign_17 : decode cX10_isSign 17 = .ok (.goto 4, 3) := by decide +kernel
theorem dX10_isSign_20 : decode cX10_isSign 20 = .ok (.iconst 0, 1) := by decide +kernel
theorem dX10_isSign_21 : decode cX10_isSign 21 = .ok (.ireturn, 1) := by decide +kernel
theorem dX10_need_0 : decode cX10_need 0 = .ok (.aload_n 0, 1) := by decide +kernel
theorem dX10_need_1 : decode cX10_need 1 = .ok (.invokevirtual 124, 3) := by decide +kernel
theorem dX10_need_4 : decode cX10_need 4 = .ok (.ifCond .ne 4, 3) := by decide +kernel
theorem dX10_need_7 : decode cX10_need 7 = .ok (.return_, 1) := by decide +kernel
theorem dX10_need_8 : decode cX10_need 8 = .ok (.iload_n 1, 1) := by decide +kernel
theorem dX10_need_9 : decode cX10_need 9 = .ok (.ifCond .eq 10, 3) := by decide +kernel
theorem dX10_need_12 : decode cX10_need 12 = .ok (.aload_n 0, 1) := by decide +kernel
theorem dX10_need_13 : decode cX10_need 13 = .ok (.invokevirtual 128, 3) := by decide +kernel
theorem dX10_need_16 : decode cX10_need 16 = .ok (.goto 8, 3) := by decide +kernel
theorem dX10_need_19 : decode cX10_need 19 = .ok (.aload_n 0, 1) := by decide +kernel
theorem dX10_need_20 : decode cX10_need 20 = .ok (.iconst 1, 1) := by decide +kernel
theorem dX10_need_21 : decode cX10_need 21 = .ok (.invokevirtual 131, 3) := by decide +kernel
theorem dX10_need_24 : decode cX10_need 24 = .ok (.return_, 1) := by decide +kernel
theorem dX10_numberHere_0 : decode cX10_numberHere 0 = .ok (.aload_n 0, 1) := by decide +kernel
theorem dX10_numberHere_1 : decode cX10_numberHere 1 = .ok (.invokevirtual 124, 3) := by decide +kernel
theorem dX10_numberHere_4 : decode cX10_numberHere 4 = .ok (.ifCond .ne 5, 3) := by decide +kernel
theorem dX10_numberHere_7 : decode cX10_numberHere 7 = .ok (.iconst 0, 1) := by decide +kernel
theorem dX10_numberHere_8 : decode cX10_numberHere 8 = .ok (.ireturn, 1) := by decide +kernel
theorem dX10_numberHere_9 : decode cX10_numberHere 9 = .ok (.aload_n 0, 1) := by decide +kernel
theorem dX10_numberHere_10 : decode cX10_numberHere 10 = .ok (.getfield 98, 3) := by decide +kernel
theorem dX10_numberHere_13 : decode cX10_numberHere 13 = .ok (.iconst 2, 1) := by decide +kernel
theorem dX10_numberHere_14 : decode cX10_numberHere 14 = .ok (.if_icmp .eq 11, 3) := by decide +kernel
theorem dX10_numberHere_17 : decode cX10_numberHere 17 = .ok (.aload_n 0, 1) := by decide +kernel
theorem dX10_numberHere_18 : decode cX10_numberHere 18 = .ok (.iconst 1, 1) := by decide +kernel
theorem dX10_numberHere_19 : decode cX10_numberHere 19 = .ok (.invokevirtual 131, 3) := by decide +kernel
theorem dX10_numberHere_22 : decode cX10_numberHere 22 = .ok (.goto 24, 3) := by decide +kernel
theorem dX10_numberHere_25 : decode cX10_numberHere 25 = .ok (.aload_n 0, 1) := by decide +kernel
theorem dX10_numberHere_26 : decode cX10_numberHere 26 = .ok (.getfield 108, 3) := by decide +kernel
theorem dX10_numberHere_29 : decode cX10_numberHere 29 = .ok (.iconst 4, 1) := by decide +kernel
theorem dX10_numberHere_30 : decode cX10_numberHere 30 = .ok (.if_icmp .gt 11, 3) := by decide +kernel
theorem dX10_numberHere_33 : decode cX10_numberHere 33 = .ok (.aload_n 0, 1) := by decide +kernel
theorem dX10_numberHere_34 : decode cX10_numberHere 34 = .ok (.getfield 92, 3) := by decide +kernel
theorem dX10_numberHere_37 : decode cX10_numberHere 37 = .ok (.iload_n 1, 1) := by decide +kernel
theorem dX10_numberHere_38 : decode cX10_numberHere 38 = .ok (.if_icmp .le 8, 3) := by decide +kernel
theorem dX10_numberHere_41 : decode cX10_numberHere 41 = .ok (.aload_n 0, 1) := by decide +kernel
theorem dX10_numberHere_42 : decode cX10_numberHere 42 = .ok (.iconst 2, 1) := by decide +kernel
theorem dX10_numberHere_43 : decode cX10_numberHere 43 = .ok (.invokevirtual 131, 3) := by decide +kernel
theorem dX10_numberHere_46 : decode cX10_numberHere 46 = .ok (.aload_n 0, 1) := by decide +kernel
theorem dX10_numberHere_47 : decode cX10_numberHere 47 = .ok (.getfield 92, 3) := by decide +kernel
theorem dX10_numberHere_50 : decode cX10_numberHere 50 = .ok (.ireturn, 1) := by decide +kernel
theorem dX10_number_0 : decode cX10_number 0 = .ok (.aload_n 0, 1) := by decide +kernel
theorem dX10_number_1 : decode cX10_number 1 = .ok (.iload_n 1, 1) := by decide +kernel
theorem dX10_number_2 : decode cX10_number 2 = .ok (.invokevirtual 134, 3) := by decide +kernel
theorem dX10_number_5 : decode cX10_number 5 = .ok (.istore_n 2, 1) := by decide +kernel
theorem dX10_number_6 : decode cX10_number 6 = .ok (.aload_n 0, 1) := by decide +kernel
theorem dX10_number_7 : decode cX10_number 7 = .ok (.invokevirtual 124, 3) := by decide +kernel
theorem dX10_number_10 : decode cX10_number 10 = .ok (.ifCond .eq 7, 3) := by decide +kernel
theorem dX10_number_13 : decode cX10_number 13 = .ok (.aload_n 0, 1) := by decide +kernel
theorem dX10_number_14 : decode cX10_number 14 = .ok (.invokevirtual 128, 3) := by decide +kernel
theorem dX10_number_17 : decode cX10_number 17 = .ok (.iload_n 2, 1) := by decide +kernel
theorem dX10_number_18 : decode cX10_number 18 = .ok (.ireturn, 1) := by decide +kernel
theorem dX10_nameHere_0 : decode cX10_nameHere 0 = .ok (.aload_n 0, 1) := by decide +kernel
theorem dX10_nameHere_1 : decode cX10_nameHere 1 = .ok (.invokevirtual 124, 3) := by decide +kernel
theorem dX10_nameHere_4 : decode cX10_nameHere 4 = .ok (.ifCond .eq 24, 3) := by decide +kernel
theorem dX10_nameHere_7 : decode cX10_nameHere 7 = .ok (.aload_n 0, 1) := by decide +kernel
theorem dX10_nameHere_8 : decode cX10_nameHere 8 = .ok (.getfield 98, 3) := by decide +kernel
theorem dX10_nameHere_11 : decode cX10_nameHere 11 = .ok (.iconst 1, 1) := by decide +kernel
theorem dX10_nameHere_12 : decode cX10_nameHere 12 = .ok (.if_icmp .ne 11, 3) := by decide +kernel
theorem dX10_nameHere_15 : decode cX10_nameHere 15 = .ok (.aload_n 0, 1) := by decide +kernel
theorem dX10_nameHere_16 : decode cX10_nameHere 16 = .ok (.getfield 108, 3) := by decide +kernel
theorem dX10_nameHere_19 : decode cX10_nameHere 19 = .ok (.iconst 1, 1) := by decide +kernel
theorem dX10_nameHere_20 : decode cX10_nameHere 20 = .ok (.if_icmp .eq 8, 3) := by decide +kernel
theorem dX10_nameHere_23 : decode cX10_nameHere 23 = .ok (.aload_n 0, 1) := by decide +kernel
theorem dX10_nameHere_24 : decode cX10_nameHere 24 = .ok (.iconst 1, 1) := by decide +kernel
theorem dX10_nameHere_25 : decode cX10_nameHere 25 = .ok (.invokevirtual 131, 3) := by decide +kernel
theorem dX10_nameHere_28 : decode cX10_nameHere 28 = .ok (.aload_n 0, 1) := by decide +kernel
theorem dX10_nameHere_29 : decode cX10_nameHere 29 = .ok (.getfield 88, 3) := by decide +kernel
theorem dX10_nameHere_32 : decode cX10_nameHere 32 = .ok (.l2i, 1) := by decide +kernel
theorem dX10_nameHere_33 : decode cX10_nameHere 33 = .ok (.iconst 1, 1) := by decide +kernel
theorem dX10_nameHere_34 : decode cX10_nameHere 34 = .ok (.isub, 1) := by decide +kernel
theorem dX10_nameHere_35 : decode cX10_nameHere 35 = .ok (.ireturn, 1) := by decide +kernel
theorem dX10_typeOf_0 : decode cX10_typeOf 0 = .ok (.aload_n 0, 1) := by decide +kernel
theorem dX10_typeOf_1 : decode cX10_typeOf 1 = .ok (.invokevirtual 124, 3) := by decide +kernel
theorem dX10_typeOf_4 : decode cX10_typeOf 4 = .ok (.ifCond .ne 5, 3) := by decide +kernel
theorem dX10_typeOf_7 : decode cX10_typeOf 7 = .ok (.iconst 0, 1) := by decide +kernel
theorem dX10_typeOf_8 : decode cX10_typeOf 8 = .ok (.ireturn, 1) := by decide +kernel
theorem dX10_typeOf_9 : decode cX10_typeOf 9 = .ok (.aload_n 0, 1) := by decide +kernel
theorem dX10_typeOf_10 : decode cX10_typeOf 10 = .ok (.invokevirtual 137, 3) := by decide +kernel
theorem dX10_typeOf_13 : decode cX10_typeOf 13 = .ok (.istore_n 1, 1) := by decide +kernel
theorem dX10_typeOf_14 : decode cX10_typeOf 14 = .ok (.iload_n 1, 1) := by decide +kernel
theorem dX10_typeOf_15 : decode cX10_typeOf 15 = .ok (.ifCond .lt 8, 3) := by decide +kernel
theorem dX10_typeOf_18 : decode cX10_typeOf 18 = .ok (.iload_n 1, 1) := by decide +kernel
theorem dX10_typeOf_19 : decode cX10_typeOf 19 = .ok (.iconst 3, 1) := by decide +kernel
theorem dX10_typeOf_20 : decode cX10_typeOf 20 = .ok (.if_icmp .le 8, 3) := by decide +kernel
theorem dX10_typeOf_23 : decode cX10_typeOf 23 = .ok (.aload_n 0, 1) := by decide +kernel
theorem dX10_typeOf_24 : decode cX10_typeOf 24 = .ok (.iconst 1, 1) := by decide +kernel
theorem dX10_typeOf_25 : decode cX10_typeOf 25 = .ok (.invokevirtual 131, 3) := by decide +kernel
theorem dX10_typeOf_28 : decode cX10_typeOf 28 = .ok (.aload_n 0, 1) := by decide +kernel
theorem dX10_typeOf_29 : decode cX10_typeOf 29 = .ok (.invokevirtual 124, 3) := by decide +kernel
theorem dX10_typeOf_32 : decode cX10_typeOf 32 = .ok (.ifCond .eq 7, 3) := by decide +kernel
theorem dX10_typeOf_35 : decode cX10_typeOf 35 = .ok (.aload_n 0, 1) := by decide +kernel
theorem dX10_typeOf_36 : decode cX10_typeOf 36 = .ok (.invokevirtual 128, 3) := by decide +kernel
theorem dX10_typeOf_39 : decode cX10_typeOf 39 = .ok (.iload_n 1, 1) := by decide +kernel
theorem dX10_typeOf_40 : decode cX10_typeOf 40 = .ok (.ireturn, 1) := by decide +kernel
theorem dX10_cellOf_0 : decode cX10_cellOf 0 = .ok (.aload_n 0, 1) := by decide +kernel
theorem dX10_cellOf_1 : decode cX10_cellOf 1 = .ok (.invokevirtual 124, 3) := by decide +kernel
theorem dX10_cellOf_4 : decode cX10_cellOf 4 = .ok (.ifCond .ne 5, 3) := by decide +kernel
theorem dX10_cellOf_7 : decode cX10_cellOf 7 = .ok (.iconst 0, 1) := by decide +kernel
theorem dX10_cellOf_8 : decode cX10_cellOf 8 = .ok (.ireturn, 1) := by decide +kernel
theorem dX10_cellOf_9 : decode cX10_cellOf 9 = .ok (.aload_n 0, 1) := by decide +kernel
theorem dX10_cellOf_10 : decode cX10_cellOf 10 = .ok (.bipush 95, 2) := by decide +kernel
theorem dX10_cellOf_12 : decode cX10_cellOf 12 = .ok (.invokevirtual 141, 3) := by decide +kernel
theorem dX10_cellOf_15 : decode cX10_cellOf 15 = .ok (.ifCond .eq 11, 3) := by decide +kernel
theorem dX10_cellOf_18 : decode cX10_cellOf 18 = .ok (.aload_n 0, 1) := by decide +kernel
theorem dX10_cellOf_19 : decode cX10_cellOf 19 = .ok (.invokevirtual 128, 3) := by decide +kernel
theorem dX10_cellOf_22 : decode cX10_cellOf 22 = .ok (.sipush 9999, 3) := by decide +kernel
theorem dX10_cellOf_25 : decode cX10_cellOf 25 = .ok (.ireturn, 1) := by decide +kernel
theorem dX10_cellOf_26 : decode cX10_cellOf 26 = .ok (.aload_n 0, 1) := by decide +kernel
theorem dX10_cellOf_27 : decode cX10_cellOf 27 = .ok (.bipush 45, 2) := by decide +kernel
theorem dX10_cellOf_29 : decode cX10_cellOf 29 = .ok (.invokevirtual 141, 3) := by decide +kernel
theorem dX10_cellOf_32 : decode cX10_cellOf 32 = .ok (.istore_n 1, 1) := by decide +kernel
theorem dX10_cellOf_33 : decode cX10_cellOf 33 = .ok (.iload_n 1, 1) := by decide +kernel
theorem dX10_cellOf_34 : decode cX10_cellOf 34 = .ok (.ifCond .eq 7, 3) := by decide +kernel
theorem dX10_cellOf_37 : decode cX10_cellOf 37 = .ok (.aload_n 0, 1) := by decide +kernel
theorem dX10_cellOf_38 : decode cX10_cellOf 38 = .ok (.invokevirtual 128, 3) := by decide +kernel
theorem dX10_cellOf_41 : decode cX10_cellOf 41 = .ok (.aload_n 0, 1) := by decide +kernel
theorem dX10_cellOf_42 : decode cX10_cellOf 42 = .ok (.sipush 999, 3) := by decide +kernel
theorem dX10_cellOf_45 : decode cX10_cellOf 45 = .ok (.invokevirtual 144, 3) := by decide +kernel
theorem dX10_cellOf_48 : decode cX10_cellOf 48 = .ok (.istore_n 2, 1) := by decide +kernel
theorem dX10_cellOf_49 : decode cX10_cellOf 49 = .ok (.iload_n 1, 1) := by decide +kernel
theorem dX10_cellOf_50 : decode cX10_cellOf 50 = .ok (.ifCond .eq 9, 3) := by decide +kernel
theorem dX10_cellOf_53 : decode cX10_cellOf 53 = .ok (.iconst 0, 1) := by decide +kernel
theorem dX10_cellOf_54 : decode cX10_cellOf 54 = .ok (.iload_n 2, 1) := by decide +kernel
theorem dX10_cellOf_55 : decode cX10_cellOf 55 = .ok (.isub, 1) := by decide +kernel
theorem dX10_cellOf_56 : decode cX10_cellOf 56 = .ok (.goto 4, 3) := by decide +kernel
theorem dX10_cellOf_59 : decode cX10_cellOf 59 = .ok (.iload_n 2, 1) := by decide +kernel
theorem dX10_cellOf_60 : decode cX10_cellOf 60 = .ok (.ireturn, 1) := by decide +kernel
theorem dX10_readsColumn_0 : decode cX10_readsColumn 0 = .ok (.aload_n 0, 1) := by decide +kernel
theorem dX10_readsColumn_1 : decode cX10_readsColumn 1 = .ok (.getfield 147, 3) := by decide +kernel
theorem dX10_readsColumn_4 : decode cX10_readsColumn 4 = .ok (.istore_n 1, 1) := by decide +kernel
theorem dX10_readsColumn_5 : decode cX10_readsColumn 5 = .ok (.aload_n 0, 1) := by decide +kernel
theorem dX10_readsColumn_6 : decode cX10_readsColumn 6 = .ok (.invokevirtual 150, 3) := by decide +kernel
theorem dX10_readsColumn_9 : decode cX10_readsColumn 9 = .ok (.istore_n 2, 1) := by decide +kernel
theorem dX10_readsColumn_10 : decode cX10_readsColumn 10 = .ok (.aload_n 0, 1) := by decide +kernel
theorem dX10_readsColumn_11 : decode cX10_readsColumn 11 = .ok (.invokevirtual 124, 3) := by decide +kernel
theorem dX10_readsColumn_14 : decode cX10_readsColumn 14 = .ok (.ifCond .eq 20, 3) := by decide +kernel
theorem dX10_readsColumn_17 : decode cX10_readsColumn 17 = .ok (.aload_n 0, 1) := by decide +kernel
theorem dX10_readsColumn_18 : decode cX10_readsColumn 18 = .ok (.sipush 931, 3) := by decide +kernel
theorem dX10_readsColumn_21 : decode cX10_readsColumn 21 = .ok (.iconst 2, 1) := by decide +kernel
theorem dX10_readsColumn_22 : decode cX10_readsColumn 22 = .ok (.iload_n 2, 1) := by decide +kernel
theorem dX10_readsColumn_23 : decode cX10_readsColumn 23 = .ok (.invokevirtual 153, 3) := by decide +kernel
theorem dX10_readsColumn_26 : decode cX10_readsColumn 26 = .ok (.ifCond .eq 8, 3) := by decide +kernel
theorem dX10_readsColumn_29 : decode cX10_readsColumn 29 = .ok (.aload_n 0, 1) := by decide +kernel
theorem dX10_readsColumn_30 : decode cX10_readsColumn 30 = .ok (.iconst 4, 1) := by decide +kernel
theorem dX10_readsColumn_31 : decode cX10_readsColumn 31 = .ok (.invokevirtual 131, 3) := by decide +kernel
theorem dX10_readsColumn_34 : decode cX10_readsColumn 34 = .ok (.aload_n 0, 1) := by decide +kernel
theorem dX10_readsColumn_35 : decode cX10_readsColumn 35 = .ok (.invokevirtual 124, 3) := by decide +kernel
theorem dX10_readsColumn_38 : decode cX10_readsColumn 38 = .ok (.ifCond .ne 4, 3) := by decide +kernel
theorem dX10_readsColumn_41 : decode cX10_readsColumn 41 = .ok (.return_, 1) := by decide +kernel
theorem dX10_readsColumn_42 : decode cX10_readsColumn 42 = .ok (.aload_n 0, 1) := by decide +kernel
theorem dX10_readsColumn_43 : decode cX10_readsColumn 43 = .ok (.invokevirtual 128, 3) := by decide +kernel
theorem dX10_readsColumn_46 : decode cX10_readsColumn 46 = .ok (.aload_n 0, 1) := by decide +kernel
theorem dX10_readsColumn_47 : decode cX10_readsColumn 47 = .ok (.invokevirtual 157, 3) := by decide +kernel
theorem dX10_readsColumn_50 : decode cX10_readsColumn 50 = .ok (.istore_n 3, 1) := by decide +kernel
theorem dX10_readsColumn_51 : decode cX10_readsColumn 51 = .ok (.aload_n 0, 1) := by decide +kernel
theorem dX10_readsColumn_52 : decode cX10_readsColumn 52 = .ok (.invokevirtual 124, 3) := by decide +kernel
theorem dX10_readsColumn_55 : decode cX10_readsColumn 55 = .ok (.ifCond .ne 4, 3) := by decide +kernel
theorem dX10_readsColumn_58 : decode cX10_readsColumn 58 = .ok (.return_, 1) := by decide +kernel
theorem dX10_readsColumn_59 : decode cX10_readsColumn 59 = .ok (.aload_n 0, 1) := by decide +kernel
theorem dX10_readsColumn_60 : decode cX10_readsColumn 60 = .ok (.getfield 20, 3) := by decide +kernel
theorem dX10_readsColumn_63 : decode cX10_readsColumn 63 = .ok (.sipush 1331, 3) := by decide +kernel
theorem dX10_readsColumn_66 : decode cX10_readsColumn 66 = .ok (.dup2, 1) := by decide +kernel
theorem dX10_readsColumn_67 : decode cX10_readsColumn 67 = .ok (.iaload, 1) := by decide +kernel
theorem dX10_readsColumn_68 : decode cX10_readsColumn 68 = .ok (.iconst 1, 1) := by decide +kernel
theorem dX10_readsColumn_69 : decode cX10_readsColumn 69 = .ok (.iload_n 1, 1) := by decide +kernel
theorem dX10_readsColumn_70 : decode cX10_readsColumn 70 = .ok (.ishl, 1) := by decide +kernel
theorem dX10_readsColumn_71 : decode cX10_readsColumn 71 = .ok (.ior, 1) := by decide +kernel
theorem dX10_readsColumn_72 : decode cX10_readsColumn 72 = .ok (.iastore, 1) := by decide +kernel
theorem dX10_readsColumn_73 : decode cX10_readsColumn 73 = .ok (.aload_n 0, 1) := by decide +kernel
theorem dX10_readsColumn_74 : decode cX10_readsColumn 74 = .ok (.getfield 20, 3) := by decide +kernel
theorem dX10_readsColumn_77 : decode cX10_readsColumn 77 = .ok (.sipush 1333, 3) := by decide +kernel
theorem dX10_readsColumn_80 : decode cX10_readsColumn 80 = .ok (.iload_n 1, 1) := by decide +kernel
theorem dX10_readsColumn_81 : decode cX10_readsColumn 81 = .ok (.iadd, 1) := by decide +kernel
theorem dX10_readsColumn_82 : decode cX10_readsColumn 82 = .ok (.iload_n 2, 1) := by decide +kernel
theorem dX10_readsColumn_83 : decode cX10_readsColumn 83 = .ok (.iastore, 1) := by decide +kernel
theorem dX10_readsColumn_84 : decode cX10_readsColumn 84 = .ok (.aload_n 0, 1) := by decide +kernel
theorem dX10_readsColumn_85 : decode cX10_readsColumn 85 = .ok (.getfield 20, 3) := by decide +kernel
theorem dX10_readsColumn_88 : decode cX10_readsColumn 88 = .ok (.sipush 1342, 3) := by decide +kernel
theorem dX10_readsColumn_91 : decode cX10_readsColumn 91 = .ok (.iload_n 1, 1) := by decide +kernel
theorem dX10_readsColumn_92 : decode cX10_readsColumn 92 = .ok (.iadd, 1) := by decide +kernel
theorem dX10_readsColumn_93 : decode cX10_readsColumn 93 = .ok (.iload_n 3, 1) := by decide +kernel
theorem dX10_readsColumn_94 : decode cX10_readsColumn 94 = .ok (.iastore, 1) := by decide +kernel
theorem dX10_readsColumn_95 : decode cX10_readsColumn 95 = .ok (.aload_n 0, 1) := by decide +kernel
theorem dX10_readsColumn_96 : decode cX10_readsColumn 96 = .ok (.dup, 1) := by decide +kernel
theorem dX10_readsColumn_97 : decode cX10_readsColumn 97 = .ok (.getfield 147, 3) := by decide +kernel
theorem dX10_readsColumn_100 : decode cX10_readsColumn 100 = .ok (.iconst 1, 1) := by decide +kernel
theorem dX10_readsColumn_101 : decode cX10_readsColumn 101 = .ok (.iadd, 1) := by decide +kernel
theorem dX10_readsColumn_102 : decode cX10_readsColumn 102 = .ok (.putfield 147, 3) := by decide +kernel
theorem dX10_readsColumn_105 : decode cX10_readsColumn 105 = .ok (.return_, 1) := by decide +kernel
theorem dX10_readsRow_0 : decode cX10_readsRow 0 = .ok (.aload_n 0, 1) := by decide +kernel
theorem dX10_readsRow_1 : decode cX10_readsRow 1 = .ok (.bipush 19, 2) := by decide +kernel
theorem dX10_readsRow_3 : decode cX10_readsRow 3 = .ok (.invokevirtual 134, 3) := by decide +kernel
theorem dX10_readsRow_6 : decode cX10_readsRow 6 = .ok (.istore_n 1, 1) := by decide +kernel
theorem dX10_readsRow_7 : decode cX10_readsRow 7 = .ok (.aload_n 0, 1) := by decide +kernel
theorem dX10_readsRow_8 : decode cX10_readsRow 8 = .ok (.invokevirtual 124, 3) := by decide +kernel
theorem dX10_readsRow_11 : decode cX10_readsRow 11 = .ok (.ifCond .eq 20, 3) := by decide +kernel
theorem dX10_readsRow_14 : decode cX10_readsRow 14 = .ok (.aload_n 0, 1) := by decide +kernel
theorem dX10_readsRow_15 : decode cX10_readsRow 15 = .ok (.sipush 931, 3) := by decide +kernel
theorem dX10_readsRow_18 : decode cX10_readsRow 18 = .ok (.iconst 2, 1) := by decide +kernel
theorem dX10_readsRow_19 : decode cX10_readsRow 19 = .ok (.iload_n 1, 1) := by decide +kernel
theorem dX10_readsRow_20 : decode cX10_readsRow 20 = .ok (.invokevirtual 160, 3) := by decide +kernel
theorem dX10_readsRow_23 : decode cX10_readsRow 23 = .ok (.ifCond .eq 8, 3) := by decide +kernel
theorem dX10_readsRow_26 : decode cX10_readsRow 26 = .ok (.aload_n 0, 1) := by decide +kernel
theorem dX10_readsRow_27 : decode cX10_readsRow 27 = .ok (.iconst 4, 1) := by decide +kernel
theorem dX10_readsRow_28 : decode cX10_readsRow 28 = .ok (.invokevirtual 131, 3) := by decide +kernel
theorem dX10_readsRow_31 : decode cX10_readsRow 31 = .ok (.aload_n 0, 1) := by decide +kernel
theorem dX10_readsRow_32 : decode cX10_readsRow 32 = .ok (.invokevirtual 124, 3) := by decide +kernel
theorem dX10_readsRow_35 : decode cX10_readsRow 35 = .ok (.ifCond .ne 4, 3) := by decide +kernel
theorem dX10_readsRow_38 : decode cX10_readsRow 38 = .ok (.return_, 1) := by decide +kernel
theorem dX10_readsRow_39 : decode cX10_readsRow 39 = .ok (.aload_n 0, 1) := by decide +kernel
theorem dX10_readsRow_40 : decode cX10_readsRow 40 = .ok (.invokevirtual 128, 3) := by decide +kernel
theorem dX10_readsRow_43 : decode cX10_readsRow 43 = .ok (.iconst 0, 1) := by decide +kernel
theorem dX10_readsRow_44 : decode cX10_readsRow 44 = .ok (.istore_n 2, 1) := by decide +kernel
theorem dX10_readsRow_45 : decode cX10_readsRow 45 = .ok (.iload_n 2, 1) := by decide +kernel
theorem dX10_readsRow_46 : decode cX10_readsRow 46 = .ok (.aload_n 0, 1) := by decide +kernel
theorem dX10_readsRow_47 : decode cX10_readsRow 47 = .ok (.getfield 147, 3) := by decide +kernel
theorem dX10_readsRow_50 : decode cX10_readsRow 50 = .ok (.if_icmp .ge 77, 3) := by decide +kernel
theorem dX10_readsRow_53 : decode cX10_readsRow 53 = .ok (.aload_n 0, 1) := by decide +kernel
theorem dX10_readsRow_54 : decode cX10_readsRow 54 = .ok (.invokevirtual 124, 3) := by decide +kernel
theorem dX10_readsRow_57 : decode cX10_readsRow 57 = .ok (.ifCond .eq 70, 3) := by decide +kernel
theorem dX10_readsRow_60 : decode cX10_readsRow 60 = .ok (.aload_n 0, 1) := by decide +kernel
theorem dX10_readsRow_61 : decode cX10_readsRow 61 = .ok (.getfield 85, 3) := by decide +kernel
theorem dX10_readsRow_64 : decode cX10_readsRow 64 = .ok (.istore_n 3, 1) := by decide +kernel
theorem dX10_readsRow_65 : decode cX10_readsRow 65 = .ok (.aload_n 0, 1) := by decide +kernel
theorem dX10_readsRow_66 : decode cX10_readsRow 66 = .ok (.invokevirtual 163, 3) := by decide +kernel
theorem dX10_readsRow_69 : decode cX10_readsRow 69 = .ok (.istore 4, 2) := by decide +kernel
theorem dX10_readsRow_71 : decode cX10_readsRow 71 = .ok (.aload_n 0, 1) := by decide +kernel
theorem dX10_readsRow_72 : decode cX10_readsRow 72 = .ok (.invokevirtual 124, 3) := by decide +kernel
theorem dX10_readsRow_75 : decode cX10_readsRow 75 = .ok (.ifCond .eq 30, 3) := by decide +kernel
theorem dX10_readsRow_78 : decode cX10_readsRow 78 = .ok (.aload_n 0, 1) := by decide +kernel
theorem dX10_readsRow_79 : decode cX10_readsRow 79 = .ok (.sipush 931, 3) := by decide +kernel
theorem dX10_readsRow_82 : decode cX10_readsRow 82 = .ok (.iconst 2, 1) := by decide +kernel
theorem dX10_readsRow_83 : decode cX10_readsRow 83 = .ok (.iload_n 2, 1) := by decide +kernel
theorem dX10_readsRow_84 : decode cX10_readsRow 84 = .ok (.invokevirtual 166, 3) := by decide +kernel
theorem dX10_readsRow_87 : decode cX10_readsRow 87 = .ok (.iload 4, 2) := by decide +kernel
theorem dX10_readsRow_89 : decode cX10_readsRow 89 = .ok (.invokestatic 170, 3) := by decide +kernel
theorem dX10_readsRow_92 : decode cX10_readsRow 92 = .ok (.ifCond .ne 13, 3) := by decide +kernel
theorem dX10_readsRow_95 : decode cX10_readsRow 95 = .ok (.aload_n 0, 1) := by decide +kernel
theorem dX10_readsRow_96 : decode cX10_readsRow 96 = .ok (.iconst 5, 1) := by decide +kernel
theorem dX10_readsRow_97 : decode cX10_readsRow 97 = .ok (.invokevirtual 131, 3) := by decide +kernel
theorem dX10_readsRow_100 : decode cX10_readsRow 100 = .ok (.aload_n 0, 1) := by decide +kernel
theorem dX10_readsRow_101 : decode cX10_readsRow 101 = .ok (.iload_n 3, 1) := by decide +kernel
theorem dX10_readsRow_102 : decode cX10_readsRow 102 = .ok (.putfield 13, 3) := by decide +kernel
theorem dX10_readsRow_105 : decode cX10_readsRow 105 = .ok (.aload_n 0, 1) := by decide +kernel
theorem dX10_readsRow_106 : decode cX10_readsRow 106 = .ok (.getfield 20, 3) := by decide +kernel
theorem dX10_readsRow_109 : decode cX10_readsRow 109 = .ok (.sipush 931, 3) := by decide +kernel
theorem dX10_readsRow_112 : decode cX10_readsRow 112 = .ok (.iconst 2, 1) := by decide +kernel
theorem dX10_readsRow_113 : decode cX10_readsRow 113 = .ok (.iload_n 1, 1) := by decide +kernel
theorem dX10_readsRow_114 : decode cX10_readsRow 114 = .ok (.iload_n 2, 1) := by decide +kernel
theorem dX10_readsRow_115 : decode cX10_readsRow 115 = .ok (.invokestatic 174, 3) := by decide +kernel
theorem dX10_readsRow_118 : decode cX10_readsRow 118 = .ok (.iload 4, 2) := by decide +kernel
theorem dX10_readsRow_120 : decode cX10_readsRow 120 = .ok (.iastore, 1) := by decide +kernel
theorem dX10_readsRow_121 : decode cX10_readsRow 121 = .ok (.iinc 2 1, 3) := by decide +kernel
theorem dX10_readsRow_124 : decode cX10_readsRow 124 = .ok (.goto (-79), 3) := by decide +kernel
theorem dX10_readsRow_127 : decode cX10_readsRow 127 = .ok (.aload_n 0, 1) := by decide +kernel
theorem dX10_readsRow_128 : decode cX10_readsRow 128 = .ok (.invokevirtual 124, 3) := by decide +kernel
theorem dX10_readsRow_131 : decode cX10_readsRow 131 = .ok (.ifCond .ne 4, 3) := by decide +kernel
theorem dX10_readsRow_134 : decode cX10_readsRow 134 = .ok (.return_, 1) := by decide +kernel
theorem dX10_readsRow_135 : decode cX10_readsRow 135 = .ok (.aload_n 0, 1) := by decide +kernel
theorem dX10_readsRow_136 : decode cX10_readsRow 136 = .ok (.getfield 20, 3) := by decide +kernel
theorem dX10_readsRow_139 : decode cX10_readsRow 139 = .ok (.sipush 1332, 3) := by decide +kernel
theorem dX10_readsRow_142 : decode cX10_readsRow 142 = .ok (.dup2, 1) := by decide +kernel
theorem dX10_readsRow_143 : decode cX10_readsRow 143 = .ok (.iaload, 1) := by decide +kernel
theorem dX10_readsRow_144 : decode cX10_readsRow 144 = .ok (.iconst 1, 1) := by decide +kernel
theorem dX10_readsRow_145 : decode cX10_readsRow 145 = .ok (.iload_n 1, 1) := by decide +kernel
theorem dX10_readsRow_146 : decode cX10_readsRow 146 = .ok (.ishl, 1) := by decide +kernel
theorem dX10_readsRow_147 : decode cX10_readsRow 147 = .ok (.ior, 1) := by decide +kernel
theorem dX10_readsRow_148 : decode cX10_readsRow 148 = .ok (.iastore, 1) := by decide +kernel
theorem dX10_readsRow_149 : decode cX10_readsRow 149 = .ok (.aload_n 0, 1) := by decide +kernel
theorem dX10_readsRow_150 : decode cX10_readsRow 150 = .ok (.dup, 1) := by decide +kernel
theorem dX10_readsRow_151 : decode cX10_readsRow 151 = .ok (.getfield 178, 3) := by decide +kernel
theorem dX10_readsRow_154 : decode cX10_readsRow 154 = .ok (.iconst 1, 1) := by decide +kernel
theorem dX10_readsRow_155 : decode cX10_readsRow 155 = .ok (.iadd, 1) := by decide +kernel
theorem dX10_readsRow_156 : decode cX10_readsRow 156 = .ok (.putfield 178, 3) := by decide +kernel
theorem dX10_readsRow_159 : decode cX10_readsRow 159 = .ok (.return_, 1) := by decide +kernel
theorem dX10_columnHere_0 : decode cX10_columnHere 0 = .ok (.aload_n 0, 1) := by decide +kernel
theorem dX10_columnHere_1 : decode cX10_columnHere 1 = .ok (.sipush 9999, 3) := by decide +kernel
theorem dX10_columnHere_4 : decode cX10_columnHere 4 = .ok (.invokevirtual 134, 3) := by decide +kernel
theorem dX10_columnHere_7 : decode cX10_columnHere 7 = .ok (.istore_n 1, 1) := by decide +kernel
theorem dX10_columnHere_8 : decode cX10_columnHere 8 = .ok (.aload_n 0, 1) := by decide +kernel
theorem dX10_columnHere_9 : decode cX10_columnHere 9 = .ok (.invokevirtual 124, 3) := by decide +kernel
theorem dX10_columnHere_12 : decode cX10_columnHere 12 = .ok (.ifCond .eq 16, 3) := by decide +kernel
theorem dX10_columnHere_15 : decode cX10_columnHere 15 = .ok (.iload_n 1, 1) := by decide +kernel
theorem dX10_columnHere_16 : decode cX10_columnHere 16 = .ok (.aload_n 0, 1) := by decide +kernel
theorem dX10_columnHere_17 : decode cX10_columnHere 17 = .ok (.getfield 147, 3) := by decide +kernel
theorem dX10_columnHere_20 : decode cX10_columnHere 20 = .ok (.if_icmp .lt 8, 3) := by decide +kernel
theorem dX10_columnHere_23 : decode cX10_columnHere 23 = .ok (.aload_n 0, 1) := by decide +kernel
theorem dX10_columnHere_24 : decode cX10_columnHere 24 = .ok (.iconst 3, 1) := by decide +kernel
theorem dX10_columnHere_25 : decode cX10_columnHere 25 = .ok (.invokevirtual 131, 3) := by decide +kernel
theorem dX10_columnHere_28 : decode cX10_columnHere 28 = .ok (.iload_n 1, 1) := by decide +kernel
theorem dX10_columnHere_29 : decode cX10_columnHere 29 = .ok (.ireturn, 1) := by decide +kernel
theorem dX10_readsDemand_0 : decode cX10_readsDemand 0 = .ok (.aload_n 0, 1) := by decide +kernel
theorem dX10_readsDemand_1 : decode cX10_readsDemand 1 = .ok (.getfield 20, 3) := by decide +kernel
theorem dX10_readsDemand_4 : decode cX10_readsDemand 4 = .ok (.sipush 1531, 3) := by decide +kernel
theorem dX10_readsDemand_7 : decode cX10_readsDemand 7 = .ok (.iaload, 1) := by decide +kernel
theorem dX10_readsDemand_8 : decode cX10_readsDemand 8 = .ok (.istore_n 2, 1) := by decide +kernel
theorem dX10_readsDemand_9 : decode cX10_readsDemand 9 = .ok (.aload_n 0, 1) := by decide +kernel
theorem dX10_readsDemand_10 : decode cX10_readsDemand 10 = .ok (.invokevirtual 181, 3) := by decide +kernel
theorem dX10_readsDemand_13 : decode cX10_readsDemand 13 = .ok (.istore_n 3, 1) := by decide +kernel
theorem dX10_readsDemand_14 : decode cX10_readsDemand 14 = .ok (.aload_n 0, 1) := by decide +kernel
theorem dX10_readsDemand_15 : decode cX10_readsDemand 15 = .ok (.invokevirtual 124, 3) := by decide +kernel
theorem dX10_readsDemand_18 : decode cX10_readsDemand 18 = .ok (.ifCond .eq 7, 3) := by decide +kernel
theorem dX10_readsDemand_21 : decode cX10_readsDemand 21 = .ok (.aload_n 0, 1) := by decide +kernel
theorem dX10_readsDemand_22 : decode cX10_readsDemand 22 = .ok (.invokevirtual 128, 3) := by decide +kernel
theorem dX10_readsDemand_25 : decode cX10_readsDemand 25 = .ok (.iconst 0, 1) := by decide +kernel
theorem dX10_readsDemand_26 : decode cX10_readsDemand 26 = .ok (.istore 4, 2) := by decide +kernel
theorem dX10_readsDemand_28 : decode cX10_readsDemand 28 = .ok (.iload_n 1, 1) := by decide +kernel
theorem dX10_readsDemand_29 : decode cX10_readsDemand 29 = .ok (.iconst 2, 1) := by decide +kernel
theorem dX10_readsDemand_30 : decode cX10_readsDemand 30 = .ok (.if_icmp .ne 38, 3) := by decide +kernel
theorem dX10_readsDemand_33 : decode cX10_readsDemand 33 = .ok (.aload_n 0, 1) := by decide +kernel
theorem dX10_readsDemand_34 : decode cX10_readsDemand 34 = .ok (.invokevirtual 181, 3) := by decide +kernel
theorem dX10_readsDemand_37 : decode cX10_readsDemand 37 = .ok (.istore 4, 2) := by decide +kernel
theorem dX10_readsDemand_39 : decode cX10_readsDemand 39 = .ok (.aload_n 0, 1) := by decide +kernel
theorem dX10_readsDemand_40 : decode cX10_readsDemand 40 = .ok (.invokevirtual 124, 3) := by decide +kernel
theorem dX10_readsDemand_43 : decode cX10_readsDemand 43 = .ok (.ifCond .eq 14, 3) := by decide +kernel
theorem dX10_readsDemand_46 : decode cX10_readsDemand 46 = .ok (.iload_n 3, 1) := by decide +kernel
theorem dX10_readsDemand_47 : decode cX10_readsDemand 47 = .ok (.iload 4, 2) := by decide +kernel
theorem dX10_readsDemand_49 : decode cX10_readsDemand 49 = .ok (.if_icmp .ne 8, 3) := by decide +kernel
theorem dX10_readsDemand_52 : decode cX10_readsDemand 52 = .ok (.aload_n 0, 1) := by decide +kernel
theorem dX10_readsDemand_53 : decode cX10_readsDemand 53 = .ok (.iconst 3, 1) := by decide +kernel
theorem dX10_readsDemand_54 : decode cX10_readsDemand 54 = .ok (.invokevirtual 131, 3) := by decide +kernel
theorem dX10_readsDemand_57 : decode cX10_readsDemand 57 = .ok (.aload_n 0, 1) := by decide +kernel
theorem dX10_readsDemand_58 : decode cX10_readsDemand 58 = .ok (.invokevirtual 124, 3) := by decide +kernel
theorem dX10_readsDemand_61 : decode cX10_readsDemand 61 = .ok (.ifCond .eq 7, 3) := by decide +kernel
theorem dX10_readsDemand_64 : decode cX10_readsDemand 64 = .ok (.aload_n 0, 1) := by decide +kernel
theorem dX10_readsDemand_65 : decode cX10_readsDemand 65 = .ok (.invokevirtual 128, 3) := by decide +kernel
theorem dX10_readsDemand_68 : decode cX10_readsDemand 68 = .ok (.aload_n 0, 1) := by decide +kernel
theorem dX10_readsDemand_69 : decode cX10_readsDemand 69 = .ok (.invokevirtual 124, 3) := by decide +kernel
theorem dX10_readsDemand_72 : decode cX10_readsDemand 72 = .ok (.ifCond .ne 4, 3) := by decide +kernel
theorem dX10_readsDemand_75 : decode cX10_readsDemand 75 = .ok (.return_, 1) := by decide +kernel
theorem dX10_readsDemand_76 : decode cX10_readsDemand 76 = .ok (.aload_n 0, 1) := by decide +kernel
theorem dX10_readsDemand_77 : decode cX10_readsDemand 77 = .ok (.getfield 20, 3) := by decide +kernel
theorem dX10_readsDemand_80 : decode cX10_readsDemand 80 = .ok (.sipush 1532, 3) := by decide +kernel
theorem dX10_readsDemand_83 : decode cX10_readsDemand 83 = .ok (.iload_n 2, 1) := by decide +kernel
theorem dX10_readsDemand_84 : decode cX10_readsDemand 84 = .ok (.iadd, 1) := by decide +kernel
theorem dX10_readsDemand_85 : decode cX10_readsDemand 85 = .ok (.iload_n 1, 1) := by decide +kernel
theorem dX10_readsDemand_86 : decode cX10_readsDemand 86 = .ok (.iastore, 1) := by decide +kernel
theorem dX10_readsDemand_87 : decode cX10_readsDemand 87 = .ok (.aload_n 0, 1) := by decide +kernel
theorem dX10_readsDemand_88 : decode cX10_readsDemand 88 = .ok (.getfield 20, 3) := by decide +kernel
theorem dX10_readsDemand_91 : decode cX10_readsDemand 91 = .ok (.sipush 1536, 3) := by decide +kernel
theorem dX10_readsDemand_94 : decode cX10_readsDemand 94 = .ok (.iload_n 2, 1) := by decide +kernel
theorem dX10_readsDemand_95 : decode cX10_readsDemand 95 = .ok (.iadd, 1) := by decide +kernel
theorem dX10_readsDemand_96 : decode cX10_readsDemand 96 = .ok (.iload_n 3, 1) := by decide +kernel
theorem dX10_readsDemand_97 : decode cX10_readsDemand 97 = .ok (.iastore, 1) := by decide +kernel
theorem dX10_readsDemand_98 : decode cX10_readsDemand 98 = .ok (.aload_n 0, 1) := by decide +kernel
theorem dX10_readsDemand_99 : decode cX10_readsDemand 99 = .ok (.getfield 20, 3) := by decide +kernel
theorem dX10_readsDemand_102 : decode cX10_readsDemand 102 = .ok (.sipush 1540, 3) := by decide +kernel
theorem dX10_readsDemand_105 : decode cX10_readsDemand 105 = .ok (.iload_n 2, 1) := by decide +kernel
theorem dX10_readsDemand_106 : decode cX10_readsDemand 106 = .ok (.iadd, 1) := by decide +kernel
theorem dX10_readsDemand_107 : decode cX10_readsDemand 107 = .ok (.iload 4, 2) := by decide +kernel
theorem dX10_readsDemand_109 : decode cX10_readsDemand 109 = .ok (.iastore, 1) := by decide +kernel
theorem dX10_readsDemand_110 : decode cX10_readsDemand 110 = .ok (.aload_n 0, 1) := by decide +kernel
theorem dX10_readsDemand_111 : decode cX10_readsDemand 111 = .ok (.getfield 20, 3) := by decide +kernel
theorem dX10_readsDemand_114 : decode cX10_readsDemand 114 = .ok (.sipush 1531, 3) := by decide +kernel
theorem dX10_readsDemand_117 : decode cX10_readsDemand 117 = .ok (.dup2, 1) := by decide +kernel
theorem dX10_readsDemand_118 : decode cX10_readsDemand 118 = .ok (.iaload, 1) := by decide +kernel
theorem dX10_readsDemand_119 : decode cX10_readsDemand 119 = .ok (.iconst 1, 1) := by decide +kernel
theorem dX10_readsDemand_120 : decode cX10_readsDemand 120 = .ok (.iadd, 1) := by decide +kernel
theorem dX10_readsDemand_121 : decode cX10_readsDemand 121 = .ok (.iastore, 1) := by decide +kernel
theorem dX10_readsDemand_122 : decode cX10_readsDemand 122 = .ok (.return_, 1) := by decide +kernel
theorem dX10_sidesBegin_0 : decode cX10_sidesBegin 0 = .ok (.iconst 0, 1) := by decide +kernel
theorem dX10_sidesBegin_1 : decode cX10_sidesBegin 1 = .ok (.istore_n 2, 1) := by decide +kernel
theorem dX10_sidesBegin_2 : decode cX10_sidesBegin 2 = .ok (.iload_n 2, 1) := by decide +kernel
theorem dX10_sidesBegin_3 : decode cX10_sidesBegin 3 = .ok (.sipush 200, 3) := by decide +kernel
theorem dX10_sidesBegin_6 : decode cX10_sidesBegin 6 = .ok (.if_icmp .ge 53, 3) := by decide +kernel
theorem dX10_sidesBegin_9 : decode cX10_sidesBegin 9 = .ok (.aload_n 0, 1) := by decide +kernel
theorem dX10_sidesBegin_10 : decode cX10_sidesBegin 10 = .ok (.getfield 20, 3) := by decide +kernel
theorem dX10_sidesBegin_13 : decode cX10_sidesBegin 13 = .ok (.iload_n 1, 1) := by decide +kernel
theorem dX10_sidesBegin_14 : decode cX10_sidesBegin 14 = .ok (.iload_n 2, 1) := by decide +kernel
theorem dX10_sidesBegin_15 : decode cX10_sidesBegin 15 = .ok (.iadd, 1) := by decide +kernel
theorem dX10_sidesBegin_16 : decode cX10_sidesBegin 16 = .ok (.aload_n 0, 1) := by decide +kernel
theorem dX10_sidesBegin_17 : decode cX10_sidesBegin 17 = .ok (.getfield 20, 3) := by decide +kernel
theorem dX10_sidesBegin_20 : decode cX10_sidesBegin 20 = .ok (.iload_n 1, 1) := by decide +kernel
theorem dX10_sidesBegin_21 : decode cX10_sidesBegin 21 = .ok (.sipush 400, 3) := by decide +kernel
theorem dX10_sidesBegin_24 : decode cX10_sidesBegin 24 = .ok (.iadd, 1) := by decide +kernel
theorem dX10_sidesBegin_25 : decode cX10_sidesBegin 25 = .ok (.iload_n 2, 1) := by decide +kernel
theorem dX10_sidesBegin_26 : decode cX10_sidesBegin 26 = .ok (.iadd, 1) := by decide +kernel
theorem dX10_sidesBegin_27 : decode cX10_sidesBegin 27 = .ok (.iaload, 1) := by decide +kernel
theorem dX10_sidesBegin_28 : decode cX10_sidesBegin 28 = .ok (.iastore, 1) := by decide +kernel
theorem dX10_sidesBegin_29 : decode cX10_sidesBegin 29 = .ok (.aload_n 0, 1) := by decide +kernel
theorem dX10_sidesBegin_30 : decode cX10_sidesBegin 30 = .ok (.getfield 20, 3) := by decide +kernel
theorem dX10_sidesBegin_33 : decode cX10_sidesBegin 33 = .ok (.iload_n 1, 1) := by decide +kernel
theorem dX10_sidesBegin_34 : decode cX10_sidesBegin 34 = .ok (.sipush 200, 3) := by decide +kernel
theorem dX10_sidesBegin_37 : decode cX10_sidesBegin 37 = .ok (.iadd, 1) := by decide +kernel
theorem dX10_sidesBegin_38 : decode cX10_sidesBegin 38 = .ok (.iload_n 2, 1) := by decide +kernel
theorem dX10_sidesBegin_39 : decode cX10_sidesBegin 39 = .ok (.iadd, 1) := by decide +kernel
theorem dX10_sidesBegin_40 : decode cX10_sidesBegin 40 = .ok (.aload_n 0, 1) := by decide +kernel
theorem dX10_sidesBegin_41 : decode cX10_sidesBegin 41 = .ok (.getfield 20, 3) := by decide +kernel
theorem dX10_sidesBegin_44 : decode cX10_sidesBegin 44 = .ok (.iload_n 1, 1) := by decide +kernel
theorem dX10_sidesBegin_45 : decode cX10_sidesBegin 45 = .ok (.sipush 400, 3) := by decide +kernel
theorem dX10_sidesBegin_48 : decode cX10_sidesBegin 48 = .ok (.iadd, 1) := by decide +kernel
theorem dX10_sidesBegin_49 : decode cX10_sidesBegin 49 = .ok (.iload_n 2, 1) := by decide +kernel
theorem dX10_sidesBegin_50 : decode cX10_sidesBegin 50 = .ok (.iadd, 1) := by decide +kernel
theorem dX10_sidesBegin_51 : decode cX10_sidesBegin 51 = .ok (.iaload, 1) := by decide +kernel
theorem dX10_sidesBegin_52 : decode cX10_sidesBegin 52 = .ok (.iastore, 1) := by decide +kernel
theorem dX10_sidesBegin_53 : decode cX10_sidesBegin 53 = .ok (.iinc 2 1, 3) := by decide +kernel
theorem dX10_sidesBegin_56 : decode cX10_sidesBegin 56 = .ok (.goto (-54), 3) := by decide +kernel
theorem dX10_sidesBegin_59 : decode cX10_sidesBegin 59 = .ok (.return_, 1) := by decide +kernel
theorem dX10_readsEdit_0 : decode cX10_readsEdit 0 = .ok (.aload_n 0, 1) := by decide +kernel
theorem dX10_readsEdit_1 : decode cX10_readsEdit 1 = .ok (.getfield 85, 3) := by decide +kernel
theorem dX10_readsEdit_4 : decode cX10_readsEdit 4 = .ok (.istore_n 2, 1) := by decide +kernel
theorem dX10_readsEdit_5 : decode cX10_readsEdit 5 = .ok (.aload_n 0, 1) := by decide +kernel
theorem dX10_readsEdit_6 : decode cX10_readsEdit 6 = .ok (.getfield 184, 3) := by decide +kernel
theorem dX10_readsEdit_9 : decode cX10_readsEdit 9 = .ok (.ifCond .ne 10, 3) := by decide +kernel
theorem dX10_readsEdit_12 : decode cX10_readsEdit 12 = .ok (.aload_n 0, 1) := by decide +kernel
theorem dX10_readsEdit_13 : decode cX10_readsEdit 13 = .ok (.sipush 931, 3) := by decide +kernel
theorem dX10_readsEdit_16 : decode cX10_readsEdit 16 = .ok (.invokevirtual 187, 3) := by decide +kernel
theorem dX10_readsEdit_19 : decode cX10_readsEdit 19 = .ok (.aload_n 0, 1) := by decide +kernel
theorem dX10_readsEdit_20 : decode cX10_readsEdit 20 = .ok (.dup, 1) := by decide +kernel
theorem dX10_readsEdit_21 : decode cX10_readsEdit 21 = .ok (.getfield 184, 3) := by decide +kernel
theorem dX10_readsEdit_24 : decode cX10_readsEdit 24 = .ok (.iconst 1, 1) := by decide +kernel
theorem dX10_readsEdit_25 : decode cX10_readsEdit 25 = .ok (.iadd, 1) := by decide +kernel
theorem dX10_readsEdit_26 : decode cX10_readsEdit 26 = .ok (.putfield 184, 3) := by decide +kernel
theorem dX10_readsEdit_29 : decode cX10_readsEdit 29 = .ok (.aload_n 0, 1) := by decide +kernel
theorem dX10_readsEdit_30 : decode cX10_readsEdit 30 = .ok (.invokevirtual 128, 3) := by decide +kernel
theorem dX10_readsEdit_33 : decode cX10_readsEdit 33 = .ok (.aload_n 0, 1) := by decide +kernel
theorem dX10_readsEdit_34 : decode cX10_readsEdit 34 = .ok (.invokevirtual 137, 3) := by decide +kernel
theorem dX10_readsEdit_37 : decode cX10_readsEdit 37 = .ok (.istore_n 3, 1) := by decide +kernel
theorem dX10_readsEdit_38 : decode cX10_readsEdit 38 = .ok (.iload_n 3, 1) := by decide +kernel
theorem dX10_readsEdit_39 : decode cX10_readsEdit 39 = .ok (.bipush 11, 2) := by decide +kernel
theorem dX10_readsEdit_41 : decode cX10_readsEdit 41 = .ok (.if_icmp .ge 8, 3) := by decide +kernel
theorem dX10_readsEdit_44 : decode cX10_readsEdit 44 = .ok (.aload_n 0, 1) := by decide +kernel
theorem dX10_readsEdit_45 : decode cX10_readsEdit 45 = .ok (.iconst 1, 1) := by decide +kernel
theorem dX10_readsEdit_46 : decode cX10_readsEdit 46 = .ok (.invokevirtual 131, 3) := by decide +kernel
theorem dX10_readsEdit_49 : decode cX10_readsEdit 49 = .ok (.aload_n 0, 1) := by decide +kernel
theorem dX10_readsEdit_50 : decode cX10_readsEdit 50 = .ok (.invokevirtual 124, 3) := by decide +kernel
theorem dX10_readsEdit_53 : decode cX10_readsEdit 53 = .ok (.ifCond .ne 4, 3) := by decide +kernel
theorem dX10_readsEdit_56 : decode cX10_readsEdit 56 = .ok (.return_, 1) := by decide +kernel
theorem dX10_readsEdit_57 : decode cX10_readsEdit 57 = .ok (.aload_n 0, 1) := by decide +kernel
theorem dX10_readsEdit_58 : decode cX10_readsEdit 58 = .ok (.invokevirtual 128, 3) := by decide +kernel
theorem dX10_readsEdit_61 : decode cX10_readsEdit 61 = .ok (.iload_n 3, 1) := by decide +kernel
theorem dX10_readsEdit_62 : decode cX10_readsEdit 62 = .ok (.bipush 13, 2) := by decide +kernel
theorem dX10_readsEdit_64 : decode cX10_readsEdit 64 = .ok (.if_icmp .gt 7, 3) := by decide +kernel
theorem dX10_readsEdit_67 : decode cX10_readsEdit 67 = .ok (.iconst 1, 1) := by decide +kernel
theorem dX10_readsEdit_68 : decode cX10_readsEdit 68 = .ok (.goto 4, 3) := by decide +kernel
theorem dX10_readsEdit_71 : decode cX10_readsEdit 71 = .ok (.iconst 0, 1) := by decide +kernel
theorem dX10_readsEdit_72 : decode cX10_readsEdit 72 = .ok (.istore 4, 2) := by decide +kernel
theorem dX10_readsEdit_74 : decode cX10_readsEdit 74 = .ok (.iload_n 3, 1) := by decide +kernel
theorem dX10_readsEdit_75 : decode cX10_readsEdit 75 = .ok (.bipush 16, 2) := by decide +kernel
theorem dX10_readsEdit_77 : decode cX10_readsEdit 77 = .ok (.if_icmp .ne 10, 3) := by decide +kernel
theorem dX10_readsEdit_80 : decode cX10_readsEdit 80 = .ok (.aload_n 0, 1) := by decide +kernel
theorem dX10_readsEdit_81 : decode cX10_readsEdit 81 = .ok (.invokevirtual 150, 3) := by decide +kernel
theorem dX10_readsEdit_84 : decode cX10_readsEdit 84 = .ok (.goto 20, 3) := by decide +kernel
theorem dX10_readsEdit_87 : decode cX10_readsEdit 87 = .ok (.aload_n 0, 1) := by decide +kernel
theorem dX10_readsEdit_88 : decode cX10_readsEdit 88 = .ok (.iload 4, 2) := by decide +kernel
theorem dX10_readsEdit_90 : decode cX10_readsEdit 90 = .ok (.ifCond .eq 8, 3) := by decide +kernel
theorem dX10_readsEdit_93 : decode cX10_readsEdit 93 = .ok (.bipush 19, 2) := by decide +kernel
theorem dX10_readsEdit_95 : decode cX10_readsEdit 95 = .ok (.goto 6, 3) := by decide +kernel
theorem dX10_readsEdit_98 : decode cX10_readsEdit 98 = .ok (.sipush 9999, 3) := by decide +kernel
theorem dX10_readsEdit_101 : decode cX10_readsEdit 101 = .ok (.invokevirtual 144, 3) := by decide +kernel
theorem dX10_readsEdit_104 : decode cX10_readsEdit 104 = .ok (.istore 5, 2) := by decide +kernel
theorem dX10_readsEdit_106 : decode cX10_readsEdit 106 = .ok (.iload_n 3, 1) := by decide +kernel
theorem dX10_readsEdit_107 : decode cX10_readsEdit 107 = .ok (.bipush 16, 2) := by decide +kernel
theorem dX10_readsEdit_109 : decode cX10_readsEdit 109 = .ok (.if_icmp .ne 14, 3) := by decide +kernel
theorem dX10_readsEdit_112 : decode cX10_readsEdit 112 = .ok (.aload_n 0, 1) := by decide +kernel
theorem dX10_readsEdit_113 : decode cX10_readsEdit 113 = .ok (.invokevirtual 124, 3) := by decide +kernel
theorem dX10_readsEdit_116 : decode cX10_readsEdit 116 = .ok (.ifCond .eq 7, 3) := by decide +kernel
theorem dX10_readsEdit_119 : decode cX10_readsEdit 119 = .ok (.aload_n 0, 1) := by decide +kernel
theorem dX10_readsEdit_120 : decode cX10_readsEdit 120 = .ok (.invokevirtual 128, 3) := by decide +kernel
theorem dX10_readsEdit_123 : decode cX10_readsEdit 123 = .ok (.iload_n 3, 1) := by decide +kernel
theorem dX10_readsEdit_124 : decode cX10_readsEdit 124 = .ok (.bipush 11, 2) := by decide +kernel
theorem dX10_readsEdit_126 : decode cX10_readsEdit 126 = .ok (.if_icmp .ne 13, 3) := by decide +kernel
theorem dX10_readsEdit_129 : decode cX10_readsEdit 129 = .ok (.aload_n 0, 1) := by decide +kernel
theorem dX10_readsEdit_130 : decode cX10_readsEdit 130 = .ok (.sipush 9999, 3) := by decide +kernel
theorem dX10_readsEdit_133 : decode cX10_readsEdit 133 = .ok (.invokevirtual 144, 3) := by decide +kernel
theorem dX10_readsEdit_136 : decode cX10_readsEdit 136 = .ok (.goto 36, 3) := by decide +kernel
theorem dX10_readsEdit_139 : decode cX10_readsEdit 139 = .ok (.iload_n 3, 1) := by decide +kernel
theorem dX10_readsEdit_140 : decode cX10_readsEdit 140 = .ok (.bipush 14, 2) := by decide +kernel
theorem dX10_readsEdit_142 : decode cX10_readsEdit 142 = .ok (.if_icmp .ne 10, 3) := by decide +kernel
theorem dX10_readsEdit_145 : decode cX10_readsEdit 145 = .ok (.aload_n 0, 1) := by decide +kernel
theorem dX10_readsEdit_146 : decode cX10_readsEdit 146 = .ok (.invokevirtual 150, 3) := by decide +kernel
theorem dX10_readsEdit_149 : decode cX10_readsEdit 149 = .ok (.goto 23, 3) := by decide +kernel
theorem dX10_readsEdit_152 : decode cX10_readsEdit 152 = .ok (.iload_n 3, 1) := by decide +kernel
theorem dX10_readsEdit_153 : decode cX10_readsEdit 153 = .ok (.bipush 15, 2) := by decide +kernel
theorem dX10_readsEdit_155 : decode cX10_readsEdit 155 = .ok (.if_icmp .eq 9, 3) := by decide +kernel
theorem dX10_readsEdit_158 : decode cX10_readsEdit 158 = .ok (.iload_n 3, 1) := by decide +kernel
theorem dX10_readsEdit_159 : decode cX10_readsEdit 159 = .ok (.bipush 16, 2) := by decide +kernel
theorem dX10_readsEdit_161 : decode cX10_readsEdit 161 = .ok (.if_icmp .ne 10, 3) := by decide +kernel
theorem dX10_readsEdit_164 : decode cX10_readsEdit 164 = .ok (.aload_n 0, 1) := by decide +kernel
theorem dX10_readsEdit_165 : decode cX10_readsEdit 165 = .ok (.invokevirtual 157, 3) := by decide +kernel
theorem dX10_readsEdit_168 : decode cX10_readsEdit 168 = .ok (.goto 4, 3) := by decide +kernel
theorem dX10_readsEdit_171 : decode cX10_readsEdit 171 = .ok (.iconst 0, 1) := by decide +kernel
theorem dX10_readsEdit_172 : decode cX10_readsEdit 172 = .ok (.istore 6, 2) := by decide +kernel
theorem dX10_readsEdit_174 : decode cX10_readsEdit 174 = .ok (.iload_n 3, 1) := by decide +kernel
theorem dX10_readsEdit_175 : decode cX10_readsEdit 175 = .ok (.bipush 14, 2) := by decide +kernel
theorem dX10_readsEdit_177 : decode cX10_readsEdit 177 = .ok (.if_icmp .ne 14, 3) := by decide +kernel
theorem dX10_readsEdit_180 : decode cX10_readsEdit 180 = .ok (.aload_n 0, 1) := by decide +kernel
theorem dX10_readsEdit_181 : decode cX10_readsEdit 181 = .ok (.invokevirtual 124, 3) := by decide +kernel
theorem dX10_readsEdit_184 : decode cX10_readsEdit 184 = .ok (.ifCond .eq 7, 3) := by decide +kernel
theorem dX10_readsEdit_187 : decode cX10_readsEdit 187 = .ok (.aload_n 0, 1) := by decide +kernel
theorem dX10_readsEdit_188 : decode cX10_readsEdit 188 = .ok (.invokevirtual 128, 3) := by decide +kernel
theorem dX10_readsEdit_191 : decode cX10_readsEdit 191 = .ok (.iload_n 3, 1) := by decide +kernel
theorem dX10_readsEdit_192 : decode cX10_readsEdit 192 = .ok (.bipush 11, 2) := by decide +kernel
theorem dX10_readsEdit_194 : decode cX10_readsEdit 194 = .ok (.if_icmp .ne 10, 3) := by decide +kernel
theorem dX10_readsEdit_197 : decode cX10_readsEdit 197 = .ok (.aload_n 0, 1) := by decide +kernel
theorem dX10_readsEdit_198 : decode cX10_readsEdit 198 = .ok (.invokevirtual 163, 3) := by decide +kernel
theorem dX10_readsEdit_201 : decode cX10_readsEdit 201 = .ok (.goto 4, 3) := by decide +kernel
theorem dX10_readsEdit_204 : decode cX10_readsEdit 204 = .ok (.iconst 0, 1) := by decide +kernel
theorem dX10_readsEdit_205 : decode cX10_readsEdit 205 = .ok (.istore 7, 2) := by decide +kernel
theorem dX10_readsEdit_207 : decode cX10_readsEdit 207 = .ok (.aload_n 0, 1) := by decide +kernel
theorem dX10_readsEdit_208 : decode cX10_readsEdit 208 = .ok (.invokevirtual 124, 3) := by decide +kernel
theorem dX10_readsEdit_211 : decode cX10_readsEdit 211 = .ok (.ifCond .eq 17, 3) := by decide +kernel
theorem dX10_readsEdit_214 : decode cX10_readsEdit 214 = .ok (.aload_n 0, 1) := by decide +kernel
theorem dX10_readsEdit_215 : decode cX10_readsEdit 215 = .ok (.bipush 59, 2) := by decide +kernel
theorem dX10_readsEdit_217 : decode cX10_readsEdit 217 = .ok (.invokevirtual 141, 3) := by decide +kernel
theorem dX10_readsEdit_220 : decode cX10_readsEdit 220 = .ok (.ifCond .ne 8, 3) := by decide +kernel
theorem dX10_readsEdit_223 : decode cX10_readsEdit 223 = .ok (.aload_n 0, 1) := by decide +kernel
theorem dX10_readsEdit_224 : decode cX10_readsEdit 224 = .ok (.iconst 1, 1) := by decide +kernel
theorem dX10_readsEdit_225 : decode cX10_readsEdit 225 = .ok (.invokevirtual 131, 3) := by decide +kernel
theorem dX10_readsEdit_228 : decode cX10_readsEdit 228 = .ok (.aload_n 0, 1) := by decide +kernel
theorem dX10_readsEdit_229 : decode cX10_readsEdit 229 = .ok (.invokevirtual 124, 3) := by decide +kernel
theorem dX10_readsEdit_232 : decode cX10_readsEdit 232 = .ok (.ifCond .ne 4, 3) := by decide +kernel
theorem dX10_readsEdit_235 : decode cX10_readsEdit 235 = .ok (.return_, 1) := by decide +kernel
theorem dX10_readsEdit_236 : decode cX10_readsEdit 236 = .ok (.aload_n 0, 1) := by decide +kernel
theorem dX10_readsEdit_237 : decode cX10_readsEdit 237 = .ok (.sipush 931, 3) := by decide +kernel
theorem dX10_readsEdit_240 : decode cX10_readsEdit 240 = .ok (.iload_n 1, 1) := by decide +kernel
theorem dX10_readsEdit_241 : decode cX10_readsEdit 241 = .ok (.iload_n 3, 1) := by decide +kernel
theorem dX10_readsEdit_242 : decode cX10_readsEdit 242 = .ok (.iload 5, 2) := by decide +kernel
theorem dX10_readsEdit_244 : decode cX10_readsEdit 244 = .ok (.iload 6, 2) := by decide +kernel
theorem dX10_readsEdit_246 : decode cX10_readsEdit 246 = .ok (.iload 7, 2) := by decide +kernel
theorem dX10_readsEdit_248 : decode cX10_readsEdit 248 = .ok (.invokevirtual 190, 3) := by decide +kernel
theorem dX10_readsEdit_251 : decode cX10_readsEdit 251 = .ok (.ifCond .ne 14, 3) := by decide +kernel
theorem dX10_readsEdit_254 : decode cX10_readsEdit 254 = .ok (.aload_n 0, 1) := by decide +kernel
theorem dX10_readsEdit_255 : decode cX10_readsEdit 255 = .ok (.bipush 6, 2) := by decide +kernel
theorem dX10_readsEdit_257 : decode cX10_readsEdit 257 = .ok (.invokevirtual 131, 3) := by decide +kernel
theorem dX10_readsEdit_260 : decode cX10_readsEdit 260 = .ok (.aload_n 0, 1) := by decide +kernel
theorem dX10_readsEdit_261 : decode cX10_readsEdit 261 = .ok (.iload_n 2, 1) := by decide +kernel
theorem dX10_readsEdit_262 : decode cX10_readsEdit 262 = .ok (.putfield 13, 3) := by decide +kernel
theorem dX10_readsEdit_265 : decode cX10_readsEdit 265 = .ok (.return_, 1) := by decide +kernel
theorem dX10_begins_0 : decode cX10_begins 0 = .ok (.iload_n 1, 1) := by decide +kernel
theorem dX10_begins_1 : decode cX10_begins 1 = .ok (.ifCond .eq 8, 3) := by decide +kernel
theorem dX10_begins_4 : decode cX10_begins 4 = .ok (.aload_n 0, 1) := by decide +kernel
theorem dX10_begins_5 : decode cX10_begins 5 = .ok (.iconst 1, 1) := by decide +kernel
theorem dX10_begins_6 : decode cX10_begins 6 = .ok (.invokevirtual 131, 3) := by decide +kernel
theorem dX10_begins_9 : decode cX10_begins 9 = .ok (.iload_n 2, 1) := by decide +kernel
theorem dX10_begins_10 : decode cX10_begins 10 = .ok (.ifCond .eq 8, 3) := by decide +kernel
theorem dX10_begins_13 : decode cX10_begins 13 = .ok (.aload_n 0, 1) := by decide +kernel
theorem dX10_begins_14 : decode cX10_begins 14 = .ok (.iconst 2, 1) := by decide +kernel
theorem dX10_begins_15 : decode cX10_begins 15 = .ok (.invokevirtual 131, 3) := by decide +kernel
theorem dX10_begins_18 : decode cX10_begins 18 = .ok (.aload_n 0, 1) := by decide +kernel
theorem dX10_begins_19 : decode cX10_begins 19 = .ok (.invokevirtual 124, 3) := by decide +kernel
theorem dX10_begins_22 : decode cX10_begins 22 = .ok (.ifCond .ne 5, 3) := by decide +kernel
theorem dX10_begins_25 : decode cX10_begins 25 = .ok (.iconst 0, 1) := by decide +kernel
theorem dX10_begins_26 : decode cX10_begins 26 = .ok (.ireturn, 1) := by decide +kernel
theorem dX10_begins_27 : decode cX10_begins 27 = .ok (.aload_n 0, 1) := by decide +kernel
theorem dX10_begins_28 : decode cX10_begins 28 = .ok (.invokevirtual 128, 3) := by decide +kernel
theorem dX10_begins_31 : decode cX10_begins 31 = .ok (.iconst 1, 1) := by decide +kernel
theorem dX10_begins_32 : decode cX10_begins 32 = .ok (.ireturn, 1) := by decide +kernel
theorem dX10_line_0 : decode cX10_line 0 = .ok (.aload_n 0, 1) := by decide +kernel
theorem dX10_line_1 : decode cX10_line 1 = .ok (.invokevirtual 137, 3) := by decide +kernel
theorem dX10_line_4 : decode cX10_line 4 = .ok (.istore_n 1, 1) := by decide +kernel
theorem dX10_line_5 : decode cX10_line 5 = .ok (.iload_n 1, 1) := by decide +kernel
theorem dX10_line_6 : decode cX10_line 6 = .ok (.iconst 4, 1) := by decide +kernel
theorem dX10_line_7 : decode cX10_line 7 = .ok (.if_icmp .ne 49, 3) := by decide +kernel
theorem dX10_line_10 : decode cX10_line 10 = .ok (.aload_n 0, 1) := by decide +kernel
theorem dX10_line_11 : decode cX10_line 11 = .ok (.aload_n 0, 1) := by decide +kernel
theorem dX10_line_12 : decode cX10_line 12 = .ok (.getfield 178, 3) := by decide +kernel
theorem dX10_line_15 : decode cX10_line 15 = .ok (.ifCond .gt 10, 3) := by decide +kernel
theorem dX10_line_18 : decode cX10_line 18 = .ok (.aload_n 0, 1) := by decide +kernel
theorem dX10_line_19 : decode cX10_line 19 = .ok (.getfield 184, 3) := by decide +kernel
theorem dX10_line_22 : decode cX10_line 22 = .ok (.ifCond .le 7, 3) := by decide +kernel
theorem dX10_line_25 : decode cX10_line 25 = .ok (.iconst 1, 1) := by decide +kernel
theorem dX10_line_26 : decode cX10_line 26 = .ok (.goto 4, 3) := by decide +kernel
theorem dX10_line_29 : decode cX10_line 29 = .ok (.iconst 0, 1) := by decide +kernel
theorem dX10_line_30 : decode cX10_line 30 = .ok (.aload_n 0, 1) := by decide +kernel
theorem dX10_line_31 : decode cX10_line 31 = .ok (.getfield 147, 3) := by decide +kernel
theorem dX10_line_34 : decode cX10_line 34 = .ok (.iconst 5, 1) := by decide +kernel
theorem dX10_line_35 : decode cX10_line 35 = .ok (.if_icmp .ne 7, 3) := by decide +kernel
theorem dX10_line_38 : decode cX10_line 38 = .ok (.iconst 1, 1) := by decide +kernel
theorem dX10_line_39 : decode cX10_line 39 = .ok (.goto 4, 3) := by decide +kernel
theorem dX10_line_42 : decode cX10_line 42 = .ok (.iconst 0, 1) := by decide +kernel
theorem dX10_line_43 : decode cX10_line 43 = .ok (.invokevirtual 194, 3) := by decide +kernel
theorem dX10_line_46 : decode cX10_line 46 = .ok (.ifCond .eq 142, 3) := by decide +kernel
theorem dX10_line_49 : decode cX10_line 49 = .ok (.aload_n 0, 1) := by decide +kernel
theorem dX10_line_50 : decode cX10_line 50 = .ok (.invokevirtual 198, 3) := by decide +kernel
theorem dX10_line_53 : decode cX10_line 53 = .ok (.goto 135, 3) := by decide +kernel
theorem dX10_line_56 : decode cX10_line 56 = .ok (.iload_n 1, 1) := by decide +kernel
theorem dX10_line_57 : decode cX10_line 57 = .ok (.iconst 5, 1) := by decide +kernel
theorem dX10_line_58 : decode cX10_line 58 = .ok (.if_icmp .ne 43, 3) := by decide +kernel
theorem dX10_line_61 : decode cX10_line 61 = .ok (.aload_n 0, 1) := by decide +kernel
theorem dX10_line_62 : decode cX10_line 62 = .ok (.aload_n 0, 1) := by decide +kernel
theorem dX10_line_63 : decode cX10_line 63 = .ok (.getfield 184, 3) := by decide +kernel
theorem dX10_line_66 : decode cX10_line 66 = .ok (.ifCond .le 7, 3) := by decide +kernel
theorem dX10_line_69 : decode cX10_line 69 = .ok (.iconst 1, 1) := by decide +kernel
theorem dX10_line_70 : decode cX10_line 70 = .ok (.goto 4, 3) := by decide +kernel
theorem dX10_line_73 : decode cX10_line 73 = .ok (.iconst 0, 1) := by decide +kernel
theorem dX10_line_74 : decode cX10_line 74 = .ok (.aload_n 0, 1) := by decide +kernel
theorem dX10_line_75 : decode cX10_line 75 = .ok (.getfield 178, 3) := by decide +kernel
