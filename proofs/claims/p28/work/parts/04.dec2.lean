theorem dX1_init_0 : decode cX1_init 0 = .ok (.aload_n 0, 1) := by decide +kernel
theorem dX1_init_1 : decode cX1_init 1 = .ok (.invokespecial 3, 3) := by decide +kernel
theorem dX1_init_4 : decode cX1_init 4 = .ok (.aload_n 0, 1) := by decide +kernel
theorem dX1_init_5 : decode cX1_init 5 = .ok (.bipush 60, 2) := by decide +kernel
theorem dX1_init_7 : decode cX1_init 7 = .ok (.newarray .char, 2) := by decide +kernel
theorem dX1_init_9 : decode cX1_init 9 = .ok (.putfield 9, 3) := by decide +kernel
theorem dX1_init_12 : decode cX1_init 12 = .ok (.return_, 1) := by decide +kernel
theorem dX2_init_0 : decode cX2_init 0 = .ok (.aload_n 0, 1) := by decide +kernel
theorem dX2_init_1 : decode cX2_init 1 = .ok (.invokespecial 3, 3) := by decide +kernel
theorem dX2_init_4 : decode cX2_init 4 = .ok (.aload_n 0, 1) := by decide +kernel
theorem dX2_init_5 : decode cX2_init 5 = .ok (.iconst 4, 1) := by decide +kernel
theorem dX2_init_6 : decode cX2_init 6 = .ok (.anewarray 9, 3) := by decide +kernel
theorem dX2_init_9 : decode cX2_init 9 = .ok (.putfield 11, 3) := by decide +kernel
theorem dX2_init_12 : decode cX2_init 12 = .ok (.iconst 0, 1) := by decide +kernel
theorem dX2_init_13 : decode cX2_init 13 = .ok (.istore_n 1, 1) := by decide +kernel
theorem dX2_init_14 : decode cX2_init 14 = .ok (.iload_n 1, 1) := by decide +kernel
theorem dX2_init_15 : decode cX2_init 15 = .ok (.iconst 4, 1) := by decide +kernel
theorem dX2_init_16 : decode cX2_init 16 = .ok (.if_icmp .ge 22, 3) := by decide +kernel
theorem dX2_init_19 : decode cX2_init 19 = .ok (.aload_n 0, 1) := by decide +kernel
theorem dX2_init_20 : decode cX2_init 20 = .ok (.getfield 11, 3) := by decide +kernel
theorem dX2_init_23 : decode cX2_init 23 = .ok (.iload_n 1, 1) := by decide +kernel
theorem dX2_init_24 : decode cX2_init 24 = .ok (.new 9, 3) := by decide +kernel
theorem dX2_init_27 : decode cX2_init 27 = .ok (.dup, 1) := by decide +kernel
theorem dX2_init_28 : decode cX2_init 28 = .ok (.invokespecial 15, 3) := by decide +kernel
theorem dX2_init_31 : decode cX2_init 31 = .ok (.aastore, 1) := by decide +kernel
theorem dX2_init_32 : decode cX2_init 32 = .ok (.iinc 1 1, 3) := by decide +kernel
theorem dX2_init_35 : decode cX2_init 35 = .ok (.goto (-21), 3) := by decide +kernel
theorem dX2_init_38 : decode cX2_init 38 = .ok (.aload_n 0, 1) := by decide +kernel
theorem dX2_init_39 : decode cX2_init 39 = .ok (.new 16, 3) := by decide +kernel
theorem dX2_init_42 : decode cX2_init 42 = .ok (.dup, 1) := by decide +kernel
theorem dX2_init_43 : decode cX2_init 43 = .ok (.invokespecial 18, 3) := by decide +kernel
theorem dX2_init_46 : decode cX2_init 46 = .ok (.putfield 19, 3) := by decide +kernel
theorem dX2_init_49 : decode cX2_init 49 = .ok (.aload_n 0, 1) := by decide +kernel
theorem dX2_init_50 : decode cX2_init 50 = .ok (.new 9, 3) := by decide +kernel
theorem dX2_init_53 : decode cX2_init 53 = .ok (.dup, 1) := by decide +kernel
theorem dX2_init_54 : decode cX2_init 54 = .ok (.invokespecial 15, 3) := by decide +kernel
theorem dX2_init_57 : decode cX2_init 57 = .ok (.putfield 23, 3) := by decide +kernel
theorem dX2_init_60 : decode cX2_init 60 = .ok (.aload_n 0, 1) := by decide +kernel
theorem dX2_init_61 : decode cX2_init 61 = .ok (.new 9, 3) := by decide +kernel
theorem dX2_init_64 : decode cX2_init 64 = .ok (.dup, 1) := by decide +kernel
theorem dX2_init_65 : decode cX2_init 65 = .ok (.invokespecial 15, 3) := by decide +kernel
theorem dX2_init_68 : decode cX2_init 68 = .ok (.putfield 27, 3) := by decide +kernel
theorem dX2_init_71 : decode cX2_init 71 = .ok (.aload_n 0, 1) := by decide +kernel
theorem dX2_init_72 : decode cX2_init 72 = .ok (.iconst 0, 1) := by decide +kernel
theorem dX2_init_73 : decode cX2_init 73 = .ok (.putfield 30, 3) := by decide +kernel
theorem dX2_init_76 : decode cX2_init 76 = .ok (.return_, 1) := by decide +kernel
theorem dX2_chip_0 : decode cX2_chip 0 = .ok (.aload_n 0, 1) := by decide +kernel
theorem dX2_chip_1 : decode cX2_chip 1 = .ok (.aload_n 0, 1) := by decide +kernel
theorem dX2_chip_2 : decode cX2_chip 2 = .ok (.invokevirtual 34, 3) := by decide +kernel
theorem dX2_chip_5 : decode cX2_chip 5 = .ok (.iload_n 1, 1) := by decide +kernel
theorem dX2_chip_6 : decode cX2_chip 6 = .ok (.iload_n 2, 1) := by decide +kernel
theorem dX2_chip_7 : decode cX2_chip 7 = .ok (.invokevirtual 38, 3) := by decide +kernel
theorem dX2_chip_10 : decode cX2_chip 10 = .ok (.invokevirtual 42, 3) := by decide +kernel
theorem dX2_chip_13 : decode cX2_chip 13 = .ok (.ireturn, 1) := by decide +kernel
theorem dX2_elect_0 : decode cX2_elect 0 = .ok (.aload_n 0, 1) := by decide +kernel
theorem dX2_elect_1 : decode cX2_elect 1 = .ok (.aload_n 0, 1) := by decide +kernel
theorem dX2_elect_2 : decode cX2_elect 2 = .ok (.invokevirtual 34, 3) := by decide +kernel
theorem dX2_elect_5 : decode cX2_elect 5 = .ok (.iload_n 1, 1) := by decide +kernel
theorem dX2_elect_6 : decode cX2_elect 6 = .ok (.invokevirtual 46, 3) := by decide +kernel
theorem dX2_elect_9 : decode cX2_elect 9 = .ok (.invokevirtual 42, 3) := by decide +kernel
theorem dX2_elect_12 : decode cX2_elect 12 = .ok (.ireturn, 1) := by decide +kernel
theorem dX2_kill_0 : decode cX2_kill 0 = .ok (.aload_n 0, 1) := by decide +kernel
theorem dX2_kill_1 : decode cX2_kill 1 = .ok (.aload_n 0, 1) := by decide +kernel
theorem dX2_kill_2 : decode cX2_kill 2 = .ok (.invokevirtual 34, 3) := by decide +kernel
theorem dX2_kill_5 : decode cX2_kill 5 = .ok (.iload_n 1, 1) := by decide +kernel
theorem dX2_kill_6 : decode cX2_kill 6 = .ok (.invokevirtual 49, 3) := by decide +kernel
theorem dX2_kill_9 : decode cX2_kill 9 = .ok (.invokevirtual 42, 3) := by decide +kernel
theorem dX2_kill_12 : decode cX2_kill 12 = .ok (.ireturn, 1) := by decide +kernel
theorem dX2_breaks_0 : decode cX2_breaks 0 = .ok (.aload_n 0, 1) := by decide +kernel
theorem dX2_breaks_1 : decode cX2_breaks 1 = .ok (.aload_n 0, 1) := by decide +kernel
theorem dX2_breaks_2 : decode cX2_breaks 2 = .ok (.invokevirtual 34, 3) := by decide +kernel
theorem dX2_breaks_5 : decode cX2_breaks 5 = .ok (.iload_n 1, 1) := by decide +kernel
theorem dX2_breaks_6 : decode cX2_breaks 6 = .ok (.iload_n 2, 1) := by decide +kernel
theorem dX2_breaks_7 : decode cX2_breaks 7 = .ok (.invokevirtual 52, 3) := by decide +kernel
theorem dX2_breaks_10 : decode cX2_breaks 10 = .ok (.invokevirtual 42, 3) := by decide +kernel
theorem dX2_breaks_13 : decode cX2_breaks 13 = .ok (.ireturn, 1) := by decide +kernel
theorem dX2_chipOf_0 : decode cX2_chipOf 0 = .ok (.aload_n 0, 1) := by decide +kernel
theorem dX2_chipOf_1 : decode cX2_chipOf 1 = .ok (.getfield 23, 3) := by decide +kernel
theorem dX2_chipOf_4 : decode cX2_chipOf 4 = .ok (.iload_n 1, 1) := by decide +kernel
theorem dX2_chipOf_5 : decode cX2_chipOf 5 = .ok (.invokevirtual 55, 3) := by decide +kernel
theorem dX2_chipOf_8 : decode cX2_chipOf 8 = .ok (.ifCond .ne 6, 3) := by decide +kernel
theorem dX2_chipOf_11 : decode cX2_chipOf 11 = .ok (.ldc 59, 2) := by decide +kernel
theorem dX2_chipOf_13 : decode cX2_chipOf 13 = .ok (.ireturn, 1) := by decide +kernel
theorem dX2_chipOf_14 : decode cX2_chipOf 14 = .ok (.iload_n 2, 1) := by decide +kernel
theorem dX2_chipOf_15 : decode cX2_chipOf 15 = .ok (.tableswitch 126 0 6 #[41, 51, 68, 85, 94, 106, 116], 41) := by decide +kernel
theorem dX2_chipOf_56 : decode cX2_chipOf 56 = .ok (.aload_n 0, 1) := by decide +kernel
theorem dX2_chipOf_57 : decode cX2_chipOf 57 = .ok (.getfield 23, 3) := by decide +kernel
theorem dX2_chipOf_60 : decode cX2_chipOf 60 = .ok (.getfield 60, 3) := by decide +kernel
theorem dX2_chipOf_63 : decode cX2_chipOf 63 = .ok (.iload_n 1, 1) := by decide +kernel
theorem dX2_chipOf_64 : decode cX2_chipOf 64 = .ok (.iaload, 1) := by decide +kernel
theorem dX2_chipOf_65 : decode cX2_chipOf 65 = .ok (.ireturn, 1) := by decide +kernel
theorem dX2_chipOf_66 : decode cX2_chipOf 66 = .ok (.aload_n 0, 1) := by decide +kernel
theorem dX2_chipOf_67 : decode cX2_chipOf 67 = .ok (.getfield 23, 3) := by decide +kernel
theorem dX2_chipOf_70 : decode cX2_chipOf 70 = .ok (.iload_n 1, 1) := by decide +kernel
theorem dX2_chipOf_71 : decode cX2_chipOf 71 = .ok (.invokevirtual 64, 3) := by decide +kernel
theorem dX2_chipOf_74 : decode cX2_chipOf 74 = .ok (.ifCond .eq 7, 3) := by decide +kernel
theorem dX2_chipOf_77 : decode cX2_chipOf 77 = .ok (.iconst 1, 1) := by decide +kernel
theorem dX2_chipOf_78 : decode cX2_chipOf 78 = .ok (.goto 4, 3) := by decide +kernel
theorem dX2_chipOf_81 : decode cX2_chipOf 81 = .ok (.iconst 0, 1) := by decide +kernel
theorem dX2_chipOf_82 : decode cX2_chipOf 82 = .ok (.ireturn, 1) := by decide +kernel
theorem dX2_chipOf_83 : decode cX2_chipOf 83 = .ok (.aload_n 0, 1) := by decide +kernel
theorem dX2_chipOf_84 : decode cX2_chipOf 84 = .ok (.getfield 23, 3) := by decide +kernel
theorem dX2_chipOf_87 : decode cX2_chipOf 87 = .ok (.iload_n 1, 1) := by decide +kernel
theorem dX2_chipOf_88 : decode cX2_chipOf 88 = .ok (.invokevirtual 67, 3) := by decide +kernel
theorem dX2_chipOf_91 : decode cX2_chipOf 91 = .ok (.ifCond .eq 7, 3) := by decide +kernel
theorem dX2_chipOf_94 : decode cX2_chipOf 94 = .ok (.iconst 1, 1) := by decide +kernel
theorem dX2_chipOf_95 : decode cX2_chipOf 95 = .ok (.goto 4, 3) := by decide +kernel
theorem dX2_chipOf_98 : decode cX2_chipOf 98 = .ok (.iconst 0, 1) := by decide +kernel
theorem dX2_chipOf_99 : decode cX2_chipOf 99 = .ok (.ireturn, 1) := by decide +kernel
theorem dX2_chipOf_100 : decode cX2_chipOf 100 = .ok (.aload_n 0, 1) := by decide +kernel
theorem dX2_chipOf_101 : decode cX2_chipOf 101 = .ok (.getfield 23, 3) := by decide +kernel
theorem dX2_chipOf_104 : decode cX2_chipOf 104 = .ok (.iload_n 1, 1) := by decide +kernel
theorem dX2_chipOf_105 : decode cX2_chipOf 105 = .ok (.invokevirtual 70, 3) := by decide +kernel
theorem dX2_chipOf_108 : decode cX2_chipOf 108 = .ok (.ireturn, 1) := by decide +kernel
theorem dX2_chipOf_109 : decode cX2_chipOf 109 = .ok (.aload_n 0, 1) := by decide +kernel
theorem dX2_chipOf_110 : decode cX2_chipOf 110 = .ok (.getfield 23, 3) := by decide +kernel
theorem dX2_chipOf_113 : decode cX2_chipOf 113 = .ok (.iload_n 1, 1) := by decide +kernel
theorem dX2_chipOf_114 : decode cX2_chipOf 114 = .ok (.invokevirtual 73, 3) := by decide +kernel
theorem dX2_chipOf_117 : decode cX2_chipOf 117 = .ok (.invokestatic 76, 3) := by decide +kernel
theorem dX2_chipOf_120 : decode cX2_chipOf 120 = .ok (.ireturn, 1) := by decide +kernel
theorem dX2_chipOf_121 : decode cX2_chipOf 121 = .ok (.aload_n 0, 1) := by decide +kernel
theorem dX2_chipOf_122 : decode cX2_chipOf 122 = .ok (.getfield 23, 3) := by decide +kernel
theorem dX2_chipOf_125 : decode cX2_chipOf 125 = .ok (.getfield 81, 3) := by decide +kernel
theorem dX2_chipOf_128 : decode cX2_chipOf 128 = .ok (.iload_n 1, 1) := by decide +kernel
theorem dX2_chipOf_129 : decode cX2_chipOf 129 = .ok (.iaload, 1) := by decide +kernel
theorem dX2_chipOf_130 : decode cX2_chipOf 130 = .ok (.ireturn, 1) := by decide +kernel
theorem dX2_chipOf_131 : decode cX2_chipOf 131 = .ok (.aload_n 0, 1) := by decide +kernel
theorem dX2_chipOf_132 : decode cX2_chipOf 132 = .ok (.getfield 23, 3) := by decide +kernel
theorem dX2_chipOf_135 : decode cX2_chipOf 135 = .ok (.getfield 84, 3) := by decide +kernel
theorem dX2_chipOf_138 : decode cX2_chipOf 138 = .ok (.iload_n 1, 1) := by decide +kernel
theorem dX2_chipOf_139 : decode cX2_chipOf 139 = .ok (.iaload, 1) := by decide +kernel
theorem dX2_chipOf_140 : decode cX2_chipOf 140 = .ok (.ireturn, 1) := by decide +kernel
theorem dX2_chipOf_141 : decode cX2_chipOf 141 = .ok (.ldc 59, 2) := by decide +kernel
theorem dX2_chipOf_143 : decode cX2_chipOf 143 = .ok (.ireturn, 1) := by decide +kernel
theorem dX2_rowOf_0 : decode cX2_rowOf 0 = .ok (.aload_n 0, 1) := by decide +kernel
theorem dX2_rowOf_1 : decode cX2_rowOf 1 = .ok (.getfield 23, 3) := by decide +kernel
theorem dX2_rowOf_4 : decode cX2_rowOf 4 = .ok (.iload_n 1, 1) := by decide +kernel
theorem dX2_rowOf_5 : decode cX2_rowOf 5 = .ok (.invokevirtual 55, 3) := by decide +kernel
theorem dX2_rowOf_8 : decode cX2_rowOf 8 = .ok (.ifCond .eq 10, 3) := by decide +kernel
theorem dX2_rowOf_11 : decode cX2_rowOf 11 = .ok (.iload_n 2, 1) := by decide +kernel
theorem dX2_rowOf_12 : decode cX2_rowOf 12 = .ok (.invokestatic 87, 3) := by decide +kernel
theorem dX2_rowOf_15 : decode cX2_rowOf 15 = .ok (.ifCond .ne 6, 3) := by decide +kernel
theorem dX2_rowOf_18 : decode cX2_rowOf 18 = .ok (.ldc 59, 2) := by decide +kernel
theorem dX2_rowOf_20 : decode cX2_rowOf 20 = .ok (.ireturn, 1) := by decide +kernel
theorem dX2_rowOf_21 : decode cX2_rowOf 21 = .ok (.aload_n 0, 1) := by decide +kernel
theorem dX2_rowOf_22 : decode cX2_rowOf 22 = .ok (.getfield 23, 3) := by decide +kernel
theorem dX2_rowOf_25 : decode cX2_rowOf 25 = .ok (.iload_n 1, 1) := by decide +kernel
theorem dX2_rowOf_26 : decode cX2_rowOf 26 = .ok (.invokevirtual 64, 3) := by decide +kernel
theorem dX2_rowOf_29 : decode cX2_rowOf 29 = .ok (.ifCond .eq 15, 3) := by decide +kernel
theorem dX2_rowOf_32 : decode cX2_rowOf 32 = .ok (.aload_n 0, 1) := by decide +kernel
theorem dX2_rowOf_33 : decode cX2_rowOf 33 = .ok (.getfield 23, 3) := by decide +kernel
theorem dX2_rowOf_36 : decode cX2_rowOf 36 = .ok (.iload_n 1, 1) := by decide +kernel
theorem dX2_rowOf_37 : decode cX2_rowOf 37 = .ok (.iload_n 2, 1) := by decide +kernel
theorem dX2_rowOf_38 : decode cX2_rowOf 38 = .ok (.invokevirtual 90, 3) := by decide +kernel
theorem dX2_rowOf_41 : decode cX2_rowOf 41 = .ok (.ifCond .eq 6, 3) := by decide +kernel
theorem dX2_rowOf_44 : decode cX2_rowOf 44 = .ok (.ldc 94, 2) := by decide +kernel
theorem dX2_rowOf_46 : decode cX2_rowOf 46 = .ok (.ireturn, 1) := by decide +kernel
theorem dX2_rowOf_47 : decode cX2_rowOf 47 = .ok (.aload_n 0, 1) := by decide +kernel
theorem dX2_rowOf_48 : decode cX2_rowOf 48 = .ok (.getfield 23, 3) := by decide +kernel
theorem dX2_rowOf_51 : decode cX2_rowOf 51 = .ok (.iload_n 1, 1) := by decide +kernel
theorem dX2_rowOf_52 : decode cX2_rowOf 52 = .ok (.invokevirtual 67, 3) := by decide +kernel
theorem dX2_rowOf_55 : decode cX2_rowOf 55 = .ok (.ifCond .eq 21, 3) := by decide +kernel
theorem dX2_rowOf_58 : decode cX2_rowOf 58 = .ok (.aload_n 0, 1) := by decide +kernel
theorem dX2_rowOf_59 : decode cX2_rowOf 59 = .ok (.getfield 23, 3) := by decide +kernel
theorem dX2_rowOf_62 : decode cX2_rowOf 62 = .ok (.aload_n 0, 1) := by decide +kernel
theorem dX2_rowOf_63 : decode cX2_rowOf 63 = .ok (.getfield 23, 3) := by decide +kernel
theorem dX2_rowOf_66 : decode cX2_rowOf 66 = .ok (.getfield 60, 3) := by decide +kernel
theorem dX2_rowOf_69 : decode cX2_rowOf 69 = .ok (.iload_n 1, 1) := by decide +kernel
theorem dX2_rowOf_70 : decode cX2_rowOf 70 = .ok (.iaload, 1) := by decide +kernel
theorem dX2_rowOf_71 : decode cX2_rowOf 71 = .ok (.iload_n 2, 1) := by decide +kernel
theorem dX2_rowOf_72 : decode cX2_rowOf 72 = .ok (.invokevirtual 95, 3) := by decide +kernel
theorem dX2_rowOf_75 : decode cX2_rowOf 75 = .ok (.ireturn, 1) := by decide +kernel
theorem dX2_rowOf_76 : decode cX2_rowOf 76 = .ok (.aload_n 0, 1) := by decide +kernel
theorem dX2_rowOf_77 : decode cX2_rowOf 77 = .ok (.getfield 23, 3) := by decide +kernel
theorem dX2_rowOf_80 : decode cX2_rowOf 80 = .ok (.getfield 98, 3) := by decide +kernel
theorem dX2_rowOf_83 : decode cX2_rowOf 83 = .ok (.iload_n 1, 1) := by decide +kernel
theorem dX2_rowOf_84 : decode cX2_rowOf 84 = .ok (.bipush 6, 2) := by decide +kernel
theorem dX2_rowOf_86 : decode cX2_rowOf 86 = .ok (.imul, 1) := by decide +kernel
theorem dX2_rowOf_87 : decode cX2_rowOf 87 = .ok (.iload_n 2, 1) := by decide +kernel
theorem dX2_rowOf_88 : decode cX2_rowOf 88 = .ok (.iadd, 1) := by decide +kernel
theorem dX2_rowOf_89 : decode cX2_rowOf 89 = .ok (.iaload, 1) := by decide +kernel
theorem dX2_rowOf_90 : decode cX2_rowOf 90 = .ok (.istore_n 3, 1) := by decide +kernel
theorem dX2_rowOf_91 : decode cX2_rowOf 91 = .ok (.iload_n 3, 1) := by decide +kernel
theorem dX2_rowOf_92 : decode cX2_rowOf 92 = .ok (.iconst (-1), 1) := by decide +kernel
theorem dX2_rowOf_93 : decode cX2_rowOf 93 = .ok (.if_icmp .ne 8, 3) := by decide +kernel
theorem dX2_rowOf_96 : decode cX2_rowOf 96 = .ok (.ldc 101, 2) := by decide +kernel
theorem dX2_rowOf_98 : decode cX2_rowOf 98 = .ok (.goto 4, 3) := by decide +kernel
theorem dX2_rowOf_101 : decode cX2_rowOf 101 = .ok (.iload_n 3, 1) := by decide +kernel
theorem dX2_rowOf_102 : decode cX2_rowOf 102 = .ok (.ireturn, 1) := by decide +kernel
theorem dX2_put_0 : decode cX2_put 0 = .ok (.aload_n 0, 1) := by decide +kernel
theorem dX2_put_1 : decode cX2_put 1 = .ok (.aload_n 0, 1) := by decide +kernel
theorem dX2_put_2 : decode cX2_put 2 = .ok (.invokevirtual 34, 3) := by decide +kernel
theorem dX2_put_5 : decode cX2_put 5 = .ok (.iload_n 1, 1) := by decide +kernel
theorem dX2_put_6 : decode cX2_put 6 = .ok (.iload_n 2, 1) := by decide +kernel
theorem dX2_put_7 : decode cX2_put 7 = .ok (.invokevirtual 102, 3) := by decide +kernel
theorem dX2_put_10 : decode cX2_put 10 = .ok (.invokevirtual 42, 3) := by decide +kernel
theorem dX2_put_13 : decode cX2_put 13 = .ok (.ireturn, 1) := by decide +kernel
theorem dX2_write_0 : decode cX2_write 0 = .ok (.aload_n 0, 1) := by decide +kernel
theorem dX2_write_1 : decode cX2_write 1 = .ok (.aload_n 0, 1) := by decide +kernel
theorem dX2_write_2 : decode cX2_write 2 = .ok (.invokevirtual 34, 3) := by decide +kernel
theorem dX2_write_5 : decode cX2_write 5 = .ok (.iload_n 1, 1) := by decide +kernel
theorem dX2_write_6 : decode cX2_write 6 = .ok (.iload_n 2, 1) := by decide +kernel
theorem dX2_write_7 : decode cX2_write 7 = .ok (.invokevirtual 105, 3) := by decide +kernel
theorem dX2_write_10 : decode cX2_write 10 = .ok (.invokevirtual 42, 3) := by decide +kernel
theorem dX2_write_13 : decode cX2_write 13 = .ok (.ireturn, 1) := by decide +kernel
theorem dX2_read_0 : decode cX2_read 0 = .ok (.aload_n 0, 1) := by decide +kernel
theorem dX2_read_1 : decode cX2_read 1 = .ok (.getfield 23, 3) := by decide +kernel
theorem dX2_read_4 : decode cX2_read 4 = .ok (.iload_n 1, 1) := by decide +kernel
theorem dX2_read_5 : decode cX2_read 5 = .ok (.invokevirtual 108, 3) := by decide +kernel
theorem dX2_read_8 : decode cX2_read 8 = .ok (.ifCond .ne 6, 3) := by decide +kernel
theorem dX2_read_11 : decode cX2_read 11 = .ok (.ldc 59, 2) := by decide +kernel
theorem dX2_read_13 : decode cX2_read 13 = .ok (.ireturn, 1) := by decide +kernel
theorem dX2_read_14 : decode cX2_read 14 = .ok (.aload_n 0, 1) := by decide +kernel
theorem dX2_read_15 : decode cX2_read 15 = .ok (.getfield 23, 3) := by decide +kernel
theorem dX2_read_18 : decode cX2_read 18 = .ok (.iload_n 1, 1) := by decide +kernel
theorem dX2_read_19 : decode cX2_read 19 = .ok (.invokevirtual 111, 3) := by decide +kernel
theorem dX2_read_22 : decode cX2_read 22 = .ok (.iconst 2, 1) := by decide +kernel
theorem dX2_read_23 : decode cX2_read 23 = .ok (.if_icmp .ne 8, 3) := by decide +kernel
theorem dX2_read_26 : decode cX2_read 26 = .ok (.ldc 101, 2) := by decide +kernel
theorem dX2_read_28 : decode cX2_read 28 = .ok (.goto 12, 3) := by decide +kernel
theorem dX2_read_31 : decode cX2_read 31 = .ok (.aload_n 0, 1) := by decide +kernel
theorem dX2_read_32 : decode cX2_read 32 = .ok (.getfield 23, 3) := by decide +kernel
theorem dX2_read_35 : decode cX2_read 35 = .ok (.getfield 114, 3) := by decide +kernel
theorem dX2_read_38 : decode cX2_read 38 = .ok (.iload_n 1, 1) := by decide +kernel
theorem dX2_read_39 : decode cX2_read 39 = .ok (.iaload, 1) := by decide +kernel
theorem dX2_read_40 : decode cX2_read 40 = .ok (.ireturn, 1) := by decide +kernel
theorem dX2_carry_0 : decode cX2_carry 0 = .ok (.aload_n 0, 1) := by decide +kernel
theorem dX2_carry_1 : decode cX2_carry 1 = .ok (.aload_n 0, 1) := by decide +kernel
theorem dX2_carry_2 : decode cX2_carry 2 = .ok (.invokevirtual 34, 3) := by decide +kernel
theorem dX2_carry_5 : decode cX2_carry 5 = .ok (.iload_n 1, 1) := by decide +kernel
theorem dX2_carry_6 : decode cX2_carry 6 = .ok (.iload_n 2, 1) := by decide +kernel
theorem dX2_carry_7 : decode cX2_carry 7 = .ok (.invokevirtual 117, 3) := by decide +kernel
theorem dX2_carry_10 : decode cX2_carry 10 = .ok (.invokevirtual 42, 3) := by decide +kernel
theorem dX2_carry_13 : decode cX2_carry 13 = .ok (.ireturn, 1) := by decide +kernel
theorem dX2_empty_0 : decode cX2_empty 0 = .ok (.aload_n 0, 1) := by decide +kernel
theorem dX2_empty_1 : decode cX2_empty 1 = .ok (.aload_n 0, 1) := by decide +kernel
theorem dX2_empty_2 : decode cX2_empty 2 = .ok (.invokevirtual 34, 3) := by decide +kernel
theorem dX2_empty_5 : decode cX2_empty 5 = .ok (.iload_n 1, 1) := by decide +kernel
theorem dX2_empty_6 : decode cX2_empty 6 = .ok (.invokevirtual 120, 3) := by decide +kernel
theorem dX2_empty_9 : decode cX2_empty 9 = .ok (.invokevirtual 42, 3) := by decide +kernel
theorem dX2_empty_12 : decode cX2_empty 12 = .ok (.ireturn, 1) := by decide +kernel
theorem dX2_wordOf_0 : decode cX2_wordOf 0 = .ok (.aload_n 0, 1) := by decide +kernel
theorem dX2_wordOf_1 : decode cX2_wordOf 1 = .ok (.getfield 23, 3) := by decide +kernel
theorem dX2_wordOf_4 : decode cX2_wordOf 4 = .ok (.iload_n 1, 1) := by decide +kernel
theorem dX2_wordOf_5 : decode cX2_wordOf 5 = .ok (.invokevirtual 108, 3) := by decide +kernel
theorem dX2_wordOf_8 : decode cX2_wordOf 8 = .ok (.ifCond .ne 6, 3) := by decide +kernel
theorem dX2_wordOf_11 : decode cX2_wordOf 11 = .ok (.ldc 59, 2) := by decide +kernel
theorem dX2_wordOf_13 : decode cX2_wordOf 13 = .ok (.ireturn, 1) := by decide +kernel
theorem dX2_wordOf_14 : decode cX2_wordOf 14 = .ok (.aload_n 0, 1) := by decide +kernel
theorem dX2_wordOf_15 : decode cX2_wordOf 15 = .ok (.getfield 23, 3) := by decide +kernel
theorem dX2_wordOf_18 : decode cX2_wordOf 18 = .ok (.iload_n 1, 1) := by decide +kernel
theorem dX2_wordOf_19 : decode cX2_wordOf 19 = .ok (.invokevirtual 111, 3) := by decide +kernel
theorem dX2_wordOf_22 : decode cX2_wordOf 22 = .ok (.istore_n 3, 1) := by decide +kernel
theorem dX2_wordOf_23 : decode cX2_wordOf 23 = .ok (.iload_n 2, 1) := by decide +kernel
theorem dX2_wordOf_24 : decode cX2_wordOf 24 = .ok (.tableswitch 130 0 5 #[40, 42, 61, 81, 101, 120], 40) := by decide +kernel
theorem dX2_wordOf_64 : decode cX2_wordOf 64 = .ok (.iload_n 3, 1) := by decide +kernel
theorem dX2_wordOf_65 : decode cX2_wordOf 65 = .ok (.ireturn, 1) := by decide +kernel
theorem dX2_wordOf_66 : decode cX2_wordOf 66 = .ok (.iload_n 3, 1) := by decide +kernel
theorem dX2_wordOf_67 : decode cX2_wordOf 67 = .ok (.ifCond .ne 15, 3) := by decide +kernel
theorem dX2_wordOf_70 : decode cX2_wordOf 70 = .ok (.aload_n 0, 1) := by decide +kernel
theorem dX2_wordOf_71 : decode cX2_wordOf 71 = .ok (.getfield 23, 3) := by decide +kernel
theorem dX2_wordOf_74 : decode cX2_wordOf 74 = .ok (.getfield 123, 3) := by decide +kernel
theorem dX2_wordOf_77 : decode cX2_wordOf 77 = .ok (.iload_n 1, 1) := by decide +kernel
theorem dX2_wordOf_78 : decode cX2_wordOf 78 = .ok (.iaload, 1) := by decide +kernel
theorem dX2_wordOf_79 : decode cX2_wordOf 79 = .ok (.goto 5, 3) := by decide +kernel
theorem dX2_wordOf_82 : decode cX2_wordOf 82 = .ok (.ldc 101, 2) := by decide +kernel
theorem dX2_wordOf_84 : decode cX2_wordOf 84 = .ok (.ireturn, 1) := by decide +kernel
theorem dX2_wordOf_85 : decode cX2_wordOf 85 = .ok (.iload_n 3, 1) := by decide +kernel
theorem dX2_wordOf_86 : decode cX2_wordOf 86 = .ok (.iconst 2, 1) := by decide +kernel
theorem dX2_wordOf_87 : decode cX2_wordOf 87 = .ok (.if_icmp .ne 8, 3) := by decide +kernel
theorem dX2_wordOf_90 : decode cX2_wordOf 90 = .ok (.ldc 101, 2) := by decide +kernel
theorem dX2_wordOf_92 : decode cX2_wordOf 92 = .ok (.goto 12, 3) := by decide +kernel
theorem dX2_wordOf_95 : decode cX2_wordOf 95 = .ok (.aload_n 0, 1) := by decide +kernel
theorem dX2_wordOf_96 : decode cX2_wordOf 96 = .ok (.getfield 23, 3) := by decide +kernel
theorem dX2_wordOf_99 : decode cX2_wordOf 99 = .ok (.getfield 126, 3) := by decide +kernel
theorem dX2_wordOf_102 : decode cX2_wordOf 102 = .ok (.iload_n 1, 1) := by decide +kernel
theorem dX2_wordOf_103 : decode cX2_wordOf 103 = .ok (.iaload, 1) := by decide +kernel
theorem dX2_wordOf_104 : decode cX2_wordOf 104 = .ok (.ireturn, 1) := by decide +kernel
theorem dX2_wordOf_105 : decode cX2_wordOf 105 = .ok (.iload_n 3, 1) := by decide +kernel
theorem dX2_wordOf_106 : decode cX2_wordOf 106 = .ok (.iconst 2, 1) := by decide +kernel
theorem dX2_wordOf_107 : decode cX2_wordOf 107 = .ok (.if_icmp .ne 8, 3) := by decide +kernel
theorem dX2_wordOf_110 : decode cX2_wordOf 110 = .ok (.ldc 101, 2) := by decide +kernel
theorem dX2_wordOf_112 : decode cX2_wordOf 112 = .ok (.goto 12, 3) := by decide +kernel
theorem dX2_wordOf_115 : decode cX2_wordOf 115 = .ok (.aload_n 0, 1) := by decide +kernel
theorem dX2_wordOf_116 : decode cX2_wordOf 116 = .ok (.getfield 23, 3) := by decide +kernel
theorem dX2_wordOf_119 : decode cX2_wordOf 119 = .ok (.getfield 129, 3) := by decide +kernel
theorem dX2_wordOf_122 : decode cX2_wordOf 122 = .ok (.iload_n 1, 1) := by decide +kernel
theorem dX2_wordOf_123 : decode cX2_wordOf 123 = .ok (.iaload, 1) := by decide +kernel
theorem dX2_wordOf_124 : decode cX2_wordOf 124 = .ok (.ireturn, 1) := by decide +kernel
theorem dX2_wordOf_125 : decode cX2_wordOf 125 = .ok (.iload_n 3, 1) := by decide +kernel
theorem dX2_wordOf_126 : decode cX2_wordOf 126 = .ok (.iconst 1, 1) := by decide +kernel
theorem dX2_wordOf_127 : decode cX2_wordOf 127 = .ok (.if_icmp .ne 14, 3) := by decide +kernel
theorem dX2_wordOf_130 : decode cX2_wordOf 130 = .ok (.aload_n 0, 1) := by decide +kernel
theorem dX2_wordOf_131 : decode cX2_wordOf 131 = .ok (.getfield 23, 3) := by decide +kernel
theorem dX2_wordOf_134 : decode cX2_wordOf 134 = .ok (.iload_n 1, 1) := by decide +kernel
theorem dX2_wordOf_135 : decode cX2_wordOf 135 = .ok (.invokevirtual 132, 3) := by decide +kernel
theorem dX2_wordOf_138 : decode cX2_wordOf 138 = .ok (.goto 5, 3) := by decide +kernel
theorem dX2_wordOf_141 : decode cX2_wordOf 141 = .ok (.ldc 101, 2) := by decide +kernel
theorem dX2_wordOf_143 : decode cX2_wordOf 143 = .ok (.ireturn, 1) := by decide +kernel
theorem dX2_wordOf_144 : decode cX2_wordOf 144 = .ok (.aload_n 0, 1) := by decide +kernel
theorem dX2_wordOf_145 : decode cX2_wordOf 145 = .ok (.getfield 23, 3) := by decide +kernel
theorem dX2_wordOf_148 : decode cX2_wordOf 148 = .ok (.getfield 135, 3) := by decide +kernel
theorem dX2_wordOf_151 : decode cX2_wordOf 151 = .ok (.iload_n 1, 1) := by decide +kernel
theorem dX2_wordOf_152 : decode cX2_wordOf 152 = .ok (.iaload, 1) := by decide +kernel
theorem dX2_wordOf_153 : decode cX2_wordOf 153 = .ok (.ireturn, 1) := by decide +kernel
theorem dX2_wordOf_154 : decode cX2_wordOf 154 = .ok (.ldc 59, 2) := by decide +kernel
theorem dX2_wordOf_156 : decode cX2_wordOf 156 = .ok (.ireturn, 1) := by decide +kernel
theorem dX2_familyOf_0 : decode cX2_familyOf 0 = .ok (.iload_n 1, 1) := by decide +kernel
theorem dX2_familyOf_1 : decode cX2_familyOf 1 = .ok (.invokestatic 138, 3) := by decide +kernel
theorem dX2_familyOf_4 : decode cX2_familyOf 4 = .ok (.ifCond .ne 6, 3) := by decide +kernel
theorem dX2_familyOf_7 : decode cX2_familyOf 7 = .ok (.ldc 59, 2) := by decide +kernel
theorem dX2_familyOf_9 : decode cX2_familyOf 9 = .ok (.ireturn, 1) := by decide +kernel
theorem dX2_familyOf_10 : decode cX2_familyOf 10 = .ok (.aload_n 0, 1) := by decide +kernel
theorem dX2_familyOf_11 : decode cX2_familyOf 11 = .ok (.getfield 23, 3) := by decide +kernel
theorem dX2_familyOf_14 : decode cX2_familyOf 14 = .ok (.getfield 141, 3) := by decide +kernel
theorem dX2_familyOf_17 : decode cX2_familyOf 17 = .ok (.iload_n 1, 1) := by decide +kernel
theorem dX2_familyOf_18 : decode cX2_familyOf 18 = .ok (.iaload, 1) := by decide +kernel
theorem dX2_familyOf_19 : decode cX2_familyOf 19 = .ok (.istore_n 3, 1) := by decide +kernel
theorem dX2_familyOf_20 : decode cX2_familyOf 20 = .ok (.iload_n 2, 1) := by decide +kernel
theorem dX2_familyOf_21 : decode cX2_familyOf 21 = .ok (.tableswitch 146 0 6 #[43, 71, 80, 82, 93, 102, 124], 43) := by decide +kernel
theorem dX2_familyOf_64 : decode cX2_familyOf 64 = .ok (.aload_n 0, 1) := by decide +kernel
theorem dX2_familyOf_65 : decode cX2_familyOf 65 = .ok (.getfield 23, 3) := by decide +kernel
theorem dX2_familyOf_68 : decode cX2_familyOf 68 = .ok (.getfield 144, 3) := by decide +kernel
theorem dX2_familyOf_71 : decode cX2_familyOf 71 = .ok (.iload_n 1, 1) := by decide +kernel
theorem dX2_familyOf_72 : decode cX2_familyOf 72 = .ok (.iaload, 1) := by decide +kernel
theorem dX2_familyOf_73 : decode cX2_familyOf 73 = .ok (.iconst (-1), 1) := by decide +kernel
theorem dX2_familyOf_74 : decode cX2_familyOf 74 = .ok (.if_icmp .ne 8, 3) := by decide +kernel
theorem dX2_familyOf_77 : decode cX2_familyOf 77 = .ok (.ldc 101, 2) := by decide +kernel
theorem dX2_familyOf_79 : decode cX2_familyOf 79 = .ok (.goto 12, 3) := by decide +kernel
theorem dX2_familyOf_82 : decode cX2_familyOf 82 = .ok (.aload_n 0, 1) := by decide +kernel
theorem dX2_familyOf_83 : decode cX2_familyOf 83 = .ok (.getfield 23, 3) := by decide +kernel
theorem dX2_familyOf_86 : decode cX2_familyOf 86 = .ok (.getfield 144, 3) := by decide +kernel
theorem dX2_familyOf_89 : decode cX2_familyOf 89 = .ok (.iload_n 1, 1) := by decide +kernel
theorem dX2_familyOf_90 : decode cX2_familyOf 90 = .ok (.iaload, 1) := by decide +kernel
theorem dX2_familyOf_91 : decode cX2_familyOf 91 = .ok (.ireturn, 1) := by decide +kernel
theorem dX2_familyOf_92 : decode cX2_familyOf 92 = .ok (.aload_n 0, 1) := by decide +kernel
theorem dX2_familyOf_93 : decode cX2_familyOf 93 = .ok (.getfield 23, 3) := by decide +kernel
theorem dX2_familyOf_96 : decode cX2_familyOf 96 = .ok (.iload_n 1, 1) := by decide +kernel
theorem dX2_familyOf_97 : decode cX2_familyOf 97 = .ok (.invokevirtual 147, 3) := by decide +kernel
theorem dX2_familyOf_100 : decode cX2_familyOf 100 = .ok (.ireturn, 1) := by decide +kernel
theorem dX2_familyOf_101 : decode cX2_familyOf 101 = .ok (.iload_n 3, 1) := by decide +kernel
theorem dX2_familyOf_102 : decode cX2_familyOf 102 = .ok (.ireturn, 1) := by decide +kernel
theorem dX2_familyOf_103 : decode cX2_familyOf 103 = .ok (.aload_n 0, 1) := by decide +kernel
theorem dX2_familyOf_104 : decode cX2_familyOf 104 = .ok (.getfield 23, 3) := by decide +kernel
theorem dX2_familyOf_107 : decode cX2_familyOf 107 = .ok (.iload_n 1, 1) := by decide +kernel
theorem dX2_familyOf_108 : decode cX2_familyOf 108 = .ok (.bipush 63, 2) := by decide +kernel
theorem dX2_familyOf_110 : decode cX2_familyOf 110 = .ok (.invokevirtual 150, 3) := by decide +kernel
theorem dX2_familyOf_113 : decode cX2_familyOf 113 = .ok (.ireturn, 1) := by decide +kernel
theorem dX2_familyOf_114 : decode cX2_familyOf 114 = .ok (.aload_n 0, 1) := by decide +kernel
theorem dX2_familyOf_115 : decode cX2_familyOf 115 = .ok (.getfield 23, 3) := by decide +kernel
theorem dX2_familyOf_118 : decode cX2_familyOf 118 = .ok (.iload_n 1, 1) := by decide +kernel
theorem dX2_familyOf_119 : decode cX2_familyOf 119 = .ok (.invokevirtual 153, 3) := by decide +kernel
theorem dX2_familyOf_122 : decode cX2_familyOf 122 = .ok (.ireturn, 1) := by decide +kernel
theorem dX2_familyOf_123 : decode cX2_familyOf 123 = .ok (.aload_n 0, 1) := by decide +kernel
theorem dX2_familyOf_124 : decode cX2_familyOf 124 = .ok (.getfield 23, 3) := by decide +kernel
theorem dX2_familyOf_127 : decode cX2_familyOf 127 = .ok (.iload_n 1, 1) := by decide +kernel
theorem dX2_familyOf_128 : decode cX2_familyOf 128 = .ok (.bipush 63, 2) := by decide +kernel
theorem dX2_familyOf_130 : decode cX2_familyOf 130 = .ok (.aload_n 0, 1) := by decide +kernel
theorem dX2_familyOf_131 : decode cX2_familyOf 131 = .ok (.getfield 23, 3) := by decide +kernel
theorem dX2_familyOf_134 : decode cX2_familyOf 134 = .ok (.iload_n 1, 1) := by decide +kernel
theorem dX2_familyOf_135 : decode cX2_familyOf 135 = .ok (.invokevirtual 153, 3) := by decide +kernel
theorem dX2_familyOf_138 : decode cX2_familyOf 138 = .ok (.iconst (-1), 1) := by decide +kernel
theorem dX2_familyOf_139 : decode cX2_familyOf 139 = .ok (.ixor, 1) := by decide +kernel
theorem dX2_familyOf_140 : decode cX2_familyOf 140 = .ok (.iand, 1) := by decide +kernel
theorem dX2_familyOf_141 : decode cX2_familyOf 141 = .ok (.invokevirtual 150, 3) := by decide +kernel
theorem dX2_familyOf_144 : decode cX2_familyOf 144 = .ok (.ireturn, 1) := by decide +kernel
theorem dX2_familyOf_145 : decode cX2_familyOf 145 = .ok (.iload_n 3, 1) := by decide +kernel
theorem dX2_familyOf_146 : decode cX2_familyOf 146 = .ok (.ifCond .ne 8, 3) := by decide +kernel
theorem dX2_familyOf_149 : decode cX2_familyOf 149 = .ok (.ldc 101, 2) := by decide +kernel
theorem dX2_familyOf_151 : decode cX2_familyOf 151 = .ok (.goto 15, 3) := by decide +kernel
theorem dX2_familyOf_154 : decode cX2_familyOf 154 = .ok (.aload_n 0, 1) := by decide +kernel
theorem dX2_familyOf_155 : decode cX2_familyOf 155 = .ok (.getfield 23, 3) := by decide +kernel
theorem dX2_familyOf_158 : decode cX2_familyOf 158 = .ok (.getfield 156, 3) := by decide +kernel
theorem dX2_familyOf_161 : decode cX2_familyOf 161 = .ok (.iload_n 1, 1) := by decide +kernel
theorem dX2_familyOf_162 : decode cX2_familyOf 162 = .ok (.bipush 6, 2) := by decide +kernel
theorem dX2_familyOf_164 : decode cX2_familyOf 164 = .ok (.imul, 1) := by decide +kernel
theorem dX2_familyOf_165 : decode cX2_familyOf 165 = .ok (.iaload, 1) := by decide +kernel
theorem dX2_familyOf_166 : decode cX2_familyOf 166 = .ok (.ireturn, 1) := by decide +kernel
theorem dX2_familyOf_167 : decode cX2_familyOf 167 = .ok (.ldc 59, 2) := by decide +kernel
theorem dX2_familyOf_169 : decode cX2_familyOf 169 = .ok (.ireturn, 1) := by decide +kernel
theorem dX2_tick_0 : decode cX2_tick 0 = .ok (.aload_n 0, 1) := by decide +kernel
theorem dX2_tick_1 : decode cX2_tick 1 = .ok (.aload_n 0, 1) := by decide +kernel
theorem dX2_tick_2 : decode cX2_tick 2 = .ok (.invokevirtual 34, 3) := by decide +kernel
theorem dX2_tick_5 : decode cX2_tick 5 = .ok (.iload_n 1, 1) := by decide +kernel
theorem dX2_tick_6 : decode cX2_tick 6 = .ok (.invokevirtual 159, 3) := by decide +kernel
theorem dX2_tick_9 : decode cX2_tick 9 = .ok (.invokevirtual 42, 3) := by decide +kernel
theorem dX2_tick_12 : decode cX2_tick 12 = .ok (.ireturn, 1) := by decide +kernel
theorem dX2_loss_0 : decode cX2_loss 0 = .ok (.aload_n 0, 1) := by decide +kernel
theorem dX2_loss_1 : decode cX2_loss 1 = .ok (.getfield 23, 3) := by decide +kernel
theorem dX2_loss_4 : decode cX2_loss 4 = .ok (.iload_n 1, 1) := by decide +kernel
theorem dX2_loss_5 : decode cX2_loss 5 = .ok (.invokevirtual 55, 3) := by decide +kernel
theorem dX2_loss_8 : decode cX2_loss 8 = .ok (.ifCond .eq 8, 3) := by decide +kernel
theorem dX2_loss_11 : decode cX2_loss 11 = .ok (.iload_n 1, 1) := by decide +kernel
theorem dX2_loss_12 : decode cX2_loss 12 = .ok (.iload_n 2, 1) := by decide +kernel
theorem dX2_loss_13 : decode cX2_loss 13 = .ok (.if_icmp .ne 6, 3) := by decide +kernel
theorem dX2_loss_16 : decode cX2_loss 16 = .ok (.ldc 59, 2) := by decide +kernel
theorem dX2_loss_18 : decode cX2_loss 18 = .ok (.ireturn, 1) := by decide +kernel
theorem dX2_loss_19 : decode cX2_loss 19 = .ok (.iload_n 2, 1) := by decide +kernel
theorem dX2_loss_20 : decode cX2_loss 20 = .ok (.iconst (-1), 1) := by decide +kernel
theorem dX2_loss_21 : decode cX2_loss 21 = .ok (.if_icmp .eq 17, 3) := by decide +kernel
theorem dX2_loss_24 : decode cX2_loss 24 = .ok (.aload_n 0, 1) := by decide +kernel
theorem dX2_loss_25 : decode cX2_loss 25 = .ok (.getfield 23, 3) := by decide +kernel
theorem dX2_loss_28 : decode cX2_loss 28 = .ok (.iload_n 2, 1) := by decide +kernel
theorem dX2_loss_29 : decode cX2_loss 29 = .ok (.invokevirtual 55, 3) := by decide +kernel
theorem dX2_loss_32 : decode cX2_loss 32 = .ok (.ifCond .ne 6, 3) := by decide +kernel
theorem dX2_loss_35 : decode cX2_loss 35 = .ok (.ldc 59, 2) := by decide +kernel
theorem dX2_loss_37 : decode cX2_loss 37 = .ok (.ireturn, 1) := by decide +kernel
theorem dX2_loss_38 : decode cX2_loss 38 = .ok (.aload_n 0, 1) := by decide +kernel
theorem dX2_loss_39 : decode cX2_loss 39 = .ok (.getfield 23, 3) := by decide +kernel
theorem dX2_loss_42 : decode cX2_loss 42 = .ok (.iload_n 1, 1) := by decide +kernel
theorem dX2_loss_43 : decode cX2_loss 43 = .ok (.invokevirtual 64, 3) := by decide +kernel
theorem dX2_loss_46 : decode cX2_loss 46 = .ok (.ifCond .eq 19, 3) := by decide +kernel
theorem dX2_loss_49 : decode cX2_loss 49 = .ok (.iload_n 2, 1) := by decide +kernel
theorem dX2_loss_50 : decode cX2_loss 50 = .ok (.iconst (-1), 1) := by decide +kernel
theorem dX2_loss_51 : decode cX2_loss 51 = .ok (.if_icmp .eq 17, 3) := by decide +kernel
theorem dX2_loss_54 : decode cX2_loss 54 = .ok (.aload_n 0, 1) := by decide +kernel
theorem dX2_loss_55 : decode cX2_loss 55 = .ok (.getfield 23, 3) := by decide +kernel
theorem dX2_loss_58 : decode cX2_loss 58 = .ok (.iload_n 2, 1) := by decide +kernel
theorem dX2_loss_59 : decode cX2_loss 59 = .ok (.invokevirtual 64, 3) := by decide +kernel
theorem dX2_loss_62 : decode cX2_loss 62 = .ok (.ifCond .ne 6, 3) := by decide +kernel
theorem dX2_loss_65 : decode cX2_loss 65 = .ok (.ldc 94, 2) := by decide +kernel
theorem dX2_loss_67 : decode cX2_loss 67 = .ok (.ireturn, 1) := by decide +kernel
theorem dX2_loss_68 : decode cX2_loss 68 = .ok (.aload_n 0, 1) := by decide +kernel
theorem dX2_loss_69 : decode cX2_loss 69 = .ok (.iload_n 1, 1) := by decide +kernel
theorem dX2_loss_70 : decode cX2_loss 70 = .ok (.iload_n 2, 1) := by decide +kernel
theorem dX2_loss_71 : decode cX2_loss 71 = .ok (.invokevirtual 162, 3) := by decide +kernel
theorem dX2_loss_74 : decode cX2_loss 74 = .ok (.ireturn, 1) := by decide +kernel
theorem dX2_safe_0 : decode cX2_safe 0 = .ok (.iconst 0, 1) := by decide +kernel
theorem dX2_safe_1 : decode cX2_safe 1 = .ok (.istore_n 1, 1) := by decide +kernel
theorem dX2_safe_2 : decode cX2_safe 2 = .ok (.iconst 0, 1) := by decide +kernel
theorem dX2_safe_3 : decode cX2_safe 3 = .ok (.istore_n 2, 1) := by decide +kernel
theorem dX2_safe_4 : decode cX2_safe 4 = .ok (.iload_n 2, 1) := by decide +kernel
theorem dX2_safe_5 : decode cX2_safe 5 = .ok (.aload_n 0, 1) := by decide +kernel
theorem dX2_safe_6 : decode cX2_safe 6 = .ok (.getfield 23, 3) := by decide +kernel
theorem dX2_safe_9 : decode cX2_safe 9 = .ok (.getfield 165, 3) := by decide +kernel
theorem dX2_safe_12 : decode cX2_safe 12 = .ok (.if_icmp .ge 35, 3) := by decide +kernel
theorem dX2_safe_15 : decode cX2_safe 15 = .ok (.aload_n 0, 1) := by decide +kernel
theorem dX2_safe_16 : decode cX2_safe 16 = .ok (.getfield 23, 3) := by decide +kernel
theorem dX2_safe_19 : decode cX2_safe 19 = .ok (.iload_n 2, 1) := by decide +kernel
theorem dX2_safe_20 : decode cX2_safe 20 = .ok (.invokevirtual 64, 3) := by decide +kernel
theorem dX2_safe_23 : decode cX2_safe 23 = .ok (.ifCond .eq 18, 3) := by decide +kernel
theorem dX2_safe_26 : decode cX2_safe 26 = .ok (.aload_n 0, 1) := by decide +kernel
theorem dX2_safe_27 : decode cX2_safe 27 = .ok (.iload_n 2, 1) := by decide +kernel
theorem dX2_safe_28 : decode cX2_safe 28 = .ok (.iconst (-1), 1) := by decide +kernel
theorem dX2_safe_29 : decode cX2_safe 29 = .ok (.invokevirtual 162, 3) := by decide +kernel
theorem dX2_safe_32 : decode cX2_safe 32 = .ok (.ifCond .ne 9, 3) := by decide +kernel
theorem dX2_safe_35 : decode cX2_safe 35 = .ok (.iload_n 1, 1) := by decide +kernel
theorem dX2_safe_36 : decode cX2_safe 36 = .ok (.iconst 1, 1) := by decide +kernel
theorem dX2_safe_37 : decode cX2_safe 37 = .ok (.iload_n 2, 1) := by decide +kernel
theorem dX2_safe_38 : decode cX2_safe 38 = .ok (.ishl, 1) := by decide +kernel
theorem dX2_safe_39 : decode cX2_safe 39 = .ok (.ior, 1) := by decide +kernel
theorem dX2_safe_40 : decode cX2_safe 40 = .ok (.istore_n 1, 1) := by decide +kernel
theorem dX2_safe_41 : decode cX2_safe 41 = .ok (.iinc 2 1, 3) := by decide +kernel
theorem dX2_safe_44 : decode cX2_safe 44 = .ok (.goto (-40), 3) := by decide +kernel
theorem dX2_safe_47 : decode cX2_safe 47 = .ok (.iload_n 1, 1) := by decide +kernel
theorem dX2_safe_48 : decode cX2_safe 48 = .ok (.ireturn, 1) := by decide +kernel
theorem dX2_count_0 : decode cX2_count 0 = .ok (.iload_n 1, 1) := by decide +kernel
theorem dX2_count_1 : decode cX2_count 1 = .ok (.tableswitch 175 0 11 #[63, 71, 82, 90, 98, 106, 130, 138, 146, 154, 162, 167], 63) := by decide +kernel
theorem dX2_count_64 : decode cX2_count 64 = .ok (.aload_n 0, 1) := by decide +kernel
theorem dX2_count_65 : decode cX2_count 65 = .ok (.getfield 23, 3) := by decide +kernel
theorem dX2_count_68 : decode cX2_count 68 = .ok (.getfield 165, 3) := by decide +kernel
theorem dX2_count_71 : decode cX2_count 71 = .ok (.ireturn, 1) := by decide +kernel
theorem dX2_count_72 : decode cX2_count 72 = .ok (.aload_n 0, 1) := by decide +kernel
theorem dX2_count_73 : decode cX2_count 73 = .ok (.getfield 23, 3) := by decide +kernel
theorem dX2_count_76 : decode cX2_count 76 = .ok (.getfield 175, 3) := by decide +kernel
theorem dX2_count_79 : decode cX2_count 79 = .ok (.invokestatic 76, 3) := by decide +kernel
theorem dX2_count_82 : decode cX2_count 82 = .ok (.ireturn, 1) := by decide +kernel
theorem dX2_count_83 : decode cX2_count 83 = .ok (.aload_n 0, 1) := by decide +kernel
theorem dX2_count_84 : decode cX2_count 84 = .ok (.getfield 23, 3) := by decide +kernel
theorem dX2_count_87 : decode cX2_count 87 = .ok (.getfield 178, 3) := by decide +kernel
theorem dX2_count_90 : decode cX2_count 90 = .ok (.ireturn, 1) := by decide +kernel
theorem dX2_count_91 : decode cX2_count 91 = .ok (.aload_n 0, 1) := by decide +kernel
theorem dX2_count_92 : decode cX2_count 92 = .ok (.getfield 23, 3) := by decide +kernel
theorem dX2_count_95 : decode cX2_count 95 = .ok (.invokevirtual 181, 3) := by decide +kernel
theorem dX2_count_98 : decode cX2_count 98 = .ok (.ireturn, 1) := by decide +kernel
theorem dX2_count_99 : decode cX2_count 99 = .ok (.aload_n 0, 1) := by decide +kernel
theorem dX2_count_100 : decode cX2_count 100 = .ok (.getfield 23, 3) := by decide +kernel
theorem dX2_count_103 : decode cX2_count 103 = .ok (.invokevirtual 171, 3) := by decide +kernel
theorem dX2_count_106 : decode cX2_count 106 = .ok (.ireturn, 1) := by decide +kernel
theorem dX2_count_107 : decode cX2_count 107 = .ok (.aload_n 0, 1) := by decide +kernel
theorem dX2_count_108 : decode cX2_count 108 = .ok (.getfield 23, 3) := by decide +kernel
theorem dX2_count_111 : decode cX2_count 111 = .ok (.getfield 178, 3) := by decide +kernel
theorem dX2_count_114 : decode cX2_count 114 = .ok (.aload_n 0, 1) := by decide +kernel
theorem dX2_count_115 : decode cX2_count 115 = .ok (.getfield 23, 3) := by decide +kernel
theorem dX2_count_118 : decode cX2_count 118 = .ok (.invokevirtual 181, 3) := by decide +kernel
theorem dX2_count_121 : decode cX2_count 121 = .ok (.isub, 1) := by decide +kernel
theorem dX2_count_122 : decode cX2_count 122 = .ok (.aload_n 0, 1) := by decide +kernel
theorem dX2_count_123 : decode cX2_count 123 = .ok (.getfield 23, 3) := by decide +kernel
theorem dX2_count_126 : decode cX2_count 126 = .ok (.invokevirtual 171, 3) := by decide +kernel
theorem dX2_count_129 : decode cX2_count 129 = .ok (.isub, 1) := by decide +kernel
theorem dX2_count_130 : decode cX2_count 130 = .ok (.ireturn, 1) := by decide +kernel
theorem dX2_count_131 : decode cX2_count 131 = .ok (.aload_n 0, 1) := by decide +kernel
theorem dX2_count_132 : decode cX2_count 132 = .ok (.getfield 23, 3) := by decide +kernel
theorem dX2_count_135 : decode cX2_count 135 = .ok (.getfield 168, 3) := by decide +kernel
theorem dX2_count_138 : decode cX2_count 138 = .ok (.ireturn, 1) := by decide +kernel
theorem dX2_count_139 : decode cX2_count 139 = .ok (.aload_n 0, 1) := by decide +kernel
theorem dX2_count_140 : decode cX2_count 140 = .ok (.getfield 23, 3) := by decide +kernel
theorem dX2_count_143 : decode cX2_count 143 = .ok (.getfield 184, 3) := by decide +kernel
theorem dX2_count_146 : decode cX2_count 146 = .ok (.ireturn, 1) := by decide +kernel
theorem dX2_count_147 : decode cX2_count 147 = .ok (.aload_n 0, 1) := by decide +kernel
theorem dX2_count_148 : decode cX2_count 148 = .ok (.getfield 23, 3) := by decide +kernel
theorem dX2_count_151 : decode cX2_count 151 = .ok (.invokevirtual 187, 3) := by decide +kernel
theorem dX2_count_154 : decode cX2_count 154 = .ok (.ireturn, 1) := by decide +kernel
theorem dX2_count_155 : decode cX2_count 155 = .ok (.aload_n 0, 1) := by decide +kernel
theorem dX2_count_156 : decode cX2_count 156 = .ok (.getfield 23, 3) := by decide +kernel
theorem dX2_count_159 : decode cX2_count 159 = .ok (.invokevirtual 190, 3) := by decide +kernel
theorem dX2_count_162 : decode cX2_count 162 = .ok (.ireturn, 1) := by decide +kernel
theorem dX2_count_163 : decode cX2_count 163 = .ok (.aload_n 0, 1) := by decide +kernel
theorem dX2_count_164 : decode cX2_count 164 = .ok (.getfield 30, 3) := by decide +kernel
theorem dX2_count_167 : decode cX2_count 167 = .ok (.ireturn, 1) := by decide +kernel
theorem dX2_count_168 : decode cX2_count 168 = .ok (.aload_n 0, 1) := by decide +kernel
theorem dX2_count_169 : decode cX2_count 169 = .ok (.getfield 19, 3) := by decide +kernel
theorem dX2_count_172 : decode cX2_count 172 = .ok (.getfield 193, 3) := by decide +kernel
theorem dX2_count_175 : decode cX2_count 175 = .ok (.ireturn, 1) := by decide +kernel
theorem dX2_count_176 : decode cX2_count 176 = .ok (.ldc 59, 2) := by decide +kernel
theorem dX2_count_178 : decode cX2_count 178 = .ok (.ireturn, 1) := by decide +kernel
theorem dX2_undo_0 : decode cX2_undo 0 = .ok (.aload_n 0, 1) := by decide +kernel
theorem dX2_undo_1 : decode cX2_undo 1 = .ok (.getfield 30, 3) := by decide +kernel
theorem dX2_undo_4 : decode cX2_undo 4 = .ok (.ifCond .gt 6, 3) := by decide +kernel
theorem dX2_undo_7 : decode cX2_undo 7 = .ok (.ldc 94, 2) := by decide +kernel
theorem dX2_undo_9 : decode cX2_undo 9 = .ok (.ireturn, 1) := by decide +kernel
theorem dX2_undo_10 : decode cX2_undo 10 = .ok (.aload_n 0, 1) := by decide +kernel
theorem dX2_undo_11 : decode cX2_undo 11 = .ok (.dup, 1) := by decide +kernel
theorem dX2_undo_12 : decode cX2_undo 12 = .ok (.getfield 30, 3) := by decide +kernel
theorem dX2_undo_15 : decode cX2_undo 15 = .ok (.iconst 1, 1) := by decide +kernel
theorem dX2_undo_16 : decode cX2_undo 16 = .ok (.isub, 1) := by decide +kernel
theorem dX2_undo_17 : decode cX2_undo 17 = .ok (.putfield 30, 3) := by decide +kernel
theorem dX2_undo_20 : decode cX2_undo 20 = .ok (.aload_n 0, 1) := by decide +kernel
theorem dX2_undo_21 : decode cX2_undo 21 = .ok (.getfield 23, 3) := by decide +kernel
theorem dX2_undo_24 : decode cX2_undo 24 = .ok (.aload_n 0, 1) := by decide +kernel
theorem dX2_undo_25 : decode cX2_undo 25 = .ok (.getfield 11, 3) := by decide +kernel
theorem dX2_undo_28 : decode cX2_undo 28 = .ok (.aload_n 0, 1) := by decide +kernel
theorem dX2_undo_29 : decode cX2_undo 29 = .ok (.getfield 30, 3) := by decide +kernel
theorem dX2_undo_32 : decode cX2_undo 32 = .ok (.aaload, 1) := by decide +kernel
theorem dX2_undo_33 : decode cX2_undo 33 = .ok (.invokevirtual 196, 3) := by decide +kernel
theorem dX2_undo_36 : decode cX2_undo 36 = .ok (.aload_n 0, 1) := by decide +kernel
theorem dX2_undo_37 : decode cX2_undo 37 = .ok (.getfield 30, 3) := by decide +kernel
theorem dX2_undo_40 : decode cX2_undo 40 = .ok (.ireturn, 1) := by decide +kernel
theorem dX2_isFamily_0 : decode cX2_isFamily 0 = .ok (.iload_n 0, 1) := by decide +kernel
theorem dX2_isFamily_1 : decode cX2_isFamily 1 = .ok (.ifCond .lt 12, 3) := by decide +kernel
theorem dX2_isFamily_4 : decode cX2_isFamily 4 = .ok (.iload_n 0, 1) := by decide +kernel
theorem dX2_isFamily_5 : decode cX2_isFamily 5 = .ok (.iconst 3, 1) := by decide +kernel
theorem dX2_isFamily_6 : decode cX2_isFamily 6 = .ok (.if_icmp .ge 7, 3) := by decide +kernel
theorem dX2_isFamily_9 : decode cX2_isFamily 9 = .ok (.iconst 1, 1) := by decide +kernel
theorem dX2_isFamily_10 : decode cX2_isFamily 10 = .ok (.goto 4, 3) := by decide +kernel
theorem dX2_isFamily_13 : decode cX2_isFamily 13 = .ok (.iconst 0, 1) := by decide +kernel
theorem dX2_isFamily_14 : decode cX2_isFamily 14 = .ok (.ireturn, 1) := by decide +kernel
theorem dX2_isRow_0 : decode cX2_isRow 0 = .ok (.iload_n 0, 1) := by decide +kernel
theorem dX2_isRow_1 : decode cX2_isRow 1 = .ok (.ifCond .lt 13, 3) := by decide +kernel
theorem dX2_isRow_4 : decode cX2_isRow 4 = .ok (.iload_n 0, 1) := by decide +kernel
theorem dX2_isRow_5 : decode cX2_isRow 5 = .ok (.bipush 6, 2) := by decide +kernel
theorem dX2_isRow_7 : decode cX2_isRow 7 = .ok (.if_icmp .ge 7, 3) := by decide +kernel
theorem dX2_isRow_10 : decode cX2_isRow 10 = .ok (.iconst 1, 1) := by decide +kernel
theorem dX2_isRow_11 : decode cX2_isRow 11 = .ok (.goto 4, 3) := by decide +kernel
theorem dX2_isRow_14 : decode cX2_isRow 14 = .ok (.iconst 0, 1) := by decide +kernel
theorem dX2_isRow_15 : decode cX2_isRow 15 = .ok (.ireturn, 1) := by decide +kernel
theorem dX2_isValue_0 : decode cX2_isValue 0 = .ok (.iload_n 0, 1) := by decide +kernel
theorem dX2_isValue_1 : decode cX2_isValue 1 = .ok (.ifCond .lt 14, 3) := by decide +kernel
theorem dX2_isValue_4 : decode cX2_isValue 4 = .ok (.iload_n 0, 1) := by decide +kernel
theorem dX2_isValue_5 : decode cX2_isValue 5 = .ok (.sipush 255, 3) := by decide +kernel
theorem dX2_isValue_8 : decode cX2_isValue 8 = .ok (.if_icmp .gt 7, 3) := by decide +kernel
theorem dX2_isValue_11 : decode cX2_isValue 11 = .ok (.iconst 1, 1) := by decide +kernel
theorem dX2_isValue_12 : decode cX2_isValue 12 = .ok (.goto 4, 3) := by decide +kernel
theorem dX2_isValue_15 : decode cX2_isValue 15 = .ok (.iconst 0, 1) := by decide +kernel
theorem dX2_isValue_16 : decode cX2_isValue 16 = .ok (.ireturn, 1) := by decide +kernel
theorem dX2_freshTrial_0 : decode cX2_freshTrial 0 = .ok (.aload_n 0, 1) := by decide +kernel
theorem dX2_freshTrial_1 : decode cX2_freshTrial 1 = .ok (.getfield 27, 3) := by decide +kernel
theorem dX2_freshTrial_4 : decode cX2_freshTrial 4 = .ok (.aload_n 0, 1) := by decide +kernel
theorem dX2_freshTrial_5 : decode cX2_freshTrial 5 = .ok (.getfield 23, 3) := by decide +kernel
theorem dX2_freshTrial_8 : decode cX2_freshTrial 8 = .ok (.invokevirtual 196, 3) := by decide +kernel
theorem dX2_freshTrial_11 : decode cX2_freshTrial 11 = .ok (.aload_n 0, 1) := by decide +kernel
theorem dX2_freshTrial_12 : decode cX2_freshTrial 12 = .ok (.getfield 27, 3) := by decide +kernel
theorem dX2_freshTrial_15 : decode cX2_freshTrial 15 = .ok (.areturn, 1) := by decide +kernel
theorem dX2_settle_0 : decode cX2_settle 0 = .ok (.iload_n 1, 1) := by decide +kernel
theorem dX2_settle_1 : decode cX2_settle 1 = .ok (.ifCond .ge 5, 3) := by decide +kernel
theorem dX2_settle_4 : decode cX2_settle 4 = .ok (.iload_n 1, 1) := by decide +kernel
theorem dX2_settle_5 : decode cX2_settle 5 = .ok (.ireturn, 1) := by decide +kernel
theorem dX2_settle_6 : decode cX2_settle 6 = .ok (.aload_n 0, 1) := by decide +kernel
theorem dX2_settle_7 : decode cX2_settle 7 = .ok (.invokevirtual 215, 3) := by decide +kernel
theorem dX2_settle_10 : decode cX2_settle 10 = .ok (.aload_n 0, 1) := by decide +kernel
theorem dX2_settle_11 : decode cX2_settle 11 = .ok (.getfield 23, 3) := by decide +kernel
theorem dX2_settle_14 : decode cX2_settle 14 = .ok (.astore_n 2, 1) := by decide +kernel
theorem dX2_settle_15 : decode cX2_settle 15 = .ok (.aload_n 0, 1) := by decide +kernel
theorem dX2_settle_16 : decode cX2_settle 16 = .ok (.aload_n 0, 1) := by decide +kernel
theorem dX2_settle_17 : decode cX2_settle 17 = .ok (.getfield 27, 3) := by decide +kernel
theorem dX2_settle_20 : decode cX2_settle 20 = .ok (.putfield 23, 3) := by decide +kernel
theorem dX2_settle_23 : decode cX2_settle 23 = .ok (.aload_n 0, 1) := by decide +kernel
theorem dX2_settle_24 : decode cX2_settle 24 = .ok (.aload_n 2, 1) := by decide +kernel
theorem dX2_settle_25 : decode cX2_settle 25 = .ok (.putfield 27, 3) := by decide +kernel
theorem dX2_settle_28 : decode cX2_settle 28 = .ok (.iload_n 1, 1) := by decide +kernel
theorem dX2_settle_29 : decode cX2_settle 29 = .ok (.ireturn, 1) := by decide +kernel
theorem dX2_remember_0 : decode cX2_remember 0 = .ok (.aload_n 0, 1) := by decide +kernel
theorem dX2_remember_1 : decode cX2_remember 1 = .ok (.getfield 30, 3) := by decide +kernel
theorem dX2_remember_4 : decode cX2_remember 4 = .ok (.iconst 4, 1) := by decide +kernel
theorem dX2_remember_5 : decode cX2_remember 5 = .ok (.if_icmp .ne 54, 3) := by decide +kernel
theorem dX2_remember_8 : decode cX2_remember 8 = .ok (.aload_n 0, 1) := by decide +kernel
theorem dX2_remember_9 : decode cX2_remember 9 = .ok (.getfield 11, 3) := by decide +kernel
theorem dX2_remember_12 : decode cX2_remember 12 = .ok (.iconst 0, 1) := by decide +kernel
theorem dX2_remember_13 : decode cX2_remember 13 = .ok (.aaload, 1) := by decide +kernel
theorem dX2_remember_14 : decode cX2_remember 14 = .ok (.astore_n 1, 1) := by decide +kernel
theorem dX2_remember_15 : decode cX2_remember 15 = .ok (.iconst 1, 1) := by decide +kernel
theorem dX2_remember_16 : decode cX2_remember 16 = .ok (.istore_n 2, 1) := by decide +kernel
theorem dX2_remember_17 : decode cX2_remember 17 = .ok (.iload_n 2, 1) := by decide +kernel
theorem dX2_remember_18 : decode cX2_remember 18 = .ok (.iconst 4, 1) := by decide +kernel
theorem dX2_remember_19 : decode cX2_remember 19 = .ok (.if_icmp .ge 23, 3) := by decide +kernel
theorem dX2_remember_22 : decode cX2_remember 22 = .ok (.aload_n 0, 1) := by decide +kernel
theorem dX2_remember_23 : decode cX2_remember 23 = .ok (.getfield 11, 3) := by decide +kernel
theorem dX2_remember_26 : decode cX2_remember 26 = .ok (.iload_n 2, 1) := by decide +kernel
theorem dX2_remember_27 : decode cX2_remember 27 = .ok (.iconst 1, 1) := by decide +kernel
theorem dX2_remember_28 : decode cX2_remember 28 = .ok (.isub, 1) := by decide +kernel
theorem dX2_remember_29 : decode cX2_remember 29 = .ok (.aload_n 0, 1) := by decide +kernel
theorem dX2_remember_30 : decode cX2_remember 30 = .ok (.getfield 11, 3) := by decide +kernel
theorem dX2_remember_33 : decode cX2_remember 33 = .ok (.iload_n 2, 1) := by decide +kernel
theorem dX2_remember_34 : decode cX2_remember 34 = .ok (.aaload, 1) := by decide +kernel
theorem dX2_remember_35 : decode cX2_remember 35 = .ok (.aastore, 1) := by decide +kernel
theorem dX2_remember_36 : decode cX2_remember 36 = .ok (.iinc 2 1, 3) := by decide +kernel
theorem dX2_remember_39 : decode cX2_remember 39 = .ok (.goto (-22), 3) := by decide +kernel
theorem dX2_remember_42 : decode cX2_remember 42 = .ok (.aload_n 0, 1) := by decide +kernel
theorem dX2_remember_43 : decode cX2_remember 43 = .ok (.getfield 11, 3) := by decide +kernel
theorem dX2_remember_46 : decode cX2_remember 46 = .ok (.iconst 3, 1) := by decide +kernel
theorem dX2_remember_47 : decode cX2_remember 47 = .ok (.aload_n 1, 1) := by decide +kernel
theorem dX2_remember_48 : decode cX2_remember 48 = .ok (.aastore, 1) := by decide +kernel
theorem dX2_remember_49 : decode cX2_remember 49 = .ok (.aload_n 0, 1) := by decide +kernel
theorem dX2_remember_50 : decode cX2_remember 50 = .ok (.dup, 1) := by decide +kernel
theorem dX2_remember_51 : decode cX2_remember 51 = .ok (.getfield 30, 3) := by decide +kernel
theorem dX2_remember_54 : decode cX2_remember 54 = .ok (.iconst 1, 1) := by decide +kernel
theorem dX2_remember_55 : decode cX2_remember 55 = .ok (.isub, 1) := by decide +kernel
theorem dX2_remember_56 : decode cX2_remember 56 = .ok (.putfield 30, 3) := by decide +kernel
theorem dX2_remember_59 : decode cX2_remember 59 = .ok (.aload_n 0, 1) := by decide +kernel
theorem dX2_remember_60 : decode cX2_remember 60 = .ok (.getfield 11, 3) := by decide +kernel
theorem dX2_remember_63 : decode cX2_remember 63 = .ok (.aload_n 0, 1) := by decide +kernel
theorem dX2_remember_64 : decode cX2_remember 64 = .ok (.getfield 30, 3) := by decide +kernel
theorem dX2_remember_67 : decode cX2_remember 67 = .ok (.aaload, 1) := by decide +kernel
theorem dX2_remember_68 : decode cX2_remember 68 = .ok (.aload_n 0, 1) := by decide +kernel
theorem dX2_remember_69 : decode cX2_remember 69 = .ok (.getfield 23, 3) := by decide +kernel
theorem dX2_remember_72 : decode cX2_remember 72 = .ok (.invokevirtual 196, 3) := by decide +kernel
theorem dX2_remember_75 : decode cX2_remember 75 = .ok (.aload_n 0, 1) := by decide +kernel
theorem dX2_remember_76 : decode cX2_remember 76 = .ok (.dup, 1) := by decide +kernel
theorem dX2_remember_77 : decode cX2_remember 77 = .ok (.getfield 30, 3) := by decide +kernel
theorem dX2_remember_80 : decode cX2_remember 80 = .ok (.iconst 1, 1) := by decide +kernel
theorem dX2_remember_81 : decode cX2_remember 81 = .ok (.iadd, 1) := by decide +kernel
theorem dX2_remember_82 : decode cX2_remember 82 = .ok (.putfield 30, 3) := by decide +kernel
theorem dX2_remember_85 : decode cX2_remember 85 = .ok (.return_, 1) := by decide +kernel
theorem dX2_lostBy_0 : decode cX2_lostBy 0 = .ok (.aload_n 0, 1) := by decide +kernel
theorem dX2_lostBy_1 : decode cX2_lostBy 1 = .ok (.invokevirtual 34, 3) := by decide +kernel
theorem dX2_lostBy_4 : decode cX2_lostBy 4 = .ok (.astore_n 3, 1) := by decide +kernel
theorem dX2_lostBy_5 : decode cX2_lostBy 5 = .ok (.aload_n 3, 1) := by decide +kernel
theorem dX2_lostBy_6 : decode cX2_lostBy 6 = .ok (.iload_n 1, 1) := by decide +kernel
theorem dX2_lostBy_7 : decode cX2_lostBy 7 = .ok (.invokevirtual 49, 3) := by decide +kernel
theorem dX2_lostBy_10 : decode cX2_lostBy 10 = .ok (.istore 4, 2) := by decide +kernel
theorem dX2_lostBy_12 : decode cX2_lostBy 12 = .ok (.iload_n 2, 1) := by decide +kernel
theorem dX2_lostBy_13 : decode cX2_lostBy 13 = .ok (.iconst (-1), 1) := by decide +kernel
theorem dX2_lostBy_14 : decode cX2_lostBy 14 = .ok (.if_icmp .ne 8, 3) := by decide +kernel
theorem dX2_lostBy_17 : decode cX2_lostBy 17 = .ok (.iload 4, 2) := by decide +kernel
theorem dX2_lostBy_19 : decode cX2_lostBy 19 = .ok (.goto 11, 3) := by decide +kernel
theorem dX2_lostBy_22 : decode cX2_lostBy 22 = .ok (.iload 4, 2) := by decide +kernel
theorem dX2_lostBy_24 : decode cX2_lostBy 24 = .ok (.aload_n 3, 1) := by decide +kernel
theorem dX2_lostBy_25 : decode cX2_lostBy 25 = .ok (.iload_n 2, 1) := by decide +kernel
theorem dX2_lostBy_26 : decode cX2_lostBy 26 = .ok (.invokevirtual 49, 3) := by decide +kernel
theorem dX2_lostBy_29 : decode cX2_lostBy 29 = .ok (.iadd, 1) := by decide +kernel
theorem dX2_lostBy_30 : decode cX2_lostBy 30 = .ok (.ireturn, 1) := by decide +kernel
