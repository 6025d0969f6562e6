theorem dX3_init_0 : decode cX3_init 0 = .ok (.aload_n 0, 1) := by decide +kernel
theorem dX3_init_1 : decode cX3_init 1 = .ok (.invokespecial 1, 3) := by decide +kernel
theorem dX3_init_4 : decode cX3_init 4 = .ok (.aload_n 0, 1) := by decide +kernel
theorem dX3_init_5 : decode cX3_init 5 = .ok (.sipush 208, 3) := by decide +kernel
theorem dX3_init_8 : decode cX3_init 8 = .ok (.newarray .int, 2) := by decide +kernel
theorem dX3_init_10 : decode cX3_init 10 = .ok (.putfield 7, 3) := by decide +kernel
theorem dX3_init_13 : decode cX3_init 13 = .ok (.aload_n 0, 1) := by decide +kernel
theorem dX3_init_14 : decode cX3_init 14 = .ok (.sipush 832, 3) := by decide +kernel
theorem dX3_init_17 : decode cX3_init 17 = .ok (.newarray .int, 2) := by decide +kernel
theorem dX3_init_19 : decode cX3_init 19 = .ok (.putfield 13, 3) := by decide +kernel
theorem dX3_init_22 : decode cX3_init 22 = .ok (.aload_n 0, 1) := by decide +kernel
theorem dX3_init_23 : decode cX3_init 23 = .ok (.sipush 208, 3) := by decide +kernel
theorem dX3_init_26 : decode cX3_init 26 = .ok (.newarray .int, 2) := by decide +kernel
theorem dX3_init_28 : decode cX3_init 28 = .ok (.putfield 16, 3) := by decide +kernel
theorem dX3_init_31 : decode cX3_init 31 = .ok (.aload_n 0, 1) := by decide +kernel
theorem dX3_init_32 : decode cX3_init 32 = .ok (.sipush 208, 3) := by decide +kernel
theorem dX3_init_35 : decode cX3_init 35 = .ok (.newarray .int, 2) := by decide +kernel
theorem dX3_init_37 : decode cX3_init 37 = .ok (.putfield 19, 3) := by decide +kernel
theorem dX3_init_40 : decode cX3_init 40 = .ok (.aload_n 0, 1) := by decide +kernel
theorem dX3_init_41 : decode cX3_init 41 = .ok (.sipush 208, 3) := by decide +kernel
theorem dX3_init_44 : decode cX3_init 44 = .ok (.newarray .int, 2) := by decide +kernel
theorem dX3_init_46 : decode cX3_init 46 = .ok (.putfield 22, 3) := by decide +kernel
theorem dX3_init_49 : decode cX3_init 49 = .ok (.aload_n 0, 1) := by decide +kernel
theorem dX3_init_50 : decode cX3_init 50 = .ok (.bipush 60, 2) := by decide +kernel
theorem dX3_init_52 : decode cX3_init 52 = .ok (.newarray .char, 2) := by decide +kernel
theorem dX3_init_54 : decode cX3_init 54 = .ok (.putfield 25, 3) := by decide +kernel
theorem dX3_init_57 : decode cX3_init 57 = .ok (.aload_n 0, 1) := by decide +kernel
theorem dX3_init_58 : decode cX3_init 58 = .ok (.iconst 2, 1) := by decide +kernel
theorem dX3_init_59 : decode cX3_init 59 = .ok (.newarray .int, 2) := by decide +kernel
theorem dX3_init_61 : decode cX3_init 61 = .ok (.putfield 29, 3) := by decide +kernel
theorem dX3_init_64 : decode cX3_init 64 = .ok (.iconst 0, 1) := by decide +kernel
theorem dX3_init_65 : decode cX3_init 65 = .ok (.istore_n 1, 1) := by decide +kernel
theorem dX3_init_66 : decode cX3_init 66 = .ok (.iload_n 1, 1) := by decide +kernel
theorem dX3_init_67 : decode cX3_init 67 = .ok (.iconst 3, 1) := by decide +kernel
theorem dX3_init_68 : decode cX3_init 68 = .ok (.if_icmp .ge 18, 3) := by decide +kernel
theorem dX3_init_71 : decode cX3_init 71 = .ok (.aload_n 0, 1) := by decide +kernel
theorem dX3_init_72 : decode cX3_init 72 = .ok (.getfield 7, 3) := by decide +kernel
theorem dX3_init_75 : decode cX3_init 75 = .ok (.iconst 5, 1) := by decide +kernel
theorem dX3_init_76 : decode cX3_init 76 = .ok (.iload_n 1, 1) := by decide +kernel
theorem dX3_init_77 : decode cX3_init 77 = .ok (.iadd, 1) := by decide +kernel
theorem dX3_init_78 : decode cX3_init 78 = .ok (.iconst (-1), 1) := by decide +kernel
theorem dX3_init_79 : decode cX3_init 79 = .ok (.iastore, 1) := by decide +kernel
theorem dX3_init_80 : decode cX3_init 80 = .ok (.iinc 1 1, 3) := by decide +kernel
theorem dX3_init_83 : decode cX3_init 83 = .ok (.goto (-17), 3) := by decide +kernel
theorem dX3_init_86 : decode cX3_init 86 = .ok (.return_, 1) := by decide +kernel
theorem dX3_in_0 : decode cX3_in 0 = .ok (.iload_n 0, 1) := by decide +kernel
theorem dX3_in_1 : decode cX3_in 1 = .ok (.iload_n 1, 1) := by decide +kernel
theorem dX3_in_2 : decode cX3_in 2 = .ok (.if_icmp .lt 12, 3) := by decide +kernel
theorem dX3_in_5 : decode cX3_in 5 = .ok (.iload_n 0, 1) := by decide +kernel
theorem dX3_in_6 : decode cX3_in 6 = .ok (.iload_n 2, 1) := by decide +kernel
theorem dX3_in_7 : decode cX3_in 7 = .ok (.if_icmp .gt 7, 3) := by decide +kernel
theorem dX3_in_10 : decode cX3_in 10 = .ok (.iconst 1, 1) := by decide +kernel
theorem dX3_in_11 : decode cX3_in 11 = .ok (.goto 4, 3) := by decide +kernel
theorem dX3_in_14 : decode cX3_in 14 = .ok (.iconst 0, 1) := by decide +kernel
theorem dX3_in_15 : decode cX3_in 15 = .ok (.ireturn, 1) := by decide +kernel
theorem dX3_ch_0 : decode cX3_ch 0 = .ok (.aload_n 0, 1) := by decide +kernel
theorem dX3_ch_1 : decode cX3_ch 1 = .ok (.getfield 7, 3) := by decide +kernel
theorem dX3_ch_4 : decode cX3_ch 4 = .ok (.bipush 8, 2) := by decide +kernel
theorem dX3_ch_6 : decode cX3_ch 6 = .ok (.iconst 4, 1) := by decide +kernel
theorem dX3_ch_7 : decode cX3_ch 7 = .ok (.iload_n 1, 1) := by decide +kernel
theorem dX3_ch_8 : decode cX3_ch 8 = .ok (.imul, 1) := by decide +kernel
theorem dX3_ch_9 : decode cX3_ch 9 = .ok (.iadd, 1) := by decide +kernel
theorem dX3_ch_10 : decode cX3_ch 10 = .ok (.iload_n 2, 1) := by decide +kernel
theorem dX3_ch_11 : decode cX3_ch 11 = .ok (.iadd, 1) := by decide +kernel
theorem dX3_ch_12 : decode cX3_ch 12 = .ok (.iaload, 1) := by decide +kernel
theorem dX3_ch_13 : decode cX3_ch 13 = .ok (.ireturn, 1) := by decide +kernel
theorem dX3_wd_0 : decode cX3_wd 0 = .ok (.aload_n 0, 1) := by decide +kernel
theorem dX3_wd_1 : decode cX3_wd 1 = .ok (.getfield 7, 3) := by decide +kernel
theorem dX3_wd_4 : decode cX3_wd 4 = .ok (.bipush 40, 2) := by decide +kernel
theorem dX3_wd_6 : decode cX3_wd 6 = .ok (.bipush 7, 2) := by decide +kernel
theorem dX3_wd_8 : decode cX3_wd 8 = .ok (.iload_n 1, 1) := by decide +kernel
theorem dX3_wd_9 : decode cX3_wd 9 = .ok (.imul, 1) := by decide +kernel
theorem dX3_wd_10 : decode cX3_wd 10 = .ok (.iadd, 1) := by decide +kernel
theorem dX3_wd_11 : decode cX3_wd 11 = .ok (.iload_n 2, 1) := by decide +kernel
theorem dX3_wd_12 : decode cX3_wd 12 = .ok (.iadd, 1) := by decide +kernel
theorem dX3_wd_13 : decode cX3_wd 13 = .ok (.iaload, 1) := by decide +kernel
theorem dX3_wd_14 : decode cX3_wd 14 = .ok (.ireturn, 1) := by decide +kernel
theorem dX3_lays_0 : decode cX3_lays 0 = .ok (.aload_n 0, 1) := by decide +kernel
theorem dX3_lays_1 : decode cX3_lays 1 = .ok (.getfield 7, 3) := by decide +kernel
theorem dX3_lays_4 : decode cX3_lays 4 = .ok (.bipush 40, 2) := by decide +kernel
theorem dX3_lays_6 : decode cX3_lays 6 = .ok (.bipush 7, 2) := by decide +kernel
theorem dX3_lays_8 : decode cX3_lays 8 = .ok (.iload_n 1, 1) := by decide +kernel
theorem dX3_lays_9 : decode cX3_lays 9 = .ok (.imul, 1) := by decide +kernel
theorem dX3_lays_10 : decode cX3_lays 10 = .ok (.iadd, 1) := by decide +kernel
theorem dX3_lays_11 : decode cX3_lays 11 = .ok (.iload_n 2, 1) := by decide +kernel
theorem dX3_lays_12 : decode cX3_lays 12 = .ok (.iadd, 1) := by decide +kernel
theorem dX3_lays_13 : decode cX3_lays 13 = .ok (.iload_n 3, 1) := by decide +kernel
theorem dX3_lays_14 : decode cX3_lays 14 = .ok (.iastore, 1) := by decide +kernel
theorem dX3_lays_15 : decode cX3_lays 15 = .ok (.return_, 1) := by decide +kernel
theorem dX3_isChip_0 : decode cX3_isChip 0 = .ok (.iload_n 1, 1) := by decide +kernel
theorem dX3_isChip_1 : decode cX3_isChip 1 = .ok (.iconst 0, 1) := by decide +kernel
theorem dX3_isChip_2 : decode cX3_isChip 2 = .ok (.aload_n 0, 1) := by decide +kernel
theorem dX3_isChip_3 : decode cX3_isChip 3 = .ok (.getfield 7, 3) := by decide +kernel
theorem dX3_isChip_6 : decode cX3_isChip 6 = .ok (.iconst 0, 1) := by decide +kernel
theorem dX3_isChip_7 : decode cX3_isChip 7 = .ok (.iaload, 1) := by decide +kernel
theorem dX3_isChip_8 : decode cX3_isChip 8 = .ok (.iconst 1, 1) := by decide +kernel
theorem dX3_isChip_9 : decode cX3_isChip 9 = .ok (.isub, 1) := by decide +kernel
theorem dX3_isChip_10 : decode cX3_isChip 10 = .ok (.invokestatic 32, 3) := by decide +kernel
theorem dX3_isChip_13 : decode cX3_isChip 13 = .ok (.ireturn, 1) := by decide +kernel
theorem dX3_isWord_0 : decode cX3_isWord 0 = .ok (.iload_n 1, 1) := by decide +kernel
theorem dX3_isWord_1 : decode cX3_isWord 1 = .ok (.iconst 0, 1) := by decide +kernel
theorem dX3_isWord_2 : decode cX3_isWord 2 = .ok (.aload_n 0, 1) := by decide +kernel
theorem dX3_isWord_3 : decode cX3_isWord 3 = .ok (.getfield 7, 3) := by decide +kernel
theorem dX3_isWord_6 : decode cX3_isWord 6 = .ok (.iconst 1, 1) := by decide +kernel
theorem dX3_isWord_7 : decode cX3_isWord 7 = .ok (.iaload, 1) := by decide +kernel
theorem dX3_isWord_8 : decode cX3_isWord 8 = .ok (.iconst 1, 1) := by decide +kernel
theorem dX3_isWord_9 : decode cX3_isWord 9 = .ok (.isub, 1) := by decide +kernel
theorem dX3_isWord_10 : decode cX3_isWord 10 = .ok (.invokestatic 32, 3) := by decide +kernel
theorem dX3_isWord_13 : decode cX3_isWord 13 = .ok (.ireturn, 1) := by decide +kernel
theorem dX3_lives_0 : decode cX3_lives 0 = .ok (.aload_n 0, 1) := by decide +kernel
theorem dX3_lives_1 : decode cX3_lives 1 = .ok (.iload_n 1, 1) := by decide +kernel
theorem dX3_lives_2 : decode cX3_lives 2 = .ok (.iconst 2, 1) := by decide +kernel
theorem dX3_lives_3 : decode cX3_lives 3 = .ok (.invokevirtual 36, 3) := by decide +kernel
theorem dX3_lives_6 : decode cX3_lives 6 = .ok (.iconst 1, 1) := by decide +kernel
theorem dX3_lives_7 : decode cX3_lives 7 = .ok (.if_icmp .ne 7, 3) := by decide +kernel
theorem dX3_lives_10 : decode cX3_lives 10 = .ok (.iconst 1, 1) := by decide +kernel
theorem dX3_lives_11 : decode cX3_lives 11 = .ok (.goto 4, 3) := by decide +kernel
theorem dX3_lives_14 : decode cX3_lives 14 = .ok (.iconst 0, 1) := by decide +kernel
theorem dX3_lives_15 : decode cX3_lives 15 = .ok (.ireturn, 1) := by decide +kernel
theorem dX3_isGodfather_0 : decode cX3_isGodfather 0 = .ok (.aload_n 0, 1) := by decide +kernel
theorem dX3_isGodfather_1 : decode cX3_isGodfather 1 = .ok (.getfield 7, 3) := by decide +kernel
theorem dX3_isGodfather_4 : decode cX3_isGodfather 4 = .ok (.iconst 5, 1) := by decide +kernel
theorem dX3_isGodfather_5 : decode cX3_isGodfather 5 = .ok (.aload_n 0, 1) := by decide +kernel
theorem dX3_isGodfather_6 : decode cX3_isGodfather 6 = .ok (.iload_n 1, 1) := by decide +kernel
theorem dX3_isGodfather_7 : decode cX3_isGodfather 7 = .ok (.iconst 0, 1) := by decide +kernel
theorem dX3_isGodfather_8 : decode cX3_isGodfather 8 = .ok (.invokevirtual 36, 3) := by decide +kernel
theorem dX3_isGodfather_11 : decode cX3_isGodfather 11 = .ok (.iadd, 1) := by decide +kernel
theorem dX3_isGodfather_12 : decode cX3_isGodfather 12 = .ok (.iaload, 1) := by decide +kernel
theorem dX3_isGodfather_13 : decode cX3_isGodfather 13 = .ok (.iload_n 1, 1) := by decide +kernel
theorem dX3_isGodfather_14 : decode cX3_isGodfather 14 = .ok (.if_icmp .ne 7, 3) := by decide +kernel
theorem dX3_isGodfather_17 : decode cX3_isGodfather 17 = .ok (.iconst 1, 1) := by decide +kernel
theorem dX3_isGodfather_18 : decode cX3_isGodfather 18 = .ok (.goto 4, 3) := by decide +kernel
theorem dX3_isGodfather_21 : decode cX3_isGodfather 21 = .ok (.iconst 0, 1) := by decide +kernel
theorem dX3_isGodfather_22 : decode cX3_isGodfather 22 = .ok (.ireturn, 1) := by decide +kernel
theorem dX3_isWhole_0 : decode cX3_isWhole 0 = .ok (.aload_n 0, 1) := by decide +kernel
theorem dX3_isWhole_1 : decode cX3_isWhole 1 = .ok (.iload_n 1, 1) := by decide +kernel
theorem dX3_isWhole_2 : decode cX3_isWhole 2 = .ok (.iconst 3, 1) := by decide +kernel
theorem dX3_isWhole_3 : decode cX3_isWhole 3 = .ok (.invokevirtual 36, 3) := by decide +kernel
theorem dX3_isWhole_6 : decode cX3_isWhole 6 = .ok (.iload_n 2, 1) := by decide +kernel
theorem dX3_isWhole_7 : decode cX3_isWhole 7 = .ok (.ishr, 1) := by decide +kernel
theorem dX3_isWhole_8 : decode cX3_isWhole 8 = .ok (.iconst 1, 1) := by decide +kernel
theorem dX3_isWhole_9 : decode cX3_isWhole 9 = .ok (.iand, 1) := by decide +kernel
theorem dX3_isWhole_10 : decode cX3_isWhole 10 = .ok (.ifCond .ne 7, 3) := by decide +kernel
theorem dX3_isWhole_13 : decode cX3_isWhole 13 = .ok (.iconst 1, 1) := by decide +kernel
theorem dX3_isWhole_14 : decode cX3_isWhole 14 = .ok (.goto 4, 3) := by decide +kernel
theorem dX3_isWhole_17 : decode cX3_isWhole 17 = .ok (.iconst 0, 1) := by decide +kernel
theorem dX3_isWhole_18 : decode cX3_isWhole 18 = .ok (.ireturn, 1) := by decide +kernel
theorem dX3_ones_0 : decode cX3_ones 0 = .ok (.iconst 0, 1) := by decide +kernel
theorem dX3_ones_1 : decode cX3_ones 1 = .ok (.istore_n 1, 1) := by decide +kernel
theorem dX3_ones_2 : decode cX3_ones 2 = .ok (.iconst 0, 1) := by decide +kernel
theorem dX3_ones_3 : decode cX3_ones 3 = .ok (.istore_n 2, 1) := by decide +kernel
theorem dX3_ones_4 : decode cX3_ones 4 = .ok (.iload_n 2, 1) := by decide +kernel
theorem dX3_ones_5 : decode cX3_ones 5 = .ok (.bipush 8, 2) := by decide +kernel
theorem dX3_ones_7 : decode cX3_ones 7 = .ok (.if_icmp .ge 17, 3) := by decide +kernel
theorem dX3_ones_10 : decode cX3_ones 10 = .ok (.iload_n 1, 1) := by decide +kernel
theorem dX3_ones_11 : decode cX3_ones 11 = .ok (.iload_n 0, 1) := by decide +kernel
theorem dX3_ones_12 : decode cX3_ones 12 = .ok (.iload_n 2, 1) := by decide +kernel
theorem dX3_ones_13 : decode cX3_ones 13 = .ok (.ishr, 1) := by decide +kernel
theorem dX3_ones_14 : decode cX3_ones 14 = .ok (.iconst 1, 1) := by decide +kernel
theorem dX3_ones_15 : decode cX3_ones 15 = .ok (.iand, 1) := by decide +kernel
theorem dX3_ones_16 : decode cX3_ones 16 = .ok (.iadd, 1) := by decide +kernel
theorem dX3_ones_17 : decode cX3_ones 17 = .ok (.istore_n 1, 1) := by decide +kernel
theorem dX3_ones_18 : decode cX3_ones 18 = .ok (.iinc 2 1, 3) := by decide +kernel
theorem dX3_ones_21 : decode cX3_ones 21 = .ok (.goto (-17), 3) := by decide +kernel
theorem dX3_ones_24 : decode cX3_ones 24 = .ok (.iload_n 1, 1) := by decide +kernel
theorem dX3_ones_25 : decode cX3_ones 25 = .ok (.ireturn, 1) := by decide +kernel
theorem dX3_keeps_0 : decode cX3_keeps 0 = .ok (.iconst 0, 1) := by decide +kernel
theorem dX3_keeps_1 : decode cX3_keeps 1 = .ok (.istore_n 1, 1) := by decide +kernel
theorem dX3_keeps_2 : decode cX3_keeps 2 = .ok (.iload_n 1, 1) := by decide +kernel
theorem dX3_keeps_3 : decode cX3_keeps 3 = .ok (.sipush 208, 3) := by decide +kernel
theorem dX3_keeps_6 : decode cX3_keeps 6 = .ok (.if_icmp .ge 21, 3) := by decide +kernel
theorem dX3_keeps_9 : decode cX3_keeps 9 = .ok (.aload_n 0, 1) := by decide +kernel
theorem dX3_keeps_10 : decode cX3_keeps 10 = .ok (.getfield 16, 3) := by decide +kernel
theorem dX3_keeps_13 : decode cX3_keeps 13 = .ok (.iload_n 1, 1) := by decide +kernel
theorem dX3_keeps_14 : decode cX3_keeps 14 = .ok (.aload_n 0, 1) := by decide +kernel
theorem dX3_keeps_15 : decode cX3_keeps 15 = .ok (.getfield 7, 3) := by decide +kernel
theorem dX3_keeps_18 : decode cX3_keeps 18 = .ok (.iload_n 1, 1) := by decide +kernel
theorem dX3_keeps_19 : decode cX3_keeps 19 = .ok (.iaload, 1) := by decide +kernel
theorem dX3_keeps_20 : decode cX3_keeps 20 = .ok (.iastore, 1) := by decide +kernel
theorem dX3_keeps_21 : decode cX3_keeps 21 = .ok (.iinc 1 1, 3) := by decide +kernel
theorem dX3_keeps_24 : decode cX3_keeps 24 = .ok (.goto (-22), 3) := by decide +kernel
theorem dX3_keeps_27 : decode cX3_keeps 27 = .ok (.return_, 1) := by decide +kernel
theorem dX3_acted_0 : decode cX3_acted 0 = .ok (.iload_n 1, 1) := by decide +kernel
theorem dX3_acted_1 : decode cX3_acted 1 = .ok (.ldc 40, 2) := by decide +kernel
theorem dX3_acted_3 : decode cX3_acted 3 = .ok (.if_icmp .le 98, 3) := by decide +kernel
theorem dX3_acted_6 : decode cX3_acted 6 = .ok (.aload_n 0, 1) := by decide +kernel
theorem dX3_acted_7 : decode cX3_acted 7 = .ok (.getfield 41, 3) := by decide +kernel
theorem dX3_acted_10 : decode cX3_acted 10 = .ok (.iconst 4, 1) := by decide +kernel
theorem dX3_acted_11 : decode cX3_acted 11 = .ok (.if_icmp .ne 44, 3) := by decide +kernel
theorem dX3_acted_14 : decode cX3_acted 14 = .ok (.iconst 0, 1) := by decide +kernel
theorem dX3_acted_15 : decode cX3_acted 15 = .ok (.istore_n 2, 1) := by decide +kernel
theorem dX3_acted_16 : decode cX3_acted 16 = .ok (.iload_n 2, 1) := by decide +kernel
theorem dX3_acted_17 : decode cX3_acted 17 = .ok (.sipush 624, 3) := by decide +kernel
theorem dX3_acted_20 : decode cX3_acted 20 = .ok (.if_icmp .ge 25, 3) := by decide +kernel
theorem dX3_acted_23 : decode cX3_acted 23 = .ok (.aload_n 0, 1) := by decide +kernel
theorem dX3_acted_24 : decode cX3_acted 24 = .ok (.getfield 13, 3) := by decide +kernel
theorem dX3_acted_27 : decode cX3_acted 27 = .ok (.iload_n 2, 1) := by decide +kernel
theorem dX3_acted_28 : decode cX3_acted 28 = .ok (.aload_n 0, 1) := by decide +kernel
theorem dX3_acted_29 : decode cX3_acted 29 = .ok (.getfield 13, 3) := by decide +kernel
theorem dX3_acted_32 : decode cX3_acted 32 = .ok (.iload_n 2, 1) := by decide +kernel
theorem dX3_acted_33 : decode cX3_acted 33 = .ok (.sipush 208, 3) := by decide +kernel
theorem dX3_acted_36 : decode cX3_acted 36 = .ok (.iadd, 1) := by decide +kernel
theorem dX3_acted_37 : decode cX3_acted 37 = .ok (.iaload, 1) := by decide +kernel
theorem dX3_acted_38 : decode cX3_acted 38 = .ok (.iastore, 1) := by decide +kernel
theorem dX3_acted_39 : decode cX3_acted 39 = .ok (.iinc 2 1, 3) := by decide +kernel
theorem dX3_acted_42 : decode cX3_acted 42 = .ok (.goto (-26), 3) := by decide +kernel
theorem dX3_acted_45 : decode cX3_acted 45 = .ok (.aload_n 0, 1) := by decide +kernel
theorem dX3_acted_46 : decode cX3_acted 46 = .ok (.dup, 1) := by decide +kernel
theorem dX3_acted_47 : decode cX3_acted 47 = .ok (.getfield 41, 3) := by decide +kernel
theorem dX3_acted_50 : decode cX3_acted 50 = .ok (.iconst 1, 1) := by decide +kernel
theorem dX3_acted_51 : decode cX3_acted 51 = .ok (.isub, 1) := by decide +kernel
theorem dX3_acted_52 : decode cX3_acted 52 = .ok (.putfield 41, 3) := by decide +kernel
theorem dX3_acted_55 : decode cX3_acted 55 = .ok (.iconst 0, 1) := by decide +kernel
theorem dX3_acted_56 : decode cX3_acted 56 = .ok (.istore_n 2, 1) := by decide +kernel
theorem dX3_acted_57 : decode cX3_acted 57 = .ok (.iload_n 2, 1) := by decide +kernel
theorem dX3_acted_58 : decode cX3_acted 58 = .ok (.sipush 208, 3) := by decide +kernel
theorem dX3_acted_61 : decode cX3_acted 61 = .ok (.if_icmp .ge 30, 3) := by decide +kernel
theorem dX3_acted_64 : decode cX3_acted 64 = .ok (.aload_n 0, 1) := by decide +kernel
theorem dX3_acted_65 : decode cX3_acted 65 = .ok (.getfield 13, 3) := by decide +kernel
theorem dX3_acted_68 : decode cX3_acted 68 = .ok (.sipush 208, 3) := by decide +kernel
theorem dX3_acted_71 : decode cX3_acted 71 = .ok (.aload_n 0, 1) := by decide +kernel
theorem dX3_acted_72 : decode cX3_acted 72 = .ok (.getfield 41, 3) := by decide +kernel
theorem dX3_acted_75 : decode cX3_acted 75 = .ok (.imul, 1) := by decide +kernel
theorem dX3_acted_76 : decode cX3_acted 76 = .ok (.iload_n 2, 1) := by decide +kernel
theorem dX3_acted_77 : decode cX3_acted 77 = .ok (.iadd, 1) := by decide +kernel
theorem dX3_acted_78 : decode cX3_acted 78 = .ok (.aload_n 0, 1) := by decide +kernel
theorem dX3_acted_79 : decode cX3_acted 79 = .ok (.getfield 16, 3) := by decide +kernel
theorem dX3_acted_82 : decode cX3_acted 82 = .ok (.iload_n 2, 1) := by decide +kernel
theorem dX3_acted_83 : decode cX3_acted 83 = .ok (.iaload, 1) := by decide +kernel
theorem dX3_acted_84 : decode cX3_acted 84 = .ok (.iastore, 1) := by decide +kernel
theorem dX3_acted_85 : decode cX3_acted 85 = .ok (.iinc 2 1, 3) := by decide +kernel
theorem dX3_acted_88 : decode cX3_acted 88 = .ok (.goto (-31), 3) := by decide +kernel
theorem dX3_acted_91 : decode cX3_acted 91 = .ok (.aload_n 0, 1) := by decide +kernel
theorem dX3_acted_92 : decode cX3_acted 92 = .ok (.dup, 1) := by decide +kernel
theorem dX3_acted_93 : decode cX3_acted 93 = .ok (.getfield 41, 3) := by decide +kernel
theorem dX3_acted_96 : decode cX3_acted 96 = .ok (.iconst 1, 1) := by decide +kernel
theorem dX3_acted_97 : decode cX3_acted 97 = .ok (.iadd, 1) := by decide +kernel
theorem dX3_acted_98 : decode cX3_acted 98 = .ok (.putfield 41, 3) := by decide +kernel
theorem dX3_acted_101 : decode cX3_acted 101 = .ok (.iload_n 1, 1) := by decide +kernel
theorem dX3_acted_102 : decode cX3_acted 102 = .ok (.ireturn, 1) := by decide +kernel
theorem dX3_puts_0 : decode cX3_puts 0 = .ok (.iconst 0, 1) := by decide +kernel
theorem dX3_puts_1 : decode cX3_puts 1 = .ok (.istore_n 1, 1) := by decide +kernel
theorem dX3_puts_2 : decode cX3_puts 2 = .ok (.iload_n 1, 1) := by decide +kernel
theorem dX3_puts_3 : decode cX3_puts 3 = .ok (.sipush 208, 3) := by decide +kernel
theorem dX3_puts_6 : decode cX3_puts 6 = .ok (.if_icmp .ge 21, 3) := by decide +kernel
theorem dX3_puts_9 : decode cX3_puts 9 = .ok (.aload_n 0, 1) := by decide +kernel
theorem dX3_puts_10 : decode cX3_puts 10 = .ok (.getfield 19, 3) := by decide +kernel
theorem dX3_puts_13 : decode cX3_puts 13 = .ok (.iload_n 1, 1) := by decide +kernel
theorem dX3_puts_14 : decode cX3_puts 14 = .ok (.aload_n 0, 1) := by decide +kernel
theorem dX3_puts_15 : decode cX3_puts 15 = .ok (.getfield 7, 3) := by decide +kernel
theorem dX3_puts_18 : decode cX3_puts 18 = .ok (.iload_n 1, 1) := by decide +kernel
theorem dX3_puts_19 : decode cX3_puts 19 = .ok (.iaload, 1) := by decide +kernel
theorem dX3_puts_20 : decode cX3_puts 20 = .ok (.iastore, 1) := by decide +kernel
theorem dX3_puts_21 : decode cX3_puts 21 = .ok (.iinc 1 1, 3) := by decide +kernel
theorem dX3_puts_24 : decode cX3_puts 24 = .ok (.goto (-22), 3) := by decide +kernel
theorem dX3_puts_27 : decode cX3_puts 27 = .ok (.return_, 1) := by decide +kernel
theorem dX3_restores_0 : decode cX3_restores 0 = .ok (.iconst 0, 1) := by decide +kernel
theorem dX3_restores_1 : decode cX3_restores 1 = .ok (.istore_n 1, 1) := by decide +kernel
theorem dX3_restores_2 : decode cX3_restores 2 = .ok (.iload_n 1, 1) := by decide +kernel
theorem dX3_restores_3 : decode cX3_restores 3 = .ok (.sipush 208, 3) := by decide +kernel
theorem dX3_restores_6 : decode cX3_restores 6 = .ok (.if_icmp .ge 21, 3) := by decide +kernel
theorem dX3_restores_9 : decode cX3_restores 9 = .ok (.aload_n 0, 1) := by decide +kernel
theorem dX3_restores_10 : decode cX3_restores 10 = .ok (.getfield 7, 3) := by decide +kernel
theorem dX3_restores_13 : decode cX3_restores 13 = .ok (.iload_n 1, 1) := by decide +kernel
theorem dX3_restores_14 : decode cX3_restores 14 = .ok (.aload_n 0, 1) := by decide +kernel
theorem dX3_restores_15 : decode cX3_restores 15 = .ok (.getfield 19, 3) := by decide +kernel
theorem dX3_restores_18 : decode cX3_restores 18 = .ok (.iload_n 1, 1) := by decide +kernel
theorem dX3_restores_19 : decode cX3_restores 19 = .ok (.iaload, 1) := by decide +kernel
theorem dX3_restores_20 : decode cX3_restores 20 = .ok (.iastore, 1) := by decide +kernel
theorem dX3_restores_21 : decode cX3_restores 21 = .ok (.iinc 1 1, 3) := by decide +kernel
theorem dX3_restores_24 : decode cX3_restores 24 = .ok (.goto (-22), 3) := by decide +kernel
theorem dX3_restores_27 : decode cX3_restores 27 = .ok (.return_, 1) := by decide +kernel
theorem dX3_kept_0 : decode cX3_kept 0 = .ok (.iconst (-1), 1) := by decide +kernel
theorem dX3_kept_1 : decode cX3_kept 1 = .ok (.istore_n 3, 1) := by decide +kernel
theorem dX3_kept_2 : decode cX3_kept 2 = .ok (.iconst 0, 1) := by decide +kernel
theorem dX3_kept_3 : decode cX3_kept 3 = .ok (.istore 4, 2) := by decide +kernel
theorem dX3_kept_5 : decode cX3_kept 5 = .ok (.iload 4, 2) := by decide +kernel
theorem dX3_kept_7 : decode cX3_kept 7 = .ok (.aload_n 0, 1) := by decide +kernel
theorem dX3_kept_8 : decode cX3_kept 8 = .ok (.getfield 7, 3) := by decide +kernel
theorem dX3_kept_11 : decode cX3_kept 11 = .ok (.iconst 1, 1) := by decide +kernel
theorem dX3_kept_12 : decode cX3_kept 12 = .ok (.iaload, 1) := by decide +kernel
theorem dX3_kept_13 : decode cX3_kept 13 = .ok (.if_icmp .ge 48, 3) := by decide +kernel
theorem dX3_kept_16 : decode cX3_kept 16 = .ok (.aload_n 0, 1) := by decide +kernel
theorem dX3_kept_17 : decode cX3_kept 17 = .ok (.iload 4, 2) := by decide +kernel
theorem dX3_kept_19 : decode cX3_kept 19 = .ok (.iconst 1, 1) := by decide +kernel
theorem dX3_kept_20 : decode cX3_kept 20 = .ok (.invokevirtual 45, 3) := by decide +kernel
theorem dX3_kept_23 : decode cX3_kept 23 = .ok (.ifCond .ne 30, 3) := by decide +kernel
theorem dX3_kept_26 : decode cX3_kept 26 = .ok (.aload_n 0, 1) := by decide +kernel
theorem dX3_kept_27 : decode cX3_kept 27 = .ok (.iload 4, 2) := by decide +kernel
theorem dX3_kept_29 : decode cX3_kept 29 = .ok (.iconst 2, 1) := by decide +kernel
theorem dX3_kept_30 : decode cX3_kept 30 = .ok (.invokevirtual 45, 3) := by decide +kernel
theorem dX3_kept_33 : decode cX3_kept 33 = .ok (.iload_n 1, 1) := by decide +kernel
theorem dX3_kept_34 : decode cX3_kept 34 = .ok (.if_icmp .ne 19, 3) := by decide +kernel
theorem dX3_kept_37 : decode cX3_kept 37 = .ok (.aload_n 0, 1) := by decide +kernel
theorem dX3_kept_38 : decode cX3_kept 38 = .ok (.iload 4, 2) := by decide +kernel
theorem dX3_kept_40 : decode cX3_kept 40 = .ok (.iconst 3, 1) := by decide +kernel
theorem dX3_kept_41 : decode cX3_kept 41 = .ok (.invokevirtual 45, 3) := by decide +kernel
theorem dX3_kept_44 : decode cX3_kept 44 = .ok (.iload_n 2, 1) := by decide +kernel
theorem dX3_kept_45 : decode cX3_kept 45 = .ok (.if_icmp .ne 8, 3) := by decide +kernel
theorem dX3_kept_48 : decode cX3_kept 48 = .ok (.iload 4, 2) := by decide +kernel
theorem dX3_kept_50 : decode cX3_kept 50 = .ok (.goto 4, 3) := by decide +kernel
theorem dX3_kept_53 : decode cX3_kept 53 = .ok (.iload_n 3, 1) := by decide +kernel
theorem dX3_kept_54 : decode cX3_kept 54 = .ok (.istore_n 3, 1) := by decide +kernel
theorem dX3_kept_55 : decode cX3_kept 55 = .ok (.iinc 4 1, 3) := by decide +kernel
theorem dX3_kept_58 : decode cX3_kept 58 = .ok (.goto (-53), 3) := by decide +kernel
theorem dX3_kept_61 : decode cX3_kept 61 = .ok (.iload_n 3, 1) := by decide +kernel
theorem dX3_kept_62 : decode cX3_kept 62 = .ok (.ireturn, 1) := by decide +kernel
theorem dX3_waiting_0 : decode cX3_waiting 0 = .ok (.iconst (-1), 1) := by decide +kernel
theorem dX3_waiting_1 : decode cX3_waiting 1 = .ok (.istore_n 3, 1) := by decide +kernel
theorem dX3_waiting_2 : decode cX3_waiting 2 = .ok (.iconst 0, 1) := by decide +kernel
theorem dX3_waiting_3 : decode cX3_waiting 3 = .ok (.istore 4, 2) := by decide +kernel
theorem dX3_waiting_5 : decode cX3_waiting 5 = .ok (.iload 4, 2) := by decide +kernel
theorem dX3_waiting_7 : decode cX3_waiting 7 = .ok (.aload_n 0, 1) := by decide +kernel
theorem dX3_waiting_8 : decode cX3_waiting 8 = .ok (.getfield 7, 3) := by decide +kernel
theorem dX3_waiting_11 : decode cX3_waiting 11 = .ok (.iconst 1, 1) := by decide +kernel
theorem dX3_waiting_12 : decode cX3_waiting 12 = .ok (.iaload, 1) := by decide +kernel
theorem dX3_waiting_13 : decode cX3_waiting 13 = .ok (.if_icmp .ge 49, 3) := by decide +kernel
theorem dX3_waiting_16 : decode cX3_waiting 16 = .ok (.aload_n 0, 1) := by decide +kernel
theorem dX3_waiting_17 : decode cX3_waiting 17 = .ok (.iload 4, 2) := by decide +kernel
theorem dX3_waiting_19 : decode cX3_waiting 19 = .ok (.iconst 1, 1) := by decide +kernel
theorem dX3_waiting_20 : decode cX3_waiting 20 = .ok (.invokevirtual 45, 3) := by decide +kernel
theorem dX3_waiting_23 : decode cX3_waiting 23 = .ok (.iconst 1, 1) := by decide +kernel
theorem dX3_waiting_24 : decode cX3_waiting 24 = .ok (.if_icmp .ne 30, 3) := by decide +kernel
theorem dX3_waiting_27 : decode cX3_waiting 27 = .ok (.aload_n 0, 1) := by decide +kernel
theorem dX3_waiting_28 : decode cX3_waiting 28 = .ok (.iload 4, 2) := by decide +kernel
theorem dX3_waiting_30 : decode cX3_waiting 30 = .ok (.iconst 4, 1) := by decide +kernel
theorem dX3_waiting_31 : decode cX3_waiting 31 = .ok (.invokevirtual 45, 3) := by decide +kernel
theorem dX3_waiting_34 : decode cX3_waiting 34 = .ok (.iload_n 1, 1) := by decide +kernel
theorem dX3_waiting_35 : decode cX3_waiting 35 = .ok (.if_icmp .ne 19, 3) := by decide +kernel
theorem dX3_waiting_38 : decode cX3_waiting 38 = .ok (.aload_n 0, 1) := by decide +kernel
theorem dX3_waiting_39 : decode cX3_waiting 39 = .ok (.iload 4, 2) := by decide +kernel
theorem dX3_waiting_41 : decode cX3_waiting 41 = .ok (.iconst 3, 1) := by decide +kernel
theorem dX3_waiting_42 : decode cX3_waiting 42 = .ok (.invokevirtual 45, 3) := by decide +kernel
theorem dX3_waiting_45 : decode cX3_waiting 45 = .ok (.iload_n 2, 1) := by decide +kernel
theorem dX3_waiting_46 : decode cX3_waiting 46 = .ok (.if_icmp .ne 8, 3) := by decide +kernel
theorem dX3_waiting_49 : decode cX3_waiting 49 = .ok (.iload 4, 2) := by decide +kernel
theorem dX3_waiting_51 : decode cX3_waiting 51 = .ok (.goto 4, 3) := by decide +kernel
theorem dX3_waiting_54 : decode cX3_waiting 54 = .ok (.iload_n 3, 1) := by decide +kernel
theorem dX3_waiting_55 : decode cX3_waiting 55 = .ok (.istore_n 3, 1) := by decide +kernel
theorem dX3_waiting_56 : decode cX3_waiting 56 = .ok (.iinc 4 1, 3) := by decide +kernel
theorem dX3_waiting_59 : decode cX3_waiting 59 = .ok (.goto (-54), 3) := by decide +kernel
theorem dX3_waiting_62 : decode cX3_waiting 62 = .ok (.iload_n 3, 1) := by decide +kernel
theorem dX3_waiting_63 : decode cX3_waiting 63 = .ok (.ireturn, 1) := by decide +kernel
theorem dX3_isGuarded_0 : decode cX3_isGuarded 0 = .ok (.aload_n 0, 1) := by decide +kernel
theorem dX3_isGuarded_1 : decode cX3_isGuarded 1 = .ok (.getfield 7, 3) := by decide +kernel
theorem dX3_isGuarded_4 : decode cX3_isGuarded 4 = .ok (.iconst 5, 1) := by decide +kernel
theorem dX3_isGuarded_5 : decode cX3_isGuarded 5 = .ok (.iload_n 1, 1) := by decide +kernel
theorem dX3_isGuarded_6 : decode cX3_isGuarded 6 = .ok (.iadd, 1) := by decide +kernel
theorem dX3_isGuarded_7 : decode cX3_isGuarded 7 = .ok (.iaload, 1) := by decide +kernel
theorem dX3_isGuarded_8 : decode cX3_isGuarded 8 = .ok (.istore_n 3, 1) := by decide +kernel
theorem dX3_isGuarded_9 : decode cX3_isGuarded 9 = .ok (.iload_n 3, 1) := by decide +kernel
theorem dX3_isGuarded_10 : decode cX3_isGuarded 10 = .ok (.ifCond .lt 16, 3) := by decide +kernel
theorem dX3_isGuarded_13 : decode cX3_isGuarded 13 = .ok (.aload_n 0, 1) := by decide +kernel
theorem dX3_isGuarded_14 : decode cX3_isGuarded 14 = .ok (.iload_n 3, 1) := by decide +kernel
theorem dX3_isGuarded_15 : decode cX3_isGuarded 15 = .ok (.iload_n 2, 1) := by decide +kernel
theorem dX3_isGuarded_16 : decode cX3_isGuarded 16 = .ok (.invokevirtual 48, 3) := by decide +kernel
theorem dX3_isGuarded_19 : decode cX3_isGuarded 19 = .ok (.ifCond .eq 7, 3) := by decide +kernel
theorem dX3_isGuarded_22 : decode cX3_isGuarded 22 = .ok (.iconst 1, 1) := by decide +kernel
theorem dX3_isGuarded_23 : decode cX3_isGuarded 23 = .ok (.goto 4, 3) := by decide +kernel
theorem dX3_isGuarded_26 : decode cX3_isGuarded 26 = .ok (.iconst 0, 1) := by decide +kernel
theorem dX3_isGuarded_27 : decode cX3_isGuarded 27 = .ok (.ireturn, 1) := by decide +kernel
theorem dX3_isPlace_0 : decode cX3_isPlace 0 = .ok (.aload_n 0, 1) := by decide +kernel
theorem dX3_isPlace_1 : decode cX3_isPlace 1 = .ok (.iload_n 1, 1) := by decide +kernel
theorem dX3_isPlace_2 : decode cX3_isPlace 2 = .ok (.invokevirtual 52, 3) := by decide +kernel
theorem dX3_isPlace_5 : decode cX3_isPlace 5 = .ok (.ifCond .eq 47, 3) := by decide +kernel
theorem dX3_isPlace_8 : decode cX3_isPlace 8 = .ok (.aload_n 0, 1) := by decide +kernel
theorem dX3_isPlace_9 : decode cX3_isPlace 9 = .ok (.iload_n 1, 1) := by decide +kernel
theorem dX3_isPlace_10 : decode cX3_isPlace 10 = .ok (.invokevirtual 56, 3) := by decide +kernel
theorem dX3_isPlace_13 : decode cX3_isPlace 13 = .ok (.ifCond .ne 39, 3) := by decide +kernel
theorem dX3_isPlace_16 : decode cX3_isPlace 16 = .ok (.aload_n 0, 1) := by decide +kernel
theorem dX3_isPlace_17 : decode cX3_isPlace 17 = .ok (.iload_n 1, 1) := by decide +kernel
theorem dX3_isPlace_18 : decode cX3_isPlace 18 = .ok (.iload_n 2, 1) := by decide +kernel
theorem dX3_isPlace_19 : decode cX3_isPlace 19 = .ok (.invokevirtual 48, 3) := by decide +kernel
theorem dX3_isPlace_22 : decode cX3_isPlace 22 = .ok (.ifCond .eq 30, 3) := by decide +kernel
theorem dX3_isPlace_25 : decode cX3_isPlace 25 = .ok (.aload_n 0, 1) := by decide +kernel
theorem dX3_isPlace_26 : decode cX3_isPlace 26 = .ok (.iload_n 1, 1) := by decide +kernel
theorem dX3_isPlace_27 : decode cX3_isPlace 27 = .ok (.iload_n 2, 1) := by decide +kernel
theorem dX3_isPlace_28 : decode cX3_isPlace 28 = .ok (.invokevirtual 59, 3) := by decide +kernel
theorem dX3_isPlace_31 : decode cX3_isPlace 31 = .ok (.ifCond .ge 21, 3) := by decide +kernel
theorem dX3_isPlace_34 : decode cX3_isPlace 34 = .ok (.aload_n 0, 1) := by decide +kernel
theorem dX3_isPlace_35 : decode cX3_isPlace 35 = .ok (.aload_n 0, 1) := by decide +kernel
theorem dX3_isPlace_36 : decode cX3_isPlace 36 = .ok (.iload_n 1, 1) := by decide +kernel
theorem dX3_isPlace_37 : decode cX3_isPlace 37 = .ok (.iconst 0, 1) := by decide +kernel
theorem dX3_isPlace_38 : decode cX3_isPlace 38 = .ok (.invokevirtual 36, 3) := by decide +kernel
theorem dX3_isPlace_41 : decode cX3_isPlace 41 = .ok (.iload_n 2, 1) := by decide +kernel
theorem dX3_isPlace_42 : decode cX3_isPlace 42 = .ok (.invokevirtual 62, 3) := by decide +kernel
theorem dX3_isPlace_45 : decode cX3_isPlace 45 = .ok (.ifCond .ge 7, 3) := by decide +kernel
theorem dX3_isPlace_48 : decode cX3_isPlace 48 = .ok (.iconst 1, 1) := by decide +kernel
theorem dX3_isPlace_49 : decode cX3_isPlace 49 = .ok (.goto 4, 3) := by decide +kernel
theorem dX3_isPlace_52 : decode cX3_isPlace 52 = .ok (.iconst 0, 1) := by decide +kernel
theorem dX3_isPlace_53 : decode cX3_isPlace 53 = .ok (.ireturn, 1) := by decide +kernel
theorem dX3_places_0 : decode cX3_places 0 = .ok (.iconst 0, 1) := by decide +kernel
theorem dX3_places_1 : decode cX3_places 1 = .ok (.istore_n 2, 1) := by decide +kernel
theorem dX3_places_2 : decode cX3_places 2 = .ok (.iconst 0, 1) := by decide +kernel
theorem dX3_places_3 : decode cX3_places 3 = .ok (.istore_n 3, 1) := by decide +kernel
theorem dX3_places_4 : decode cX3_places 4 = .ok (.iload_n 3, 1) := by decide +kernel
theorem dX3_places_5 : decode cX3_places 5 = .ok (.bipush 6, 2) := by decide +kernel
theorem dX3_places_7 : decode cX3_places 7 = .ok (.if_icmp .ge 26, 3) := by decide +kernel
theorem dX3_places_10 : decode cX3_places 10 = .ok (.iload_n 2, 1) := by decide +kernel
theorem dX3_places_11 : decode cX3_places 11 = .ok (.aload_n 0, 1) := by decide +kernel
theorem dX3_places_12 : decode cX3_places 12 = .ok (.iload_n 1, 1) := by decide +kernel
theorem dX3_places_13 : decode cX3_places 13 = .ok (.iload_n 3, 1) := by decide +kernel
theorem dX3_places_14 : decode cX3_places 14 = .ok (.invokevirtual 65, 3) := by decide +kernel
theorem dX3_places_17 : decode cX3_places 17 = .ok (.ifCond .eq 7, 3) := by decide +kernel
theorem dX3_places_20 : decode cX3_places 20 = .ok (.iconst 1, 1) := by decide +kernel
theorem dX3_places_21 : decode cX3_places 21 = .ok (.goto 4, 3) := by decide +kernel
theorem dX3_places_24 : decode cX3_places 24 = .ok (.iconst 0, 1) := by decide +kernel
theorem dX3_places_25 : decode cX3_places 25 = .ok (.iadd, 1) := by decide +kernel
theorem dX3_places_26 : decode cX3_places 26 = .ok (.istore_n 2, 1) := by decide +kernel
theorem dX3_places_27 : decode cX3_places 27 = .ok (.iinc 3 1, 3) := by decide +kernel
theorem dX3_places_30 : decode cX3_places 30 = .ok (.goto (-26), 3) := by decide +kernel
theorem dX3_places_33 : decode cX3_places 33 = .ok (.iload_n 2, 1) := by decide +kernel
theorem dX3_places_34 : decode cX3_places 34 = .ok (.ireturn, 1) := by decide +kernel
theorem dX3_lowest_0 : decode cX3_lowest 0 = .ok (.iconst 0, 1) := by decide +kernel
theorem dX3_lowest_1 : decode cX3_lowest 1 = .ok (.istore_n 2, 1) := by decide +kernel
theorem dX3_lowest_2 : decode cX3_lowest 2 = .ok (.aload_n 0, 1) := by decide +kernel
theorem dX3_lowest_3 : decode cX3_lowest 3 = .ok (.iload_n 1, 1) := by decide +kernel
theorem dX3_lowest_4 : decode cX3_lowest 4 = .ok (.iload_n 2, 1) := by decide +kernel
theorem dX3_lowest_5 : decode cX3_lowest 5 = .ok (.invokevirtual 65, 3) := by decide +kernel
theorem dX3_lowest_8 : decode cX3_lowest 8 = .ok (.ifCond .ne 9, 3) := by decide +kernel
theorem dX3_lowest_11 : decode cX3_lowest 11 = .ok (.iinc 2 1, 3) := by decide +kernel
theorem dX3_lowest_14 : decode cX3_lowest 14 = .ok (.goto (-12), 3) := by decide +kernel
theorem dX3_lowest_17 : decode cX3_lowest 17 = .ok (.iload_n 2, 1) := by decide +kernel
theorem dX3_lowest_18 : decode cX3_lowest 18 = .ok (.ireturn, 1) := by decide +kernel
theorem dX3_target_0 : decode cX3_target 0 = .ok (.iconst (-1), 1) := by decide +kernel
theorem dX3_target_1 : decode cX3_target 1 = .ok (.istore_n 3, 1) := by decide +kernel
theorem dX3_target_2 : decode cX3_target 2 = .ok (.iconst 0, 1) := by decide +kernel
theorem dX3_target_3 : decode cX3_target 3 = .ok (.istore 4, 2) := by decide +kernel
theorem dX3_target_5 : decode cX3_target 5 = .ok (.iload 4, 2) := by decide +kernel
theorem dX3_target_7 : decode cX3_target 7 = .ok (.iconst 2, 1) := by decide +kernel
theorem dX3_target_8 : decode cX3_target 8 = .ok (.if_icmp .ge 118, 3) := by decide +kernel
theorem dX3_target_11 : decode cX3_target 11 = .ok (.iload_n 3, 1) := by decide +kernel
theorem dX3_target_12 : decode cX3_target 12 = .ok (.ifCond .ge 114, 3) := by decide +kernel
theorem dX3_target_15 : decode cX3_target 15 = .ok (.iconst 0, 1) := by decide +kernel
theorem dX3_target_16 : decode cX3_target 16 = .ok (.istore 5, 2) := by decide +kernel
theorem dX3_target_18 : decode cX3_target 18 = .ok (.iload 5, 2) := by decide +kernel
theorem dX3_target_20 : decode cX3_target 20 = .ok (.aload_n 0, 1) := by decide +kernel
theorem dX3_target_21 : decode cX3_target 21 = .ok (.getfield 7, 3) := by decide +kernel
theorem dX3_target_24 : decode cX3_target 24 = .ok (.iconst 0, 1) := by decide +kernel
theorem dX3_target_25 : decode cX3_target 25 = .ok (.iaload, 1) := by decide +kernel
theorem dX3_target_26 : decode cX3_target 26 = .ok (.if_icmp .ge 94, 3) := by decide +kernel
theorem dX3_target_29 : decode cX3_target 29 = .ok (.aload_n 0, 1) := by decide +kernel
theorem dX3_target_30 : decode cX3_target 30 = .ok (.iload 5, 2) := by decide +kernel
theorem dX3_target_32 : decode cX3_target 32 = .ok (.iconst 0, 1) := by decide +kernel
theorem dX3_target_33 : decode cX3_target 33 = .ok (.invokevirtual 36, 3) := by decide +kernel
theorem dX3_target_36 : decode cX3_target 36 = .ok (.iload_n 1, 1) := by decide +kernel
theorem dX3_target_37 : decode cX3_target 37 = .ok (.if_icmp .ne 7, 3) := by decide +kernel
theorem dX3_target_40 : decode cX3_target 40 = .ok (.iconst 1, 1) := by decide +kernel
theorem dX3_target_41 : decode cX3_target 41 = .ok (.goto 4, 3) := by decide +kernel
theorem dX3_target_44 : decode cX3_target 44 = .ok (.iconst 0, 1) := by decide +kernel
theorem dX3_target_45 : decode cX3_target 45 = .ok (.istore 6, 2) := by decide +kernel
theorem dX3_target_47 : decode cX3_target 47 = .ok (.iload 5, 2) := by decide +kernel
theorem dX3_target_49 : decode cX3_target 49 = .ok (.iload_n 2, 1) := by decide +kernel
theorem dX3_target_50 : decode cX3_target 50 = .ok (.if_icmp .eq 31, 3) := by decide +kernel
theorem dX3_target_53 : decode cX3_target 53 = .ok (.iload 6, 2) := by decide +kernel
theorem dX3_target_55 : decode cX3_target 55 = .ok (.iload 4, 2) := by decide +kernel
theorem dX3_target_57 : decode cX3_target 57 = .ok (.ifCond .ne 7, 3) := by decide +kernel
theorem dX3_target_60 : decode cX3_target 60 = .ok (.iconst 1, 1) := by decide +kernel
theorem dX3_target_61 : decode cX3_target 61 = .ok (.goto 4, 3) := by decide +kernel
theorem dX3_target_64 : decode cX3_target 64 = .ok (.iconst 0, 1) := by decide +kernel
theorem dX3_target_65 : decode cX3_target 65 = .ok (.if_icmp .ne 16, 3) := by decide +kernel
theorem dX3_target_68 : decode cX3_target 68 = .ok (.aload_n 0, 1) := by decide +kernel
theorem dX3_target_69 : decode cX3_target 69 = .ok (.iload 5, 2) := by decide +kernel
theorem dX3_target_71 : decode cX3_target 71 = .ok (.invokevirtual 68, 3) := by decide +kernel
theorem dX3_target_74 : decode cX3_target 74 = .ok (.ifCond .le 7, 3) := by decide +kernel
theorem dX3_target_77 : decode cX3_target 77 = .ok (.iconst 1, 1) := by decide +kernel
theorem dX3_target_78 : decode cX3_target 78 = .ok (.goto 4, 3) := by decide +kernel
theorem dX3_target_81 : decode cX3_target 81 = .ok (.iconst 0, 1) := by decide +kernel
theorem dX3_target_82 : decode cX3_target 82 = .ok (.istore 7, 2) := by decide +kernel
theorem dX3_target_84 : decode cX3_target 84 = .ok (.iload 7, 2) := by decide +kernel
theorem dX3_target_86 : decode cX3_target 86 = .ok (.ifCond .eq 26, 3) := by decide +kernel
theorem dX3_target_89 : decode cX3_target 89 = .ok (.iload_n 3, 1) := by decide +kernel
theorem dX3_target_90 : decode cX3_target 90 = .ok (.ifCond .lt 17, 3) := by decide +kernel
theorem dX3_target_93 : decode cX3_target 93 = .ok (.aload_n 0, 1) := by decide +kernel
theorem dX3_target_94 : decode cX3_target 94 = .ok (.iload 5, 2) := by decide +kernel
theorem dX3_target_96 : decode cX3_target 96 = .ok (.invokevirtual 68, 3) := by decide +kernel
theorem dX3_target_99 : decode cX3_target 99 = .ok (.aload_n 0, 1) := by decide +kernel
theorem dX3_target_100 : decode cX3_target 100 = .ok (.iload_n 3, 1) := by decide +kernel
theorem dX3_target_101 : decode cX3_target 101 = .ok (.invokevirtual 68, 3) := by decide +kernel
theorem dX3_target_104 : decode cX3_target 104 = .ok (.if_icmp .le 8, 3) := by decide +kernel
theorem dX3_target_107 : decode cX3_target 107 = .ok (.iload 5, 2) := by decide +kernel
theorem dX3_target_109 : decode cX3_target 109 = .ok (.goto 4, 3) := by decide +kernel
theorem dX3_target_112 : decode cX3_target 112 = .ok (.iload_n 3, 1) := by decide +kernel
theorem dX3_target_113 : decode cX3_target 113 = .ok (.istore_n 3, 1) := by decide +kernel
theorem dX3_target_114 : decode cX3_target 114 = .ok (.iinc 5 1, 3) := by decide +kernel
theorem dX3_target_117 : decode cX3_target 117 = .ok (.goto (-99), 3) := by decide +kernel
theorem dX3_target_120 : decode cX3_target 120 = .ok (.iinc 4 1, 3) := by decide +kernel
theorem dX3_target_123 : decode cX3_target 123 = .ok (.goto (-118), 3) := by decide +kernel
theorem dX3_target_126 : decode cX3_target 126 = .ok (.iload_n 3, 1) := by decide +kernel
theorem dX3_target_127 : decode cX3_target 127 = .ok (.ireturn, 1) := by decide +kernel
theorem dX3_sits_0 : decode cX3_sits 0 = .ok (.aload_n 0, 1) := by decide +kernel
theorem dX3_sits_1 : decode cX3_sits 1 = .ok (.iload_n 1, 1) := by decide +kernel
theorem dX3_sits_2 : decode cX3_sits 2 = .ok (.iconst 1, 1) := by decide +kernel
theorem dX3_sits_3 : decode cX3_sits 3 = .ok (.iconst 0, 1) := by decide +kernel
theorem dX3_sits_4 : decode cX3_sits 4 = .ok (.invokevirtual 72, 3) := by decide +kernel
theorem dX3_sits_7 : decode cX3_sits 7 = .ok (.aload_n 0, 1) := by decide +kernel
theorem dX3_sits_8 : decode cX3_sits 8 = .ok (.iload_n 1, 1) := by decide +kernel
theorem dX3_sits_9 : decode cX3_sits 9 = .ok (.iconst 2, 1) := by decide +kernel
theorem dX3_sits_10 : decode cX3_sits 10 = .ok (.iload_n 2, 1) := by decide +kernel
theorem dX3_sits_11 : decode cX3_sits 11 = .ok (.invokevirtual 72, 3) := by decide +kernel
theorem dX3_sits_14 : decode cX3_sits 14 = .ok (.aload_n 0, 1) := by decide +kernel
theorem dX3_sits_15 : decode cX3_sits 15 = .ok (.iload_n 1, 1) := by decide +kernel
theorem dX3_sits_16 : decode cX3_sits 16 = .ok (.iconst 3, 1) := by decide +kernel
theorem dX3_sits_17 : decode cX3_sits 17 = .ok (.iload_n 3, 1) := by decide +kernel
theorem dX3_sits_18 : decode cX3_sits 18 = .ok (.invokevirtual 72, 3) := by decide +kernel
theorem dX3_sits_21 : decode cX3_sits 21 = .ok (.aload_n 0, 1) := by decide +kernel
theorem dX3_sits_22 : decode cX3_sits 22 = .ok (.iload_n 1, 1) := by decide +kernel
theorem dX3_sits_23 : decode cX3_sits 23 = .ok (.iconst 4, 1) := by decide +kernel
theorem dX3_sits_24 : decode cX3_sits 24 = .ok (.aload_n 0, 1) := by decide +kernel
theorem dX3_sits_25 : decode cX3_sits 25 = .ok (.iload_n 2, 1) := by decide +kernel
theorem dX3_sits_26 : decode cX3_sits 26 = .ok (.iconst 0, 1) := by decide +kernel
theorem dX3_sits_27 : decode cX3_sits 27 = .ok (.invokevirtual 36, 3) := by decide +kernel
theorem dX3_sits_30 : decode cX3_sits 30 = .ok (.invokevirtual 72, 3) := by decide +kernel
theorem dX3_sits_33 : decode cX3_sits 33 = .ok (.return_, 1) := by decide +kernel
theorem dX3_waitsNow_0 : decode cX3_waitsNow 0 = .ok (.aload_n 0, 1) := by decide +kernel
theorem dX3_waitsNow_1 : decode cX3_waitsNow 1 = .ok (.iload_n 1, 1) := by decide +kernel
theorem dX3_waitsNow_2 : decode cX3_waitsNow 2 = .ok (.iconst 1, 1) := by decide +kernel
theorem dX3_waitsNow_3 : decode cX3_waitsNow 3 = .ok (.iconst 1, 1) := by decide +kernel
theorem dX3_waitsNow_4 : decode cX3_waitsNow 4 = .ok (.invokevirtual 72, 3) := by decide +kernel
theorem dX3_waitsNow_7 : decode cX3_waitsNow 7 = .ok (.aload_n 0, 1) := by decide +kernel
theorem dX3_waitsNow_8 : decode cX3_waitsNow 8 = .ok (.iload_n 1, 1) := by decide +kernel
theorem dX3_waitsNow_9 : decode cX3_waitsNow 9 = .ok (.iconst 5, 1) := by decide +kernel
theorem dX3_waitsNow_10 : decode cX3_waitsNow 10 = .ok (.aload_n 0, 1) := by decide +kernel
theorem dX3_waitsNow_11 : decode cX3_waitsNow 11 = .ok (.getfield 7, 3) := by decide +kernel
theorem dX3_waitsNow_14 : decode cX3_waitsNow 14 = .ok (.iconst 4, 1) := by decide +kernel
theorem dX3_waitsNow_15 : decode cX3_waitsNow 15 = .ok (.iaload, 1) := by decide +kernel
theorem dX3_waitsNow_16 : decode cX3_waitsNow 16 = .ok (.invokevirtual 72, 3) := by decide +kernel
theorem dX3_waitsNow_19 : decode cX3_waitsNow 19 = .ok (.aload_n 0, 1) := by decide +kernel
theorem dX3_waitsNow_20 : decode cX3_waitsNow 20 = .ok (.getfield 7, 3) := by decide +kernel
theorem dX3_waitsNow_23 : decode cX3_waitsNow 23 = .ok (.iconst 4, 1) := by decide +kernel
theorem dX3_waitsNow_24 : decode cX3_waitsNow 24 = .ok (.dup2, 1) := by decide +kernel
theorem dX3_waitsNow_25 : decode cX3_waitsNow 25 = .ok (.iaload, 1) := by decide +kernel
theorem dX3_waitsNow_26 : decode cX3_waitsNow 26 = .ok (.iconst 1, 1) := by decide +kernel
theorem dX3_waitsNow_27 : decode cX3_waitsNow 27 = .ok (.iadd, 1) := by decide +kernel
theorem dX3_waitsNow_28 : decode cX3_waitsNow 28 = .ok (.iastore, 1) := by decide +kernel
theorem dX3_waitsNow_29 : decode cX3_waitsNow 29 = .ok (.return_, 1) := by decide +kernel
theorem dX3_lost_0 : decode cX3_lost 0 = .ok (.iconst 0, 1) := by decide +kernel
theorem dX3_lost_1 : decode cX3_lost 1 = .ok (.istore_n 1, 1) := by decide +kernel
theorem dX3_lost_2 : decode cX3_lost 2 = .ok (.iconst 0, 1) := by decide +kernel
theorem dX3_lost_3 : decode cX3_lost 3 = .ok (.istore_n 2, 1) := by decide +kernel
theorem dX3_lost_4 : decode cX3_lost 4 = .ok (.iload_n 2, 1) := by decide +kernel
theorem dX3_lost_5 : decode cX3_lost 5 = .ok (.aload_n 0, 1) := by decide +kernel
theorem dX3_lost_6 : decode cX3_lost 6 = .ok (.getfield 7, 3) := by decide +kernel
theorem dX3_lost_9 : decode cX3_lost 9 = .ok (.iconst 1, 1) := by decide +kernel
theorem dX3_lost_10 : decode cX3_lost 10 = .ok (.iaload, 1) := by decide +kernel
theorem dX3_lost_11 : decode cX3_lost 11 = .ok (.if_icmp .ge 27, 3) := by decide +kernel
theorem dX3_lost_14 : decode cX3_lost 14 = .ok (.iload_n 1, 1) := by decide +kernel
theorem dX3_lost_15 : decode cX3_lost 15 = .ok (.aload_n 0, 1) := by decide +kernel
theorem dX3_lost_16 : decode cX3_lost 16 = .ok (.iload_n 2, 1) := by decide +kernel
theorem dX3_lost_17 : decode cX3_lost 17 = .ok (.iconst 1, 1) := by decide +kernel
theorem dX3_lost_18 : decode cX3_lost 18 = .ok (.invokevirtual 45, 3) := by decide +kernel
theorem dX3_lost_21 : decode cX3_lost 21 = .ok (.iconst 2, 1) := by decide +kernel
theorem dX3_lost_22 : decode cX3_lost 22 = .ok (.if_icmp .ne 7, 3) := by decide +kernel
theorem dX3_lost_25 : decode cX3_lost 25 = .ok (.iconst 1, 1) := by decide +kernel
theorem dX3_lost_26 : decode cX3_lost 26 = .ok (.goto 4, 3) := by decide +kernel
theorem dX3_lost_29 : decode cX3_lost 29 = .ok (.iconst 0, 1) := by decide +kernel
theorem dX3_lost_30 : decode cX3_lost 30 = .ok (.iadd, 1) := by decide +kernel
theorem dX3_lost_31 : decode cX3_lost 31 = .ok (.istore_n 1, 1) := by decide +kernel
theorem dX3_lost_32 : decode cX3_lost 32 = .ok (.iinc 2 1, 3) := by decide +kernel
theorem dX3_lost_35 : decode cX3_lost 35 = .ok (.goto (-31), 3) := by decide +kernel
theorem dX3_lost_38 : decode cX3_lost 38 = .ok (.iload_n 1, 1) := by decide +kernel
theorem dX3_lost_39 : decode cX3_lost 39 = .ok (.ireturn, 1) := by decide +kernel
theorem dX3_falls_0 : decode cX3_falls 0 = .ok (.aload_n 0, 1) := by decide +kernel
theorem dX3_falls_1 : decode cX3_falls 1 = .ok (.iload_n 1, 1) := by decide +kernel
theorem dX3_falls_2 : decode cX3_falls 2 = .ok (.iconst 4, 1) := by decide +kernel
theorem dX3_falls_3 : decode cX3_falls 3 = .ok (.invokevirtual 45, 3) := by decide +kernel
theorem dX3_falls_6 : decode cX3_falls 6 = .ok (.istore_n 3, 1) := by decide +kernel
theorem dX3_falls_7 : decode cX3_falls 7 = .ok (.aload_n 0, 1) := by decide +kernel
theorem dX3_falls_8 : decode cX3_falls 8 = .ok (.iload_n 1, 1) := by decide +kernel
theorem dX3_falls_9 : decode cX3_falls 9 = .ok (.iconst 3, 1) := by decide +kernel
theorem dX3_falls_10 : decode cX3_falls 10 = .ok (.invokevirtual 45, 3) := by decide +kernel
theorem dX3_falls_13 : decode cX3_falls 13 = .ok (.istore 4, 2) := by decide +kernel
theorem dX3_falls_15 : decode cX3_falls 15 = .ok (.aload_n 0, 1) := by decide +kernel
theorem dX3_falls_16 : decode cX3_falls 16 = .ok (.iload_n 3, 1) := by decide +kernel
theorem dX3_falls_17 : decode cX3_falls 17 = .ok (.iload 4, 2) := by decide +kernel
theorem dX3_falls_19 : decode cX3_falls 19 = .ok (.invokevirtual 62, 3) := by decide +kernel
theorem dX3_falls_22 : decode cX3_falls 22 = .ok (.istore 5, 2) := by decide +kernel
theorem dX3_falls_24 : decode cX3_falls 24 = .ok (.aload_n 0, 1) := by decide +kernel
theorem dX3_falls_25 : decode cX3_falls 25 = .ok (.iload_n 3, 1) := by decide +kernel
theorem dX3_falls_26 : decode cX3_falls 26 = .ok (.iload 4, 2) := by decide +kernel
theorem dX3_falls_28 : decode cX3_falls 28 = .ok (.invokevirtual 76, 3) := by decide +kernel
theorem dX3_falls_31 : decode cX3_falls 31 = .ok (.ifCond .ne 13, 3) := by decide +kernel
theorem dX3_falls_34 : decode cX3_falls 34 = .ok (.aload_n 0, 1) := by decide +kernel
theorem dX3_falls_35 : decode cX3_falls 35 = .ok (.iload_n 1, 1) := by decide +kernel
theorem dX3_falls_36 : decode cX3_falls 36 = .ok (.iconst 1, 1) := by decide +kernel
theorem dX3_falls_37 : decode cX3_falls 37 = .ok (.iconst 2, 1) := by decide +kernel
theorem dX3_falls_38 : decode cX3_falls 38 = .ok (.invokevirtual 72, 3) := by decide +kernel
theorem dX3_falls_41 : decode cX3_falls 41 = .ok (.goto 35, 3) := by decide +kernel
theorem dX3_falls_44 : decode cX3_falls 44 = .ok (.iload 5, 2) := by decide +kernel
theorem dX3_falls_46 : decode cX3_falls 46 = .ok (.ifCond .lt 21, 3) := by decide +kernel
theorem dX3_falls_49 : decode cX3_falls 49 = .ok (.aload_n 0, 1) := by decide +kernel
theorem dX3_falls_50 : decode cX3_falls 50 = .ok (.iload_n 1, 1) := by decide +kernel
theorem dX3_falls_51 : decode cX3_falls 51 = .ok (.iconst 1, 1) := by decide +kernel
theorem dX3_falls_52 : decode cX3_falls 52 = .ok (.iconst 2, 1) := by decide +kernel
theorem dX3_falls_53 : decode cX3_falls 53 = .ok (.invokevirtual 72, 3) := by decide +kernel
theorem dX3_falls_56 : decode cX3_falls 56 = .ok (.aload_n 0, 1) := by decide +kernel
theorem dX3_falls_57 : decode cX3_falls 57 = .ok (.iload 5, 2) := by decide +kernel
theorem dX3_falls_59 : decode cX3_falls 59 = .ok (.iconst 1, 1) := by decide +kernel
theorem dX3_falls_60 : decode cX3_falls 60 = .ok (.iconst 2, 1) := by decide +kernel
theorem dX3_falls_61 : decode cX3_falls 61 = .ok (.invokevirtual 72, 3) := by decide +kernel
theorem dX3_falls_64 : decode cX3_falls 64 = .ok (.goto 12, 3) := by decide +kernel
theorem dX3_falls_67 : decode cX3_falls 67 = .ok (.iload_n 2, 1) := by decide +kernel
theorem dX3_falls_68 : decode cX3_falls 68 = .ok (.ifCond .ne 8, 3) := by decide +kernel
theorem dX3_falls_71 : decode cX3_falls 71 = .ok (.aload_n 0, 1) := by decide +kernel
theorem dX3_falls_72 : decode cX3_falls 72 = .ok (.iload_n 1, 1) := by decide +kernel
theorem dX3_falls_73 : decode cX3_falls 73 = .ok (.invokevirtual 79, 3) := by decide +kernel
theorem dX3_falls_76 : decode cX3_falls 76 = .ok (.return_, 1) := by decide +kernel
theorem dX3_chip_0 : decode cX3_chip 0 = .ok (.iload_n 1, 1) := by decide +kernel
theorem dX3_chip_1 : decode cX3_chip 1 = .ok (.iconst 0, 1) := by decide +kernel
theorem dX3_chip_2 : decode cX3_chip 2 = .ok (.iconst 2, 1) := by decide +kernel
theorem dX3_chip_3 : decode cX3_chip 3 = .ok (.invokestatic 32, 3) := by decide +kernel
theorem dX3_chip_6 : decode cX3_chip 6 = .ok (.ifCond .eq 12, 3) := by decide +kernel
theorem dX3_chip_9 : decode cX3_chip 9 = .ok (.iload_n 2, 1) := by decide +kernel
theorem dX3_chip_10 : decode cX3_chip 10 = .ok (.iconst 0, 1) := by decide +kernel
theorem dX3_chip_11 : decode cX3_chip 11 = .ok (.iconst 2, 1) := by decide +kernel
theorem dX3_chip_12 : decode cX3_chip 12 = .ok (.invokestatic 32, 3) := by decide +kernel
theorem dX3_chip_15 : decode cX3_chip 15 = .ok (.ifCond .ne 6, 3) := by decide +kernel
theorem dX3_chip_18 : decode cX3_chip 18 = .ok (.ldc 40, 2) := by decide +kernel
theorem dX3_chip_20 : decode cX3_chip 20 = .ok (.ireturn, 1) := by decide +kernel
theorem dX3_chip_21 : decode cX3_chip 21 = .ok (.aload_n 0, 1) := by decide +kernel
theorem dX3_chip_22 : decode cX3_chip 22 = .ok (.getfield 7, 3) := by decide +kernel
theorem dX3_chip_25 : decode cX3_chip 25 = .ok (.iconst 0, 1) := by decide +kernel
theorem dX3_chip_26 : decode cX3_chip 26 = .ok (.iaload, 1) := by decide +kernel
theorem dX3_chip_27 : decode cX3_chip 27 = .ok (.bipush 8, 2) := by decide +kernel
theorem dX3_chip_29 : decode cX3_chip 29 = .ok (.if_icmp .ne 6, 3) := by decide +kernel
theorem dX3_chip_32 : decode cX3_chip 32 = .ok (.ldc 83, 2) := by decide +kernel
theorem dX3_chip_34 : decode cX3_chip 34 = .ok (.ireturn, 1) := by decide +kernel
theorem dX3_chip_35 : decode cX3_chip 35 = .ok (.aload_n 0, 1) := by decide +kernel
theorem dX3_chip_36 : decode cX3_chip 36 = .ok (.invokevirtual 84, 3) := by decide +kernel
theorem dX3_chip_39 : decode cX3_chip 39 = .ok (.bipush 8, 2) := by decide +kernel
theorem dX3_chip_41 : decode cX3_chip 41 = .ok (.iconst 4, 1) := by decide +kernel
theorem dX3_chip_42 : decode cX3_chip 42 = .ok (.aload_n 0, 1) := by decide +kernel
theorem dX3_chip_43 : decode cX3_chip 43 = .ok (.getfield 7, 3) := by decide +kernel
theorem dX3_chip_46 : decode cX3_chip 46 = .ok (.iconst 0, 1) := by decide +kernel
theorem dX3_chip_47 : decode cX3_chip 47 = .ok (.iaload, 1) := by decide +kernel
theorem dX3_chip_48 : decode cX3_chip 48 = .ok (.imul, 1) := by decide +kernel
theorem dX3_chip_49 : decode cX3_chip 49 = .ok (.iadd, 1) := by decide +kernel
theorem dX3_chip_50 : decode cX3_chip 50 = .ok (.istore_n 3, 1) := by decide +kernel
theorem dX3_chip_51 : decode cX3_chip 51 = .ok (.aload_n 0, 1) := by decide +kernel
theorem dX3_chip_52 : decode cX3_chip 52 = .ok (.getfield 7, 3) := by decide +kernel
theorem dX3_chip_55 : decode cX3_chip 55 = .ok (.iload_n 3, 1) := by decide +kernel
theorem dX3_chip_56 : decode cX3_chip 56 = .ok (.iload_n 1, 1) := by decide +kernel
theorem dX3_chip_57 : decode cX3_chip 57 = .ok (.iastore, 1) := by decide +kernel
theorem dX3_chip_58 : decode cX3_chip 58 = .ok (.aload_n 0, 1) := by decide +kernel
theorem dX3_chip_59 : decode cX3_chip 59 = .ok (.getfield 7, 3) := by decide +kernel
theorem dX3_chip_62 : decode cX3_chip 62 = .ok (.iload_n 3, 1) := by decide +kernel
theorem dX3_chip_63 : decode cX3_chip 63 = .ok (.iconst 1, 1) := by decide +kernel
theorem dX3_chip_64 : decode cX3_chip 64 = .ok (.iadd, 1) := by decide +kernel
theorem dX3_chip_65 : decode cX3_chip 65 = .ok (.iload_n 2, 1) := by decide +kernel
theorem dX3_chip_66 : decode cX3_chip 66 = .ok (.iastore, 1) := by decide +kernel
theorem dX3_chip_67 : decode cX3_chip 67 = .ok (.aload_n 0, 1) := by decide +kernel
theorem dX3_chip_68 : decode cX3_chip 68 = .ok (.getfield 7, 3) := by decide +kernel
theorem dX3_chip_71 : decode cX3_chip 71 = .ok (.iload_n 3, 1) := by decide +kernel
theorem dX3_chip_72 : decode cX3_chip 72 = .ok (.iconst 2, 1) := by decide +kernel
theorem dX3_chip_73 : decode cX3_chip 73 = .ok (.iadd, 1) := by decide +kernel
theorem dX3_chip_74 : decode cX3_chip 74 = .ok (.iconst 1, 1) := by decide +kernel
theorem dX3_chip_75 : decode cX3_chip 75 = .ok (.iastore, 1) := by decide +kernel
theorem dX3_chip_76 : decode cX3_chip 76 = .ok (.aload_n 0, 1) := by decide +kernel
theorem dX3_chip_77 : decode cX3_chip 77 = .ok (.getfield 7, 3) := by decide +kernel
theorem dX3_chip_80 : decode cX3_chip 80 = .ok (.iload_n 3, 1) := by decide +kernel
theorem dX3_chip_81 : decode cX3_chip 81 = .ok (.iconst 3, 1) := by decide +kernel
theorem dX3_chip_82 : decode cX3_chip 82 = .ok (.iadd, 1) := by decide +kernel
theorem dX3_chip_83 : decode cX3_chip 83 = .ok (.iconst 0, 1) := by decide +kernel
theorem dX3_chip_84 : decode cX3_chip 84 = .ok (.iastore, 1) := by decide +kernel
theorem dX3_chip_85 : decode cX3_chip 85 = .ok (.aload_n 0, 1) := by decide +kernel
theorem dX3_chip_86 : decode cX3_chip 86 = .ok (.getfield 7, 3) := by decide +kernel
theorem dX3_chip_89 : decode cX3_chip 89 = .ok (.iconst 0, 1) := by decide +kernel
theorem dX3_chip_90 : decode cX3_chip 90 = .ok (.dup2, 1) := by decide +kernel
theorem dX3_chip_91 : decode cX3_chip 91 = .ok (.iaload, 1) := by decide +kernel
theorem dX3_chip_92 : decode cX3_chip 92 = .ok (.iconst 1, 1) := by decide +kernel
theorem dX3_chip_93 : decode cX3_chip 93 = .ok (.iadd, 1) := by decide +kernel
theorem dX3_chip_94 : decode cX3_chip 94 = .ok (.iastore, 1) := by decide +kernel
theorem dX3_chip_95 : decode cX3_chip 95 = .ok (.aload_n 0, 1) := by decide +kernel
theorem dX3_chip_96 : decode cX3_chip 96 = .ok (.aload_n 0, 1) := by decide +kernel
theorem dX3_chip_97 : decode cX3_chip 97 = .ok (.getfield 7, 3) := by decide +kernel
theorem dX3_chip_100 : decode cX3_chip 100 = .ok (.iconst 0, 1) := by decide +kernel
theorem dX3_chip_101 : decode cX3_chip 101 = .ok (.iaload, 1) := by decide +kernel
theorem dX3_chip_102 : decode cX3_chip 102 = .ok (.iconst 1, 1) := by decide +kernel
theorem dX3_chip_103 : decode cX3_chip 103 = .ok (.isub, 1) := by decide +kernel
theorem dX3_chip_104 : decode cX3_chip 104 = .ok (.invokevirtual 87, 3) := by decide +kernel
theorem dX3_chip_107 : decode cX3_chip 107 = .ok (.ireturn, 1) := by decide +kernel
theorem dX3_words_0 : decode cX3_words 0 = .ok (.iconst 0, 1) := by decide +kernel
theorem dX3_words_1 : decode cX3_words 1 = .ok (.istore_n 2, 1) := by decide +kernel
theorem dX3_words_2 : decode cX3_words 2 = .ok (.iconst 0, 1) := by decide +kernel
theorem dX3_words_3 : decode cX3_words 3 = .ok (.istore_n 3, 1) := by decide +kernel
theorem dX3_words_4 : decode cX3_words 4 = .ok (.iload_n 3, 1) := by decide +kernel
theorem dX3_words_5 : decode cX3_words 5 = .ok (.bipush 6, 2) := by decide +kernel
theorem dX3_words_7 : decode cX3_words 7 = .ok (.if_icmp .ge 26, 3) := by decide +kernel
theorem dX3_words_10 : decode cX3_words 10 = .ok (.iload_n 2, 1) := by decide +kernel
theorem dX3_words_11 : decode cX3_words 11 = .ok (.aload_n 0, 1) := by decide +kernel
theorem dX3_words_12 : decode cX3_words 12 = .ok (.iload_n 1, 1) := by decide +kernel
theorem dX3_words_13 : decode cX3_words 13 = .ok (.iload_n 3, 1) := by decide +kernel
theorem dX3_words_14 : decode cX3_words 14 = .ok (.invokevirtual 59, 3) := by decide +kernel
theorem dX3_words_17 : decode cX3_words 17 = .ok (.ifCond .ge 7, 3) := by decide +kernel
theorem dX3_words_20 : decode cX3_words 20 = .ok (.iconst 0, 1) := by decide +kernel
theorem dX3_words_21 : decode cX3_words 21 = .ok (.goto 4, 3) := by decide +kernel
theorem dX3_words_24 : decode cX3_words 24 = .ok (.iconst 1, 1) := by decide +kernel
theorem dX3_words_25 : decode cX3_words 25 = .ok (.iadd, 1) := by decide +kernel
theorem dX3_words_26 : decode cX3_words 26 = .ok (.istore_n 2, 1) := by decide +kernel
theorem dX3_words_27 : decode cX3_words 27 = .ok (.iinc 3 1, 3) := by decide +kernel
theorem dX3_words_30 : decode cX3_words 30 = .ok (.goto (-26), 3) := by decide +kernel
theorem dX3_words_33 : decode cX3_words 33 = .ok (.iload_n 2, 1) := by decide +kernel
theorem dX3_words_34 : decode cX3_words 34 = .ok (.ireturn, 1) := by decide +kernel
theorem dX3_guarded_0 : decode cX3_guarded 0 = .ok (.iconst 0, 1) := by decide +kernel
theorem dX3_guarded_1 : decode cX3_guarded 1 = .ok (.istore_n 2, 1) := by decide +kernel
theorem dX3_guarded_2 : decode cX3_guarded 2 = .ok (.iconst 0, 1) := by decide +kernel
theorem dX3_guarded_3 : decode cX3_guarded 3 = .ok (.istore_n 3, 1) := by decide +kernel
theorem dX3_guarded_4 : decode cX3_guarded 4 = .ok (.iload_n 3, 1) := by decide +kernel
theorem dX3_guarded_5 : decode cX3_guarded 5 = .ok (.bipush 6, 2) := by decide +kernel
theorem dX3_guarded_7 : decode cX3_guarded 7 = .ok (.if_icmp .ge 28, 3) := by decide +kernel
theorem dX3_guarded_10 : decode cX3_guarded 10 = .ok (.iload_n 2, 1) := by decide +kernel
theorem dX3_guarded_11 : decode cX3_guarded 11 = .ok (.aload_n 0, 1) := by decide +kernel
theorem dX3_guarded_12 : decode cX3_guarded 12 = .ok (.iload_n 1, 1) := by decide +kernel
theorem dX3_guarded_13 : decode cX3_guarded 13 = .ok (.iload_n 3, 1) := by decide +kernel
theorem dX3_guarded_14 : decode cX3_guarded 14 = .ok (.invokevirtual 76, 3) := by decide +kernel
theorem dX3_guarded_17 : decode cX3_guarded 17 = .ok (.ifCond .eq 9, 3) := by decide +kernel
theorem dX3_guarded_20 : decode cX3_guarded 20 = .ok (.iconst 1, 1) := by decide +kernel
theorem dX3_guarded_21 : decode cX3_guarded 21 = .ok (.iload_n 3, 1) := by decide +kernel
theorem dX3_guarded_22 : decode cX3_guarded 22 = .ok (.ishl, 1) := by decide +kernel
theorem dX3_guarded_23 : decode cX3_guarded 23 = .ok (.goto 4, 3) := by decide +kernel
theorem dX3_guarded_26 : decode cX3_guarded 26 = .ok (.iconst 0, 1) := by decide +kernel
theorem dX3_guarded_27 : decode cX3_guarded 27 = .ok (.ior, 1) := by decide +kernel
theorem dX3_guarded_28 : decode cX3_guarded 28 = .ok (.istore_n 2, 1) := by decide +kernel
theorem dX3_guarded_29 : decode cX3_guarded 29 = .ok (.iinc 3 1, 3) := by decide +kernel
theorem dX3_guarded_32 : decode cX3_guarded 32 = .ok (.goto (-28), 3) := by decide +kernel
theorem dX3_guarded_35 : decode cX3_guarded 35 = .ok (.iload_n 2, 1) := by decide +kernel
theorem dX3_guarded_36 : decode cX3_guarded 36 = .ok (.ireturn, 1) := by decide +kernel
theorem dX3_elects_0 : decode cX3_elects 0 = .ok (.aload_n 0, 1) := by decide +kernel
theorem dX3_elects_1 : decode cX3_elects 1 = .ok (.iload_n 1, 1) := by decide +kernel
theorem dX3_elects_2 : decode cX3_elects 2 = .ok (.invokevirtual 90, 3) := by decide +kernel
theorem dX3_elects_5 : decode cX3_elects 5 = .ok (.ifCond .ne 6, 3) := by decide +kernel
theorem dX3_elects_8 : decode cX3_elects 8 = .ok (.ldc 40, 2) := by decide +kernel
theorem dX3_elects_10 : decode cX3_elects 10 = .ok (.ireturn, 1) := by decide +kernel
theorem dX3_elects_11 : decode cX3_elects 11 = .ok (.aload_n 0, 1) := by decide +kernel
theorem dX3_elects_12 : decode cX3_elects 12 = .ok (.iload_n 1, 1) := by decide +kernel
theorem dX3_elects_13 : decode cX3_elects 13 = .ok (.invokevirtual 52, 3) := by decide +kernel
theorem dX3_elects_16 : decode cX3_elects 16 = .ok (.ifCond .eq 27, 3) := by decide +kernel
theorem dX3_elects_19 : decode cX3_elects 19 = .ok (.aload_n 0, 1) := by decide +kernel
theorem dX3_elects_20 : decode cX3_elects 20 = .ok (.getfield 7, 3) := by decide +kernel
theorem dX3_elects_23 : decode cX3_elects 23 = .ok (.iconst 5, 1) := by decide +kernel
theorem dX3_elects_24 : decode cX3_elects 24 = .ok (.aload_n 0, 1) := by decide +kernel
theorem dX3_elects_25 : decode cX3_elects 25 = .ok (.iload_n 1, 1) := by decide +kernel
theorem dX3_elects_26 : decode cX3_elects 26 = .ok (.iconst 0, 1) := by decide +kernel
theorem dX3_elects_27 : decode cX3_elects 27 = .ok (.invokevirtual 36, 3) := by decide +kernel
theorem dX3_elects_30 : decode cX3_elects 30 = .ok (.iadd, 1) := by decide +kernel
theorem dX3_elects_31 : decode cX3_elects 31 = .ok (.iaload, 1) := by decide +kernel
theorem dX3_elects_32 : decode cX3_elects 32 = .ok (.ifCond .ge 11, 3) := by decide +kernel
theorem dX3_elects_35 : decode cX3_elects 35 = .ok (.aload_n 0, 1) := by decide +kernel
theorem dX3_elects_36 : decode cX3_elects 36 = .ok (.iload_n 1, 1) := by decide +kernel
theorem dX3_elects_37 : decode cX3_elects 37 = .ok (.invokevirtual 93, 3) := by decide +kernel
theorem dX3_elects_40 : decode cX3_elects 40 = .ok (.ifCond .le 6, 3) := by decide +kernel
theorem dX3_elects_43 : decode cX3_elects 43 = .ok (.ldc 96, 2) := by decide +kernel
theorem dX3_elects_45 : decode cX3_elects 45 = .ok (.ireturn, 1) := by decide +kernel
theorem dX3_elects_46 : decode cX3_elects 46 = .ok (.aload_n 0, 1) := by decide +kernel
theorem dX3_elects_47 : decode cX3_elects 47 = .ok (.getfield 7, 3) := by decide +kernel
theorem dX3_elects_50 : decode cX3_elects 50 = .ok (.iconst 5, 1) := by decide +kernel
theorem dX3_elects_51 : decode cX3_elects 51 = .ok (.aload_n 0, 1) := by decide +kernel
theorem dX3_elects_52 : decode cX3_elects 52 = .ok (.iload_n 1, 1) := by decide +kernel
theorem dX3_elects_53 : decode cX3_elects 53 = .ok (.iconst 0, 1) := by decide +kernel
theorem dX3_elects_54 : decode cX3_elects 54 = .ok (.invokevirtual 36, 3) := by decide +kernel
theorem dX3_elects_57 : decode cX3_elects 57 = .ok (.iadd, 1) := by decide +kernel
theorem dX3_elects_58 : decode cX3_elects 58 = .ok (.iload_n 1, 1) := by decide +kernel
theorem dX3_elects_59 : decode cX3_elects 59 = .ok (.iastore, 1) := by decide +kernel
theorem dX3_elects_60 : decode cX3_elects 60 = .ok (.aload_n 0, 1) := by decide +kernel
theorem dX3_elects_61 : decode cX3_elects 61 = .ok (.aload_n 0, 1) := by decide +kernel
theorem dX3_elects_62 : decode cX3_elects 62 = .ok (.iload_n 1, 1) := by decide +kernel
theorem dX3_elects_63 : decode cX3_elects 63 = .ok (.iconst 0, 1) := by decide +kernel
theorem dX3_elects_64 : decode cX3_elects 64 = .ok (.invokevirtual 36, 3) := by decide +kernel
theorem dX3_elects_67 : decode cX3_elects 67 = .ok (.invokevirtual 97, 3) := by decide +kernel
theorem dX3_elects_70 : decode cX3_elects 70 = .ok (.invokestatic 100, 3) := by decide +kernel
theorem dX3_elects_73 : decode cX3_elects 73 = .ok (.ireturn, 1) := by decide +kernel
theorem dX3_elect_0 : decode cX3_elect 0 = .ok (.aload_n 0, 1) := by decide +kernel
theorem dX3_elect_1 : decode cX3_elect 1 = .ok (.invokevirtual 84, 3) := by decide +kernel
theorem dX3_elect_4 : decode cX3_elect 4 = .ok (.aload_n 0, 1) := by decide +kernel
theorem dX3_elect_5 : decode cX3_elect 5 = .ok (.aload_n 0, 1) := by decide +kernel
theorem dX3_elect_6 : decode cX3_elect 6 = .ok (.iload_n 1, 1) := by decide +kernel
theorem dX3_elect_7 : decode cX3_elect 7 = .ok (.invokevirtual 103, 3) := by decide +kernel
theorem dX3_elect_10 : decode cX3_elect 10 = .ok (.invokevirtual 87, 3) := by decide +kernel
theorem dX3_elect_13 : decode cX3_elect 13 = .ok (.ireturn, 1) := by decide +kernel
theorem dX3_kills_0 : decode cX3_kills 0 = .ok (.aload_n 0, 1) := by decide +kernel
theorem dX3_kills_1 : decode cX3_kills 1 = .ok (.iload_n 1, 1) := by decide +kernel
theorem dX3_kills_2 : decode cX3_kills 2 = .ok (.invokevirtual 90, 3) := by decide +kernel
theorem dX3_kills_5 : decode cX3_kills 5 = .ok (.ifCond .ne 6, 3) := by decide +kernel
theorem dX3_kills_8 : decode cX3_kills 8 = .ok (.ldc 40, 2) := by decide +kernel
theorem dX3_kills_10 : decode cX3_kills 10 = .ok (.ireturn, 1) := by decide +kernel
theorem dX3_kills_11 : decode cX3_kills 11 = .ok (.aload_n 0, 1) := by decide +kernel
theorem dX3_kills_12 : decode cX3_kills 12 = .ok (.iload_n 1, 1) := by decide +kernel
theorem dX3_kills_13 : decode cX3_kills 13 = .ok (.invokevirtual 52, 3) := by decide +kernel
theorem dX3_kills_16 : decode cX3_kills 16 = .ok (.ifCond .ne 6, 3) := by decide +kernel
theorem dX3_kills_19 : decode cX3_kills 19 = .ok (.ldc 96, 2) := by decide +kernel
theorem dX3_kills_21 : decode cX3_kills 21 = .ok (.ireturn, 1) := by decide +kernel
theorem dX3_kills_22 : decode cX3_kills 22 = .ok (.aload_n 0, 1) := by decide +kernel
theorem dX3_kills_23 : decode cX3_kills 23 = .ok (.invokevirtual 106, 3) := by decide +kernel
theorem dX3_kills_26 : decode cX3_kills 26 = .ok (.istore_n 2, 1) := by decide +kernel
theorem dX3_kills_27 : decode cX3_kills 27 = .ok (.aload_n 0, 1) := by decide +kernel
theorem dX3_kills_28 : decode cX3_kills 28 = .ok (.iload_n 1, 1) := by decide +kernel
theorem dX3_kills_29 : decode cX3_kills 29 = .ok (.iconst 0, 1) := by decide +kernel
theorem dX3_kills_30 : decode cX3_kills 30 = .ok (.invokevirtual 36, 3) := by decide +kernel
theorem dX3_kills_33 : decode cX3_kills 33 = .ok (.istore_n 3, 1) := by decide +kernel
theorem dX3_kills_34 : decode cX3_kills 34 = .ok (.aload_n 0, 1) := by decide +kernel
theorem dX3_kills_35 : decode cX3_kills 35 = .ok (.iload_n 1, 1) := by decide +kernel
theorem dX3_kills_36 : decode cX3_kills 36 = .ok (.invokevirtual 56, 3) := by decide +kernel
theorem dX3_kills_39 : decode cX3_kills 39 = .ok (.istore 4, 2) := by decide +kernel
theorem dX3_kills_41 : decode cX3_kills 41 = .ok (.aload_n 0, 1) := by decide +kernel
theorem dX3_kills_42 : decode cX3_kills 42 = .ok (.getfield 7, 3) := by decide +kernel
theorem dX3_kills_45 : decode cX3_kills 45 = .ok (.bipush 8, 2) := by decide +kernel
theorem dX3_kills_47 : decode cX3_kills 47 = .ok (.iconst 4, 1) := by decide +kernel
theorem dX3_kills_48 : decode cX3_kills 48 = .ok (.iload_n 1, 1) := by decide +kernel
theorem dX3_kills_49 : decode cX3_kills 49 = .ok (.imul, 1) := by decide +kernel
theorem dX3_kills_50 : decode cX3_kills 50 = .ok (.iadd, 1) := by decide +kernel
theorem dX3_kills_51 : decode cX3_kills 51 = .ok (.iconst 2, 1) := by decide +kernel
theorem dX3_kills_52 : decode cX3_kills 52 = .ok (.iadd, 1) := by decide +kernel
theorem dX3_kills_53 : decode cX3_kills 53 = .ok (.iconst 0, 1) := by decide +kernel
theorem dX3_kills_54 : decode cX3_kills 54 = .ok (.iastore, 1) := by decide +kernel
theorem dX3_kills_55 : decode cX3_kills 55 = .ok (.iconst 0, 1) := by decide +kernel
theorem dX3_kills_56 : decode cX3_kills 56 = .ok (.istore 5, 2) := by decide +kernel
theorem dX3_kills_58 : decode cX3_kills 58 = .ok (.iload 5, 2) := by decide +kernel
theorem dX3_kills_60 : decode cX3_kills 60 = .ok (.bipush 6, 2) := by decide +kernel
theorem dX3_kills_62 : decode cX3_kills 62 = .ok (.if_icmp .ge 58, 3) := by decide +kernel
theorem dX3_kills_65 : decode cX3_kills 65 = .ok (.aload_n 0, 1) := by decide +kernel
theorem dX3_kills_66 : decode cX3_kills 66 = .ok (.iload_n 1, 1) := by decide +kernel
theorem dX3_kills_67 : decode cX3_kills 67 = .ok (.iload 5, 2) := by decide +kernel
theorem dX3_kills_69 : decode cX3_kills 69 = .ok (.invokevirtual 59, 3) := by decide +kernel
theorem dX3_kills_72 : decode cX3_kills 72 = .ok (.istore 6, 2) := by decide +kernel
theorem dX3_kills_74 : decode cX3_kills 74 = .ok (.iload 6, 2) := by decide +kernel
theorem dX3_kills_76 : decode cX3_kills 76 = .ok (.ifCond .lt 10, 3) := by decide +kernel
theorem dX3_kills_79 : decode cX3_kills 79 = .ok (.aload_n 0, 1) := by decide +kernel
theorem dX3_kills_80 : decode cX3_kills 80 = .ok (.iload 6, 2) := by decide +kernel
theorem dX3_kills_82 : decode cX3_kills 82 = .ok (.iconst 0, 1) := by decide +kernel
theorem dX3_kills_83 : decode cX3_kills 83 = .ok (.invokevirtual 110, 3) := by decide +kernel
theorem dX3_kills_86 : decode cX3_kills 86 = .ok (.iload 4, 2) := by decide +kernel
theorem dX3_kills_88 : decode cX3_kills 88 = .ok (.ifCond .eq 26, 3) := by decide +kernel
theorem dX3_kills_91 : decode cX3_kills 91 = .ok (.aload_n 0, 1) := by decide +kernel
theorem dX3_kills_92 : decode cX3_kills 92 = .ok (.iload_n 3, 1) := by decide +kernel
theorem dX3_kills_93 : decode cX3_kills 93 = .ok (.iload 5, 2) := by decide +kernel
theorem dX3_kills_95 : decode cX3_kills 95 = .ok (.invokevirtual 62, 3) := by decide +kernel
theorem dX3_kills_98 : decode cX3_kills 98 = .ok (.ifCond .lt 16, 3) := by decide +kernel
theorem dX3_kills_101 : decode cX3_kills 101 = .ok (.aload_n 0, 1) := by decide +kernel
theorem dX3_kills_102 : decode cX3_kills 102 = .ok (.aload_n 0, 1) := by decide +kernel
theorem dX3_kills_103 : decode cX3_kills 103 = .ok (.iload_n 3, 1) := by decide +kernel
theorem dX3_kills_104 : decode cX3_kills 104 = .ok (.iload 5, 2) := by decide +kernel
theorem dX3_kills_106 : decode cX3_kills 106 = .ok (.invokevirtual 62, 3) := by decide +kernel
theorem dX3_kills_109 : decode cX3_kills 109 = .ok (.iconst 1, 1) := by decide +kernel
theorem dX3_kills_110 : decode cX3_kills 110 = .ok (.iconst 2, 1) := by decide +kernel
theorem dX3_kills_111 : decode cX3_kills 111 = .ok (.invokevirtual 72, 3) := by decide +kernel
theorem dX3_kills_114 : decode cX3_kills 114 = .ok (.iinc 5 1, 3) := by decide +kernel
theorem dX3_kills_117 : decode cX3_kills 117 = .ok (.goto (-59), 3) := by decide +kernel
theorem dX3_kills_120 : decode cX3_kills 120 = .ok (.aload_n 0, 1) := by decide +kernel
theorem dX3_kills_121 : decode cX3_kills 121 = .ok (.getfield 7, 3) := by decide +kernel
theorem dX3_kills_124 : decode cX3_kills 124 = .ok (.iconst 5, 1) := by decide +kernel
theorem dX3_kills_125 : decode cX3_kills 125 = .ok (.iload_n 3, 1) := by decide +kernel
theorem dX3_kills_126 : decode cX3_kills 126 = .ok (.iadd, 1) := by decide +kernel
theorem dX3_kills_127 : decode cX3_kills 127 = .ok (.iload 4, 2) := by decide +kernel
theorem dX3_kills_129 : decode cX3_kills 129 = .ok (.ifCond .eq 7, 3) := by decide +kernel
theorem dX3_kills_132 : decode cX3_kills 132 = .ok (.iconst (-1), 1) := by decide +kernel
theorem dX3_kills_133 : decode cX3_kills 133 = .ok (.goto 11, 3) := by decide +kernel
theorem dX3_kills_136 : decode cX3_kills 136 = .ok (.aload_n 0, 1) := by decide +kernel
theorem dX3_kills_137 : decode cX3_kills 137 = .ok (.getfield 7, 3) := by decide +kernel
theorem dX3_kills_140 : decode cX3_kills 140 = .ok (.iconst 5, 1) := by decide +kernel
theorem dX3_kills_141 : decode cX3_kills 141 = .ok (.iload_n 3, 1) := by decide +kernel
theorem dX3_kills_142 : decode cX3_kills 142 = .ok (.iadd, 1) := by decide +kernel
theorem dX3_kills_143 : decode cX3_kills 143 = .ok (.iaload, 1) := by decide +kernel
theorem dX3_kills_144 : decode cX3_kills 144 = .ok (.iastore, 1) := by decide +kernel
theorem dX3_kills_145 : decode cX3_kills 145 = .ok (.aload_n 0, 1) := by decide +kernel
theorem dX3_kills_146 : decode cX3_kills 146 = .ok (.invokevirtual 106, 3) := by decide +kernel
theorem dX3_kills_149 : decode cX3_kills 149 = .ok (.iload_n 2, 1) := by decide +kernel
theorem dX3_kills_150 : decode cX3_kills 150 = .ok (.isub, 1) := by decide +kernel
theorem dX3_kills_151 : decode cX3_kills 151 = .ok (.ireturn, 1) := by decide +kernel
theorem dX3_kill_0 : decode cX3_kill 0 = .ok (.aload_n 0, 1) := by decide +kernel
theorem dX3_kill_1 : decode cX3_kill 1 = .ok (.invokevirtual 84, 3) := by decide +kernel
theorem dX3_kill_4 : decode cX3_kill 4 = .ok (.aload_n 0, 1) := by decide +kernel
theorem dX3_kill_5 : decode cX3_kill 5 = .ok (.aload_n 0, 1) := by decide +kernel
theorem dX3_kill_6 : decode cX3_kill 6 = .ok (.iload_n 1, 1) := by decide +kernel
theorem dX3_kill_7 : decode cX3_kill 7 = .ok (.invokevirtual 114, 3) := by decide +kernel
theorem dX3_kill_10 : decode cX3_kill 10 = .ok (.invokevirtual 87, 3) := by decide +kernel
theorem dX3_kill_13 : decode cX3_kill 13 = .ok (.ireturn, 1) := by decide +kernel
theorem dX3_breaksOne_0 : decode cX3_breaksOne 0 = .ok (.aload_n 0, 1) := by decide +kernel
theorem dX3_breaksOne_1 : decode cX3_breaksOne 1 = .ok (.iload_n 1, 1) := by decide +kernel
theorem dX3_breaksOne_2 : decode cX3_breaksOne 2 = .ok (.invokevirtual 90, 3) := by decide +kernel
theorem dX3_breaksOne_5 : decode cX3_breaksOne 5 = .ok (.ifCond .eq 12, 3) := by decide +kernel
theorem dX3_breaksOne_8 : decode cX3_breaksOne 8 = .ok (.iload_n 2, 1) := by decide +kernel
theorem dX3_breaksOne_9 : decode cX3_breaksOne 9 = .ok (.iconst 0, 1) := by decide +kernel
theorem dX3_breaksOne_10 : decode cX3_breaksOne 10 = .ok (.iconst 5, 1) := by decide +kernel
theorem dX3_breaksOne_11 : decode cX3_breaksOne 11 = .ok (.invokestatic 32, 3) := by decide +kernel
theorem dX3_breaksOne_14 : decode cX3_breaksOne 14 = .ok (.ifCond .ne 6, 3) := by decide +kernel
theorem dX3_breaksOne_17 : decode cX3_breaksOne 17 = .ok (.ldc 40, 2) := by decide +kernel
theorem dX3_breaksOne_19 : decode cX3_breaksOne 19 = .ok (.ireturn, 1) := by decide +kernel
theorem dX3_breaksOne_20 : decode cX3_breaksOne 20 = .ok (.aload_n 0, 1) := by decide +kernel
theorem dX3_breaksOne_21 : decode cX3_breaksOne 21 = .ok (.iload_n 1, 1) := by decide +kernel
theorem dX3_breaksOne_22 : decode cX3_breaksOne 22 = .ok (.invokevirtual 52, 3) := by decide +kernel
theorem dX3_breaksOne_25 : decode cX3_breaksOne 25 = .ok (.ifCond .eq 12, 3) := by decide +kernel
theorem dX3_breaksOne_28 : decode cX3_breaksOne 28 = .ok (.aload_n 0, 1) := by decide +kernel
theorem dX3_breaksOne_29 : decode cX3_breaksOne 29 = .ok (.iload_n 1, 1) := by decide +kernel
theorem dX3_breaksOne_30 : decode cX3_breaksOne 30 = .ok (.iload_n 2, 1) := by decide +kernel
theorem dX3_breaksOne_31 : decode cX3_breaksOne 31 = .ok (.invokevirtual 48, 3) := by decide +kernel
theorem dX3_breaksOne_34 : decode cX3_breaksOne 34 = .ok (.ifCond .ne 6, 3) := by decide +kernel
theorem dX3_breaksOne_37 : decode cX3_breaksOne 37 = .ok (.ldc 96, 2) := by decide +kernel
theorem dX3_breaksOne_39 : decode cX3_breaksOne 39 = .ok (.ireturn, 1) := by decide +kernel
theorem dX3_breaksOne_40 : decode cX3_breaksOne 40 = .ok (.aload_n 0, 1) := by decide +kernel
theorem dX3_breaksOne_41 : decode cX3_breaksOne 41 = .ok (.invokevirtual 106, 3) := by decide +kernel
theorem dX3_breaksOne_44 : decode cX3_breaksOne 44 = .ok (.istore_n 3, 1) := by decide +kernel
theorem dX3_breaksOne_45 : decode cX3_breaksOne 45 = .ok (.aload_n 0, 1) := by decide +kernel
theorem dX3_breaksOne_46 : decode cX3_breaksOne 46 = .ok (.iload_n 1, 1) := by decide +kernel
theorem dX3_breaksOne_47 : decode cX3_breaksOne 47 = .ok (.iload_n 2, 1) := by decide +kernel
theorem dX3_breaksOne_48 : decode cX3_breaksOne 48 = .ok (.invokevirtual 59, 3) := by decide +kernel
theorem dX3_breaksOne_51 : decode cX3_breaksOne 51 = .ok (.istore 4, 2) := by decide +kernel
theorem dX3_breaksOne_53 : decode cX3_breaksOne 53 = .ok (.aload_n 0, 1) := by decide +kernel
theorem dX3_breaksOne_54 : decode cX3_breaksOne 54 = .ok (.iload_n 1, 1) := by decide +kernel
theorem dX3_breaksOne_55 : decode cX3_breaksOne 55 = .ok (.iconst 1, 1) := by decide +kernel
theorem dX3_breaksOne_56 : decode cX3_breaksOne 56 = .ok (.invokevirtual 36, 3) := by decide +kernel
theorem dX3_breaksOne_59 : decode cX3_breaksOne 59 = .ok (.ifCond .le 7, 3) := by decide +kernel
theorem dX3_breaksOne_62 : decode cX3_breaksOne 62 = .ok (.iconst 1, 1) := by decide +kernel
theorem dX3_breaksOne_63 : decode cX3_breaksOne 63 = .ok (.goto 4, 3) := by decide +kernel
theorem dX3_breaksOne_66 : decode cX3_breaksOne 66 = .ok (.iconst 0, 1) := by decide +kernel
theorem dX3_breaksOne_67 : decode cX3_breaksOne 67 = .ok (.istore 5, 2) := by decide +kernel
theorem dX3_breaksOne_69 : decode cX3_breaksOne 69 = .ok (.aload_n 0, 1) := by decide +kernel
theorem dX3_breaksOne_70 : decode cX3_breaksOne 70 = .ok (.iload_n 1, 1) := by decide +kernel
theorem dX3_breaksOne_71 : decode cX3_breaksOne 71 = .ok (.invokevirtual 56, 3) := by decide +kernel
theorem dX3_breaksOne_74 : decode cX3_breaksOne 74 = .ok (.ifCond .eq 32, 3) := by decide +kernel
theorem dX3_breaksOne_77 : decode cX3_breaksOne 77 = .ok (.aload_n 0, 1) := by decide +kernel
theorem dX3_breaksOne_78 : decode cX3_breaksOne 78 = .ok (.aload_n 0, 1) := by decide +kernel
theorem dX3_breaksOne_79 : decode cX3_breaksOne 79 = .ok (.iload_n 1, 1) := by decide +kernel
theorem dX3_breaksOne_80 : decode cX3_breaksOne 80 = .ok (.iconst 0, 1) := by decide +kernel
theorem dX3_breaksOne_81 : decode cX3_breaksOne 81 = .ok (.invokevirtual 36, 3) := by decide +kernel
theorem dX3_breaksOne_84 : decode cX3_breaksOne 84 = .ok (.iload_n 2, 1) := by decide +kernel
theorem dX3_breaksOne_85 : decode cX3_breaksOne 85 = .ok (.invokevirtual 62, 3) := by decide +kernel
theorem dX3_breaksOne_88 : decode cX3_breaksOne 88 = .ok (.istore 6, 2) := by decide +kernel
theorem dX3_breaksOne_90 : decode cX3_breaksOne 90 = .ok (.iload 6, 2) := by decide +kernel
theorem dX3_breaksOne_92 : decode cX3_breaksOne 92 = .ok (.ifCond .lt 11, 3) := by decide +kernel
theorem dX3_breaksOne_95 : decode cX3_breaksOne 95 = .ok (.aload_n 0, 1) := by decide +kernel
theorem dX3_breaksOne_96 : decode cX3_breaksOne 96 = .ok (.iload 6, 2) := by decide +kernel
theorem dX3_breaksOne_98 : decode cX3_breaksOne 98 = .ok (.iconst 1, 1) := by decide +kernel
theorem dX3_breaksOne_99 : decode cX3_breaksOne 99 = .ok (.iconst 2, 1) := by decide +kernel
theorem dX3_breaksOne_100 : decode cX3_breaksOne 100 = .ok (.invokevirtual 72, 3) := by decide +kernel
theorem dX3_breaksOne_103 : decode cX3_breaksOne 103 = .ok (.goto 16, 3) := by decide +kernel
theorem dX3_breaksOne_106 : decode cX3_breaksOne 106 = .ok (.iload 4, 2) := by decide +kernel
theorem dX3_breaksOne_108 : decode cX3_breaksOne 108 = .ok (.ifCond .lt 11, 3) := by decide +kernel
theorem dX3_breaksOne_111 : decode cX3_breaksOne 111 = .ok (.aload_n 0, 1) := by decide +kernel
theorem dX3_breaksOne_112 : decode cX3_breaksOne 112 = .ok (.iload 4, 2) := by decide +kernel
theorem dX3_breaksOne_114 : decode cX3_breaksOne 114 = .ok (.iload 5, 2) := by decide +kernel
theorem dX3_breaksOne_116 : decode cX3_breaksOne 116 = .ok (.invokevirtual 110, 3) := by decide +kernel
theorem dX3_breaksOne_119 : decode cX3_breaksOne 119 = .ok (.aload_n 0, 1) := by decide +kernel
theorem dX3_breaksOne_120 : decode cX3_breaksOne 120 = .ok (.getfield 7, 3) := by decide +kernel
theorem dX3_breaksOne_123 : decode cX3_breaksOne 123 = .ok (.bipush 8, 2) := by decide +kernel
theorem dX3_breaksOne_125 : decode cX3_breaksOne 125 = .ok (.iconst 4, 1) := by decide +kernel
theorem dX3_breaksOne_126 : decode cX3_breaksOne 126 = .ok (.iload_n 1, 1) := by decide +kernel
theorem dX3_breaksOne_127 : decode cX3_breaksOne 127 = .ok (.imul, 1) := by decide +kernel
theorem dX3_breaksOne_128 : decode cX3_breaksOne 128 = .ok (.iadd, 1) := by decide +kernel
theorem dX3_breaksOne_129 : decode cX3_breaksOne 129 = .ok (.iconst 1, 1) := by decide +kernel
theorem dX3_breaksOne_130 : decode cX3_breaksOne 130 = .ok (.iadd, 1) := by decide +kernel
theorem dX3_breaksOne_131 : decode cX3_breaksOne 131 = .ok (.dup2, 1) := by decide +kernel
theorem dX3_breaksOne_132 : decode cX3_breaksOne 132 = .ok (.iaload, 1) := by decide +kernel
theorem dX3_breaksOne_133 : decode cX3_breaksOne 133 = .ok (.iload 5, 2) := by decide +kernel
theorem dX3_breaksOne_135 : decode cX3_breaksOne 135 = .ok (.ifCond .eq 7, 3) := by decide +kernel
theorem dX3_breaksOne_138 : decode cX3_breaksOne 138 = .ok (.iconst 1, 1) := by decide +kernel
theorem dX3_breaksOne_139 : decode cX3_breaksOne 139 = .ok (.goto 4, 3) := by decide +kernel
theorem dX3_breaksOne_142 : decode cX3_breaksOne 142 = .ok (.iconst 0, 1) := by decide +kernel
theorem dX3_breaksOne_143 : decode cX3_breaksOne 143 = .ok (.isub, 1) := by decide +kernel
theorem dX3_breaksOne_144 : decode cX3_breaksOne 144 = .ok (.iastore, 1) := by decide +kernel
theorem dX3_breaksOne_145 : decode cX3_breaksOne 145 = .ok (.aload_n 0, 1) := by decide +kernel
theorem dX3_breaksOne_146 : decode cX3_breaksOne 146 = .ok (.getfield 7, 3) := by decide +kernel
theorem dX3_breaksOne_149 : decode cX3_breaksOne 149 = .ok (.bipush 8, 2) := by decide +kernel
theorem dX3_breaksOne_151 : decode cX3_breaksOne 151 = .ok (.iconst 4, 1) := by decide +kernel
theorem dX3_breaksOne_152 : decode cX3_breaksOne 152 = .ok (.iload_n 1, 1) := by decide +kernel
theorem dX3_breaksOne_153 : decode cX3_breaksOne 153 = .ok (.imul, 1) := by decide +kernel
theorem dX3_breaksOne_154 : decode cX3_breaksOne 154 = .ok (.iadd, 1) := by decide +kernel
theorem dX3_breaksOne_155 : decode cX3_breaksOne 155 = .ok (.iconst 3, 1) := by decide +kernel
theorem dX3_breaksOne_156 : decode cX3_breaksOne 156 = .ok (.iadd, 1) := by decide +kernel
theorem dX3_breaksOne_157 : decode cX3_breaksOne 157 = .ok (.dup2, 1) := by decide +kernel
theorem dX3_breaksOne_158 : decode cX3_breaksOne 158 = .ok (.iaload, 1) := by decide +kernel
theorem dX3_breaksOne_159 : decode cX3_breaksOne 159 = .ok (.iload 5, 2) := by decide +kernel
theorem dX3_breaksOne_161 : decode cX3_breaksOne 161 = .ok (.ifCond .eq 7, 3) := by decide +kernel
theorem dX3_breaksOne_164 : decode cX3_breaksOne 164 = .ok (.iconst 0, 1) := by decide +kernel
theorem dX3_breaksOne_165 : decode cX3_breaksOne 165 = .ok (.goto 6, 3) := by decide +kernel
theorem dX3_breaksOne_168 : decode cX3_breaksOne 168 = .ok (.iconst 1, 1) := by decide +kernel
theorem dX3_breaksOne_169 : decode cX3_breaksOne 169 = .ok (.iload_n 2, 1) := by decide +kernel
theorem dX3_breaksOne_170 : decode cX3_breaksOne 170 = .ok (.ishl, 1) := by decide +kernel
theorem dX3_breaksOne_171 : decode cX3_breaksOne 171 = .ok (.ior, 1) := by decide +kernel
theorem dX3_breaksOne_172 : decode cX3_breaksOne 172 = .ok (.iastore, 1) := by decide +kernel
theorem dX3_breaksOne_173 : decode cX3_breaksOne 173 = .ok (.aload_n 0, 1) := by decide +kernel
theorem dX3_breaksOne_174 : decode cX3_breaksOne 174 = .ok (.invokevirtual 106, 3) := by decide +kernel
theorem dX3_breaksOne_177 : decode cX3_breaksOne 177 = .ok (.iload_n 3, 1) := by decide +kernel
theorem dX3_breaksOne_178 : decode cX3_breaksOne 178 = .ok (.isub, 1) := by decide +kernel
theorem dX3_breaksOne_179 : decode cX3_breaksOne 179 = .ok (.ireturn, 1) := by decide +kernel
theorem dX3_breaks_0 : decode cX3_breaks 0 = .ok (.aload_n 0, 1) := by decide +kernel
theorem dX3_breaks_1 : decode cX3_breaks 1 = .ok (.invokevirtual 84, 3) := by decide +kernel
theorem dX3_breaks_4 : decode cX3_breaks 4 = .ok (.aload_n 0, 1) := by decide +kernel
theorem dX3_breaks_5 : decode cX3_breaks 5 = .ok (.aload_n 0, 1) := by decide +kernel
theorem dX3_breaks_6 : decode cX3_breaks 6 = .ok (.iload_n 1, 1) := by decide +kernel
theorem dX3_breaks_7 : decode cX3_breaks 7 = .ok (.iload_n 2, 1) := by decide +kernel
theorem dX3_breaks_8 : decode cX3_breaks 8 = .ok (.invokevirtual 117, 3) := by decide +kernel
theorem dX3_breaks_11 : decode cX3_breaks 11 = .ok (.invokevirtual 87, 3) := by decide +kernel
theorem dX3_breaks_14 : decode cX3_breaks 14 = .ok (.ireturn, 1) := by decide +kernel
theorem dX3_chipOf_0 : decode cX3_chipOf 0 = .ok (.aload_n 0, 1) := by decide +kernel
theorem dX3_chipOf_1 : decode cX3_chipOf 1 = .ok (.iload_n 1, 1) := by decide +kernel
theorem dX3_chipOf_2 : decode cX3_chipOf 2 = .ok (.invokevirtual 90, 3) := by decide +kernel
theorem dX3_chipOf_5 : decode cX3_chipOf 5 = .ok (.ifCond .eq 13, 3) := by decide +kernel
theorem dX3_chipOf_8 : decode cX3_chipOf 8 = .ok (.iload_n 2, 1) := by decide +kernel
theorem dX3_chipOf_9 : decode cX3_chipOf 9 = .ok (.iconst 0, 1) := by decide +kernel
theorem dX3_chipOf_10 : decode cX3_chipOf 10 = .ok (.bipush 6, 2) := by decide +kernel
theorem dX3_chipOf_12 : decode cX3_chipOf 12 = .ok (.invokestatic 32, 3) := by decide +kernel
theorem dX3_chipOf_15 : decode cX3_chipOf 15 = .ok (.ifCond .ne 6, 3) := by decide +kernel
theorem dX3_chipOf_18 : decode cX3_chipOf 18 = .ok (.ldc 40, 2) := by decide +kernel
theorem dX3_chipOf_20 : decode cX3_chipOf 20 = .ok (.ireturn, 1) := by decide +kernel
theorem dX3_chipOf_21 : decode cX3_chipOf 21 = .ok (.iload_n 2, 1) := by decide +kernel
theorem dX3_chipOf_22 : decode cX3_chipOf 22 = .ok (.tableswitch 85 0 5 #[38, 45, 52, 66, 72, 78], 38) := by decide +kernel
theorem dX3_chipOf_60 : decode cX3_chipOf 60 = .ok (.aload_n 0, 1) := by decide +kernel
theorem dX3_chipOf_61 : decode cX3_chipOf 61 = .ok (.iload_n 1, 1) := by decide +kernel
theorem dX3_chipOf_62 : decode cX3_chipOf 62 = .ok (.iconst 0, 1) := by decide +kernel
theorem dX3_chipOf_63 : decode cX3_chipOf 63 = .ok (.invokevirtual 36, 3) := by decide +kernel
theorem dX3_chipOf_66 : decode cX3_chipOf 66 = .ok (.ireturn, 1) := by decide +kernel
theorem dX3_chipOf_67 : decode cX3_chipOf 67 = .ok (.aload_n 0, 1) := by decide +kernel
theorem dX3_chipOf_68 : decode cX3_chipOf 68 = .ok (.iload_n 1, 1) := by decide +kernel
theorem dX3_chipOf_69 : decode cX3_chipOf 69 = .ok (.iconst 2, 1) := by decide +kernel
theorem dX3_chipOf_70 : decode cX3_chipOf 70 = .ok (.invokevirtual 36, 3) := by decide +kernel
theorem dX3_chipOf_73 : decode cX3_chipOf 73 = .ok (.ireturn, 1) := by decide +kernel
theorem dX3_chipOf_74 : decode cX3_chipOf 74 = .ok (.aload_n 0, 1) := by decide +kernel
theorem dX3_chipOf_75 : decode cX3_chipOf 75 = .ok (.iload_n 1, 1) := by decide +kernel
theorem dX3_chipOf_76 : decode cX3_chipOf 76 = .ok (.invokevirtual 56, 3) := by decide +kernel
theorem dX3_chipOf_79 : decode cX3_chipOf 79 = .ok (.ifCond .eq 7, 3) := by decide +kernel
theorem dX3_chipOf_82 : decode cX3_chipOf 82 = .ok (.iconst 1, 1) := by decide +kernel
theorem dX3_chipOf_83 : decode cX3_chipOf 83 = .ok (.goto 4, 3) := by decide +kernel
theorem dX3_chipOf_86 : decode cX3_chipOf 86 = .ok (.iconst 0, 1) := by decide +kernel
theorem dX3_chipOf_87 : decode cX3_chipOf 87 = .ok (.ireturn, 1) := by decide +kernel
theorem dX3_chipOf_88 : decode cX3_chipOf 88 = .ok (.aload_n 0, 1) := by decide +kernel
theorem dX3_chipOf_89 : decode cX3_chipOf 89 = .ok (.iload_n 1, 1) := by decide +kernel
theorem dX3_chipOf_90 : decode cX3_chipOf 90 = .ok (.invokevirtual 93, 3) := by decide +kernel
theorem dX3_chipOf_93 : decode cX3_chipOf 93 = .ok (.ireturn, 1) := by decide +kernel
theorem dX3_chipOf_94 : decode cX3_chipOf 94 = .ok (.aload_n 0, 1) := by decide +kernel
theorem dX3_chipOf_95 : decode cX3_chipOf 95 = .ok (.iload_n 1, 1) := by decide +kernel
theorem dX3_chipOf_96 : decode cX3_chipOf 96 = .ok (.invokevirtual 68, 3) := by decide +kernel
theorem dX3_chipOf_99 : decode cX3_chipOf 99 = .ok (.ireturn, 1) := by decide +kernel
theorem dX3_chipOf_100 : decode cX3_chipOf 100 = .ok (.aload_n 0, 1) := by decide +kernel
theorem dX3_chipOf_101 : decode cX3_chipOf 101 = .ok (.iload_n 1, 1) := by decide +kernel
theorem dX3_chipOf_102 : decode cX3_chipOf 102 = .ok (.iconst 3, 1) := by decide +kernel
theorem dX3_chipOf_103 : decode cX3_chipOf 103 = .ok (.invokevirtual 36, 3) := by decide +kernel
theorem dX3_chipOf_106 : decode cX3_chipOf 106 = .ok (.ireturn, 1) := by decide +kernel
theorem dX3_chipOf_107 : decode cX3_chipOf 107 = .ok (.aload_n 0, 1) := by decide +kernel
theorem dX3_chipOf_108 : decode cX3_chipOf 108 = .ok (.iload_n 1, 1) := by decide +kernel
theorem dX3_chipOf_109 : decode cX3_chipOf 109 = .ok (.iconst 1, 1) := by decide +kernel
theorem dX3_chipOf_110 : decode cX3_chipOf 110 = .ok (.invokevirtual 36, 3) := by decide +kernel
theorem dX3_chipOf_113 : decode cX3_chipOf 113 = .ok (.ireturn, 1) := by decide +kernel
theorem dX3_sum_0 : decode cX3_sum 0 = .ok (.iconst 0, 1) := by decide +kernel
theorem dX3_sum_1 : decode cX3_sum 1 = .ok (.istore_n 3, 1) := by decide +kernel
theorem dX3_sum_2 : decode cX3_sum 2 = .ok (.iconst 0, 1) := by decide +kernel
theorem dX3_sum_3 : decode cX3_sum 3 = .ok (.istore 4, 2) := by decide +kernel
theorem dX3_sum_5 : decode cX3_sum 5 = .ok (.iload 4, 2) := by decide +kernel
theorem dX3_sum_7 : decode cX3_sum 7 = .ok (.aload_n 0, 1) := by decide +kernel
theorem dX3_sum_8 : decode cX3_sum 8 = .ok (.getfield 7, 3) := by decide +kernel
theorem dX3_sum_11 : decode cX3_sum 11 = .ok (.iconst 1, 1) := by decide +kernel
theorem dX3_sum_12 : decode cX3_sum 12 = .ok (.iaload, 1) := by decide +kernel
theorem dX3_sum_13 : decode cX3_sum 13 = .ok (.if_icmp .ge 56, 3) := by decide +kernel
theorem dX3_sum_16 : decode cX3_sum 16 = .ok (.iload_n 3, 1) := by decide +kernel
theorem dX3_sum_17 : decode cX3_sum 17 = .ok (.aload_n 0, 1) := by decide +kernel
theorem dX3_sum_18 : decode cX3_sum 18 = .ok (.iload 4, 2) := by decide +kernel
theorem dX3_sum_20 : decode cX3_sum 20 = .ok (.iconst 1, 1) := by decide +kernel
theorem dX3_sum_21 : decode cX3_sum 21 = .ok (.invokevirtual 45, 3) := by decide +kernel
theorem dX3_sum_24 : decode cX3_sum 24 = .ok (.iconst 2, 1) := by decide +kernel
theorem dX3_sum_25 : decode cX3_sum 25 = .ok (.if_icmp .eq 35, 3) := by decide +kernel
theorem dX3_sum_28 : decode cX3_sum 28 = .ok (.aload_n 0, 1) := by decide +kernel
theorem dX3_sum_29 : decode cX3_sum 29 = .ok (.iload 4, 2) := by decide +kernel
theorem dX3_sum_31 : decode cX3_sum 31 = .ok (.iconst 4, 1) := by decide +kernel
theorem dX3_sum_32 : decode cX3_sum 32 = .ok (.invokevirtual 45, 3) := by decide +kernel
theorem dX3_sum_35 : decode cX3_sum 35 = .ok (.iload_n 1, 1) := by decide +kernel
theorem dX3_sum_36 : decode cX3_sum 36 = .ok (.if_icmp .ne 24, 3) := by decide +kernel
theorem dX3_sum_39 : decode cX3_sum 39 = .ok (.aload_n 0, 1) := by decide +kernel
theorem dX3_sum_40 : decode cX3_sum 40 = .ok (.iload 4, 2) := by decide +kernel
theorem dX3_sum_42 : decode cX3_sum 42 = .ok (.iconst 3, 1) := by decide +kernel
theorem dX3_sum_43 : decode cX3_sum 43 = .ok (.invokevirtual 45, 3) := by decide +kernel
theorem dX3_sum_46 : decode cX3_sum 46 = .ok (.iload_n 2, 1) := by decide +kernel
theorem dX3_sum_47 : decode cX3_sum 47 = .ok (.if_icmp .ne 13, 3) := by decide +kernel
theorem dX3_sum_50 : decode cX3_sum 50 = .ok (.aload_n 0, 1) := by decide +kernel
theorem dX3_sum_51 : decode cX3_sum 51 = .ok (.iload 4, 2) := by decide +kernel
theorem dX3_sum_53 : decode cX3_sum 53 = .ok (.iconst 0, 1) := by decide +kernel
theorem dX3_sum_54 : decode cX3_sum 54 = .ok (.invokevirtual 45, 3) := by decide +kernel
theorem dX3_sum_57 : decode cX3_sum 57 = .ok (.goto 4, 3) := by decide +kernel
theorem dX3_sum_60 : decode cX3_sum 60 = .ok (.iconst 0, 1) := by decide +kernel
theorem dX3_sum_61 : decode cX3_sum 61 = .ok (.ixor, 1) := by decide +kernel
theorem dX3_sum_62 : decode cX3_sum 62 = .ok (.istore_n 3, 1) := by decide +kernel
theorem dX3_sum_63 : decode cX3_sum 63 = .ok (.iinc 4 1, 3) := by decide +kernel
theorem dX3_sum_66 : decode cX3_sum 66 = .ok (.goto (-61), 3) := by decide +kernel
theorem dX3_sum_69 : decode cX3_sum 69 = .ok (.iload_n 3, 1) := by decide +kernel
theorem dX3_sum_70 : decode cX3_sum 70 = .ok (.ireturn, 1) := by decide +kernel
theorem dX3_rowOf_0 : decode cX3_rowOf 0 = .ok (.aload_n 0, 1) := by decide +kernel
theorem dX3_rowOf_1 : decode cX3_rowOf 1 = .ok (.iload_n 1, 1) := by decide +kernel
theorem dX3_rowOf_2 : decode cX3_rowOf 2 = .ok (.invokevirtual 90, 3) := by decide +kernel
theorem dX3_rowOf_5 : decode cX3_rowOf 5 = .ok (.ifCond .eq 12, 3) := by decide +kernel
theorem dX3_rowOf_8 : decode cX3_rowOf 8 = .ok (.iload_n 2, 1) := by decide +kernel
theorem dX3_rowOf_9 : decode cX3_rowOf 9 = .ok (.iconst 0, 1) := by decide +kernel
theorem dX3_rowOf_10 : decode cX3_rowOf 10 = .ok (.iconst 5, 1) := by decide +kernel
theorem dX3_rowOf_11 : decode cX3_rowOf 11 = .ok (.invokestatic 32, 3) := by decide +kernel
theorem dX3_rowOf_14 : decode cX3_rowOf 14 = .ok (.ifCond .ne 6, 3) := by decide +kernel
theorem dX3_rowOf_17 : decode cX3_rowOf 17 = .ok (.ldc 40, 2) := by decide +kernel
theorem dX3_rowOf_19 : decode cX3_rowOf 19 = .ok (.ireturn, 1) := by decide +kernel
theorem dX3_rowOf_20 : decode cX3_rowOf 20 = .ok (.aload_n 0, 1) := by decide +kernel
theorem dX3_rowOf_21 : decode cX3_rowOf 21 = .ok (.iload_n 1, 1) := by decide +kernel
theorem dX3_rowOf_22 : decode cX3_rowOf 22 = .ok (.invokevirtual 52, 3) := by decide +kernel
theorem dX3_rowOf_25 : decode cX3_rowOf 25 = .ok (.ifCond .eq 12, 3) := by decide +kernel
theorem dX3_rowOf_28 : decode cX3_rowOf 28 = .ok (.aload_n 0, 1) := by decide +kernel
theorem dX3_rowOf_29 : decode cX3_rowOf 29 = .ok (.iload_n 1, 1) := by decide +kernel
theorem dX3_rowOf_30 : decode cX3_rowOf 30 = .ok (.iload_n 2, 1) := by decide +kernel
theorem dX3_rowOf_31 : decode cX3_rowOf 31 = .ok (.invokevirtual 48, 3) := by decide +kernel
theorem dX3_rowOf_34 : decode cX3_rowOf 34 = .ok (.ifCond .ne 6, 3) := by decide +kernel
theorem dX3_rowOf_37 : decode cX3_rowOf 37 = .ok (.ldc 96, 2) := by decide +kernel
theorem dX3_rowOf_39 : decode cX3_rowOf 39 = .ok (.ireturn, 1) := by decide +kernel
theorem dX3_rowOf_40 : decode cX3_rowOf 40 = .ok (.aload_n 0, 1) := by decide +kernel
theorem dX3_rowOf_41 : decode cX3_rowOf 41 = .ok (.iload_n 1, 1) := by decide +kernel
theorem dX3_rowOf_42 : decode cX3_rowOf 42 = .ok (.invokevirtual 56, 3) := by decide +kernel
theorem dX3_rowOf_45 : decode cX3_rowOf 45 = .ok (.ifCond .eq 15, 3) := by decide +kernel
theorem dX3_rowOf_48 : decode cX3_rowOf 48 = .ok (.aload_n 0, 1) := by decide +kernel
theorem dX3_rowOf_49 : decode cX3_rowOf 49 = .ok (.aload_n 0, 1) := by decide +kernel
theorem dX3_rowOf_50 : decode cX3_rowOf 50 = .ok (.iload_n 1, 1) := by decide +kernel
theorem dX3_rowOf_51 : decode cX3_rowOf 51 = .ok (.iconst 0, 1) := by decide +kernel
theorem dX3_rowOf_52 : decode cX3_rowOf 52 = .ok (.invokevirtual 36, 3) := by decide +kernel
theorem dX3_rowOf_55 : decode cX3_rowOf 55 = .ok (.iload_n 2, 1) := by decide +kernel
theorem dX3_rowOf_56 : decode cX3_rowOf 56 = .ok (.invokevirtual 120, 3) := by decide +kernel
theorem dX3_rowOf_59 : decode cX3_rowOf 59 = .ok (.ireturn, 1) := by decide +kernel
theorem dX3_rowOf_60 : decode cX3_rowOf 60 = .ok (.aload_n 0, 1) := by decide +kernel
theorem dX3_rowOf_61 : decode cX3_rowOf 61 = .ok (.iload_n 1, 1) := by decide +kernel
theorem dX3_rowOf_62 : decode cX3_rowOf 62 = .ok (.iload_n 2, 1) := by decide +kernel
theorem dX3_rowOf_63 : decode cX3_rowOf 63 = .ok (.invokevirtual 59, 3) := by decide +kernel
theorem dX3_rowOf_66 : decode cX3_rowOf 66 = .ok (.ifCond .ge 8, 3) := by decide +kernel
theorem dX3_rowOf_69 : decode cX3_rowOf 69 = .ok (.ldc 123, 2) := by decide +kernel
theorem dX3_rowOf_71 : decode cX3_rowOf 71 = .ok (.goto 9, 3) := by decide +kernel
theorem dX3_rowOf_74 : decode cX3_rowOf 74 = .ok (.aload_n 0, 1) := by decide +kernel
theorem dX3_rowOf_75 : decode cX3_rowOf 75 = .ok (.iload_n 1, 1) := by decide +kernel
theorem dX3_rowOf_76 : decode cX3_rowOf 76 = .ok (.iload_n 2, 1) := by decide +kernel
theorem dX3_rowOf_77 : decode cX3_rowOf 77 = .ok (.invokevirtual 59, 3) := by decide +kernel
theorem dX3_rowOf_80 : decode cX3_rowOf 80 = .ok (.ireturn, 1) := by decide +kernel
theorem dX3_putsOne_0 : decode cX3_putsOne 0 = .ok (.aload_n 0, 1) := by decide +kernel
theorem dX3_putsOne_1 : decode cX3_putsOne 1 = .ok (.iload_n 1, 1) := by decide +kernel
theorem dX3_putsOne_2 : decode cX3_putsOne 2 = .ok (.invokevirtual 90, 3) := by decide +kernel
theorem dX3_putsOne_5 : decode cX3_putsOne 5 = .ok (.ifCond .eq 14, 3) := by decide +kernel
theorem dX3_putsOne_8 : decode cX3_putsOne 8 = .ok (.iload_n 2, 1) := by decide +kernel
theorem dX3_putsOne_9 : decode cX3_putsOne 9 = .ok (.iconst 0, 1) := by decide +kernel
theorem dX3_putsOne_10 : decode cX3_putsOne 10 = .ok (.sipush 255, 3) := by decide +kernel
theorem dX3_putsOne_13 : decode cX3_putsOne 13 = .ok (.invokestatic 32, 3) := by decide +kernel
theorem dX3_putsOne_16 : decode cX3_putsOne 16 = .ok (.ifCond .ne 6, 3) := by decide +kernel
theorem dX3_putsOne_19 : decode cX3_putsOne 19 = .ok (.ldc 40, 2) := by decide +kernel
theorem dX3_putsOne_21 : decode cX3_putsOne 21 = .ok (.ireturn, 1) := by decide +kernel
theorem dX3_putsOne_22 : decode cX3_putsOne 22 = .ok (.aload_n 0, 1) := by decide +kernel
theorem dX3_putsOne_23 : decode cX3_putsOne 23 = .ok (.iload_n 1, 1) := by decide +kernel
theorem dX3_putsOne_24 : decode cX3_putsOne 24 = .ok (.invokevirtual 68, 3) := by decide +kernel
theorem dX3_putsOne_27 : decode cX3_putsOne 27 = .ok (.ifCond .ne 6, 3) := by decide +kernel
theorem dX3_putsOne_30 : decode cX3_putsOne 30 = .ok (.ldc 96, 2) := by decide +kernel
theorem dX3_putsOne_32 : decode cX3_putsOne 32 = .ok (.ireturn, 1) := by decide +kernel
theorem dX3_putsOne_33 : decode cX3_putsOne 33 = .ok (.aload_n 0, 1) := by decide +kernel
theorem dX3_putsOne_34 : decode cX3_putsOne 34 = .ok (.getfield 7, 3) := by decide +kernel
theorem dX3_putsOne_37 : decode cX3_putsOne 37 = .ok (.iconst 1, 1) := by decide +kernel
theorem dX3_putsOne_38 : decode cX3_putsOne 38 = .ok (.iaload, 1) := by decide +kernel
theorem dX3_putsOne_39 : decode cX3_putsOne 39 = .ok (.bipush 24, 2) := by decide +kernel
theorem dX3_putsOne_41 : decode cX3_putsOne 41 = .ok (.if_icmp .ne 6, 3) := by decide +kernel
theorem dX3_putsOne_44 : decode cX3_putsOne 44 = .ok (.ldc 83, 2) := by decide +kernel
theorem dX3_putsOne_46 : decode cX3_putsOne 46 = .ok (.ireturn, 1) := by decide +kernel
theorem dX3_putsOne_47 : decode cX3_putsOne 47 = .ok (.aload_n 0, 1) := by decide +kernel
theorem dX3_putsOne_48 : decode cX3_putsOne 48 = .ok (.iload_n 1, 1) := by decide +kernel
theorem dX3_putsOne_49 : decode cX3_putsOne 49 = .ok (.invokevirtual 124, 3) := by decide +kernel
theorem dX3_putsOne_52 : decode cX3_putsOne 52 = .ok (.istore_n 3, 1) := by decide +kernel
theorem dX3_putsOne_53 : decode cX3_putsOne 53 = .ok (.aload_n 0, 1) := by decide +kernel
theorem dX3_putsOne_54 : decode cX3_putsOne 54 = .ok (.getfield 7, 3) := by decide +kernel
theorem dX3_putsOne_57 : decode cX3_putsOne 57 = .ok (.iconst 1, 1) := by decide +kernel
theorem dX3_putsOne_58 : decode cX3_putsOne 58 = .ok (.iaload, 1) := by decide +kernel
theorem dX3_putsOne_59 : decode cX3_putsOne 59 = .ok (.istore 4, 2) := by decide +kernel
theorem dX3_putsOne_61 : decode cX3_putsOne 61 = .ok (.aload_n 0, 1) := by decide +kernel
theorem dX3_putsOne_62 : decode cX3_putsOne 62 = .ok (.getfield 7, 3) := by decide +kernel
theorem dX3_putsOne_65 : decode cX3_putsOne 65 = .ok (.iconst 1, 1) := by decide +kernel
theorem dX3_putsOne_66 : decode cX3_putsOne 66 = .ok (.dup2, 1) := by decide +kernel
theorem dX3_putsOne_67 : decode cX3_putsOne 67 = .ok (.iaload, 1) := by decide +kernel
theorem dX3_putsOne_68 : decode cX3_putsOne 68 = .ok (.iconst 1, 1) := by decide +kernel
theorem dX3_putsOne_69 : decode cX3_putsOne 69 = .ok (.iadd, 1) := by decide +kernel
theorem dX3_putsOne_70 : decode cX3_putsOne 70 = .ok (.iastore, 1) := by decide +kernel
theorem dX3_putsOne_71 : decode cX3_putsOne 71 = .ok (.aload_n 0, 1) := by decide +kernel
theorem dX3_putsOne_72 : decode cX3_putsOne 72 = .ok (.iload 4, 2) := by decide +kernel
theorem dX3_putsOne_74 : decode cX3_putsOne 74 = .ok (.iconst 0, 1) := by decide +kernel
theorem dX3_putsOne_75 : decode cX3_putsOne 75 = .ok (.iload_n 2, 1) := by decide +kernel
theorem dX3_putsOne_76 : decode cX3_putsOne 76 = .ok (.invokevirtual 72, 3) := by decide +kernel
theorem dX3_putsOne_79 : decode cX3_putsOne 79 = .ok (.aload_n 0, 1) := by decide +kernel
theorem dX3_putsOne_80 : decode cX3_putsOne 80 = .ok (.iload 4, 2) := by decide +kernel
theorem dX3_putsOne_82 : decode cX3_putsOne 82 = .ok (.iconst 5, 1) := by decide +kernel
theorem dX3_putsOne_83 : decode cX3_putsOne 83 = .ok (.iconst 0, 1) := by decide +kernel
theorem dX3_putsOne_84 : decode cX3_putsOne 84 = .ok (.invokevirtual 72, 3) := by decide +kernel
theorem dX3_putsOne_87 : decode cX3_putsOne 87 = .ok (.aload_n 0, 1) := by decide +kernel
theorem dX3_putsOne_88 : decode cX3_putsOne 88 = .ok (.iload 4, 2) := by decide +kernel
theorem dX3_putsOne_90 : decode cX3_putsOne 90 = .ok (.bipush 6, 2) := by decide +kernel
theorem dX3_putsOne_92 : decode cX3_putsOne 92 = .ok (.iconst 0, 1) := by decide +kernel
theorem dX3_putsOne_93 : decode cX3_putsOne 93 = .ok (.invokevirtual 72, 3) := by decide +kernel
theorem dX3_putsOne_96 : decode cX3_putsOne 96 = .ok (.aload_n 0, 1) := by decide +kernel
theorem dX3_putsOne_97 : decode cX3_putsOne 97 = .ok (.iload 4, 2) := by decide +kernel
theorem dX3_putsOne_99 : decode cX3_putsOne 99 = .ok (.iload_n 1, 1) := by decide +kernel
theorem dX3_putsOne_100 : decode cX3_putsOne 100 = .ok (.iload_n 3, 1) := by decide +kernel
theorem dX3_putsOne_101 : decode cX3_putsOne 101 = .ok (.invokevirtual 127, 3) := by decide +kernel
theorem dX3_putsOne_104 : decode cX3_putsOne 104 = .ok (.iload 4, 2) := by decide +kernel
theorem dX3_putsOne_106 : decode cX3_putsOne 106 = .ok (.ireturn, 1) := by decide +kernel
theorem dX3_put_0 : decode cX3_put 0 = .ok (.aload_n 0, 1) := by decide +kernel
theorem dX3_put_1 : decode cX3_put 1 = .ok (.invokevirtual 84, 3) := by decide +kernel
theorem dX3_put_4 : decode cX3_put 4 = .ok (.aload_n 0, 1) := by decide +kernel
theorem dX3_put_5 : decode cX3_put 5 = .ok (.aload_n 0, 1) := by decide +kernel
theorem dX3_put_6 : decode cX3_put 6 = .ok (.iload_n 1, 1) := by decide +kernel
theorem dX3_put_7 : decode cX3_put 7 = .ok (.iload_n 2, 1) := by decide +kernel
theorem dX3_put_8 : decode cX3_put 8 = .ok (.invokevirtual 130, 3) := by decide +kernel
theorem dX3_put_11 : decode cX3_put 11 = .ok (.invokevirtual 87, 3) := by decide +kernel
theorem dX3_put_14 : decode cX3_put 14 = .ok (.ireturn, 1) := by decide +kernel
theorem dX3_write_0 : decode cX3_write 0 = .ok (.aload_n 0, 1) := by decide +kernel
theorem dX3_write_1 : decode cX3_write 1 = .ok (.iload_n 1, 1) := by decide +kernel
theorem dX3_write_2 : decode cX3_write 2 = .ok (.invokevirtual 133, 3) := by decide +kernel
theorem dX3_write_5 : decode cX3_write 5 = .ok (.ifCond .eq 14, 3) := by decide +kernel
theorem dX3_write_8 : decode cX3_write 8 = .ok (.iload_n 2, 1) := by decide +kernel
theorem dX3_write_9 : decode cX3_write 9 = .ok (.iconst 0, 1) := by decide +kernel
theorem dX3_write_10 : decode cX3_write 10 = .ok (.sipush 255, 3) := by decide +kernel
theorem dX3_write_13 : decode cX3_write 13 = .ok (.invokestatic 32, 3) := by decide +kernel
theorem dX3_write_16 : decode cX3_write 16 = .ok (.ifCond .ne 6, 3) := by decide +kernel
theorem dX3_write_19 : decode cX3_write 19 = .ok (.ldc 40, 2) := by decide +kernel
theorem dX3_write_21 : decode cX3_write 21 = .ok (.ireturn, 1) := by decide +kernel
theorem dX3_write_22 : decode cX3_write 22 = .ok (.aload_n 0, 1) := by decide +kernel
theorem dX3_write_23 : decode cX3_write 23 = .ok (.iload_n 1, 1) := by decide +kernel
theorem dX3_write_24 : decode cX3_write 24 = .ok (.iconst 1, 1) := by decide +kernel
theorem dX3_write_25 : decode cX3_write 25 = .ok (.invokevirtual 45, 3) := by decide +kernel
theorem dX3_write_28 : decode cX3_write 28 = .ok (.ifCond .eq 6, 3) := by decide +kernel
theorem dX3_write_31 : decode cX3_write 31 = .ok (.ldc 96, 2) := by decide +kernel
theorem dX3_write_33 : decode cX3_write 33 = .ok (.ireturn, 1) := by decide +kernel
theorem dX3_write_34 : decode cX3_write 34 = .ok (.aload_n 0, 1) := by decide +kernel
theorem dX3_write_35 : decode cX3_write 35 = .ok (.invokevirtual 84, 3) := by decide +kernel
theorem dX3_write_38 : decode cX3_write 38 = .ok (.aload_n 0, 1) := by decide +kernel
theorem dX3_write_39 : decode cX3_write 39 = .ok (.iload_n 1, 1) := by decide +kernel
theorem dX3_write_40 : decode cX3_write 40 = .ok (.iconst 0, 1) := by decide +kernel
theorem dX3_write_41 : decode cX3_write 41 = .ok (.invokevirtual 45, 3) := by decide +kernel
theorem dX3_write_44 : decode cX3_write 44 = .ok (.istore_n 3, 1) := by decide +kernel
theorem dX3_write_45 : decode cX3_write 45 = .ok (.aload_n 0, 1) := by decide +kernel
theorem dX3_write_46 : decode cX3_write 46 = .ok (.iload_n 1, 1) := by decide +kernel
theorem dX3_write_47 : decode cX3_write 47 = .ok (.iconst 0, 1) := by decide +kernel
theorem dX3_write_48 : decode cX3_write 48 = .ok (.iload_n 2, 1) := by decide +kernel
theorem dX3_write_49 : decode cX3_write 49 = .ok (.invokevirtual 72, 3) := by decide +kernel
theorem dX3_write_52 : decode cX3_write 52 = .ok (.aload_n 0, 1) := by decide +kernel
theorem dX3_write_53 : decode cX3_write 53 = .ok (.iload_n 3, 1) := by decide +kernel
theorem dX3_write_54 : decode cX3_write 54 = .ok (.invokevirtual 87, 3) := by decide +kernel
theorem dX3_write_57 : decode cX3_write 57 = .ok (.ireturn, 1) := by decide +kernel
theorem dX3_read_0 : decode cX3_read 0 = .ok (.aload_n 0, 1) := by decide +kernel
theorem dX3_read_1 : decode cX3_read 1 = .ok (.iload_n 1, 1) := by decide +kernel
theorem dX3_read_2 : decode cX3_read 2 = .ok (.invokevirtual 133, 3) := by decide +kernel
theorem dX3_read_5 : decode cX3_read 5 = .ok (.ifCond .ne 6, 3) := by decide +kernel
theorem dX3_read_8 : decode cX3_read 8 = .ok (.ldc 40, 2) := by decide +kernel
theorem dX3_read_10 : decode cX3_read 10 = .ok (.ireturn, 1) := by decide +kernel
theorem dX3_read_11 : decode cX3_read 11 = .ok (.aload_n 0, 1) := by decide +kernel
theorem dX3_read_12 : decode cX3_read 12 = .ok (.iload_n 1, 1) := by decide +kernel
theorem dX3_read_13 : decode cX3_read 13 = .ok (.iconst 1, 1) := by decide +kernel
theorem dX3_read_14 : decode cX3_read 14 = .ok (.invokevirtual 45, 3) := by decide +kernel
theorem dX3_read_17 : decode cX3_read 17 = .ok (.iconst 2, 1) := by decide +kernel
theorem dX3_read_18 : decode cX3_read 18 = .ok (.if_icmp .ne 8, 3) := by decide +kernel
theorem dX3_read_21 : decode cX3_read 21 = .ok (.ldc 123, 2) := by decide +kernel
theorem dX3_read_23 : decode cX3_read 23 = .ok (.goto 9, 3) := by decide +kernel
theorem dX3_read_26 : decode cX3_read 26 = .ok (.aload_n 0, 1) := by decide +kernel
theorem dX3_read_27 : decode cX3_read 27 = .ok (.iload_n 1, 1) := by decide +kernel
theorem dX3_read_28 : decode cX3_read 28 = .ok (.iconst 0, 1) := by decide +kernel
theorem dX3_read_29 : decode cX3_read 29 = .ok (.invokevirtual 45, 3) := by decide +kernel
theorem dX3_read_32 : decode cX3_read 32 = .ok (.ireturn, 1) := by decide +kernel
theorem dX3_carry_0 : decode cX3_carry 0 = .ok (.aload_n 0, 1) := by decide +kernel
theorem dX3_carry_1 : decode cX3_carry 1 = .ok (.iload_n 1, 1) := by decide +kernel
theorem dX3_carry_2 : decode cX3_carry 2 = .ok (.invokevirtual 133, 3) := by decide +kernel
theorem dX3_carry_5 : decode cX3_carry 5 = .ok (.ifCond .eq 11, 3) := by decide +kernel
theorem dX3_carry_8 : decode cX3_carry 8 = .ok (.aload_n 0, 1) := by decide +kernel
theorem dX3_carry_9 : decode cX3_carry 9 = .ok (.iload_n 2, 1) := by decide +kernel
theorem dX3_carry_10 : decode cX3_carry 10 = .ok (.invokevirtual 90, 3) := by decide +kernel
theorem dX3_carry_13 : decode cX3_carry 13 = .ok (.ifCond .ne 6, 3) := by decide +kernel
theorem dX3_carry_16 : decode cX3_carry 16 = .ok (.ldc 40, 2) := by decide +kernel
theorem dX3_carry_18 : decode cX3_carry 18 = .ok (.ireturn, 1) := by decide +kernel
theorem dX3_carry_19 : decode cX3_carry 19 = .ok (.aload_n 0, 1) := by decide +kernel
theorem dX3_carry_20 : decode cX3_carry 20 = .ok (.iload_n 1, 1) := by decide +kernel
theorem dX3_carry_21 : decode cX3_carry 21 = .ok (.iconst 1, 1) := by decide +kernel
theorem dX3_carry_22 : decode cX3_carry 22 = .ok (.invokevirtual 45, 3) := by decide +kernel
theorem dX3_carry_25 : decode cX3_carry 25 = .ok (.ifCond .ne 21, 3) := by decide +kernel
theorem dX3_carry_28 : decode cX3_carry 28 = .ok (.aload_n 0, 1) := by decide +kernel
theorem dX3_carry_29 : decode cX3_carry 29 = .ok (.iload_n 1, 1) := by decide +kernel
theorem dX3_carry_30 : decode cX3_carry 30 = .ok (.iconst 2, 1) := by decide +kernel
theorem dX3_carry_31 : decode cX3_carry 31 = .ok (.invokevirtual 45, 3) := by decide +kernel
theorem dX3_carry_34 : decode cX3_carry 34 = .ok (.iload_n 2, 1) := by decide +kernel
theorem dX3_carry_35 : decode cX3_carry 35 = .ok (.if_icmp .eq 11, 3) := by decide +kernel
theorem dX3_carry_38 : decode cX3_carry 38 = .ok (.aload_n 0, 1) := by decide +kernel
theorem dX3_carry_39 : decode cX3_carry 39 = .ok (.iload_n 2, 1) := by decide +kernel
theorem dX3_carry_40 : decode cX3_carry 40 = .ok (.invokevirtual 68, 3) := by decide +kernel
theorem dX3_carry_43 : decode cX3_carry 43 = .ok (.ifCond .ne 6, 3) := by decide +kernel
theorem dX3_carry_46 : decode cX3_carry 46 = .ok (.ldc 96, 2) := by decide +kernel
theorem dX3_carry_48 : decode cX3_carry 48 = .ok (.ireturn, 1) := by decide +kernel
theorem dX3_carry_49 : decode cX3_carry 49 = .ok (.aload_n 0, 1) := by decide +kernel
theorem dX3_carry_50 : decode cX3_carry 50 = .ok (.invokevirtual 84, 3) := by decide +kernel
theorem dX3_carry_53 : decode cX3_carry 53 = .ok (.aload_n 0, 1) := by decide +kernel
theorem dX3_carry_54 : decode cX3_carry 54 = .ok (.iload_n 2, 1) := by decide +kernel
theorem dX3_carry_55 : decode cX3_carry 55 = .ok (.invokevirtual 124, 3) := by decide +kernel
theorem dX3_carry_58 : decode cX3_carry 58 = .ok (.istore_n 3, 1) := by decide +kernel
theorem dX3_carry_59 : decode cX3_carry 59 = .ok (.aload_n 0, 1) := by decide +kernel
theorem dX3_carry_60 : decode cX3_carry 60 = .ok (.iload_n 1, 1) := by decide +kernel
theorem dX3_carry_61 : decode cX3_carry 61 = .ok (.iload_n 2, 1) := by decide +kernel
theorem dX3_carry_62 : decode cX3_carry 62 = .ok (.iload_n 3, 1) := by decide +kernel
theorem dX3_carry_63 : decode cX3_carry 63 = .ok (.invokevirtual 127, 3) := by decide +kernel
theorem dX3_carry_66 : decode cX3_carry 66 = .ok (.aload_n 0, 1) := by decide +kernel
theorem dX3_carry_67 : decode cX3_carry 67 = .ok (.iload_n 3, 1) := by decide +kernel
theorem dX3_carry_68 : decode cX3_carry 68 = .ok (.invokevirtual 87, 3) := by decide +kernel
theorem dX3_carry_71 : decode cX3_carry 71 = .ok (.ireturn, 1) := by decide +kernel
theorem dX3_empties_0 : decode cX3_empties 0 = .ok (.aload_n 0, 1) := by decide +kernel
theorem dX3_empties_1 : decode cX3_empties 1 = .ok (.iload_n 1, 1) := by decide +kernel
theorem dX3_empties_2 : decode cX3_empties 2 = .ok (.invokevirtual 90, 3) := by decide +kernel
theorem dX3_empties_5 : decode cX3_empties 5 = .ok (.ifCond .ne 6, 3) := by decide +kernel
theorem dX3_empties_8 : decode cX3_empties 8 = .ok (.ldc 40, 2) := by decide +kernel
theorem dX3_empties_10 : decode cX3_empties 10 = .ok (.ireturn, 1) := by decide +kernel
theorem dX3_empties_11 : decode cX3_empties 11 = .ok (.aload_n 0, 1) := by decide +kernel
theorem dX3_empties_12 : decode cX3_empties 12 = .ok (.iload_n 1, 1) := by decide +kernel
theorem dX3_empties_13 : decode cX3_empties 13 = .ok (.invokevirtual 52, 3) := by decide +kernel
theorem dX3_empties_16 : decode cX3_empties 16 = .ok (.ifCond .eq 11, 3) := by decide +kernel
theorem dX3_empties_19 : decode cX3_empties 19 = .ok (.aload_n 0, 1) := by decide +kernel
theorem dX3_empties_20 : decode cX3_empties 20 = .ok (.iload_n 1, 1) := by decide +kernel
theorem dX3_empties_21 : decode cX3_empties 21 = .ok (.invokevirtual 56, 3) := by decide +kernel
theorem dX3_empties_24 : decode cX3_empties 24 = .ok (.ifCond .eq 6, 3) := by decide +kernel
theorem dX3_empties_27 : decode cX3_empties 27 = .ok (.ldc 96, 2) := by decide +kernel
theorem dX3_empties_29 : decode cX3_empties 29 = .ok (.ireturn, 1) := by decide +kernel
theorem dX3_empties_30 : decode cX3_empties 30 = .ok (.iconst 0, 1) := by decide +kernel
theorem dX3_empties_31 : decode cX3_empties 31 = .ok (.istore_n 2, 1) := by decide +kernel
theorem dX3_empties_32 : decode cX3_empties 32 = .ok (.iload_n 2, 1) := by decide +kernel
theorem dX3_empties_33 : decode cX3_empties 33 = .ok (.sipush 208, 3) := by decide +kernel
theorem dX3_empties_36 : decode cX3_empties 36 = .ok (.if_icmp .ge 21, 3) := by decide +kernel
theorem dX3_empties_39 : decode cX3_empties 39 = .ok (.aload_n 0, 1) := by decide +kernel
theorem dX3_empties_40 : decode cX3_empties 40 = .ok (.getfield 22, 3) := by decide +kernel
theorem dX3_empties_43 : decode cX3_empties 43 = .ok (.iload_n 2, 1) := by decide +kernel
theorem dX3_empties_44 : decode cX3_empties 44 = .ok (.aload_n 0, 1) := by decide +kernel
theorem dX3_empties_45 : decode cX3_empties 45 = .ok (.getfield 7, 3) := by decide +kernel
theorem dX3_empties_48 : decode cX3_empties 48 = .ok (.iload_n 2, 1) := by decide +kernel
theorem dX3_empties_49 : decode cX3_empties 49 = .ok (.iaload, 1) := by decide +kernel
theorem dX3_empties_50 : decode cX3_empties 50 = .ok (.iastore, 1) := by decide +kernel
theorem dX3_empties_51 : decode cX3_empties 51 = .ok (.iinc 2 1, 3) := by decide +kernel
theorem dX3_empties_54 : decode cX3_empties 54 = .ok (.goto (-22), 3) := by decide +kernel
theorem dX3_empties_57 : decode cX3_empties 57 = .ok (.iconst 0, 1) := by decide +kernel
theorem dX3_empties_58 : decode cX3_empties 58 = .ok (.istore_n 2, 1) := by decide +kernel
theorem dX3_empties_59 : decode cX3_empties 59 = .ok (.iconst 1, 1) := by decide +kernel
theorem dX3_empties_60 : decode cX3_empties 60 = .ok (.istore_n 3, 1) := by decide +kernel
theorem dX3_empties_61 : decode cX3_empties 61 = .ok (.iconst 0, 1) := by decide +kernel
theorem dX3_empties_62 : decode cX3_empties 62 = .ok (.istore 4, 2) := by decide +kernel
theorem dX3_empties_64 : decode cX3_empties 64 = .ok (.iload 4, 2) := by decide +kernel
theorem dX3_empties_66 : decode cX3_empties 66 = .ok (.bipush 6, 2) := by decide +kernel
theorem dX3_empties_68 : decode cX3_empties 68 = .ok (.if_icmp .ge 82, 3) := by decide +kernel
theorem dX3_empties_71 : decode cX3_empties 71 = .ok (.iload_n 3, 1) := by decide +kernel
theorem dX3_empties_72 : decode cX3_empties 72 = .ok (.ifCond .eq 78, 3) := by decide +kernel
theorem dX3_empties_75 : decode cX3_empties 75 = .ok (.aload_n 0, 1) := by decide +kernel
theorem dX3_empties_76 : decode cX3_empties 76 = .ok (.iload_n 1, 1) := by decide +kernel
theorem dX3_empties_77 : decode cX3_empties 77 = .ok (.iload 4, 2) := by decide +kernel
theorem dX3_empties_79 : decode cX3_empties 79 = .ok (.invokevirtual 59, 3) := by decide +kernel
theorem dX3_empties_82 : decode cX3_empties 82 = .ok (.istore 5, 2) := by decide +kernel
theorem dX3_empties_84 : decode cX3_empties 84 = .ok (.iload 5, 2) := by decide +kernel
theorem dX3_empties_86 : decode cX3_empties 86 = .ok (.ifCond .ge 7, 3) := by decide +kernel
theorem dX3_empties_89 : decode cX3_empties 89 = .ok (.iconst (-1), 1) := by decide +kernel
theorem dX3_empties_90 : decode cX3_empties 90 = .ok (.goto 14, 3) := by decide +kernel
theorem dX3_empties_93 : decode cX3_empties 93 = .ok (.aload_n 0, 1) := by decide +kernel
theorem dX3_empties_94 : decode cX3_empties 94 = .ok (.aload_n 0, 1) := by decide +kernel
theorem dX3_empties_95 : decode cX3_empties 95 = .ok (.iload_n 1, 1) := by decide +kernel
theorem dX3_empties_96 : decode cX3_empties 96 = .ok (.iconst 0, 1) := by decide +kernel
theorem dX3_empties_97 : decode cX3_empties 97 = .ok (.invokevirtual 36, 3) := by decide +kernel
theorem dX3_empties_100 : decode cX3_empties 100 = .ok (.iload_n 1, 1) := by decide +kernel
theorem dX3_empties_101 : decode cX3_empties 101 = .ok (.invokevirtual 136, 3) := by decide +kernel
theorem dX3_empties_104 : decode cX3_empties 104 = .ok (.istore 6, 2) := by decide +kernel
theorem dX3_empties_106 : decode cX3_empties 106 = .ok (.iload 5, 2) := by decide +kernel
theorem dX3_empties_108 : decode cX3_empties 108 = .ok (.ifCond .lt 8, 3) := by decide +kernel
theorem dX3_empties_111 : decode cX3_empties 111 = .ok (.iload 6, 2) := by decide +kernel
theorem dX3_empties_113 : decode cX3_empties 113 = .ok (.ifCond .lt 7, 3) := by decide +kernel
theorem dX3_empties_116 : decode cX3_empties 116 = .ok (.iconst 1, 1) := by decide +kernel
theorem dX3_empties_117 : decode cX3_empties 117 = .ok (.goto 4, 3) := by decide +kernel
theorem dX3_empties_120 : decode cX3_empties 120 = .ok (.iconst 0, 1) := by decide +kernel
theorem dX3_empties_121 : decode cX3_empties 121 = .ok (.istore_n 3, 1) := by decide +kernel
theorem dX3_empties_122 : decode cX3_empties 122 = .ok (.iload 6, 2) := by decide +kernel
theorem dX3_empties_124 : decode cX3_empties 124 = .ok (.ifCond .lt 20, 3) := by decide +kernel
theorem dX3_empties_127 : decode cX3_empties 127 = .ok (.aload_n 0, 1) := by decide +kernel
theorem dX3_empties_128 : decode cX3_empties 128 = .ok (.iload 5, 2) := by decide +kernel
theorem dX3_empties_130 : decode cX3_empties 130 = .ok (.iload 6, 2) := by decide +kernel
theorem dX3_empties_132 : decode cX3_empties 132 = .ok (.aload_n 0, 1) := by decide +kernel
theorem dX3_empties_133 : decode cX3_empties 133 = .ok (.iload 6, 2) := by decide +kernel
theorem dX3_empties_135 : decode cX3_empties 135 = .ok (.invokevirtual 124, 3) := by decide +kernel
theorem dX3_empties_138 : decode cX3_empties 138 = .ok (.invokevirtual 127, 3) := by decide +kernel
theorem dX3_empties_141 : decode cX3_empties 141 = .ok (.iinc 2 1, 3) := by decide +kernel
theorem dX3_empties_144 : decode cX3_empties 144 = .ok (.iinc 4 1, 3) := by decide +kernel
theorem dX3_empties_147 : decode cX3_empties 147 = .ok (.goto (-83), 3) := by decide +kernel
theorem dX3_empties_150 : decode cX3_empties 150 = .ok (.iconst 0, 1) := by decide +kernel
theorem dX3_empties_151 : decode cX3_empties 151 = .ok (.istore 4, 2) := by decide +kernel
theorem dX3_empties_153 : decode cX3_empties 153 = .ok (.iload 4, 2) := by decide +kernel
theorem dX3_empties_155 : decode cX3_empties 155 = .ok (.sipush 208, 3) := by decide +kernel
theorem dX3_empties_158 : decode cX3_empties 158 = .ok (.if_icmp .ge 27, 3) := by decide +kernel
theorem dX3_empties_161 : decode cX3_empties 161 = .ok (.iload_n 3, 1) := by decide +kernel
theorem dX3_empties_162 : decode cX3_empties 162 = .ok (.ifCond .ne 23, 3) := by decide +kernel
theorem dX3_empties_165 : decode cX3_empties 165 = .ok (.aload_n 0, 1) := by decide +kernel
theorem dX3_empties_166 : decode cX3_empties 166 = .ok (.getfield 7, 3) := by decide +kernel
theorem dX3_empties_169 : decode cX3_empties 169 = .ok (.iload 4, 2) := by decide +kernel
theorem dX3_empties_171 : decode cX3_empties 171 = .ok (.aload_n 0, 1) := by decide +kernel
theorem dX3_empties_172 : decode cX3_empties 172 = .ok (.getfield 22, 3) := by decide +kernel
theorem dX3_empties_175 : decode cX3_empties 175 = .ok (.iload 4, 2) := by decide +kernel
theorem dX3_empties_177 : decode cX3_empties 177 = .ok (.iaload, 1) := by decide +kernel
theorem dX3_empties_178 : decode cX3_empties 178 = .ok (.iastore, 1) := by decide +kernel
theorem dX3_empties_179 : decode cX3_empties 179 = .ok (.iinc 4 1, 3) := by decide +kernel
theorem dX3_empties_182 : decode cX3_empties 182 = .ok (.goto (-29), 3) := by decide +kernel
theorem dX3_empties_185 : decode cX3_empties 185 = .ok (.iload_n 3, 1) := by decide +kernel
theorem dX3_empties_186 : decode cX3_empties 186 = .ok (.ifCond .eq 7, 3) := by decide +kernel
theorem dX3_empties_189 : decode cX3_empties 189 = .ok (.iload_n 2, 1) := by decide +kernel
theorem dX3_empties_190 : decode cX3_empties 190 = .ok (.goto 5, 3) := by decide +kernel
theorem dX3_empties_193 : decode cX3_empties 193 = .ok (.ldc 96, 2) := by decide +kernel
theorem dX3_empties_195 : decode cX3_empties 195 = .ok (.ireturn, 1) := by decide +kernel
theorem dX3_empty_0 : decode cX3_empty 0 = .ok (.aload_n 0, 1) := by decide +kernel
theorem dX3_empty_1 : decode cX3_empty 1 = .ok (.invokevirtual 84, 3) := by decide +kernel
theorem dX3_empty_4 : decode cX3_empty 4 = .ok (.aload_n 0, 1) := by decide +kernel
theorem dX3_empty_5 : decode cX3_empty 5 = .ok (.aload_n 0, 1) := by decide +kernel
theorem dX3_empty_6 : decode cX3_empty 6 = .ok (.iload_n 1, 1) := by decide +kernel
theorem dX3_empty_7 : decode cX3_empty 7 = .ok (.invokevirtual 139, 3) := by decide +kernel
theorem dX3_empty_10 : decode cX3_empty 10 = .ok (.invokevirtual 87, 3) := by decide +kernel
theorem dX3_empty_13 : decode cX3_empty 13 = .ok (.ireturn, 1) := by decide +kernel
theorem dX3_ahead_0 : decode cX3_ahead 0 = .ok (.iconst 0, 1) := by decide +kernel
theorem dX3_ahead_1 : decode cX3_ahead 1 = .ok (.istore_n 2, 1) := by decide +kernel
theorem dX3_ahead_2 : decode cX3_ahead 2 = .ok (.iconst 0, 1) := by decide +kernel
theorem dX3_ahead_3 : decode cX3_ahead 3 = .ok (.istore_n 3, 1) := by decide +kernel
theorem dX3_ahead_4 : decode cX3_ahead 4 = .ok (.iload_n 3, 1) := by decide +kernel
theorem dX3_ahead_5 : decode cX3_ahead 5 = .ok (.aload_n 0, 1) := by decide +kernel
theorem dX3_ahead_6 : decode cX3_ahead 6 = .ok (.getfield 7, 3) := by decide +kernel
theorem dX3_ahead_9 : decode cX3_ahead 9 = .ok (.iconst 1, 1) := by decide +kernel
theorem dX3_ahead_10 : decode cX3_ahead 10 = .ok (.iaload, 1) := by decide +kernel
theorem dX3_ahead_11 : decode cX3_ahead 11 = .ok (.if_icmp .ge 57, 3) := by decide +kernel
theorem dX3_ahead_14 : decode cX3_ahead 14 = .ok (.iload_n 2, 1) := by decide +kernel
theorem dX3_ahead_15 : decode cX3_ahead 15 = .ok (.aload_n 0, 1) := by decide +kernel
theorem dX3_ahead_16 : decode cX3_ahead 16 = .ok (.iload_n 3, 1) := by decide +kernel
theorem dX3_ahead_17 : decode cX3_ahead 17 = .ok (.iconst 1, 1) := by decide +kernel
theorem dX3_ahead_18 : decode cX3_ahead 18 = .ok (.invokevirtual 45, 3) := by decide +kernel
theorem dX3_ahead_21 : decode cX3_ahead 21 = .ok (.iconst 1, 1) := by decide +kernel
theorem dX3_ahead_22 : decode cX3_ahead 22 = .ok (.if_icmp .ne 37, 3) := by decide +kernel
theorem dX3_ahead_25 : decode cX3_ahead 25 = .ok (.aload_n 0, 1) := by decide +kernel
theorem dX3_ahead_26 : decode cX3_ahead 26 = .ok (.iload_n 3, 1) := by decide +kernel
theorem dX3_ahead_27 : decode cX3_ahead 27 = .ok (.iconst 4, 1) := by decide +kernel
theorem dX3_ahead_28 : decode cX3_ahead 28 = .ok (.invokevirtual 45, 3) := by decide +kernel
theorem dX3_ahead_31 : decode cX3_ahead 31 = .ok (.aload_n 0, 1) := by decide +kernel
theorem dX3_ahead_32 : decode cX3_ahead 32 = .ok (.iload_n 1, 1) := by decide +kernel
theorem dX3_ahead_33 : decode cX3_ahead 33 = .ok (.iconst 4, 1) := by decide +kernel
theorem dX3_ahead_34 : decode cX3_ahead 34 = .ok (.invokevirtual 45, 3) := by decide +kernel
theorem dX3_ahead_37 : decode cX3_ahead 37 = .ok (.if_icmp .ne 22, 3) := by decide +kernel
theorem dX3_ahead_40 : decode cX3_ahead 40 = .ok (.aload_n 0, 1) := by decide +kernel
theorem dX3_ahead_41 : decode cX3_ahead 41 = .ok (.iload_n 3, 1) := by decide +kernel
theorem dX3_ahead_42 : decode cX3_ahead 42 = .ok (.iconst 5, 1) := by decide +kernel
theorem dX3_ahead_43 : decode cX3_ahead 43 = .ok (.invokevirtual 45, 3) := by decide +kernel
theorem dX3_ahead_46 : decode cX3_ahead 46 = .ok (.aload_n 0, 1) := by decide +kernel
theorem dX3_ahead_47 : decode cX3_ahead 47 = .ok (.iload_n 1, 1) := by decide +kernel
theorem dX3_ahead_48 : decode cX3_ahead 48 = .ok (.iconst 5, 1) := by decide +kernel
theorem dX3_ahead_49 : decode cX3_ahead 49 = .ok (.invokevirtual 45, 3) := by decide +kernel
theorem dX3_ahead_52 : decode cX3_ahead 52 = .ok (.if_icmp .ge 7, 3) := by decide +kernel
theorem dX3_ahead_55 : decode cX3_ahead 55 = .ok (.iconst 1, 1) := by decide +kernel
theorem dX3_ahead_56 : decode cX3_ahead 56 = .ok (.goto 4, 3) := by decide +kernel
theorem dX3_ahead_59 : decode cX3_ahead 59 = .ok (.iconst 0, 1) := by decide +kernel
theorem dX3_ahead_60 : decode cX3_ahead 60 = .ok (.iadd, 1) := by decide +kernel
theorem dX3_ahead_61 : decode cX3_ahead 61 = .ok (.istore_n 2, 1) := by decide +kernel
theorem dX3_ahead_62 : decode cX3_ahead 62 = .ok (.iinc 3 1, 3) := by decide +kernel
theorem dX3_ahead_65 : decode cX3_ahead 65 = .ok (.goto (-61), 3) := by decide +kernel
theorem dX3_ahead_68 : decode cX3_ahead 68 = .ok (.iload_n 2, 1) := by decide +kernel
theorem dX3_ahead_69 : decode cX3_ahead 69 = .ok (.ireturn, 1) := by decide +kernel
theorem dX3_wordOf_0 : decode cX3_wordOf 0 = .ok (.aload_n 0, 1) := by decide +kernel
theorem dX3_wordOf_1 : decode cX3_wordOf 1 = .ok (.iload_n 1, 1) := by decide +kernel
theorem dX3_wordOf_2 : decode cX3_wordOf 2 = .ok (.invokevirtual 133, 3) := by decide +kernel
theorem dX3_wordOf_5 : decode cX3_wordOf 5 = .ok (.ifCond .eq 12, 3) := by decide +kernel
theorem dX3_wordOf_8 : decode cX3_wordOf 8 = .ok (.iload_n 2, 1) := by decide +kernel
theorem dX3_wordOf_9 : decode cX3_wordOf 9 = .ok (.iconst 0, 1) := by decide +kernel
theorem dX3_wordOf_10 : decode cX3_wordOf 10 = .ok (.iconst 5, 1) := by decide +kernel
theorem dX3_wordOf_11 : decode cX3_wordOf 11 = .ok (.invokestatic 32, 3) := by decide +kernel
theorem dX3_wordOf_14 : decode cX3_wordOf 14 = .ok (.ifCond .ne 6, 3) := by decide +kernel
theorem dX3_wordOf_17 : decode cX3_wordOf 17 = .ok (.ldc 40, 2) := by decide +kernel
theorem dX3_wordOf_19 : decode cX3_wordOf 19 = .ok (.ireturn, 1) := by decide +kernel
theorem dX3_wordOf_20 : decode cX3_wordOf 20 = .ok (.aload_n 0, 1) := by decide +kernel
theorem dX3_wordOf_21 : decode cX3_wordOf 21 = .ok (.iload_n 1, 1) := by decide +kernel
theorem dX3_wordOf_22 : decode cX3_wordOf 22 = .ok (.iconst 1, 1) := by decide +kernel
theorem dX3_wordOf_23 : decode cX3_wordOf 23 = .ok (.invokevirtual 45, 3) := by decide +kernel
theorem dX3_wordOf_26 : decode cX3_wordOf 26 = .ok (.istore_n 3, 1) := by decide +kernel
theorem dX3_wordOf_27 : decode cX3_wordOf 27 = .ok (.iload_n 2, 1) := by decide +kernel
theorem dX3_wordOf_28 : decode cX3_wordOf 28 = .ok (.tableswitch 89 0 4 #[36, 38, 54, 54, 73], 36) := by decide +kernel
theorem dX3_wordOf_64 : decode cX3_wordOf 64 = .ok (.iload_n 3, 1) := by decide +kernel
theorem dX3_wordOf_65 : decode cX3_wordOf 65 = .ok (.ireturn, 1) := by decide +kernel
theorem dX3_wordOf_66 : decode cX3_wordOf 66 = .ok (.iload_n 3, 1) := by decide +kernel
theorem dX3_wordOf_67 : decode cX3_wordOf 67 = .ok (.ifCond .ne 12, 3) := by decide +kernel
theorem dX3_wordOf_70 : decode cX3_wordOf 70 = .ok (.aload_n 0, 1) := by decide +kernel
theorem dX3_wordOf_71 : decode cX3_wordOf 71 = .ok (.iload_n 1, 1) := by decide +kernel
theorem dX3_wordOf_72 : decode cX3_wordOf 72 = .ok (.iconst 2, 1) := by decide +kernel
theorem dX3_wordOf_73 : decode cX3_wordOf 73 = .ok (.invokevirtual 45, 3) := by decide +kernel
theorem dX3_wordOf_76 : decode cX3_wordOf 76 = .ok (.goto 5, 3) := by decide +kernel
theorem dX3_wordOf_79 : decode cX3_wordOf 79 = .ok (.ldc 123, 2) := by decide +kernel
theorem dX3_wordOf_81 : decode cX3_wordOf 81 = .ok (.ireturn, 1) := by decide +kernel
theorem dX3_wordOf_82 : decode cX3_wordOf 82 = .ok (.iload_n 3, 1) := by decide +kernel
theorem dX3_wordOf_83 : decode cX3_wordOf 83 = .ok (.iconst 2, 1) := by decide +kernel
theorem dX3_wordOf_84 : decode cX3_wordOf 84 = .ok (.if_icmp .ne 8, 3) := by decide +kernel
theorem dX3_wordOf_87 : decode cX3_wordOf 87 = .ok (.ldc 123, 2) := by decide +kernel
theorem dX3_wordOf_89 : decode cX3_wordOf 89 = .ok (.goto 11, 3) := by decide +kernel
theorem dX3_wordOf_92 : decode cX3_wordOf 92 = .ok (.aload_n 0, 1) := by decide +kernel
theorem dX3_wordOf_93 : decode cX3_wordOf 93 = .ok (.iload_n 1, 1) := by decide +kernel
theorem dX3_wordOf_94 : decode cX3_wordOf 94 = .ok (.iload_n 2, 1) := by decide +kernel
theorem dX3_wordOf_95 : decode cX3_wordOf 95 = .ok (.iconst 1, 1) := by decide +kernel
theorem dX3_wordOf_96 : decode cX3_wordOf 96 = .ok (.iadd, 1) := by decide +kernel
theorem dX3_wordOf_97 : decode cX3_wordOf 97 = .ok (.invokevirtual 45, 3) := by decide +kernel
theorem dX3_wordOf_100 : decode cX3_wordOf 100 = .ok (.ireturn, 1) := by decide +kernel
theorem dX3_wordOf_101 : decode cX3_wordOf 101 = .ok (.iload_n 3, 1) := by decide +kernel
theorem dX3_wordOf_102 : decode cX3_wordOf 102 = .ok (.iconst 1, 1) := by decide +kernel
theorem dX3_wordOf_103 : decode cX3_wordOf 103 = .ok (.if_icmp .ne 11, 3) := by decide +kernel
theorem dX3_wordOf_106 : decode cX3_wordOf 106 = .ok (.aload_n 0, 1) := by decide +kernel
theorem dX3_wordOf_107 : decode cX3_wordOf 107 = .ok (.iload_n 1, 1) := by decide +kernel
theorem dX3_wordOf_108 : decode cX3_wordOf 108 = .ok (.invokevirtual 142, 3) := by decide +kernel
theorem dX3_wordOf_111 : decode cX3_wordOf 111 = .ok (.goto 5, 3) := by decide +kernel
theorem dX3_wordOf_114 : decode cX3_wordOf 114 = .ok (.ldc 123, 2) := by decide +kernel
theorem dX3_wordOf_116 : decode cX3_wordOf 116 = .ok (.ireturn, 1) := by decide +kernel
theorem dX3_wordOf_117 : decode cX3_wordOf 117 = .ok (.aload_n 0, 1) := by decide +kernel
theorem dX3_wordOf_118 : decode cX3_wordOf 118 = .ok (.iload_n 1, 1) := by decide +kernel
theorem dX3_wordOf_119 : decode cX3_wordOf 119 = .ok (.bipush 6, 2) := by decide +kernel
theorem dX3_wordOf_121 : decode cX3_wordOf 121 = .ok (.invokevirtual 45, 3) := by decide +kernel
theorem dX3_wordOf_124 : decode cX3_wordOf 124 = .ok (.ireturn, 1) := by decide +kernel
theorem dX3_firstOf_0 : decode cX3_firstOf 0 = .ok (.iconst (-1), 1) := by decide +kernel
theorem dX3_firstOf_1 : decode cX3_firstOf 1 = .ok (.istore_n 2, 1) := by decide +kernel
theorem dX3_firstOf_2 : decode cX3_firstOf 2 = .ok (.iconst 0, 1) := by decide +kernel
theorem dX3_firstOf_3 : decode cX3_firstOf 3 = .ok (.istore_n 3, 1) := by decide +kernel
theorem dX3_firstOf_4 : decode cX3_firstOf 4 = .ok (.iload_n 3, 1) := by decide +kernel
theorem dX3_firstOf_5 : decode cX3_firstOf 5 = .ok (.aload_n 0, 1) := by decide +kernel
theorem dX3_firstOf_6 : decode cX3_firstOf 6 = .ok (.getfield 7, 3) := by decide +kernel
theorem dX3_firstOf_9 : decode cX3_firstOf 9 = .ok (.iconst 1, 1) := by decide +kernel
theorem dX3_firstOf_10 : decode cX3_firstOf 10 = .ok (.iaload, 1) := by decide +kernel
theorem dX3_firstOf_11 : decode cX3_firstOf 11 = .ok (.if_icmp .ge 66, 3) := by decide +kernel
theorem dX3_firstOf_14 : decode cX3_firstOf 14 = .ok (.aload_n 0, 1) := by decide +kernel
theorem dX3_firstOf_15 : decode cX3_firstOf 15 = .ok (.iload_n 3, 1) := by decide +kernel
theorem dX3_firstOf_16 : decode cX3_firstOf 16 = .ok (.iconst 1, 1) := by decide +kernel
theorem dX3_firstOf_17 : decode cX3_firstOf 17 = .ok (.invokevirtual 45, 3) := by decide +kernel
theorem dX3_firstOf_20 : decode cX3_firstOf 20 = .ok (.iconst 1, 1) := by decide +kernel
theorem dX3_firstOf_21 : decode cX3_firstOf 21 = .ok (.if_icmp .ne 36, 3) := by decide +kernel
theorem dX3_firstOf_24 : decode cX3_firstOf 24 = .ok (.aload_n 0, 1) := by decide +kernel
theorem dX3_firstOf_25 : decode cX3_firstOf 25 = .ok (.iload_n 3, 1) := by decide +kernel
theorem dX3_firstOf_26 : decode cX3_firstOf 26 = .ok (.iconst 4, 1) := by decide +kernel
theorem dX3_firstOf_27 : decode cX3_firstOf 27 = .ok (.invokevirtual 45, 3) := by decide +kernel
theorem dX3_firstOf_30 : decode cX3_firstOf 30 = .ok (.iload_n 1, 1) := by decide +kernel
theorem dX3_firstOf_31 : decode cX3_firstOf 31 = .ok (.if_icmp .ne 26, 3) := by decide +kernel
theorem dX3_firstOf_34 : decode cX3_firstOf 34 = .ok (.iload_n 2, 1) := by decide +kernel
theorem dX3_firstOf_35 : decode cX3_firstOf 35 = .ok (.ifCond .lt 18, 3) := by decide +kernel
theorem dX3_firstOf_38 : decode cX3_firstOf 38 = .ok (.aload_n 0, 1) := by decide +kernel
theorem dX3_firstOf_39 : decode cX3_firstOf 39 = .ok (.iload_n 3, 1) := by decide +kernel
theorem dX3_firstOf_40 : decode cX3_firstOf 40 = .ok (.iconst 5, 1) := by decide +kernel
theorem dX3_firstOf_41 : decode cX3_firstOf 41 = .ok (.invokevirtual 45, 3) := by decide +kernel
theorem dX3_firstOf_44 : decode cX3_firstOf 44 = .ok (.aload_n 0, 1) := by decide +kernel
theorem dX3_firstOf_45 : decode cX3_firstOf 45 = .ok (.iload_n 2, 1) := by decide +kernel
theorem dX3_firstOf_46 : decode cX3_firstOf 46 = .ok (.iconst 5, 1) := by decide +kernel
theorem dX3_firstOf_47 : decode cX3_firstOf 47 = .ok (.invokevirtual 45, 3) := by decide +kernel
theorem dX3_firstOf_50 : decode cX3_firstOf 50 = .ok (.if_icmp .ge 7, 3) := by decide +kernel
theorem dX3_firstOf_53 : decode cX3_firstOf 53 = .ok (.iconst 1, 1) := by decide +kernel
theorem dX3_firstOf_54 : decode cX3_firstOf 54 = .ok (.goto 4, 3) := by decide +kernel
theorem dX3_firstOf_57 : decode cX3_firstOf 57 = .ok (.iconst 0, 1) := by decide +kernel
theorem dX3_firstOf_58 : decode cX3_firstOf 58 = .ok (.istore 4, 2) := by decide +kernel
theorem dX3_firstOf_60 : decode cX3_firstOf 60 = .ok (.iload 4, 2) := by decide +kernel
theorem dX3_firstOf_62 : decode cX3_firstOf 62 = .ok (.ifCond .eq 7, 3) := by decide +kernel
theorem dX3_firstOf_65 : decode cX3_firstOf 65 = .ok (.iload_n 3, 1) := by decide +kernel
theorem dX3_firstOf_66 : decode cX3_firstOf 66 = .ok (.goto 4, 3) := by decide +kernel
theorem dX3_firstOf_69 : decode cX3_firstOf 69 = .ok (.iload_n 2, 1) := by decide +kernel
theorem dX3_firstOf_70 : decode cX3_firstOf 70 = .ok (.istore_n 2, 1) := by decide +kernel
theorem dX3_firstOf_71 : decode cX3_firstOf 71 = .ok (.iinc 3 1, 3) := by decide +kernel
theorem dX3_firstOf_74 : decode cX3_firstOf 74 = .ok (.goto (-70), 3) := by decide +kernel
theorem dX3_firstOf_77 : decode cX3_firstOf 77 = .ok (.iload_n 2, 1) := by decide +kernel
theorem dX3_firstOf_78 : decode cX3_firstOf 78 = .ok (.ireturn, 1) := by decide +kernel
theorem dX3_many_0 : decode cX3_many 0 = .ok (.iconst 0, 1) := by decide +kernel
theorem dX3_many_1 : decode cX3_many 1 = .ok (.istore 4, 2) := by decide +kernel
theorem dX3_many_3 : decode cX3_many 3 = .ok (.iconst 0, 1) := by decide +kernel
theorem dX3_many_4 : decode cX3_many 4 = .ok (.istore 5, 2) := by decide +kernel
theorem dX3_many_6 : decode cX3_many 6 = .ok (.iload 5, 2) := by decide +kernel
theorem dX3_many_8 : decode cX3_many 8 = .ok (.aload_n 0, 1) := by decide +kernel
theorem dX3_many_9 : decode cX3_many 9 = .ok (.getfield 7, 3) := by decide +kernel
theorem dX3_many_12 : decode cX3_many 12 = .ok (.iconst 1, 1) := by decide +kernel
theorem dX3_many_13 : decode cX3_many 13 = .ok (.iaload, 1) := by decide +kernel
theorem dX3_many_14 : decode cX3_many 14 = .ok (.if_icmp .ge 82, 3) := by decide +kernel
theorem dX3_many_17 : decode cX3_many 17 = .ok (.aload_n 0, 1) := by decide +kernel
theorem dX3_many_18 : decode cX3_many 18 = .ok (.iload 5, 2) := by decide +kernel
theorem dX3_many_20 : decode cX3_many 20 = .ok (.iconst 1, 1) := by decide +kernel
theorem dX3_many_21 : decode cX3_many 21 = .ok (.invokevirtual 45, 3) := by decide +kernel
theorem dX3_many_24 : decode cX3_many 24 = .ok (.iload_n 2, 1) := by decide +kernel
theorem dX3_many_25 : decode cX3_many 25 = .ok (.if_icmp .ne 22, 3) := by decide +kernel
theorem dX3_many_28 : decode cX3_many 28 = .ok (.iload_n 1, 1) := by decide +kernel
theorem dX3_many_29 : decode cX3_many 29 = .ok (.ifCond .lt 14, 3) := by decide +kernel
theorem dX3_many_32 : decode cX3_many 32 = .ok (.aload_n 0, 1) := by decide +kernel
theorem dX3_many_33 : decode cX3_many 33 = .ok (.iload 5, 2) := by decide +kernel
theorem dX3_many_35 : decode cX3_many 35 = .ok (.iconst 4, 1) := by decide +kernel
theorem dX3_many_36 : decode cX3_many 36 = .ok (.invokevirtual 45, 3) := by decide +kernel
theorem dX3_many_39 : decode cX3_many 39 = .ok (.iload_n 1, 1) := by decide +kernel
theorem dX3_many_40 : decode cX3_many 40 = .ok (.if_icmp .ne 7, 3) := by decide +kernel
theorem dX3_many_43 : decode cX3_many 43 = .ok (.iconst 1, 1) := by decide +kernel
theorem dX3_many_44 : decode cX3_many 44 = .ok (.goto 4, 3) := by decide +kernel
theorem dX3_many_47 : decode cX3_many 47 = .ok (.iconst 0, 1) := by decide +kernel
theorem dX3_many_48 : decode cX3_many 48 = .ok (.istore 6, 2) := by decide +kernel
theorem dX3_many_50 : decode cX3_many 50 = .ok (.iload 4, 2) := by decide +kernel
theorem dX3_many_52 : decode cX3_many 52 = .ok (.iload 6, 2) := by decide +kernel
theorem dX3_many_54 : decode cX3_many 54 = .ok (.ifCond .eq 32, 3) := by decide +kernel
theorem dX3_many_57 : decode cX3_many 57 = .ok (.iload_n 3, 1) := by decide +kernel
theorem dX3_many_58 : decode cX3_many 58 = .ok (.ifCond .eq 24, 3) := by decide +kernel
theorem dX3_many_61 : decode cX3_many 61 = .ok (.aload_n 0, 1) := by decide +kernel
theorem dX3_many_62 : decode cX3_many 62 = .ok (.aload_n 0, 1) := by decide +kernel
theorem dX3_many_63 : decode cX3_many 63 = .ok (.iload 5, 2) := by decide +kernel
theorem dX3_many_65 : decode cX3_many 65 = .ok (.iconst 4, 1) := by decide +kernel
theorem dX3_many_66 : decode cX3_many 66 = .ok (.invokevirtual 45, 3) := by decide +kernel
theorem dX3_many_69 : decode cX3_many 69 = .ok (.aload_n 0, 1) := by decide +kernel
theorem dX3_many_70 : decode cX3_many 70 = .ok (.iload 5, 2) := by decide +kernel
theorem dX3_many_72 : decode cX3_many 72 = .ok (.iconst 3, 1) := by decide +kernel
theorem dX3_many_73 : decode cX3_many 73 = .ok (.invokevirtual 45, 3) := by decide +kernel
theorem dX3_many_76 : decode cX3_many 76 = .ok (.invokevirtual 76, 3) := by decide +kernel
theorem dX3_many_79 : decode cX3_many 79 = .ok (.ifCond .ne 7, 3) := by decide +kernel
theorem dX3_many_82 : decode cX3_many 82 = .ok (.iconst 1, 1) := by decide +kernel
theorem dX3_many_83 : decode cX3_many 83 = .ok (.goto 4, 3) := by decide +kernel
theorem dX3_many_86 : decode cX3_many 86 = .ok (.iconst 0, 1) := by decide +kernel
theorem dX3_many_87 : decode cX3_many 87 = .ok (.iadd, 1) := by decide +kernel
theorem dX3_many_88 : decode cX3_many 88 = .ok (.istore 4, 2) := by decide +kernel
theorem dX3_many_90 : decode cX3_many 90 = .ok (.iinc 5 1, 3) := by decide +kernel
theorem dX3_many_93 : decode cX3_many 93 = .ok (.goto (-87), 3) := by decide +kernel
theorem dX3_many_96 : decode cX3_many 96 = .ok (.iload 4, 2) := by decide +kernel
theorem dX3_many_98 : decode cX3_many 98 = .ok (.ireturn, 1) := by decide +kernel
theorem dX3_familyOf_0 : decode cX3_familyOf 0 = .ok (.iload_n 1, 1) := by decide +kernel
theorem dX3_familyOf_1 : decode cX3_familyOf 1 = .ok (.iconst 0, 1) := by decide +kernel
theorem dX3_familyOf_2 : decode cX3_familyOf 2 = .ok (.iconst 2, 1) := by decide +kernel
theorem dX3_familyOf_3 : decode cX3_familyOf 3 = .ok (.invokestatic 32, 3) := by decide +kernel
theorem dX3_familyOf_6 : decode cX3_familyOf 6 = .ok (.ifCond .eq 13, 3) := by decide +kernel
theorem dX3_familyOf_9 : decode cX3_familyOf 9 = .ok (.iload_n 2, 1) := by decide +kernel
theorem dX3_familyOf_10 : decode cX3_familyOf 10 = .ok (.iconst 0, 1) := by decide +kernel
theorem dX3_familyOf_11 : decode cX3_familyOf 11 = .ok (.bipush 6, 2) := by decide +kernel
theorem dX3_familyOf_13 : decode cX3_familyOf 13 = .ok (.invokestatic 32, 3) := by decide +kernel
theorem dX3_familyOf_16 : decode cX3_familyOf 16 = .ok (.ifCond .ne 6, 3) := by decide +kernel
theorem dX3_familyOf_19 : decode cX3_familyOf 19 = .ok (.ldc 40, 2) := by decide +kernel
theorem dX3_familyOf_21 : decode cX3_familyOf 21 = .ok (.ireturn, 1) := by decide +kernel
theorem dX3_familyOf_22 : decode cX3_familyOf 22 = .ok (.iconst 0, 1) := by decide +kernel
theorem dX3_familyOf_23 : decode cX3_familyOf 23 = .ok (.istore_n 3, 1) := by decide +kernel
theorem dX3_familyOf_24 : decode cX3_familyOf 24 = .ok (.iconst 0, 1) := by decide +kernel
theorem dX3_familyOf_25 : decode cX3_familyOf 25 = .ok (.istore 4, 2) := by decide +kernel
theorem dX3_familyOf_27 : decode cX3_familyOf 27 = .ok (.iload 4, 2) := by decide +kernel
theorem dX3_familyOf_29 : decode cX3_familyOf 29 = .ok (.aload_n 0, 1) := by decide +kernel
theorem dX3_familyOf_30 : decode cX3_familyOf 30 = .ok (.getfield 7, 3) := by decide +kernel
theorem dX3_familyOf_33 : decode cX3_familyOf 33 = .ok (.iconst 0, 1) := by decide +kernel
theorem dX3_familyOf_34 : decode cX3_familyOf 34 = .ok (.iaload, 1) := by decide +kernel
theorem dX3_familyOf_35 : decode cX3_familyOf 35 = .ok (.if_icmp .ge 40, 3) := by decide +kernel
theorem dX3_familyOf_38 : decode cX3_familyOf 38 = .ok (.iload_n 3, 1) := by decide +kernel
theorem dX3_familyOf_39 : decode cX3_familyOf 39 = .ok (.aload_n 0, 1) := by decide +kernel
theorem dX3_familyOf_40 : decode cX3_familyOf 40 = .ok (.iload 4, 2) := by decide +kernel
theorem dX3_familyOf_42 : decode cX3_familyOf 42 = .ok (.iconst 0, 1) := by decide +kernel
theorem dX3_familyOf_43 : decode cX3_familyOf 43 = .ok (.invokevirtual 36, 3) := by decide +kernel
theorem dX3_familyOf_46 : decode cX3_familyOf 46 = .ok (.iload_n 1, 1) := by decide +kernel
theorem dX3_familyOf_47 : decode cX3_familyOf 47 = .ok (.if_icmp .ne 19, 3) := by decide +kernel
theorem dX3_familyOf_50 : decode cX3_familyOf 50 = .ok (.aload_n 0, 1) := by decide +kernel
theorem dX3_familyOf_51 : decode cX3_familyOf 51 = .ok (.iload 4, 2) := by decide +kernel
theorem dX3_familyOf_53 : decode cX3_familyOf 53 = .ok (.invokevirtual 52, 3) := by decide +kernel
theorem dX3_familyOf_56 : decode cX3_familyOf 56 = .ok (.ifCond .eq 10, 3) := by decide +kernel
theorem dX3_familyOf_59 : decode cX3_familyOf 59 = .ok (.iconst 1, 1) := by decide +kernel
theorem dX3_familyOf_60 : decode cX3_familyOf 60 = .ok (.iload 4, 2) := by decide +kernel
theorem dX3_familyOf_62 : decode cX3_familyOf 62 = .ok (.ishl, 1) := by decide +kernel
theorem dX3_familyOf_63 : decode cX3_familyOf 63 = .ok (.goto 4, 3) := by decide +kernel
theorem dX3_familyOf_66 : decode cX3_familyOf 66 = .ok (.iconst 0, 1) := by decide +kernel
theorem dX3_familyOf_67 : decode cX3_familyOf 67 = .ok (.ior, 1) := by decide +kernel
theorem dX3_familyOf_68 : decode cX3_familyOf 68 = .ok (.istore_n 3, 1) := by decide +kernel
theorem dX3_familyOf_69 : decode cX3_familyOf 69 = .ok (.iinc 4 1, 3) := by decide +kernel
theorem dX3_familyOf_72 : decode cX3_familyOf 72 = .ok (.goto (-45), 3) := by decide +kernel
theorem dX3_familyOf_75 : decode cX3_familyOf 75 = .ok (.iload_n 2, 1) := by decide +kernel
theorem dX3_familyOf_76 : decode cX3_familyOf 76 = .ok (.tableswitch 97 0 5 #[40, 65, 67, 75, 83, 89], 40) := by decide +kernel
theorem dX3_familyOf_116 : decode cX3_familyOf 116 = .ok (.aload_n 0, 1) := by decide +kernel
theorem dX3_familyOf_117 : decode cX3_familyOf 117 = .ok (.getfield 7, 3) := by decide +kernel
theorem dX3_familyOf_120 : decode cX3_familyOf 120 = .ok (.iconst 5, 1) := by decide +kernel
theorem dX3_familyOf_121 : decode cX3_familyOf 121 = .ok (.iload_n 1, 1) := by decide +kernel
theorem dX3_familyOf_122 : decode cX3_familyOf 122 = .ok (.iadd, 1) := by decide +kernel
theorem dX3_familyOf_123 : decode cX3_familyOf 123 = .ok (.iaload, 1) := by decide +kernel
theorem dX3_familyOf_124 : decode cX3_familyOf 124 = .ok (.ifCond .ge 8, 3) := by decide +kernel
theorem dX3_familyOf_127 : decode cX3_familyOf 127 = .ok (.ldc 123, 2) := by decide +kernel
theorem dX3_familyOf_129 : decode cX3_familyOf 129 = .ok (.goto 11, 3) := by decide +kernel
theorem dX3_familyOf_132 : decode cX3_familyOf 132 = .ok (.aload_n 0, 1) := by decide +kernel
theorem dX3_familyOf_133 : decode cX3_familyOf 133 = .ok (.getfield 7, 3) := by decide +kernel
theorem dX3_familyOf_136 : decode cX3_familyOf 136 = .ok (.iconst 5, 1) := by decide +kernel
theorem dX3_familyOf_137 : decode cX3_familyOf 137 = .ok (.iload_n 1, 1) := by decide +kernel
theorem dX3_familyOf_138 : decode cX3_familyOf 138 = .ok (.iadd, 1) := by decide +kernel
theorem dX3_familyOf_139 : decode cX3_familyOf 139 = .ok (.iaload, 1) := by decide +kernel
theorem dX3_familyOf_140 : decode cX3_familyOf 140 = .ok (.ireturn, 1) := by decide +kernel
theorem dX3_familyOf_141 : decode cX3_familyOf 141 = .ok (.iload_n 3, 1) := by decide +kernel
theorem dX3_familyOf_142 : decode cX3_familyOf 142 = .ok (.ireturn, 1) := by decide +kernel
theorem dX3_familyOf_143 : decode cX3_familyOf 143 = .ok (.aload_n 0, 1) := by decide +kernel
theorem dX3_familyOf_144 : decode cX3_familyOf 144 = .ok (.iload_n 1, 1) := by decide +kernel
theorem dX3_familyOf_145 : decode cX3_familyOf 145 = .ok (.iconst 1, 1) := by decide +kernel
theorem dX3_familyOf_146 : decode cX3_familyOf 146 = .ok (.iconst 0, 1) := by decide +kernel
theorem dX3_familyOf_147 : decode cX3_familyOf 147 = .ok (.invokevirtual 145, 3) := by decide +kernel
theorem dX3_familyOf_150 : decode cX3_familyOf 150 = .ok (.ireturn, 1) := by decide +kernel
theorem dX3_familyOf_151 : decode cX3_familyOf 151 = .ok (.aload_n 0, 1) := by decide +kernel
theorem dX3_familyOf_152 : decode cX3_familyOf 152 = .ok (.iload_n 1, 1) := by decide +kernel
theorem dX3_familyOf_153 : decode cX3_familyOf 153 = .ok (.iconst 0, 1) := by decide +kernel
theorem dX3_familyOf_154 : decode cX3_familyOf 154 = .ok (.iconst 0, 1) := by decide +kernel
theorem dX3_familyOf_155 : decode cX3_familyOf 155 = .ok (.invokevirtual 145, 3) := by decide +kernel
theorem dX3_familyOf_158 : decode cX3_familyOf 158 = .ok (.ireturn, 1) := by decide +kernel
theorem dX3_familyOf_159 : decode cX3_familyOf 159 = .ok (.aload_n 0, 1) := by decide +kernel
theorem dX3_familyOf_160 : decode cX3_familyOf 160 = .ok (.iload_n 1, 1) := by decide +kernel
theorem dX3_familyOf_161 : decode cX3_familyOf 161 = .ok (.invokevirtual 97, 3) := by decide +kernel
theorem dX3_familyOf_164 : decode cX3_familyOf 164 = .ok (.ireturn, 1) := by decide +kernel
theorem dX3_familyOf_165 : decode cX3_familyOf 165 = .ok (.aload_n 0, 1) := by decide +kernel
theorem dX3_familyOf_166 : decode cX3_familyOf 166 = .ok (.iload_n 1, 1) := by decide +kernel
theorem dX3_familyOf_167 : decode cX3_familyOf 167 = .ok (.iconst 0, 1) := by decide +kernel
theorem dX3_familyOf_168 : decode cX3_familyOf 168 = .ok (.iconst 1, 1) := by decide +kernel
theorem dX3_familyOf_169 : decode cX3_familyOf 169 = .ok (.invokevirtual 145, 3) := by decide +kernel
theorem dX3_familyOf_172 : decode cX3_familyOf 172 = .ok (.ireturn, 1) := by decide +kernel
theorem dX3_familyOf_173 : decode cX3_familyOf 173 = .ok (.aload_n 0, 1) := by decide +kernel
theorem dX3_familyOf_174 : decode cX3_familyOf 174 = .ok (.iload_n 1, 1) := by decide +kernel
theorem dX3_familyOf_175 : decode cX3_familyOf 175 = .ok (.invokevirtual 149, 3) := by decide +kernel
theorem dX3_familyOf_178 : decode cX3_familyOf 178 = .ok (.ifCond .ge 8, 3) := by decide +kernel
theorem dX3_familyOf_181 : decode cX3_familyOf 181 = .ok (.ldc 123, 2) := by decide +kernel
theorem dX3_familyOf_183 : decode cX3_familyOf 183 = .ok (.goto 8, 3) := by decide +kernel
theorem dX3_familyOf_186 : decode cX3_familyOf 186 = .ok (.aload_n 0, 1) := by decide +kernel
theorem dX3_familyOf_187 : decode cX3_familyOf 187 = .ok (.iload_n 1, 1) := by decide +kernel
theorem dX3_familyOf_188 : decode cX3_familyOf 188 = .ok (.invokevirtual 149, 3) := by decide +kernel
theorem dX3_familyOf_191 : decode cX3_familyOf 191 = .ok (.ireturn, 1) := by decide +kernel
theorem dX3_raises_0 : decode cX3_raises 0 = .ok (.aload_n 0, 1) := by decide +kernel
theorem dX3_raises_1 : decode cX3_raises 1 = .ok (.iload_n 1, 1) := by decide +kernel
theorem dX3_raises_2 : decode cX3_raises 2 = .ok (.invokevirtual 149, 3) := by decide +kernel
theorem dX3_raises_5 : decode cX3_raises 5 = .ok (.istore_n 2, 1) := by decide +kernel
theorem dX3_raises_6 : decode cX3_raises 6 = .ok (.iload_n 2, 1) := by decide +kernel
theorem dX3_raises_7 : decode cX3_raises 7 = .ok (.ifCond .ge 5, 3) := by decide +kernel
theorem dX3_raises_10 : decode cX3_raises 10 = .ok (.iconst 0, 1) := by decide +kernel
theorem dX3_raises_11 : decode cX3_raises 11 = .ok (.ireturn, 1) := by decide +kernel
theorem dX3_raises_12 : decode cX3_raises 12 = .ok (.aload_n 0, 1) := by decide +kernel
theorem dX3_raises_13 : decode cX3_raises 13 = .ok (.iload_n 2, 1) := by decide +kernel
theorem dX3_raises_14 : decode cX3_raises 14 = .ok (.iconst 1, 1) := by decide +kernel
theorem dX3_raises_15 : decode cX3_raises 15 = .ok (.iconst 2, 1) := by decide +kernel
theorem dX3_raises_16 : decode cX3_raises 16 = .ok (.invokevirtual 72, 3) := by decide +kernel
theorem dX3_raises_19 : decode cX3_raises 19 = .ok (.aload_n 0, 1) := by decide +kernel
theorem dX3_raises_20 : decode cX3_raises 20 = .ok (.iload_n 1, 1) := by decide +kernel
theorem dX3_raises_21 : decode cX3_raises 21 = .ok (.iconst (-1), 1) := by decide +kernel
theorem dX3_raises_22 : decode cX3_raises 22 = .ok (.invokevirtual 136, 3) := by decide +kernel
theorem dX3_raises_25 : decode cX3_raises 25 = .ok (.istore_n 3, 1) := by decide +kernel
theorem dX3_raises_26 : decode cX3_raises 26 = .ok (.iload_n 3, 1) := by decide +kernel
theorem dX3_raises_27 : decode cX3_raises 27 = .ok (.ifCond .ge 12, 3) := by decide +kernel
theorem dX3_raises_30 : decode cX3_raises 30 = .ok (.aload_n 0, 1) := by decide +kernel
theorem dX3_raises_31 : decode cX3_raises 31 = .ok (.iload_n 2, 1) := by decide +kernel
theorem dX3_raises_32 : decode cX3_raises 32 = .ok (.iconst 1, 1) := by decide +kernel
theorem dX3_raises_33 : decode cX3_raises 33 = .ok (.iconst 1, 1) := by decide +kernel
theorem dX3_raises_34 : decode cX3_raises 34 = .ok (.invokevirtual 72, 3) := by decide +kernel
theorem dX3_raises_37 : decode cX3_raises 37 = .ok (.iconst 0, 1) := by decide +kernel
theorem dX3_raises_38 : decode cX3_raises 38 = .ok (.ireturn, 1) := by decide +kernel
theorem dX3_raises_39 : decode cX3_raises 39 = .ok (.aload_n 0, 1) := by decide +kernel
theorem dX3_raises_40 : decode cX3_raises 40 = .ok (.iload_n 2, 1) := by decide +kernel
theorem dX3_raises_41 : decode cX3_raises 41 = .ok (.iload_n 3, 1) := by decide +kernel
theorem dX3_raises_42 : decode cX3_raises 42 = .ok (.aload_n 0, 1) := by decide +kernel
theorem dX3_raises_43 : decode cX3_raises 43 = .ok (.iload_n 3, 1) := by decide +kernel
theorem dX3_raises_44 : decode cX3_raises 44 = .ok (.invokevirtual 124, 3) := by decide +kernel
theorem dX3_raises_47 : decode cX3_raises 47 = .ok (.invokevirtual 127, 3) := by decide +kernel
theorem dX3_raises_50 : decode cX3_raises 50 = .ok (.aload_n 0, 1) := by decide +kernel
theorem dX3_raises_51 : decode cX3_raises 51 = .ok (.iload_n 2, 1) := by decide +kernel
theorem dX3_raises_52 : decode cX3_raises 52 = .ok (.bipush 6, 2) := by decide +kernel
theorem dX3_raises_54 : decode cX3_raises 54 = .ok (.aload_n 0, 1) := by decide +kernel
theorem dX3_raises_55 : decode cX3_raises 55 = .ok (.iload_n 2, 1) := by decide +kernel
theorem dX3_raises_56 : decode cX3_raises 56 = .ok (.bipush 6, 2) := by decide +kernel
theorem dX3_raises_58 : decode cX3_raises 58 = .ok (.invokevirtual 45, 3) := by decide +kernel
theorem dX3_raises_61 : decode cX3_raises 61 = .ok (.iconst 1, 1) := by decide +kernel
theorem dX3_raises_62 : decode cX3_raises 62 = .ok (.iadd, 1) := by decide +kernel
theorem dX3_raises_63 : decode cX3_raises 63 = .ok (.invokevirtual 72, 3) := by decide +kernel
theorem dX3_raises_66 : decode cX3_raises 66 = .ok (.aload_n 0, 1) := by decide +kernel
theorem dX3_raises_67 : decode cX3_raises 67 = .ok (.getfield 7, 3) := by decide +kernel
theorem dX3_raises_70 : decode cX3_raises 70 = .ok (.iconst 3, 1) := by decide +kernel
theorem dX3_raises_71 : decode cX3_raises 71 = .ok (.dup2, 1) := by decide +kernel
theorem dX3_raises_72 : decode cX3_raises 72 = .ok (.iaload, 1) := by decide +kernel
theorem dX3_raises_73 : decode cX3_raises 73 = .ok (.iconst 1, 1) := by decide +kernel
theorem dX3_raises_74 : decode cX3_raises 74 = .ok (.iadd, 1) := by decide +kernel
theorem dX3_raises_75 : decode cX3_raises 75 = .ok (.iastore, 1) := by decide +kernel
theorem dX3_raises_76 : decode cX3_raises 76 = .ok (.iconst 1, 1) := by decide +kernel
theorem dX3_raises_77 : decode cX3_raises 77 = .ok (.ireturn, 1) := by decide +kernel
theorem dX3_tickOne_0 : decode cX3_tickOne 0 = .ok (.iconst 0, 1) := by decide +kernel
theorem dX3_tickOne_1 : decode cX3_tickOne 1 = .ok (.istore_n 1, 1) := by decide +kernel
theorem dX3_tickOne_2 : decode cX3_tickOne 2 = .ok (.iconst 0, 1) := by decide +kernel
theorem dX3_tickOne_3 : decode cX3_tickOne 3 = .ok (.istore_n 2, 1) := by decide +kernel
theorem dX3_tickOne_4 : decode cX3_tickOne 4 = .ok (.iload_n 2, 1) := by decide +kernel
theorem dX3_tickOne_5 : decode cX3_tickOne 5 = .ok (.iconst 3, 1) := by decide +kernel
theorem dX3_tickOne_6 : decode cX3_tickOne 6 = .ok (.if_icmp .ge 25, 3) := by decide +kernel
theorem dX3_tickOne_9 : decode cX3_tickOne 9 = .ok (.iload_n 1, 1) := by decide +kernel
theorem dX3_tickOne_10 : decode cX3_tickOne 10 = .ok (.aload_n 0, 1) := by decide +kernel
theorem dX3_tickOne_11 : decode cX3_tickOne 11 = .ok (.iload_n 2, 1) := by decide +kernel
theorem dX3_tickOne_12 : decode cX3_tickOne 12 = .ok (.invokevirtual 152, 3) := by decide +kernel
theorem dX3_tickOne_15 : decode cX3_tickOne 15 = .ok (.ifCond .eq 7, 3) := by decide +kernel
theorem dX3_tickOne_18 : decode cX3_tickOne 18 = .ok (.iconst 1, 1) := by decide +kernel
theorem dX3_tickOne_19 : decode cX3_tickOne 19 = .ok (.goto 4, 3) := by decide +kernel
theorem dX3_tickOne_22 : decode cX3_tickOne 22 = .ok (.iconst 0, 1) := by decide +kernel
theorem dX3_tickOne_23 : decode cX3_tickOne 23 = .ok (.iadd, 1) := by decide +kernel
theorem dX3_tickOne_24 : decode cX3_tickOne 24 = .ok (.istore_n 1, 1) := by decide +kernel
theorem dX3_tickOne_25 : decode cX3_tickOne 25 = .ok (.iinc 2 1, 3) := by decide +kernel
theorem dX3_tickOne_28 : decode cX3_tickOne 28 = .ok (.goto (-24), 3) := by decide +kernel
theorem dX3_tickOne_31 : decode cX3_tickOne 31 = .ok (.aload_n 0, 1) := by decide +kernel
theorem dX3_tickOne_32 : decode cX3_tickOne 32 = .ok (.getfield 7, 3) := by decide +kernel
theorem dX3_tickOne_35 : decode cX3_tickOne 35 = .ok (.iconst 2, 1) := by decide +kernel
theorem dX3_tickOne_36 : decode cX3_tickOne 36 = .ok (.dup2, 1) := by decide +kernel
theorem dX3_tickOne_37 : decode cX3_tickOne 37 = .ok (.iaload, 1) := by decide +kernel
theorem dX3_tickOne_38 : decode cX3_tickOne 38 = .ok (.iconst 1, 1) := by decide +kernel
theorem dX3_tickOne_39 : decode cX3_tickOne 39 = .ok (.iadd, 1) := by decide +kernel
theorem dX3_tickOne_40 : decode cX3_tickOne 40 = .ok (.iastore, 1) := by decide +kernel
theorem dX3_tickOne_41 : decode cX3_tickOne 41 = .ok (.iload_n 1, 1) := by decide +kernel
theorem dX3_tickOne_42 : decode cX3_tickOne 42 = .ok (.ireturn, 1) := by decide +kernel
theorem dX3_ticks_0 : decode cX3_ticks 0 = .ok (.iload_n 1, 1) := by decide +kernel
theorem dX3_ticks_1 : decode cX3_ticks 1 = .ok (.iconst 1, 1) := by decide +kernel
theorem dX3_ticks_2 : decode cX3_ticks 2 = .ok (.bipush 100, 2) := by decide +kernel
theorem dX3_ticks_4 : decode cX3_ticks 4 = .ok (.invokestatic 32, 3) := by decide +kernel
theorem dX3_ticks_7 : decode cX3_ticks 7 = .ok (.ifCond .ne 6, 3) := by decide +kernel
theorem dX3_ticks_10 : decode cX3_ticks 10 = .ok (.ldc 40, 2) := by decide +kernel
theorem dX3_ticks_12 : decode cX3_ticks 12 = .ok (.ireturn, 1) := by decide +kernel
theorem dX3_ticks_13 : decode cX3_ticks 13 = .ok (.aload_n 0, 1) := by decide +kernel
theorem dX3_ticks_14 : decode cX3_ticks 14 = .ok (.getfield 7, 3) := by decide +kernel
theorem dX3_ticks_17 : decode cX3_ticks 17 = .ok (.iconst 2, 1) := by decide +kernel
theorem dX3_ticks_18 : decode cX3_ticks 18 = .ok (.iaload, 1) := by decide +kernel
theorem dX3_ticks_19 : decode cX3_ticks 19 = .ok (.iload_n 1, 1) := by decide +kernel
theorem dX3_ticks_20 : decode cX3_ticks 20 = .ok (.iadd, 1) := by decide +kernel
theorem dX3_ticks_21 : decode cX3_ticks 21 = .ok (.ldc 155, 2) := by decide +kernel
theorem dX3_ticks_23 : decode cX3_ticks 23 = .ok (.if_icmp .le 6, 3) := by decide +kernel
theorem dX3_ticks_26 : decode cX3_ticks 26 = .ok (.ldc 83, 2) := by decide +kernel
theorem dX3_ticks_28 : decode cX3_ticks 28 = .ok (.ireturn, 1) := by decide +kernel
theorem dX3_ticks_29 : decode cX3_ticks 29 = .ok (.iconst 0, 1) := by decide +kernel
theorem dX3_ticks_30 : decode cX3_ticks 30 = .ok (.istore_n 2, 1) := by decide +kernel
theorem dX3_ticks_31 : decode cX3_ticks 31 = .ok (.iconst 0, 1) := by decide +kernel
theorem dX3_ticks_32 : decode cX3_ticks 32 = .ok (.istore_n 3, 1) := by decide +kernel
theorem dX3_ticks_33 : decode cX3_ticks 33 = .ok (.iload_n 3, 1) := by decide +kernel
theorem dX3_ticks_34 : decode cX3_ticks 34 = .ok (.iload_n 1, 1) := by decide +kernel
theorem dX3_ticks_35 : decode cX3_ticks 35 = .ok (.if_icmp .ge 16, 3) := by decide +kernel
theorem dX3_ticks_38 : decode cX3_ticks 38 = .ok (.iload_n 2, 1) := by decide +kernel
theorem dX3_ticks_39 : decode cX3_ticks 39 = .ok (.aload_n 0, 1) := by decide +kernel
theorem dX3_ticks_40 : decode cX3_ticks 40 = .ok (.invokevirtual 156, 3) := by decide +kernel
theorem dX3_ticks_43 : decode cX3_ticks 43 = .ok (.iadd, 1) := by decide +kernel
theorem dX3_ticks_44 : decode cX3_ticks 44 = .ok (.istore_n 2, 1) := by decide +kernel
theorem dX3_ticks_45 : decode cX3_ticks 45 = .ok (.iinc 3 1, 3) := by decide +kernel
theorem dX3_ticks_48 : decode cX3_ticks 48 = .ok (.goto (-15), 3) := by decide +kernel
theorem dX3_ticks_51 : decode cX3_ticks 51 = .ok (.iload_n 2, 1) := by decide +kernel
theorem dX3_ticks_52 : decode cX3_ticks 52 = .ok (.ireturn, 1) := by decide +kernel
theorem dX3_tick_0 : decode cX3_tick 0 = .ok (.aload_n 0, 1) := by decide +kernel
theorem dX3_tick_1 : decode cX3_tick 1 = .ok (.invokevirtual 84, 3) := by decide +kernel
theorem dX3_tick_4 : decode cX3_tick 4 = .ok (.aload_n 0, 1) := by decide +kernel
theorem dX3_tick_5 : decode cX3_tick 5 = .ok (.aload_n 0, 1) := by decide +kernel
theorem dX3_tick_6 : decode cX3_tick 6 = .ok (.iload_n 1, 1) := by decide +kernel
theorem dX3_tick_7 : decode cX3_tick 7 = .ok (.invokevirtual 159, 3) := by decide +kernel
theorem dX3_tick_10 : decode cX3_tick 10 = .ok (.invokevirtual 87, 3) := by decide +kernel
theorem dX3_tick_13 : decode cX3_tick 13 = .ok (.ireturn, 1) := by decide +kernel
theorem dX3_lossOf_0 : decode cX3_lossOf 0 = .ok (.aload_n 0, 1) := by decide +kernel
theorem dX3_lossOf_1 : decode cX3_lossOf 1 = .ok (.invokevirtual 162, 3) := by decide +kernel
theorem dX3_lossOf_4 : decode cX3_lossOf 4 = .ok (.aload_n 0, 1) := by decide +kernel
theorem dX3_lossOf_5 : decode cX3_lossOf 5 = .ok (.iload_n 1, 1) := by decide +kernel
theorem dX3_lossOf_6 : decode cX3_lossOf 6 = .ok (.invokevirtual 114, 3) := by decide +kernel
theorem dX3_lossOf_9 : decode cX3_lossOf 9 = .ok (.istore_n 3, 1) := by decide +kernel
theorem dX3_lossOf_10 : decode cX3_lossOf 10 = .ok (.iload_n 3, 1) := by decide +kernel
theorem dX3_lossOf_11 : decode cX3_lossOf 11 = .ok (.iload_n 2, 1) := by decide +kernel
theorem dX3_lossOf_12 : decode cX3_lossOf 12 = .ok (.ifCond .ge 7, 3) := by decide +kernel
theorem dX3_lossOf_15 : decode cX3_lossOf 15 = .ok (.iconst 0, 1) := by decide +kernel
theorem dX3_lossOf_16 : decode cX3_lossOf 16 = .ok (.goto 8, 3) := by decide +kernel
theorem dX3_lossOf_19 : decode cX3_lossOf 19 = .ok (.aload_n 0, 1) := by decide +kernel
theorem dX3_lossOf_20 : decode cX3_lossOf 20 = .ok (.iload_n 2, 1) := by decide +kernel
theorem dX3_lossOf_21 : decode cX3_lossOf 21 = .ok (.invokevirtual 114, 3) := by decide +kernel
theorem dX3_lossOf_24 : decode cX3_lossOf 24 = .ok (.iadd, 1) := by decide +kernel
theorem dX3_lossOf_25 : decode cX3_lossOf 25 = .ok (.istore_n 3, 1) := by decide +kernel
theorem dX3_lossOf_26 : decode cX3_lossOf 26 = .ok (.aload_n 0, 1) := by decide +kernel
theorem dX3_lossOf_27 : decode cX3_lossOf 27 = .ok (.invokevirtual 165, 3) := by decide +kernel
theorem dX3_lossOf_30 : decode cX3_lossOf 30 = .ok (.iload_n 3, 1) := by decide +kernel
theorem dX3_lossOf_31 : decode cX3_lossOf 31 = .ok (.ireturn, 1) := by decide +kernel
theorem dX3_loss_0 : decode cX3_loss 0 = .ok (.aload_n 0, 1) := by decide +kernel
theorem dX3_loss_1 : decode cX3_loss 1 = .ok (.iload_n 1, 1) := by decide +kernel
theorem dX3_loss_2 : decode cX3_loss 2 = .ok (.invokevirtual 90, 3) := by decide +kernel
theorem dX3_loss_5 : decode cX3_loss 5 = .ok (.ifCond .eq 21, 3) := by decide +kernel
theorem dX3_loss_8 : decode cX3_loss 8 = .ok (.iload_n 2, 1) := by decide +kernel
theorem dX3_loss_9 : decode cX3_loss 9 = .ok (.iconst (-1), 1) := by decide +kernel
theorem dX3_loss_10 : decode cX3_loss 10 = .ok (.if_icmp .eq 11, 3) := by decide +kernel
theorem dX3_loss_13 : decode cX3_loss 13 = .ok (.aload_n 0, 1) := by decide +kernel
theorem dX3_loss_14 : decode cX3_loss 14 = .ok (.iload_n 2, 1) := by decide +kernel
theorem dX3_loss_15 : decode cX3_loss 15 = .ok (.invokevirtual 90, 3) := by decide +kernel
theorem dX3_loss_18 : decode cX3_loss 18 = .ok (.ifCond .eq 8, 3) := by decide +kernel
theorem dX3_loss_21 : decode cX3_loss 21 = .ok (.iload_n 1, 1) := by decide +kernel
theorem dX3_loss_22 : decode cX3_loss 22 = .ok (.iload_n 2, 1) := by decide +kernel
theorem dX3_loss_23 : decode cX3_loss 23 = .ok (.if_icmp .ne 6, 3) := by decide +kernel
theorem dX3_loss_26 : decode cX3_loss 26 = .ok (.ldc 40, 2) := by decide +kernel
theorem dX3_loss_28 : decode cX3_loss 28 = .ok (.ireturn, 1) := by decide +kernel
theorem dX3_loss_29 : decode cX3_loss 29 = .ok (.aload_n 0, 1) := by decide +kernel
theorem dX3_loss_30 : decode cX3_loss 30 = .ok (.iload_n 1, 1) := by decide +kernel
theorem dX3_loss_31 : decode cX3_loss 31 = .ok (.invokevirtual 52, 3) := by decide +kernel
theorem dX3_loss_34 : decode cX3_loss 34 = .ok (.ifCond .eq 24, 3) := by decide +kernel
theorem dX3_loss_37 : decode cX3_loss 37 = .ok (.iload_n 2, 1) := by decide +kernel
theorem dX3_loss_38 : decode cX3_loss 38 = .ok (.ifCond .lt 11, 3) := by decide +kernel
theorem dX3_loss_41 : decode cX3_loss 41 = .ok (.aload_n 0, 1) := by decide +kernel
theorem dX3_loss_42 : decode cX3_loss 42 = .ok (.iload_n 2, 1) := by decide +kernel
theorem dX3_loss_43 : decode cX3_loss 43 = .ok (.invokevirtual 52, 3) := by decide +kernel
theorem dX3_loss_46 : decode cX3_loss 46 = .ok (.ifCond .eq 12, 3) := by decide +kernel
theorem dX3_loss_49 : decode cX3_loss 49 = .ok (.aload_n 0, 1) := by decide +kernel
theorem dX3_loss_50 : decode cX3_loss 50 = .ok (.iload_n 1, 1) := by decide +kernel
theorem dX3_loss_51 : decode cX3_loss 51 = .ok (.iload_n 2, 1) := by decide +kernel
theorem dX3_loss_52 : decode cX3_loss 52 = .ok (.invokevirtual 168, 3) := by decide +kernel
theorem dX3_loss_55 : decode cX3_loss 55 = .ok (.goto 5, 3) := by decide +kernel
theorem dX3_loss_58 : decode cX3_loss 58 = .ok (.ldc 96, 2) := by decide +kernel
theorem dX3_loss_60 : decode cX3_loss 60 = .ok (.ireturn, 1) := by decide +kernel
theorem dX3_safe_0 : decode cX3_safe 0 = .ok (.iconst 0, 1) := by decide +kernel
theorem dX3_safe_1 : decode cX3_safe 1 = .ok (.istore_n 1, 1) := by decide +kernel
theorem dX3_safe_2 : decode cX3_safe 2 = .ok (.iconst 0, 1) := by decide +kernel
theorem dX3_safe_3 : decode cX3_safe 3 = .ok (.istore_n 2, 1) := by decide +kernel
theorem dX3_safe_4 : decode cX3_safe 4 = .ok (.iload_n 2, 1) := by decide +kernel
theorem dX3_safe_5 : decode cX3_safe 5 = .ok (.aload_n 0, 1) := by decide +kernel
theorem dX3_safe_6 : decode cX3_safe 6 = .ok (.getfield 7, 3) := by decide +kernel
theorem dX3_safe_9 : decode cX3_safe 9 = .ok (.iconst 0, 1) := by decide +kernel
theorem dX3_safe_10 : decode cX3_safe 10 = .ok (.iaload, 1) := by decide +kernel
theorem dX3_safe_11 : decode cX3_safe 11 = .ok (.if_icmp .ge 36, 3) := by decide +kernel
theorem dX3_safe_14 : decode cX3_safe 14 = .ok (.iload_n 1, 1) := by decide +kernel
theorem dX3_safe_15 : decode cX3_safe 15 = .ok (.aload_n 0, 1) := by decide +kernel
theorem dX3_safe_16 : decode cX3_safe 16 = .ok (.iload_n 2, 1) := by decide +kernel
theorem dX3_safe_17 : decode cX3_safe 17 = .ok (.invokevirtual 52, 3) := by decide +kernel
theorem dX3_safe_20 : decode cX3_safe 20 = .ok (.ifCond .eq 18, 3) := by decide +kernel
theorem dX3_safe_23 : decode cX3_safe 23 = .ok (.aload_n 0, 1) := by decide +kernel
theorem dX3_safe_24 : decode cX3_safe 24 = .ok (.iload_n 2, 1) := by decide +kernel
theorem dX3_safe_25 : decode cX3_safe 25 = .ok (.iconst (-1), 1) := by decide +kernel
theorem dX3_safe_26 : decode cX3_safe 26 = .ok (.invokevirtual 168, 3) := by decide +kernel
theorem dX3_safe_29 : decode cX3_safe 29 = .ok (.ifCond .ne 9, 3) := by decide +kernel
theorem dX3_safe_32 : decode cX3_safe 32 = .ok (.iconst 1, 1) := by decide +kernel
theorem dX3_safe_33 : decode cX3_safe 33 = .ok (.iload_n 2, 1) := by decide +kernel
theorem dX3_safe_34 : decode cX3_safe 34 = .ok (.ishl, 1) := by decide +kernel
theorem dX3_safe_35 : decode cX3_safe 35 = .ok (.goto 4, 3) := by decide +kernel
theorem dX3_safe_38 : decode cX3_safe 38 = .ok (.iconst 0, 1) := by decide +kernel
theorem dX3_safe_39 : decode cX3_safe 39 = .ok (.ior, 1) := by decide +kernel
theorem dX3_safe_40 : decode cX3_safe 40 = .ok (.istore_n 1, 1) := by decide +kernel
theorem dX3_safe_41 : decode cX3_safe 41 = .ok (.iinc 2 1, 3) := by decide +kernel
theorem dX3_safe_44 : decode cX3_safe 44 = .ok (.goto (-40), 3) := by decide +kernel
theorem dX3_safe_47 : decode cX3_safe 47 = .ok (.iload_n 1, 1) := by decide +kernel
theorem dX3_safe_48 : decode cX3_safe 48 = .ok (.ireturn, 1) := by decide +kernel
theorem dX3_worstTwo_0 : decode cX3_worstTwo 0 = .ok (.iload_n 1, 1) := by decide +kernel
theorem dX3_worstTwo_1 : decode cX3_worstTwo 1 = .ok (.iconst 0, 1) := by decide +kernel
theorem dX3_worstTwo_2 : decode cX3_worstTwo 2 = .ok (.iconst 1, 1) := by decide +kernel
theorem dX3_worstTwo_3 : decode cX3_worstTwo 3 = .ok (.invokestatic 32, 3) := by decide +kernel
theorem dX3_worstTwo_6 : decode cX3_worstTwo 6 = .ok (.ifCond .ne 6, 3) := by decide +kernel
theorem dX3_worstTwo_9 : decode cX3_worstTwo 9 = .ok (.ldc 40, 2) := by decide +kernel
theorem dX3_worstTwo_11 : decode cX3_worstTwo 11 = .ok (.ireturn, 1) := by decide +kernel
theorem dX3_worstTwo_12 : decode cX3_worstTwo 12 = .ok (.ldc 123, 2) := by decide +kernel
theorem dX3_worstTwo_14 : decode cX3_worstTwo 14 = .ok (.istore_n 2, 1) := by decide +kernel
theorem dX3_worstTwo_15 : decode cX3_worstTwo 15 = .ok (.iconst (-1), 1) := by decide +kernel
theorem dX3_worstTwo_16 : decode cX3_worstTwo 16 = .ok (.istore_n 3, 1) := by decide +kernel
theorem dX3_worstTwo_17 : decode cX3_worstTwo 17 = .ok (.iconst 0, 1) := by decide +kernel
theorem dX3_worstTwo_18 : decode cX3_worstTwo 18 = .ok (.istore 4, 2) := by decide +kernel
theorem dX3_worstTwo_20 : decode cX3_worstTwo 20 = .ok (.iload 4, 2) := by decide +kernel
theorem dX3_worstTwo_22 : decode cX3_worstTwo 22 = .ok (.aload_n 0, 1) := by decide +kernel
theorem dX3_worstTwo_23 : decode cX3_worstTwo 23 = .ok (.getfield 7, 3) := by decide +kernel
theorem dX3_worstTwo_26 : decode cX3_worstTwo 26 = .ok (.iconst 0, 1) := by decide +kernel
theorem dX3_worstTwo_27 : decode cX3_worstTwo 27 = .ok (.iaload, 1) := by decide +kernel
theorem dX3_worstTwo_28 : decode cX3_worstTwo 28 = .ok (.if_icmp .ge 100, 3) := by decide +kernel
theorem dX3_worstTwo_31 : decode cX3_worstTwo 31 = .ok (.iconst 0, 1) := by decide +kernel
theorem dX3_worstTwo_32 : decode cX3_worstTwo 32 = .ok (.istore 5, 2) := by decide +kernel
theorem dX3_worstTwo_34 : decode cX3_worstTwo 34 = .ok (.iload 5, 2) := by decide +kernel
theorem dX3_worstTwo_36 : decode cX3_worstTwo 36 = .ok (.aload_n 0, 1) := by decide +kernel
theorem dX3_worstTwo_37 : decode cX3_worstTwo 37 = .ok (.getfield 7, 3) := by decide +kernel
theorem dX3_worstTwo_40 : decode cX3_worstTwo 40 = .ok (.iconst 0, 1) := by decide +kernel
theorem dX3_worstTwo_41 : decode cX3_worstTwo 41 = .ok (.iaload, 1) := by decide +kernel
theorem dX3_worstTwo_42 : decode cX3_worstTwo 42 = .ok (.if_icmp .ge 80, 3) := by decide +kernel
theorem dX3_worstTwo_45 : decode cX3_worstTwo 45 = .ok (.iload 4, 2) := by decide +kernel
theorem dX3_worstTwo_47 : decode cX3_worstTwo 47 = .ok (.iload 5, 2) := by decide +kernel
theorem dX3_worstTwo_49 : decode cX3_worstTwo 49 = .ok (.if_icmp .eq 32, 3) := by decide +kernel
theorem dX3_worstTwo_52 : decode cX3_worstTwo 52 = .ok (.aload_n 0, 1) := by decide +kernel
theorem dX3_worstTwo_53 : decode cX3_worstTwo 53 = .ok (.iload 4, 2) := by decide +kernel
theorem dX3_worstTwo_55 : decode cX3_worstTwo 55 = .ok (.invokevirtual 52, 3) := by decide +kernel
theorem dX3_worstTwo_58 : decode cX3_worstTwo 58 = .ok (.ifCond .eq 23, 3) := by decide +kernel
theorem dX3_worstTwo_61 : decode cX3_worstTwo 61 = .ok (.aload_n 0, 1) := by decide +kernel
theorem dX3_worstTwo_62 : decode cX3_worstTwo 62 = .ok (.iload 5, 2) := by decide +kernel
theorem dX3_worstTwo_64 : decode cX3_worstTwo 64 = .ok (.invokevirtual 52, 3) := by decide +kernel
theorem dX3_worstTwo_67 : decode cX3_worstTwo 67 = .ok (.ifCond .eq 14, 3) := by decide +kernel
theorem dX3_worstTwo_70 : decode cX3_worstTwo 70 = .ok (.aload_n 0, 1) := by decide +kernel
theorem dX3_worstTwo_71 : decode cX3_worstTwo 71 = .ok (.iload 4, 2) := by decide +kernel
theorem dX3_worstTwo_73 : decode cX3_worstTwo 73 = .ok (.iload 5, 2) := by decide +kernel
theorem dX3_worstTwo_75 : decode cX3_worstTwo 75 = .ok (.invokevirtual 168, 3) := by decide +kernel
theorem dX3_worstTwo_78 : decode cX3_worstTwo 78 = .ok (.goto 4, 3) := by decide +kernel
theorem dX3_worstTwo_81 : decode cX3_worstTwo 81 = .ok (.iconst (-1), 1) := by decide +kernel
theorem dX3_worstTwo_82 : decode cX3_worstTwo 82 = .ok (.istore 6, 2) := by decide +kernel
theorem dX3_worstTwo_84 : decode cX3_worstTwo 84 = .ok (.iload 6, 2) := by decide +kernel
theorem dX3_worstTwo_86 : decode cX3_worstTwo 86 = .ok (.iload_n 3, 1) := by decide +kernel
theorem dX3_worstTwo_87 : decode cX3_worstTwo 87 = .ok (.if_icmp .le 14, 3) := by decide +kernel
theorem dX3_worstTwo_90 : decode cX3_worstTwo 90 = .ok (.bipush 10, 2) := by decide +kernel
theorem dX3_worstTwo_92 : decode cX3_worstTwo 92 = .ok (.iload 4, 2) := by decide +kernel
theorem dX3_worstTwo_94 : decode cX3_worstTwo 94 = .ok (.imul, 1) := by decide +kernel
theorem dX3_worstTwo_95 : decode cX3_worstTwo 95 = .ok (.iload 5, 2) := by decide +kernel
theorem dX3_worstTwo_97 : decode cX3_worstTwo 97 = .ok (.iadd, 1) := by decide +kernel
theorem dX3_worstTwo_98 : decode cX3_worstTwo 98 = .ok (.goto 4, 3) := by decide +kernel
theorem dX3_worstTwo_101 : decode cX3_worstTwo 101 = .ok (.iload_n 2, 1) := by decide +kernel
theorem dX3_worstTwo_102 : decode cX3_worstTwo 102 = .ok (.istore_n 2, 1) := by decide +kernel
theorem dX3_worstTwo_103 : decode cX3_worstTwo 103 = .ok (.iload 6, 2) := by decide +kernel
theorem dX3_worstTwo_105 : decode cX3_worstTwo 105 = .ok (.iload_n 3, 1) := by decide +kernel
theorem dX3_worstTwo_106 : decode cX3_worstTwo 106 = .ok (.if_icmp .le 8, 3) := by decide +kernel
theorem dX3_worstTwo_109 : decode cX3_worstTwo 109 = .ok (.iload 6, 2) := by decide +kernel
theorem dX3_worstTwo_111 : decode cX3_worstTwo 111 = .ok (.goto 4, 3) := by decide +kernel
theorem dX3_worstTwo_114 : decode cX3_worstTwo 114 = .ok (.iload_n 3, 1) := by decide +kernel
theorem dX3_worstTwo_115 : decode cX3_worstTwo 115 = .ok (.istore_n 3, 1) := by decide +kernel
theorem dX3_worstTwo_116 : decode cX3_worstTwo 116 = .ok (.iinc 5 1, 3) := by decide +kernel
theorem dX3_worstTwo_119 : decode cX3_worstTwo 119 = .ok (.goto (-85), 3) := by decide +kernel
theorem dX3_worstTwo_122 : decode cX3_worstTwo 122 = .ok (.iinc 4 1, 3) := by decide +kernel
theorem dX3_worstTwo_125 : decode cX3_worstTwo 125 = .ok (.goto (-105), 3) := by decide +kernel
theorem dX3_worstTwo_128 : decode cX3_worstTwo 128 = .ok (.iload_n 1, 1) := by decide +kernel
theorem dX3_worstTwo_129 : decode cX3_worstTwo 129 = .ok (.ifCond .eq 7, 3) := by decide +kernel
theorem dX3_worstTwo_132 : decode cX3_worstTwo 132 = .ok (.iload_n 3, 1) := by decide +kernel
theorem dX3_worstTwo_133 : decode cX3_worstTwo 133 = .ok (.ifCond .ge 7, 3) := by decide +kernel
theorem dX3_worstTwo_136 : decode cX3_worstTwo 136 = .ok (.iload_n 2, 1) := by decide +kernel
theorem dX3_worstTwo_137 : decode cX3_worstTwo 137 = .ok (.goto 4, 3) := by decide +kernel
theorem dX3_worstTwo_140 : decode cX3_worstTwo 140 = .ok (.iload_n 3, 1) := by decide +kernel
theorem dX3_worstTwo_141 : decode cX3_worstTwo 141 = .ok (.ireturn, 1) := by decide +kernel
theorem dX3_calm_0 : decode cX3_calm 0 = .ok (.aload_n 0, 1) := by decide +kernel
theorem dX3_calm_1 : decode cX3_calm 1 = .ok (.invokevirtual 162, 3) := by decide +kernel
theorem dX3_calm_4 : decode cX3_calm 4 = .ok (.iconst 0, 1) := by decide +kernel
theorem dX3_calm_5 : decode cX3_calm 5 = .ok (.istore_n 1, 1) := by decide +kernel
theorem dX3_calm_6 : decode cX3_calm 6 = .ok (.iconst 1, 1) := by decide +kernel
theorem dX3_calm_7 : decode cX3_calm 7 = .ok (.istore_n 2, 1) := by decide +kernel
theorem dX3_calm_8 : decode cX3_calm 8 = .ok (.iload_n 2, 1) := by decide +kernel
theorem dX3_calm_9 : decode cX3_calm 9 = .ok (.ifCond .eq 32, 3) := by decide +kernel
theorem dX3_calm_12 : decode cX3_calm 12 = .ok (.aload_n 0, 1) := by decide +kernel
theorem dX3_calm_13 : decode cX3_calm 13 = .ok (.iconst (-1), 1) := by decide +kernel
theorem dX3_calm_14 : decode cX3_calm 14 = .ok (.iconst 1, 1) := by decide +kernel
theorem dX3_calm_15 : decode cX3_calm 15 = .ok (.iconst 0, 1) := by decide +kernel
theorem dX3_calm_16 : decode cX3_calm 16 = .ok (.invokevirtual 145, 3) := by decide +kernel
theorem dX3_calm_19 : decode cX3_calm 19 = .ok (.ifCond .le 22, 3) := by decide +kernel
theorem dX3_calm_22 : decode cX3_calm 22 = .ok (.aload_n 0, 1) := by decide +kernel
theorem dX3_calm_23 : decode cX3_calm 23 = .ok (.invokevirtual 156, 3) := by decide +kernel
theorem dX3_calm_26 : decode cX3_calm 26 = .ok (.ifCond .le 7, 3) := by decide +kernel
theorem dX3_calm_29 : decode cX3_calm 29 = .ok (.iconst 1, 1) := by decide +kernel
theorem dX3_calm_30 : decode cX3_calm 30 = .ok (.goto 4, 3) := by decide +kernel
theorem dX3_calm_33 : decode cX3_calm 33 = .ok (.iconst 0, 1) := by decide +kernel
theorem dX3_calm_34 : decode cX3_calm 34 = .ok (.istore_n 2, 1) := by decide +kernel
theorem dX3_calm_35 : decode cX3_calm 35 = .ok (.iinc 1 1, 3) := by decide +kernel
theorem dX3_calm_38 : decode cX3_calm 38 = .ok (.goto (-30), 3) := by decide +kernel
theorem dX3_calm_41 : decode cX3_calm 41 = .ok (.aload_n 0, 1) := by decide +kernel
theorem dX3_calm_42 : decode cX3_calm 42 = .ok (.invokevirtual 165, 3) := by decide +kernel
theorem dX3_calm_45 : decode cX3_calm 45 = .ok (.iload_n 2, 1) := by decide +kernel
theorem dX3_calm_46 : decode cX3_calm 46 = .ok (.ifCond .eq 7, 3) := by decide +kernel
theorem dX3_calm_49 : decode cX3_calm 49 = .ok (.iload_n 1, 1) := by decide +kernel
theorem dX3_calm_50 : decode cX3_calm 50 = .ok (.goto 5, 3) := by decide +kernel
theorem dX3_calm_53 : decode cX3_calm 53 = .ok (.ldc 123, 2) := by decide +kernel
theorem dX3_calm_55 : decode cX3_calm 55 = .ok (.ireturn, 1) := by decide +kernel
theorem dX3_heir_0 : decode cX3_heir 0 = .ok (.iload_n 1, 1) := by decide +kernel
theorem dX3_heir_1 : decode cX3_heir 1 = .ok (.iconst 0, 1) := by decide +kernel
theorem dX3_heir_2 : decode cX3_heir 2 = .ok (.iconst 2, 1) := by decide +kernel
theorem dX3_heir_3 : decode cX3_heir 3 = .ok (.invokestatic 32, 3) := by decide +kernel
theorem dX3_heir_6 : decode cX3_heir 6 = .ok (.ifCond .ne 6, 3) := by decide +kernel
theorem dX3_heir_9 : decode cX3_heir 9 = .ok (.ldc 40, 2) := by decide +kernel
theorem dX3_heir_11 : decode cX3_heir 11 = .ok (.ireturn, 1) := by decide +kernel
theorem dX3_heir_12 : decode cX3_heir 12 = .ok (.aload_n 0, 1) := by decide +kernel
theorem dX3_heir_13 : decode cX3_heir 13 = .ok (.getfield 7, 3) := by decide +kernel
theorem dX3_heir_16 : decode cX3_heir 16 = .ok (.iconst 5, 1) := by decide +kernel
theorem dX3_heir_17 : decode cX3_heir 17 = .ok (.iload_n 1, 1) := by decide +kernel
theorem dX3_heir_18 : decode cX3_heir 18 = .ok (.iadd, 1) := by decide +kernel
theorem dX3_heir_19 : decode cX3_heir 19 = .ok (.iaload, 1) := by decide +kernel
theorem dX3_heir_20 : decode cX3_heir 20 = .ok (.ifCond .lt 6, 3) := by decide +kernel
theorem dX3_heir_23 : decode cX3_heir 23 = .ok (.ldc 96, 2) := by decide +kernel
theorem dX3_heir_25 : decode cX3_heir 25 = .ok (.ireturn, 1) := by decide +kernel
theorem dX3_heir_26 : decode cX3_heir 26 = .ok (.ldc 123, 2) := by decide +kernel
theorem dX3_heir_28 : decode cX3_heir 28 = .ok (.istore_n 2, 1) := by decide +kernel
theorem dX3_heir_29 : decode cX3_heir 29 = .ok (.iconst 0, 1) := by decide +kernel
theorem dX3_heir_30 : decode cX3_heir 30 = .ok (.istore_n 3, 1) := by decide +kernel
theorem dX3_heir_31 : decode cX3_heir 31 = .ok (.iload_n 3, 1) := by decide +kernel
theorem dX3_heir_32 : decode cX3_heir 32 = .ok (.aload_n 0, 1) := by decide +kernel
theorem dX3_heir_33 : decode cX3_heir 33 = .ok (.getfield 7, 3) := by decide +kernel
theorem dX3_heir_36 : decode cX3_heir 36 = .ok (.iconst 0, 1) := by decide +kernel
theorem dX3_heir_37 : decode cX3_heir 37 = .ok (.iaload, 1) := by decide +kernel
theorem dX3_heir_38 : decode cX3_heir 38 = .ok (.if_icmp .ge 78, 3) := by decide +kernel
theorem dX3_heir_41 : decode cX3_heir 41 = .ok (.aload_n 0, 1) := by decide +kernel
theorem dX3_heir_42 : decode cX3_heir 42 = .ok (.iload_n 3, 1) := by decide +kernel
theorem dX3_heir_43 : decode cX3_heir 43 = .ok (.invokevirtual 52, 3) := by decide +kernel
theorem dX3_heir_46 : decode cX3_heir 46 = .ok (.ifCond .eq 64, 3) := by decide +kernel
theorem dX3_heir_49 : decode cX3_heir 49 = .ok (.aload_n 0, 1) := by decide +kernel
theorem dX3_heir_50 : decode cX3_heir 50 = .ok (.iload_n 3, 1) := by decide +kernel
theorem dX3_heir_51 : decode cX3_heir 51 = .ok (.iconst 0, 1) := by decide +kernel
theorem dX3_heir_52 : decode cX3_heir 52 = .ok (.invokevirtual 36, 3) := by decide +kernel
theorem dX3_heir_55 : decode cX3_heir 55 = .ok (.iload_n 1, 1) := by decide +kernel
theorem dX3_heir_56 : decode cX3_heir 56 = .ok (.if_icmp .ne 54, 3) := by decide +kernel
theorem dX3_heir_59 : decode cX3_heir 59 = .ok (.iload_n 2, 1) := by decide +kernel
theorem dX3_heir_60 : decode cX3_heir 60 = .ok (.ifCond .lt 16, 3) := by decide +kernel
theorem dX3_heir_63 : decode cX3_heir 63 = .ok (.aload_n 0, 1) := by decide +kernel
theorem dX3_heir_64 : decode cX3_heir 64 = .ok (.iload_n 3, 1) := by decide +kernel
theorem dX3_heir_65 : decode cX3_heir 65 = .ok (.invokevirtual 93, 3) := by decide +kernel
theorem dX3_heir_68 : decode cX3_heir 68 = .ok (.aload_n 0, 1) := by decide +kernel
theorem dX3_heir_69 : decode cX3_heir 69 = .ok (.iload_n 2, 1) := by decide +kernel
theorem dX3_heir_70 : decode cX3_heir 70 = .ok (.invokevirtual 93, 3) := by decide +kernel
theorem dX3_heir_73 : decode cX3_heir 73 = .ok (.if_icmp .ge 37, 3) := by decide +kernel
theorem dX3_heir_76 : decode cX3_heir 76 = .ok (.aload_n 0, 1) := by decide +kernel
theorem dX3_heir_77 : decode cX3_heir 77 = .ok (.invokevirtual 162, 3) := by decide +kernel
theorem dX3_heir_80 : decode cX3_heir 80 = .ok (.aload_n 0, 1) := by decide +kernel
theorem dX3_heir_81 : decode cX3_heir 81 = .ok (.iload_n 3, 1) := by decide +kernel
theorem dX3_heir_82 : decode cX3_heir 82 = .ok (.invokevirtual 139, 3) := by decide +kernel
theorem dX3_heir_85 : decode cX3_heir 85 = .ok (.ifCond .lt 7, 3) := by decide +kernel
theorem dX3_heir_88 : decode cX3_heir 88 = .ok (.iconst 1, 1) := by decide +kernel
theorem dX3_heir_89 : decode cX3_heir 89 = .ok (.goto 4, 3) := by decide +kernel
theorem dX3_heir_92 : decode cX3_heir 92 = .ok (.iconst 0, 1) := by decide +kernel
theorem dX3_heir_93 : decode cX3_heir 93 = .ok (.istore 4, 2) := by decide +kernel
theorem dX3_heir_95 : decode cX3_heir 95 = .ok (.aload_n 0, 1) := by decide +kernel
theorem dX3_heir_96 : decode cX3_heir 96 = .ok (.invokevirtual 165, 3) := by decide +kernel
theorem dX3_heir_99 : decode cX3_heir 99 = .ok (.iload 4, 2) := by decide +kernel
theorem dX3_heir_101 : decode cX3_heir 101 = .ok (.ifCond .eq 7, 3) := by decide +kernel
theorem dX3_heir_104 : decode cX3_heir 104 = .ok (.iload_n 3, 1) := by decide +kernel
theorem dX3_heir_105 : decode cX3_heir 105 = .ok (.goto 4, 3) := by decide +kernel
theorem dX3_heir_108 : decode cX3_heir 108 = .ok (.iload_n 2, 1) := by decide +kernel
theorem dX3_heir_109 : decode cX3_heir 109 = .ok (.istore_n 2, 1) := by decide +kernel
theorem dX3_heir_110 : decode cX3_heir 110 = .ok (.iinc 3 1, 3) := by decide +kernel
theorem dX3_heir_113 : decode cX3_heir 113 = .ok (.goto (-82), 3) := by decide +kernel
theorem dX3_heir_116 : decode cX3_heir 116 = .ok (.iload_n 2, 1) := by decide +kernel
theorem dX3_heir_117 : decode cX3_heir 117 = .ok (.ireturn, 1) := by decide +kernel
theorem dX3_count_0 : decode cX3_count 0 = .ok (.iconst 0, 1) := by decide +kernel
theorem dX3_count_1 : decode cX3_count 1 = .ok (.istore_n 2, 1) := by decide +kernel
theorem dX3_count_2 : decode cX3_count 2 = .ok (.iconst 0, 1) := by decide +kernel
theorem dX3_count_3 : decode cX3_count 3 = .ok (.istore_n 3, 1) := by decide +kernel
theorem dX3_count_4 : decode cX3_count 4 = .ok (.iconst 0, 1) := by decide +kernel
theorem dX3_count_5 : decode cX3_count 5 = .ok (.istore 4, 2) := by decide +kernel
theorem dX3_count_7 : decode cX3_count 7 = .ok (.iload 4, 2) := by decide +kernel
theorem dX3_count_9 : decode cX3_count 9 = .ok (.aload_n 0, 1) := by decide +kernel
theorem dX3_count_10 : decode cX3_count 10 = .ok (.getfield 7, 3) := by decide +kernel
theorem dX3_count_13 : decode cX3_count 13 = .ok (.iconst 0, 1) := by decide +kernel
theorem dX3_count_14 : decode cX3_count 14 = .ok (.iaload, 1) := by decide +kernel
theorem dX3_count_15 : decode cX3_count 15 = .ok (.if_icmp .ge 28, 3) := by decide +kernel
theorem dX3_count_18 : decode cX3_count 18 = .ok (.iload_n 2, 1) := by decide +kernel
theorem dX3_count_19 : decode cX3_count 19 = .ok (.aload_n 0, 1) := by decide +kernel
theorem dX3_count_20 : decode cX3_count 20 = .ok (.iload 4, 2) := by decide +kernel
theorem dX3_count_22 : decode cX3_count 22 = .ok (.iconst 2, 1) := by decide +kernel
theorem dX3_count_23 : decode cX3_count 23 = .ok (.invokevirtual 36, 3) := by decide +kernel
theorem dX3_count_26 : decode cX3_count 26 = .ok (.iadd, 1) := by decide +kernel
theorem dX3_count_27 : decode cX3_count 27 = .ok (.istore_n 2, 1) := by decide +kernel
theorem dX3_count_28 : decode cX3_count 28 = .ok (.iload_n 3, 1) := by decide +kernel
theorem dX3_count_29 : decode cX3_count 29 = .ok (.aload_n 0, 1) := by decide +kernel
theorem dX3_count_30 : decode cX3_count 30 = .ok (.iload 4, 2) := by decide +kernel
theorem dX3_count_32 : decode cX3_count 32 = .ok (.invokevirtual 68, 3) := by decide +kernel
theorem dX3_count_35 : decode cX3_count 35 = .ok (.iadd, 1) := by decide +kernel
theorem dX3_count_36 : decode cX3_count 36 = .ok (.istore_n 3, 1) := by decide +kernel
theorem dX3_count_37 : decode cX3_count 37 = .ok (.iinc 4 1, 3) := by decide +kernel
theorem dX3_count_40 : decode cX3_count 40 = .ok (.goto (-33), 3) := by decide +kernel
theorem dX3_count_43 : decode cX3_count 43 = .ok (.iconst 0, 1) := by decide +kernel
theorem dX3_count_44 : decode cX3_count 44 = .ok (.istore 4, 2) := by decide +kernel
theorem dX3_count_46 : decode cX3_count 46 = .ok (.iconst 0, 1) := by decide +kernel
theorem dX3_count_47 : decode cX3_count 47 = .ok (.istore 5, 2) := by decide +kernel
theorem dX3_count_49 : decode cX3_count 49 = .ok (.iload 5, 2) := by decide +kernel
theorem dX3_count_51 : decode cX3_count 51 = .ok (.iconst 3, 1) := by decide +kernel
theorem dX3_count_52 : decode cX3_count 52 = .ok (.if_icmp .ge 31, 3) := by decide +kernel
theorem dX3_count_55 : decode cX3_count 55 = .ok (.iload 4, 2) := by decide +kernel
theorem dX3_count_57 : decode cX3_count 57 = .ok (.aload_n 0, 1) := by decide +kernel
theorem dX3_count_58 : decode cX3_count 58 = .ok (.getfield 7, 3) := by decide +kernel
theorem dX3_count_61 : decode cX3_count 61 = .ok (.iconst 5, 1) := by decide +kernel
theorem dX3_count_62 : decode cX3_count 62 = .ok (.iload 5, 2) := by decide +kernel
theorem dX3_count_64 : decode cX3_count 64 = .ok (.iadd, 1) := by decide +kernel
theorem dX3_count_65 : decode cX3_count 65 = .ok (.iaload, 1) := by decide +kernel
theorem dX3_count_66 : decode cX3_count 66 = .ok (.ifCond .ge 7, 3) := by decide +kernel
theorem dX3_count_69 : decode cX3_count 69 = .ok (.iconst 0, 1) := by decide +kernel
theorem dX3_count_70 : decode cX3_count 70 = .ok (.goto 4, 3) := by decide +kernel
theorem dX3_count_73 : decode cX3_count 73 = .ok (.iconst 1, 1) := by decide +kernel
theorem dX3_count_74 : decode cX3_count 74 = .ok (.iadd, 1) := by decide +kernel
theorem dX3_count_75 : decode cX3_count 75 = .ok (.istore 4, 2) := by decide +kernel
theorem dX3_count_77 : decode cX3_count 77 = .ok (.iinc 5 1, 3) := by decide +kernel
theorem dX3_count_80 : decode cX3_count 80 = .ok (.goto (-31), 3) := by decide +kernel
theorem dX3_count_83 : decode cX3_count 83 = .ok (.iload_n 1, 1) := by decide +kernel
theorem dX3_count_84 : decode cX3_count 84 = .ok (.tableswitch 119 0 11 #[64, 71, 73, 80, 80, 80, 90, 97, 104, 107, 109, 114], 64) := by decide +kernel
theorem dX3_count_148 : decode cX3_count 148 = .ok (.aload_n 0, 1) := by decide +kernel
theorem dX3_count_149 : decode cX3_count 149 = .ok (.getfield 7, 3) := by decide +kernel
theorem dX3_count_152 : decode cX3_count 152 = .ok (.iconst 0, 1) := by decide +kernel
theorem dX3_count_153 : decode cX3_count 153 = .ok (.iaload, 1) := by decide +kernel
theorem dX3_count_154 : decode cX3_count 154 = .ok (.ireturn, 1) := by decide +kernel
theorem dX3_count_155 : decode cX3_count 155 = .ok (.iload_n 2, 1) := by decide +kernel
theorem dX3_count_156 : decode cX3_count 156 = .ok (.ireturn, 1) := by decide +kernel
theorem dX3_count_157 : decode cX3_count 157 = .ok (.aload_n 0, 1) := by decide +kernel
theorem dX3_count_158 : decode cX3_count 158 = .ok (.getfield 7, 3) := by decide +kernel
theorem dX3_count_161 : decode cX3_count 161 = .ok (.iconst 1, 1) := by decide +kernel
theorem dX3_count_162 : decode cX3_count 162 = .ok (.iaload, 1) := by decide +kernel
theorem dX3_count_163 : decode cX3_count 163 = .ok (.ireturn, 1) := by decide +kernel
theorem dX3_count_164 : decode cX3_count 164 = .ok (.aload_n 0, 1) := by decide +kernel
theorem dX3_count_165 : decode cX3_count 165 = .ok (.iconst (-1), 1) := by decide +kernel
theorem dX3_count_166 : decode cX3_count 166 = .ok (.iload_n 1, 1) := by decide +kernel
theorem dX3_count_167 : decode cX3_count 167 = .ok (.iconst 3, 1) := by decide +kernel
theorem dX3_count_168 : decode cX3_count 168 = .ok (.isub, 1) := by decide +kernel
theorem dX3_count_169 : decode cX3_count 169 = .ok (.iconst 0, 1) := by decide +kernel
theorem dX3_count_170 : decode cX3_count 170 = .ok (.invokevirtual 145, 3) := by decide +kernel
theorem dX3_count_173 : decode cX3_count 173 = .ok (.ireturn, 1) := by decide +kernel
theorem dX3_count_174 : decode cX3_count 174 = .ok (.aload_n 0, 1) := by decide +kernel
theorem dX3_count_175 : decode cX3_count 175 = .ok (.getfield 7, 3) := by decide +kernel
theorem dX3_count_178 : decode cX3_count 178 = .ok (.iconst 2, 1) := by decide +kernel
theorem dX3_count_179 : decode cX3_count 179 = .ok (.iaload, 1) := by decide +kernel
theorem dX3_count_180 : decode cX3_count 180 = .ok (.ireturn, 1) := by decide +kernel
theorem dX3_count_181 : decode cX3_count 181 = .ok (.aload_n 0, 1) := by decide +kernel
theorem dX3_count_182 : decode cX3_count 182 = .ok (.getfield 7, 3) := by decide +kernel
theorem dX3_count_185 : decode cX3_count 185 = .ok (.iconst 3, 1) := by decide +kernel
theorem dX3_count_186 : decode cX3_count 186 = .ok (.iaload, 1) := by decide +kernel
theorem dX3_count_187 : decode cX3_count 187 = .ok (.ireturn, 1) := by decide +kernel
theorem dX3_count_188 : decode cX3_count 188 = .ok (.iload 4, 2) := by decide +kernel
theorem dX3_count_190 : decode cX3_count 190 = .ok (.ireturn, 1) := by decide +kernel
theorem dX3_count_191 : decode cX3_count 191 = .ok (.iload_n 3, 1) := by decide +kernel
theorem dX3_count_192 : decode cX3_count 192 = .ok (.ireturn, 1) := by decide +kernel
theorem dX3_count_193 : decode cX3_count 193 = .ok (.aload_n 0, 1) := by decide +kernel
theorem dX3_count_194 : decode cX3_count 194 = .ok (.getfield 41, 3) := by decide +kernel
theorem dX3_count_197 : decode cX3_count 197 = .ok (.ireturn, 1) := by decide +kernel
theorem dX3_count_198 : decode cX3_count 198 = .ok (.aload_n 0, 1) := by decide +kernel
theorem dX3_count_199 : decode cX3_count 199 = .ok (.getfield 171, 3) := by decide +kernel
theorem dX3_count_202 : decode cX3_count 202 = .ok (.ireturn, 1) := by decide +kernel
theorem dX3_count_203 : decode cX3_count 203 = .ok (.ldc 40, 2) := by decide +kernel
theorem dX3_count_205 : decode cX3_count 205 = .ok (.ireturn, 1) := by decide +kernel
theorem dX3_undo_0 : decode cX3_undo 0 = .ok (.aload_n 0, 1) := by decide +kernel
theorem dX3_undo_1 : decode cX3_undo 1 = .ok (.getfield 41, 3) := by decide +kernel
theorem dX3_undo_4 : decode cX3_undo 4 = .ok (.ifCond .ne 6, 3) := by decide +kernel
theorem dX3_undo_7 : decode cX3_undo 7 = .ok (.ldc 96, 2) := by decide +kernel
theorem dX3_undo_9 : decode cX3_undo 9 = .ok (.ireturn, 1) := by decide +kernel
theorem dX3_undo_10 : decode cX3_undo 10 = .ok (.aload_n 0, 1) := by decide +kernel
theorem dX3_undo_11 : decode cX3_undo 11 = .ok (.dup, 1) := by decide +kernel
theorem dX3_undo_12 : decode cX3_undo 12 = .ok (.getfield 41, 3) := by decide +kernel
theorem dX3_undo_15 : decode cX3_undo 15 = .ok (.iconst 1, 1) := by decide +kernel
theorem dX3_undo_16 : decode cX3_undo 16 = .ok (.isub, 1) := by decide +kernel
theorem dX3_undo_17 : decode cX3_undo 17 = .ok (.putfield 41, 3) := by decide +kernel
theorem dX3_undo_20 : decode cX3_undo 20 = .ok (.iconst 0, 1) := by decide +kernel
theorem dX3_undo_21 : decode cX3_undo 21 = .ok (.istore_n 1, 1) := by decide +kernel
theorem dX3_undo_22 : decode cX3_undo 22 = .ok (.iload_n 1, 1) := by decide +kernel
theorem dX3_undo_23 : decode cX3_undo 23 = .ok (.sipush 208, 3) := by decide +kernel
theorem dX3_undo_26 : decode cX3_undo 26 = .ok (.if_icmp .ge 30, 3) := by decide +kernel
theorem dX3_undo_29 : decode cX3_undo 29 = .ok (.aload_n 0, 1) := by decide +kernel
theorem dX3_undo_30 : decode cX3_undo 30 = .ok (.getfield 7, 3) := by decide +kernel
theorem dX3_undo_33 : decode cX3_undo 33 = .ok (.iload_n 1, 1) := by decide +kernel
theorem dX3_undo_34 : decode cX3_undo 34 = .ok (.aload_n 0, 1) := by decide +kernel
theorem dX3_undo_35 : decode cX3_undo 35 = .ok (.getfield 13, 3) := by decide +kernel
theorem dX3_undo_38 : decode cX3_undo 38 = .ok (.sipush 208, 3) := by decide +kernel
theorem dX3_undo_41 : decode cX3_undo 41 = .ok (.aload_n 0, 1) := by decide +kernel
theorem dX3_undo_42 : decode cX3_undo 42 = .ok (.getfield 41, 3) := by decide +kernel
theorem dX3_undo_45 : decode cX3_undo 45 = .ok (.imul, 1) := by decide +kernel
theorem dX3_undo_46 : decode cX3_undo 46 = .ok (.iload_n 1, 1) := by decide +kernel
theorem dX3_undo_47 : decode cX3_undo 47 = .ok (.iadd, 1) := by decide +kernel
theorem dX3_undo_48 : decode cX3_undo 48 = .ok (.iaload, 1) := by decide +kernel
theorem dX3_undo_49 : decode cX3_undo 49 = .ok (.iastore, 1) := by decide +kernel
theorem dX3_undo_50 : decode cX3_undo 50 = .ok (.iinc 1 1, 3) := by decide +kernel
theorem dX3_undo_53 : decode cX3_undo 53 = .ok (.goto (-31), 3) := by decide +kernel
theorem dX3_undo_56 : decode cX3_undo 56 = .ok (.aload_n 0, 1) := by decide +kernel
theorem dX3_undo_57 : decode cX3_undo 57 = .ok (.getfield 41, 3) := by decide +kernel
theorem dX3_undo_60 : decode cX3_undo 60 = .ok (.ireturn, 1) := by decide +kernel
theorem dX3_type_0 : decode cX3_type 0 = .ok (.iload_n 1, 1) := by decide +kernel
theorem dX3_type_1 : decode cX3_type 1 = .ok (.bipush 32, 2) := by decide +kernel
theorem dX3_type_3 : decode cX3_type 3 = .ok (.bipush 126, 2) := by decide +kernel
theorem dX3_type_5 : decode cX3_type 5 = .ok (.invokestatic 32, 3) := by decide +kernel
theorem dX3_type_8 : decode cX3_type 8 = .ok (.ifCond .ne 6, 3) := by decide +kernel
theorem dX3_type_11 : decode cX3_type 11 = .ok (.ldc 40, 2) := by decide +kernel
theorem dX3_type_13 : decode cX3_type 13 = .ok (.ireturn, 1) := by decide +kernel
theorem dX3_type_14 : decode cX3_type 14 = .ok (.aload_n 0, 1) := by decide +kernel
theorem dX3_type_15 : decode cX3_type 15 = .ok (.getfield 171, 3) := by decide +kernel
theorem dX3_type_18 : decode cX3_type 18 = .ok (.bipush 60, 2) := by decide +kernel
theorem dX3_type_20 : decode cX3_type 20 = .ok (.if_icmp .ne 6, 3) := by decide +kernel
theorem dX3_type_23 : decode cX3_type 23 = .ok (.ldc 83, 2) := by decide +kernel
theorem dX3_type_25 : decode cX3_type 25 = .ok (.ireturn, 1) := by decide +kernel
theorem dX3_type_26 : decode cX3_type 26 = .ok (.aload_n 0, 1) := by decide +kernel
theorem dX3_type_27 : decode cX3_type 27 = .ok (.getfield 25, 3) := by decide +kernel
theorem dX3_type_30 : decode cX3_type 30 = .ok (.aload_n 0, 1) := by decide +kernel
theorem dX3_type_31 : decode cX3_type 31 = .ok (.getfield 171, 3) := by decide +kernel
theorem dX3_type_34 : decode cX3_type 34 = .ok (.iload_n 1, 1) := by decide +kernel
theorem dX3_type_35 : decode cX3_type 35 = .ok (.i2c, 1) := by decide +kernel
theorem dX3_type_36 : decode cX3_type 36 = .ok (.castore, 1) := by decide +kernel
theorem dX3_type_37 : decode cX3_type 37 = .ok (.aload_n 0, 1) := by decide +kernel
theorem dX3_type_38 : decode cX3_type 38 = .ok (.dup, 1) := by decide +kernel
theorem dX3_type_39 : decode cX3_type 39 = .ok (.getfield 171, 3) := by decide +kernel
theorem dX3_type_42 : decode cX3_type 42 = .ok (.iconst 1, 1) := by decide +kernel
theorem dX3_type_43 : decode cX3_type 43 = .ok (.iadd, 1) := by decide +kernel
theorem dX3_type_44 : decode cX3_type 44 = .ok (.putfield 171, 3) := by decide +kernel
theorem dX3_type_47 : decode cX3_type 47 = .ok (.aload_n 0, 1) := by decide +kernel
theorem dX3_type_48 : decode cX3_type 48 = .ok (.getfield 171, 3) := by decide +kernel
theorem dX3_type_51 : decode cX3_type 51 = .ok (.ireturn, 1) := by decide +kernel
theorem dX3_clearText_0 : decode cX3_clearText 0 = .ok (.aload_n 0, 1) := by decide +kernel
theorem dX3_clearText_1 : decode cX3_clearText 1 = .ok (.getfield 171, 3) := by decide +kernel
theorem dX3_clearText_4 : decode cX3_clearText 4 = .ok (.istore_n 1, 1) := by decide +kernel
theorem dX3_clearText_5 : decode cX3_clearText 5 = .ok (.aload_n 0, 1) := by decide +kernel
theorem dX3_clearText_6 : decode cX3_clearText 6 = .ok (.iconst 0, 1) := by decide +kernel
theorem dX3_clearText_7 : decode cX3_clearText 7 = .ok (.putfield 171, 3) := by decide +kernel
theorem dX3_clearText_10 : decode cX3_clearText 10 = .ok (.iload_n 1, 1) := by decide +kernel
theorem dX3_clearText_11 : decode cX3_clearText 11 = .ok (.ireturn, 1) := by decide +kernel
theorem dX3_has_0 : decode cX3_has 0 = .ok (.aload_n 0, 1) := by decide +kernel
theorem dX3_has_1 : decode cX3_has 1 = .ok (.getfield 174, 3) := by decide +kernel
theorem dX3_has_4 : decode cX3_has 4 = .ok (.aload_n 0, 1) := by decide +kernel
theorem dX3_has_5 : decode cX3_has 5 = .ok (.getfield 171, 3) := by decide +kernel
theorem dX3_has_8 : decode cX3_has 8 = .ok (.if_icmp .ge 20, 3) := by decide +kernel
theorem dX3_has_11 : decode cX3_has 11 = .ok (.aload_n 0, 1) := by decide +kernel
theorem dX3_has_12 : decode cX3_has 12 = .ok (.getfield 25, 3) := by decide +kernel
theorem dX3_has_15 : decode cX3_has 15 = .ok (.aload_n 0, 1) := by decide +kernel
theorem dX3_has_16 : decode cX3_has 16 = .ok (.getfield 174, 3) := by decide +kernel
theorem dX3_has_19 : decode cX3_has 19 = .ok (.caload, 1) := by decide +kernel
theorem dX3_has_20 : decode cX3_has 20 = .ok (.iload_n 1, 1) := by decide +kernel
theorem dX3_has_21 : decode cX3_has 21 = .ok (.if_icmp .ne 7, 3) := by decide +kernel
theorem dX3_has_24 : decode cX3_has 24 = .ok (.iconst 1, 1) := by decide +kernel
theorem dX3_has_25 : decode cX3_has 25 = .ok (.goto 4, 3) := by decide +kernel
theorem dX3_has_28 : decode cX3_has 28 = .ok (.iconst 0, 1) := by decide +kernel
theorem dX3_has_29 : decode cX3_has 29 = .ok (.istore_n 2, 1) := by decide +kernel
theorem dX3_has_30 : decode cX3_has 30 = .ok (.aload_n 0, 1) := by decide +kernel
theorem dX3_has_31 : decode cX3_has 31 = .ok (.dup, 1) := by decide +kernel
theorem dX3_has_32 : decode cX3_has 32 = .ok (.getfield 174, 3) := by decide +kernel
theorem dX3_has_35 : decode cX3_has 35 = .ok (.iload_n 2, 1) := by decide +kernel
theorem dX3_has_36 : decode cX3_has 36 = .ok (.ifCond .eq 7, 3) := by decide +kernel
theorem dX3_has_39 : decode cX3_has 39 = .ok (.iconst 1, 1) := by decide +kernel
theorem dX3_has_40 : decode cX3_has 40 = .ok (.goto 4, 3) := by decide +kernel
theorem dX3_has_43 : decode cX3_has 43 = .ok (.iconst 0, 1) := by decide +kernel
theorem dX3_has_44 : decode cX3_has 44 = .ok (.iadd, 1) := by decide +kernel
theorem dX3_has_45 : decode cX3_has 45 = .ok (.putfield 174, 3) := by decide +kernel
theorem dX3_has_48 : decode cX3_has 48 = .ok (.iload_n 2, 1) := by decide +kernel
theorem dX3_has_49 : decode cX3_has 49 = .ok (.ireturn, 1) := by decide +kernel
theorem dX3_number_0 : decode cX3_number 0 = .ok (.aload_n 0, 1) := by decide +kernel
theorem dX3_number_1 : decode cX3_number 1 = .ok (.getfield 174, 3) := by decide +kernel
theorem dX3_number_4 : decode cX3_number 4 = .ok (.istore_n 2, 1) := by decide +kernel
theorem dX3_number_5 : decode cX3_number 5 = .ok (.aload_n 0, 1) := by decide +kernel
theorem dX3_number_6 : decode cX3_number 6 = .ok (.getfield 29, 3) := by decide +kernel
theorem dX3_number_9 : decode cX3_number 9 = .ok (.iload_n 1, 1) := by decide +kernel
theorem dX3_number_10 : decode cX3_number 10 = .ok (.iconst 0, 1) := by decide +kernel
theorem dX3_number_11 : decode cX3_number 11 = .ok (.iastore, 1) := by decide +kernel
theorem dX3_number_12 : decode cX3_number 12 = .ok (.aload_n 0, 1) := by decide +kernel
theorem dX3_number_13 : decode cX3_number 13 = .ok (.getfield 174, 3) := by decide +kernel
theorem dX3_number_16 : decode cX3_number 16 = .ok (.aload_n 0, 1) := by decide +kernel
theorem dX3_number_17 : decode cX3_number 17 = .ok (.getfield 171, 3) := by decide +kernel
theorem dX3_number_20 : decode cX3_number 20 = .ok (.if_icmp .ge 73, 3) := by decide +kernel
theorem dX3_number_23 : decode cX3_number 23 = .ok (.aload_n 0, 1) := by decide +kernel
theorem dX3_number_24 : decode cX3_number 24 = .ok (.getfield 174, 3) := by decide +kernel
theorem dX3_number_27 : decode cX3_number 27 = .ok (.iload_n 2, 1) := by decide +kernel
theorem dX3_number_28 : decode cX3_number 28 = .ok (.iconst 3, 1) := by decide +kernel
theorem dX3_number_29 : decode cX3_number 29 = .ok (.iadd, 1) := by decide +kernel
theorem dX3_number_30 : decode cX3_number 30 = .ok (.if_icmp .ge 63, 3) := by decide +kernel
theorem dX3_number_33 : decode cX3_number 33 = .ok (.aload_n 0, 1) := by decide +kernel
theorem dX3_number_34 : decode cX3_number 34 = .ok (.getfield 25, 3) := by decide +kernel
theorem dX3_number_37 : decode cX3_number 37 = .ok (.aload_n 0, 1) := by decide +kernel
theorem dX3_number_38 : decode cX3_number 38 = .ok (.getfield 174, 3) := by decide +kernel
theorem dX3_number_41 : decode cX3_number 41 = .ok (.caload, 1) := by decide +kernel
theorem dX3_number_42 : decode cX3_number 42 = .ok (.bipush 48, 2) := by decide +kernel
theorem dX3_number_44 : decode cX3_number 44 = .ok (.bipush 57, 2) := by decide +kernel
theorem dX3_number_46 : decode cX3_number 46 = .ok (.invokestatic 32, 3) := by decide +kernel
theorem dX3_number_49 : decode cX3_number 49 = .ok (.ifCond .eq 44, 3) := by decide +kernel
theorem dX3_number_52 : decode cX3_number 52 = .ok (.aload_n 0, 1) := by decide +kernel
theorem dX3_number_53 : decode cX3_number 53 = .ok (.getfield 29, 3) := by decide +kernel
theorem dX3_number_56 : decode cX3_number 56 = .ok (.iload_n 1, 1) := by decide +kernel
theorem dX3_number_57 : decode cX3_number 57 = .ok (.bipush 10, 2) := by decide +kernel
theorem dX3_number_59 : decode cX3_number 59 = .ok (.aload_n 0, 1) := by decide +kernel
theorem dX3_number_60 : decode cX3_number 60 = .ok (.getfield 29, 3) := by decide +kernel
theorem dX3_number_63 : decode cX3_number 63 = .ok (.iload_n 1, 1) := by decide +kernel
theorem dX3_number_64 : decode cX3_number 64 = .ok (.iaload, 1) := by decide +kernel
theorem dX3_number_65 : decode cX3_number 65 = .ok (.imul, 1) := by decide +kernel
theorem dX3_number_66 : decode cX3_number 66 = .ok (.aload_n 0, 1) := by decide +kernel
theorem dX3_number_67 : decode cX3_number 67 = .ok (.getfield 25, 3) := by decide +kernel
theorem dX3_number_70 : decode cX3_number 70 = .ok (.aload_n 0, 1) := by decide +kernel
theorem dX3_number_71 : decode cX3_number 71 = .ok (.getfield 174, 3) := by decide +kernel
theorem dX3_number_74 : decode cX3_number 74 = .ok (.caload, 1) := by decide +kernel
theorem dX3_number_75 : decode cX3_number 75 = .ok (.iadd, 1) := by decide +kernel
theorem dX3_number_76 : decode cX3_number 76 = .ok (.bipush 48, 2) := by decide +kernel
theorem dX3_number_78 : decode cX3_number 78 = .ok (.isub, 1) := by decide +kernel
theorem dX3_number_79 : decode cX3_number 79 = .ok (.iastore, 1) := by decide +kernel
theorem dX3_number_80 : decode cX3_number 80 = .ok (.aload_n 0, 1) := by decide +kernel
theorem dX3_number_81 : decode cX3_number 81 = .ok (.dup, 1) := by decide +kernel
theorem dX3_number_82 : decode cX3_number 82 = .ok (.getfield 174, 3) := by decide +kernel
theorem dX3_number_85 : decode cX3_number 85 = .ok (.iconst 1, 1) := by decide +kernel
theorem dX3_number_86 : decode cX3_number 86 = .ok (.iadd, 1) := by decide +kernel
theorem dX3_number_87 : decode cX3_number 87 = .ok (.putfield 174, 3) := by decide +kernel
theorem dX3_number_90 : decode cX3_number 90 = .ok (.goto (-78), 3) := by decide +kernel
theorem dX3_number_93 : decode cX3_number 93 = .ok (.aload_n 0, 1) := by decide +kernel
theorem dX3_number_94 : decode cX3_number 94 = .ok (.getfield 174, 3) := by decide +kernel
theorem dX3_number_97 : decode cX3_number 97 = .ok (.iload_n 2, 1) := by decide +kernel
theorem dX3_number_98 : decode cX3_number 98 = .ok (.if_icmp .le 7, 3) := by decide +kernel
theorem dX3_number_101 : decode cX3_number 101 = .ok (.iconst 1, 1) := by decide +kernel
theorem dX3_number_102 : decode cX3_number 102 = .ok (.goto 4, 3) := by decide +kernel
theorem dX3_number_105 : decode cX3_number 105 = .ok (.iconst 0, 1) := by decide +kernel
theorem dX3_number_106 : decode cX3_number 106 = .ok (.ireturn, 1) := by decide +kernel
theorem dX3_readsForm_0 : decode cX3_readsForm 0 = .ok (.iload_n 1, 1) := by decide +kernel
theorem dX3_readsForm_1 : decode cX3_readsForm 1 = .ok (.bipush 112, 2) := by decide +kernel
theorem dX3_readsForm_3 : decode cX3_readsForm 3 = .ok (.if_icmp .eq 9, 3) := by decide +kernel
theorem dX3_readsForm_6 : decode cX3_readsForm 6 = .ok (.iload_n 1, 1) := by decide +kernel
theorem dX3_readsForm_7 : decode cX3_readsForm 7 = .ok (.bipush 98, 2) := by decide +kernel
theorem dX3_readsForm_9 : decode cX3_readsForm 9 = .ok (.if_icmp .ne 7, 3) := by decide +kernel
theorem dX3_readsForm_12 : decode cX3_readsForm 12 = .ok (.iconst 1, 1) := by decide +kernel
theorem dX3_readsForm_13 : decode cX3_readsForm 13 = .ok (.goto 4, 3) := by decide +kernel
theorem dX3_readsForm_16 : decode cX3_readsForm 16 = .ok (.iconst 0, 1) := by decide +kernel
theorem dX3_readsForm_17 : decode cX3_readsForm 17 = .ok (.istore_n 2, 1) := by decide +kernel
theorem dX3_readsForm_18 : decode cX3_readsForm 18 = .ok (.iload_n 2, 1) := by decide +kernel
theorem dX3_readsForm_19 : decode cX3_readsForm 19 = .ok (.ifCond .ne 27, 3) := by decide +kernel
theorem dX3_readsForm_22 : decode cX3_readsForm 22 = .ok (.iload_n 1, 1) := by decide +kernel
theorem dX3_readsForm_23 : decode cX3_readsForm 23 = .ok (.bipush 107, 2) := by decide +kernel
theorem dX3_readsForm_25 : decode cX3_readsForm 25 = .ok (.if_icmp .eq 21, 3) := by decide +kernel
theorem dX3_readsForm_28 : decode cX3_readsForm 28 = .ok (.iload_n 1, 1) := by decide +kernel
theorem dX3_readsForm_29 : decode cX3_readsForm 29 = .ok (.bipush 116, 2) := by decide +kernel
theorem dX3_readsForm_31 : decode cX3_readsForm 31 = .ok (.if_icmp .eq 15, 3) := by decide +kernel
theorem dX3_readsForm_34 : decode cX3_readsForm 34 = .ok (.iload_n 1, 1) := by decide +kernel
theorem dX3_readsForm_35 : decode cX3_readsForm 35 = .ok (.bipush 101, 2) := by decide +kernel
theorem dX3_readsForm_37 : decode cX3_readsForm 37 = .ok (.if_icmp .eq 9, 3) := by decide +kernel
theorem dX3_readsForm_40 : decode cX3_readsForm 40 = .ok (.iload_n 1, 1) := by decide +kernel
theorem dX3_readsForm_41 : decode cX3_readsForm 41 = .ok (.bipush 118, 2) := by decide +kernel
theorem dX3_readsForm_43 : decode cX3_readsForm 43 = .ok (.if_icmp .ne 15, 3) := by decide +kernel
theorem dX3_readsForm_46 : decode cX3_readsForm 46 = .ok (.aload_n 0, 1) := by decide +kernel
theorem dX3_readsForm_47 : decode cX3_readsForm 47 = .ok (.iconst 0, 1) := by decide +kernel
theorem dX3_readsForm_48 : decode cX3_readsForm 48 = .ok (.invokevirtual 177, 3) := by decide +kernel
theorem dX3_readsForm_51 : decode cX3_readsForm 51 = .ok (.ifCond .eq 7, 3) := by decide +kernel
theorem dX3_readsForm_54 : decode cX3_readsForm 54 = .ok (.iconst 1, 1) := by decide +kernel
theorem dX3_readsForm_55 : decode cX3_readsForm 55 = .ok (.goto 4, 3) := by decide +kernel
theorem dX3_readsForm_58 : decode cX3_readsForm 58 = .ok (.iconst 0, 1) := by decide +kernel
theorem dX3_readsForm_59 : decode cX3_readsForm 59 = .ok (.istore_n 3, 1) := by decide +kernel
theorem dX3_readsForm_60 : decode cX3_readsForm 60 = .ok (.iload_n 3, 1) := by decide +kernel
theorem dX3_readsForm_61 : decode cX3_readsForm 61 = .ok (.ifCond .eq 37, 3) := by decide +kernel
theorem dX3_readsForm_64 : decode cX3_readsForm 64 = .ok (.iload_n 2, 1) := by decide +kernel
theorem dX3_readsForm_65 : decode cX3_readsForm 65 = .ok (.ifCond .eq 20, 3) := by decide +kernel
theorem dX3_readsForm_68 : decode cX3_readsForm 68 = .ok (.aload_n 0, 1) := by decide +kernel
theorem dX3_readsForm_69 : decode cX3_readsForm 69 = .ok (.bipush 44, 2) := by decide +kernel
theorem dX3_readsForm_71 : decode cX3_readsForm 71 = .ok (.invokevirtual 180, 3) := by decide +kernel
theorem dX3_readsForm_74 : decode cX3_readsForm 74 = .ok (.ifCond .eq 24, 3) := by decide +kernel
theorem dX3_readsForm_77 : decode cX3_readsForm 77 = .ok (.aload_n 0, 1) := by decide +kernel
theorem dX3_readsForm_78 : decode cX3_readsForm 78 = .ok (.iconst 1, 1) := by decide +kernel
theorem dX3_readsForm_79 : decode cX3_readsForm 79 = .ok (.invokevirtual 177, 3) := by decide +kernel
theorem dX3_readsForm_82 : decode cX3_readsForm 82 = .ok (.ifCond .eq 16, 3) := by decide +kernel
theorem dX3_readsForm_85 : decode cX3_readsForm 85 = .ok (.aload_n 0, 1) := by decide +kernel
theorem dX3_readsForm_86 : decode cX3_readsForm 86 = .ok (.bipush 59, 2) := by decide +kernel
theorem dX3_readsForm_88 : decode cX3_readsForm 88 = .ok (.invokevirtual 180, 3) := by decide +kernel
theorem dX3_readsForm_91 : decode cX3_readsForm 91 = .ok (.ifCond .eq 7, 3) := by decide +kernel
theorem dX3_readsForm_94 : decode cX3_readsForm 94 = .ok (.iconst 1, 1) := by decide +kernel
theorem dX3_readsForm_95 : decode cX3_readsForm 95 = .ok (.goto 4, 3) := by decide +kernel
theorem dX3_readsForm_98 : decode cX3_readsForm 98 = .ok (.iconst 0, 1) := by decide +kernel
theorem dX3_readsForm_99 : decode cX3_readsForm 99 = .ok (.ireturn, 1) := by decide +kernel
theorem dX3_does_0 : decode cX3_does 0 = .ok (.iload_n 1, 1) := by decide +kernel
theorem dX3_does_1 : decode cX3_does 1 = .ok (.lookupswitch 112 #[(101, 73), (107, 51), (112, 95), (116, 62), (118, 84)], 51) := by decide +kernel
theorem dX3_does_52 : decode cX3_does 52 = .ok (.aload_n 0, 1) := by decide +kernel
theorem dX3_does_53 : decode cX3_does 53 = .ok (.aload_n 0, 1) := by decide +kernel
theorem dX3_does_54 : decode cX3_does 54 = .ok (.getfield 29, 3) := by decide +kernel
theorem dX3_does_57 : decode cX3_does 57 = .ok (.iconst 0, 1) := by decide +kernel
theorem dX3_does_58 : decode cX3_does 58 = .ok (.iaload, 1) := by decide +kernel
theorem dX3_does_59 : decode cX3_does 59 = .ok (.invokevirtual 114, 3) := by decide +kernel
theorem dX3_does_62 : decode cX3_does 62 = .ok (.ireturn, 1) := by decide +kernel
theorem dX3_does_63 : decode cX3_does 63 = .ok (.aload_n 0, 1) := by decide +kernel
theorem dX3_does_64 : decode cX3_does 64 = .ok (.aload_n 0, 1) := by decide +kernel
theorem dX3_does_65 : decode cX3_does 65 = .ok (.getfield 29, 3) := by decide +kernel
theorem dX3_does_68 : decode cX3_does 68 = .ok (.iconst 0, 1) := by decide +kernel
theorem dX3_does_69 : decode cX3_does 69 = .ok (.iaload, 1) := by decide +kernel
theorem dX3_does_70 : decode cX3_does 70 = .ok (.invokevirtual 159, 3) := by decide +kernel
theorem dX3_does_73 : decode cX3_does 73 = .ok (.ireturn, 1) := by decide +kernel
theorem dX3_does_74 : decode cX3_does 74 = .ok (.aload_n 0, 1) := by decide +kernel
theorem dX3_does_75 : decode cX3_does 75 = .ok (.aload_n 0, 1) := by decide +kernel
theorem dX3_does_76 : decode cX3_does 76 = .ok (.getfield 29, 3) := by decide +kernel
theorem dX3_does_79 : decode cX3_does 79 = .ok (.iconst 0, 1) := by decide +kernel
theorem dX3_does_80 : decode cX3_does 80 = .ok (.iaload, 1) := by decide +kernel
theorem dX3_does_81 : decode cX3_does 81 = .ok (.invokevirtual 103, 3) := by decide +kernel
theorem dX3_does_84 : decode cX3_does 84 = .ok (.ireturn, 1) := by decide +kernel
theorem dX3_does_85 : decode cX3_does 85 = .ok (.aload_n 0, 1) := by decide +kernel
theorem dX3_does_86 : decode cX3_does 86 = .ok (.aload_n 0, 1) := by decide +kernel
theorem dX3_does_87 : decode cX3_does 87 = .ok (.getfield 29, 3) := by decide +kernel
theorem dX3_does_90 : decode cX3_does 90 = .ok (.iconst 0, 1) := by decide +kernel
theorem dX3_does_91 : decode cX3_does 91 = .ok (.iaload, 1) := by decide +kernel
theorem dX3_does_92 : decode cX3_does 92 = .ok (.invokevirtual 139, 3) := by decide +kernel
theorem dX3_does_95 : decode cX3_does 95 = .ok (.ireturn, 1) := by decide +kernel
theorem dX3_does_96 : decode cX3_does 96 = .ok (.aload_n 0, 1) := by decide +kernel
theorem dX3_does_97 : decode cX3_does 97 = .ok (.aload_n 0, 1) := by decide +kernel
theorem dX3_does_98 : decode cX3_does 98 = .ok (.getfield 29, 3) := by decide +kernel
theorem dX3_does_101 : decode cX3_does 101 = .ok (.iconst 0, 1) := by decide +kernel
theorem dX3_does_102 : decode cX3_does 102 = .ok (.iaload, 1) := by decide +kernel
theorem dX3_does_103 : decode cX3_does 103 = .ok (.aload_n 0, 1) := by decide +kernel
theorem dX3_does_104 : decode cX3_does 104 = .ok (.getfield 29, 3) := by decide +kernel
theorem dX3_does_107 : decode cX3_does 107 = .ok (.iconst 1, 1) := by decide +kernel
theorem dX3_does_108 : decode cX3_does 108 = .ok (.iaload, 1) := by decide +kernel
theorem dX3_does_109 : decode cX3_does 109 = .ok (.invokevirtual 130, 3) := by decide +kernel
theorem dX3_does_112 : decode cX3_does 112 = .ok (.ireturn, 1) := by decide +kernel
theorem dX3_does_113 : decode cX3_does 113 = .ok (.aload_n 0, 1) := by decide +kernel
theorem dX3_does_114 : decode cX3_does 114 = .ok (.aload_n 0, 1) := by decide +kernel
theorem dX3_does_115 : decode cX3_does 115 = .ok (.getfield 29, 3) := by decide +kernel
theorem dX3_does_118 : decode cX3_does 118 = .ok (.iconst 0, 1) := by decide +kernel
theorem dX3_does_119 : decode cX3_does 119 = .ok (.iaload, 1) := by decide +kernel
theorem dX3_does_120 : decode cX3_does 120 = .ok (.aload_n 0, 1) := by decide +kernel
theorem dX3_does_121 : decode cX3_does 121 = .ok (.getfield 29, 3) := by decide +kernel
theorem dX3_does_124 : decode cX3_does 124 = .ok (.iconst 1, 1) := by decide +kernel
theorem dX3_does_125 : decode cX3_does 125 = .ok (.iaload, 1) := by decide +kernel
theorem dX3_does_126 : decode cX3_does 126 = .ok (.invokevirtual 117, 3) := by decide +kernel
theorem dX3_does_129 : decode cX3_does 129 = .ok (.ireturn, 1) := by decide +kernel
theorem dX3_doesNext_0 : decode cX3_doesNext 0 = .ok (.aload_n 0, 1) := by decide +kernel
theorem dX3_doesNext_1 : decode cX3_doesNext 1 = .ok (.getfield 25, 3) := by decide +kernel
theorem dX3_doesNext_4 : decode cX3_doesNext 4 = .ok (.aload_n 0, 1) := by decide +kernel
theorem dX3_doesNext_5 : decode cX3_doesNext 5 = .ok (.getfield 174, 3) := by decide +kernel
theorem dX3_doesNext_8 : decode cX3_doesNext 8 = .ok (.caload, 1) := by decide +kernel
theorem dX3_doesNext_9 : decode cX3_doesNext 9 = .ok (.istore_n 1, 1) := by decide +kernel
theorem dX3_doesNext_10 : decode cX3_doesNext 10 = .ok (.aload_n 0, 1) := by decide +kernel
theorem dX3_doesNext_11 : decode cX3_doesNext 11 = .ok (.dup, 1) := by decide +kernel
theorem dX3_doesNext_12 : decode cX3_doesNext 12 = .ok (.getfield 174, 3) := by decide +kernel
theorem dX3_doesNext_15 : decode cX3_doesNext 15 = .ok (.iconst 1, 1) := by decide +kernel
theorem dX3_doesNext_16 : decode cX3_doesNext 16 = .ok (.iadd, 1) := by decide +kernel
theorem dX3_doesNext_17 : decode cX3_doesNext 17 = .ok (.putfield 174, 3) := by decide +kernel
theorem dX3_doesNext_20 : decode cX3_doesNext 20 = .ok (.aload_n 0, 1) := by decide +kernel
theorem dX3_doesNext_21 : decode cX3_doesNext 21 = .ok (.iload_n 1, 1) := by decide +kernel
theorem dX3_doesNext_22 : decode cX3_doesNext 22 = .ok (.invokevirtual 184, 3) := by decide +kernel
theorem dX3_doesNext_25 : decode cX3_doesNext 25 = .ok (.ifCond .ne 5, 3) := by decide +kernel
theorem dX3_doesNext_28 : decode cX3_doesNext 28 = .ok (.iconst 1, 1) := by decide +kernel
theorem dX3_doesNext_29 : decode cX3_doesNext 29 = .ok (.ireturn, 1) := by decide +kernel
theorem dX3_doesNext_30 : decode cX3_doesNext 30 = .ok (.iload_n 1, 1) := by decide +kernel
theorem dX3_doesNext_31 : decode cX3_doesNext 31 = .ok (.bipush 116, 2) := by decide +kernel
theorem dX3_doesNext_33 : decode cX3_doesNext 33 = .ok (.if_icmp .eq 20, 3) := by decide +kernel
theorem dX3_doesNext_36 : decode cX3_doesNext 36 = .ok (.aload_n 0, 1) := by decide +kernel
theorem dX3_doesNext_37 : decode cX3_doesNext 37 = .ok (.aload_n 0, 1) := by decide +kernel
theorem dX3_doesNext_38 : decode cX3_doesNext 38 = .ok (.getfield 29, 3) := by decide +kernel
theorem dX3_doesNext_41 : decode cX3_doesNext 41 = .ok (.iconst 0, 1) := by decide +kernel
theorem dX3_doesNext_42 : decode cX3_doesNext 42 = .ok (.iaload, 1) := by decide +kernel
theorem dX3_doesNext_43 : decode cX3_doesNext 43 = .ok (.invokevirtual 90, 3) := by decide +kernel
theorem dX3_doesNext_46 : decode cX3_doesNext 46 = .ok (.ifCond .ne 7, 3) := by decide +kernel
theorem dX3_doesNext_49 : decode cX3_doesNext 49 = .ok (.iconst 2, 1) := by decide +kernel
theorem dX3_doesNext_50 : decode cX3_doesNext 50 = .ok (.goto 18, 3) := by decide +kernel
theorem dX3_doesNext_53 : decode cX3_doesNext 53 = .ok (.aload_n 0, 1) := by decide +kernel
theorem dX3_doesNext_54 : decode cX3_doesNext 54 = .ok (.iload_n 1, 1) := by decide +kernel
theorem dX3_doesNext_55 : decode cX3_doesNext 55 = .ok (.invokevirtual 187, 3) := by decide +kernel
theorem dX3_doesNext_58 : decode cX3_doesNext 58 = .ok (.ldc 40, 2) := by decide +kernel
theorem dX3_doesNext_60 : decode cX3_doesNext 60 = .ok (.if_icmp .gt 7, 3) := by decide +kernel
theorem dX3_doesNext_63 : decode cX3_doesNext 63 = .ok (.iconst 3, 1) := by decide +kernel
theorem dX3_doesNext_64 : decode cX3_doesNext 64 = .ok (.goto 4, 3) := by decide +kernel
theorem dX3_doesNext_67 : decode cX3_doesNext 67 = .ok (.iconst 0, 1) := by decide +kernel
theorem dX3_doesNext_68 : decode cX3_doesNext 68 = .ok (.ireturn, 1) := by decide +kernel
theorem dX3_faulty_0 : decode cX3_faulty 0 = .ok (.aload_n 0, 1) := by decide +kernel
theorem dX3_faulty_1 : decode cX3_faulty 1 = .ok (.invokevirtual 162, 3) := by decide +kernel
theorem dX3_faulty_4 : decode cX3_faulty 4 = .ok (.ldc 123, 2) := by decide +kernel
theorem dX3_faulty_6 : decode cX3_faulty 6 = .ok (.istore_n 1, 1) := by decide +kernel
theorem dX3_faulty_7 : decode cX3_faulty 7 = .ok (.aload_n 0, 1) := by decide +kernel
theorem dX3_faulty_8 : decode cX3_faulty 8 = .ok (.iconst 0, 1) := by decide +kernel
theorem dX3_faulty_9 : decode cX3_faulty 9 = .ok (.putfield 174, 3) := by decide +kernel
theorem dX3_faulty_12 : decode cX3_faulty 12 = .ok (.aload_n 0, 1) := by decide +kernel
theorem dX3_faulty_13 : decode cX3_faulty 13 = .ok (.getfield 174, 3) := by decide +kernel
theorem dX3_faulty_16 : decode cX3_faulty 16 = .ok (.aload_n 0, 1) := by decide +kernel
theorem dX3_faulty_17 : decode cX3_faulty 17 = .ok (.getfield 171, 3) := by decide +kernel
theorem dX3_faulty_20 : decode cX3_faulty 20 = .ok (.if_icmp .ge 38, 3) := by decide +kernel
theorem dX3_faulty_23 : decode cX3_faulty 23 = .ok (.iload_n 1, 1) := by decide +kernel
theorem dX3_faulty_24 : decode cX3_faulty 24 = .ok (.ldc 123, 2) := by decide +kernel
theorem dX3_faulty_26 : decode cX3_faulty 26 = .ok (.if_icmp .ne 32, 3) := by decide +kernel
theorem dX3_faulty_29 : decode cX3_faulty 29 = .ok (.aload_n 0, 1) := by decide +kernel
theorem dX3_faulty_30 : decode cX3_faulty 30 = .ok (.getfield 174, 3) := by decide +kernel
theorem dX3_faulty_33 : decode cX3_faulty 33 = .ok (.istore_n 2, 1) := by decide +kernel
theorem dX3_faulty_34 : decode cX3_faulty 34 = .ok (.aload_n 0, 1) := by decide +kernel
theorem dX3_faulty_35 : decode cX3_faulty 35 = .ok (.aload_n 0, 1) := by decide +kernel
theorem dX3_faulty_36 : decode cX3_faulty 36 = .ok (.invokevirtual 191, 3) := by decide +kernel
theorem dX3_faulty_39 : decode cX3_faulty 39 = .ok (.putfield 194, 3) := by decide +kernel
theorem dX3_faulty_42 : decode cX3_faulty 42 = .ok (.aload_n 0, 1) := by decide +kernel
theorem dX3_faulty_43 : decode cX3_faulty 43 = .ok (.getfield 194, 3) := by decide +kernel
theorem dX3_faulty_46 : decode cX3_faulty 46 = .ok (.ifCond .le 7, 3) := by decide +kernel
theorem dX3_faulty_49 : decode cX3_faulty 49 = .ok (.iload_n 2, 1) := by decide +kernel
theorem dX3_faulty_50 : decode cX3_faulty 50 = .ok (.goto 4, 3) := by decide +kernel
theorem dX3_faulty_53 : decode cX3_faulty 53 = .ok (.iload_n 1, 1) := by decide +kernel
theorem dX3_faulty_54 : decode cX3_faulty 54 = .ok (.istore_n 1, 1) := by decide +kernel
theorem dX3_faulty_55 : decode cX3_faulty 55 = .ok (.goto (-43), 3) := by decide +kernel
theorem dX3_faulty_58 : decode cX3_faulty 58 = .ok (.aload_n 0, 1) := by decide +kernel
theorem dX3_faulty_59 : decode cX3_faulty 59 = .ok (.invokevirtual 165, 3) := by decide +kernel
theorem dX3_faulty_62 : decode cX3_faulty 62 = .ok (.iload_n 1, 1) := by decide +kernel
theorem dX3_faulty_63 : decode cX3_faulty 63 = .ok (.ireturn, 1) := by decide +kernel
theorem dX3_fault_0 : decode cX3_fault 0 = .ok (.iload_n 1, 1) := by decide +kernel
theorem dX3_fault_1 : decode cX3_fault 1 = .ok (.iconst 0, 1) := by decide +kernel
theorem dX3_fault_2 : decode cX3_fault 2 = .ok (.iconst 1, 1) := by decide +kernel
theorem dX3_fault_3 : decode cX3_fault 3 = .ok (.invokestatic 32, 3) := by decide +kernel
theorem dX3_fault_6 : decode cX3_fault 6 = .ok (.ifCond .ne 6, 3) := by decide +kernel
theorem dX3_fault_9 : decode cX3_fault 9 = .ok (.ldc 40, 2) := by decide +kernel
theorem dX3_fault_11 : decode cX3_fault 11 = .ok (.ireturn, 1) := by decide +kernel
theorem dX3_fault_12 : decode cX3_fault 12 = .ok (.aload_n 0, 1) := by decide +kernel
theorem dX3_fault_13 : decode cX3_fault 13 = .ok (.invokevirtual 197, 3) := by decide +kernel
theorem dX3_fault_16 : decode cX3_fault 16 = .ok (.istore_n 2, 1) := by decide +kernel
theorem dX3_fault_17 : decode cX3_fault 17 = .ok (.iload_n 2, 1) := by decide +kernel
theorem dX3_fault_18 : decode cX3_fault 18 = .ok (.ldc 123, 2) := by decide +kernel
theorem dX3_fault_20 : decode cX3_fault 20 = .ok (.if_icmp .eq 7, 3) := by decide +kernel
theorem dX3_fault_23 : decode cX3_fault 23 = .ok (.iload_n 1, 1) := by decide +kernel
theorem dX3_fault_24 : decode cX3_fault 24 = .ok (.ifCond .ne 7, 3) := by decide +kernel
theorem dX3_fault_27 : decode cX3_fault 27 = .ok (.iload_n 2, 1) := by decide +kernel
theorem dX3_fault_28 : decode cX3_fault 28 = .ok (.goto 7, 3) := by decide +kernel
theorem dX3_fault_31 : decode cX3_fault 31 = .ok (.aload_n 0, 1) := by decide +kernel
theorem dX3_fault_32 : decode cX3_fault 32 = .ok (.getfield 194, 3) := by decide +kernel
theorem dX3_fault_35 : decode cX3_fault 35 = .ok (.ireturn, 1) := by decide +kernel
theorem dX3_play_0 : decode cX3_play 0 = .ok (.aload_n 0, 1) := by decide +kernel
theorem dX3_play_1 : decode cX3_play 1 = .ok (.invokevirtual 197, 3) := by decide +kernel
theorem dX3_play_4 : decode cX3_play 4 = .ok (.ldc 123, 2) := by decide +kernel
theorem dX3_play_6 : decode cX3_play 6 = .ok (.if_icmp .eq 6, 3) := by decide +kernel
theorem dX3_play_9 : decode cX3_play 9 = .ok (.ldc 96, 2) := by decide +kernel
theorem dX3_play_11 : decode cX3_play 11 = .ok (.ireturn, 1) := by decide +kernel
theorem dX3_play_12 : decode cX3_play 12 = .ok (.aload_n 0, 1) := by decide +kernel
theorem dX3_play_13 : decode cX3_play 13 = .ok (.invokevirtual 84, 3) := by decide +kernel
theorem dX3_play_16 : decode cX3_play 16 = .ok (.iconst 0, 1) := by decide +kernel
theorem dX3_play_17 : decode cX3_play 17 = .ok (.istore_n 1, 1) := by decide +kernel
theorem dX3_play_18 : decode cX3_play 18 = .ok (.aload_n 0, 1) := by decide +kernel
theorem dX3_play_19 : decode cX3_play 19 = .ok (.iconst 0, 1) := by decide +kernel
theorem dX3_play_20 : decode cX3_play 20 = .ok (.putfield 174, 3) := by decide +kernel
theorem dX3_play_23 : decode cX3_play 23 = .ok (.aload_n 0, 1) := by decide +kernel
theorem dX3_play_24 : decode cX3_play 24 = .ok (.getfield 174, 3) := by decide +kernel
theorem dX3_play_27 : decode cX3_play 27 = .ok (.aload_n 0, 1) := by decide +kernel
theorem dX3_play_28 : decode cX3_play 28 = .ok (.getfield 171, 3) := by decide +kernel
theorem dX3_play_31 : decode cX3_play 31 = .ok (.if_icmp .ge 21, 3) := by decide +kernel
theorem dX3_play_34 : decode cX3_play 34 = .ok (.iload_n 1, 1) := by decide +kernel
theorem dX3_play_35 : decode cX3_play 35 = .ok (.aload_n 0, 1) := by decide +kernel
theorem dX3_play_36 : decode cX3_play 36 = .ok (.invokevirtual 191, 3) := by decide +kernel
theorem dX3_play_39 : decode cX3_play 39 = .ok (.ifCond .ne 7, 3) := by decide +kernel
theorem dX3_play_42 : decode cX3_play 42 = .ok (.iconst 1, 1) := by decide +kernel
theorem dX3_play_43 : decode cX3_play 43 = .ok (.goto 4, 3) := by decide +kernel
theorem dX3_play_46 : decode cX3_play 46 = .ok (.iconst 0, 1) := by decide +kernel
theorem dX3_play_47 : decode cX3_play 47 = .ok (.iadd, 1) := by decide +kernel
theorem dX3_play_48 : decode cX3_play 48 = .ok (.istore_n 1, 1) := by decide +kernel
theorem dX3_play_49 : decode cX3_play 49 = .ok (.goto (-26), 3) := by decide +kernel
theorem dX3_play_52 : decode cX3_play 52 = .ok (.aload_n 0, 1) := by decide +kernel
theorem dX3_play_53 : decode cX3_play 53 = .ok (.iload_n 1, 1) := by decide +kernel
theorem dX3_play_54 : decode cX3_play 54 = .ok (.invokevirtual 87, 3) := by decide +kernel
theorem dX3_play_57 : decode cX3_play 57 = .ok (.ireturn, 1) := by decide +kernel
