theorem dX0_init_0 : decode cX0_init 0 = .ok (.aload_n 0, 1) := by decide +kernel
theorem dX0_init_1 : decode cX0_init 1 = .ok (.invokespecial 3, 3) := by decide +kernel
theorem dX0_init_4 : decode cX0_init 4 = .ok (.aload_n 0, 1) := by decide +kernel
theorem dX0_init_5 : decode cX0_init 5 = .ok (.sipush 256, 3) := by decide +kernel
theorem dX0_init_8 : decode cX0_init 8 = .ok (.newarray .long, 2) := by decide +kernel
theorem dX0_init_10 : decode cX0_init 10 = .ok (.putfield 9, 3) := by decide +kernel
theorem dX0_init_13 : decode cX0_init 13 = .ok (.aload_n 0, 1) := by decide +kernel
theorem dX0_init_14 : decode cX0_init 14 = .ok (.bipush 60, 2) := by decide +kernel
theorem dX0_init_16 : decode cX0_init 16 = .ok (.newarray .long, 2) := by decide +kernel
theorem dX0_init_18 : decode cX0_init 18 = .ok (.putfield 15, 3) := by decide +kernel
theorem dX0_init_21 : decode cX0_init 21 = .ok (.aload_n 0, 1) := by decide +kernel
theorem dX0_init_22 : decode cX0_init 22 = .ok (.iconst 0, 1) := by decide +kernel
theorem dX0_init_23 : decode cX0_init 23 = .ok (.putfield 18, 3) := by decide +kernel
theorem dX0_init_26 : decode cX0_init 26 = .ok (.aload_n 0, 1) := by decide +kernel
theorem dX0_init_27 : decode cX0_init 27 = .ok (.lconst 0, 1) := by decide +kernel
theorem dX0_init_28 : decode cX0_init 28 = .ok (.putfield 22, 3) := by decide +kernel
theorem dX0_init_31 : decode cX0_init 31 = .ok (.aload_n 0, 1) := by decide +kernel
theorem dX0_init_32 : decode cX0_init 32 = .ok (.lconst 0, 1) := by decide +kernel
theorem dX0_init_33 : decode cX0_init 33 = .ok (.putfield 26, 3) := by decide +kernel
theorem dX0_init_36 : decode cX0_init 36 = .ok (.return_, 1) := by decide +kernel
theorem dX0_atoms_0 : decode cX0_atoms 0 = .ok (.aload_n 0, 1) := by decide +kernel
theorem dX0_atoms_1 : decode cX0_atoms 1 = .ok (.getfield 18, 3) := by decide +kernel
theorem dX0_atoms_4 : decode cX0_atoms 4 = .ok (.ireturn, 1) := by decide +kernel
theorem dX0_clear_0 : decode cX0_clear 0 = .ok (.aload_n 0, 1) := by decide +kernel
theorem dX0_clear_1 : decode cX0_clear 1 = .ok (.getfield 9, 3) := by decide +kernel
theorem dX0_clear_4 : decode cX0_clear 4 = .ok (.lconst 0, 1) := by decide +kernel
theorem dX0_clear_5 : decode cX0_clear 5 = .ok (.invokestatic 29, 3) := by decide +kernel
theorem dX0_clear_8 : decode cX0_clear 8 = .ok (.aload_n 0, 1) := by decide +kernel
theorem dX0_clear_9 : decode cX0_clear 9 = .ok (.getfield 15, 3) := by decide +kernel
theorem dX0_clear_12 : decode cX0_clear 12 = .ok (.lconst 0, 1) := by decide +kernel
theorem dX0_clear_13 : decode cX0_clear 13 = .ok (.invokestatic 29, 3) := by decide +kernel
theorem dX0_clear_16 : decode cX0_clear 16 = .ok (.aload_n 0, 1) := by decide +kernel
theorem dX0_clear_17 : decode cX0_clear 17 = .ok (.iconst 0, 1) := by decide +kernel
theorem dX0_clear_18 : decode cX0_clear 18 = .ok (.putfield 18, 3) := by decide +kernel
theorem dX0_clear_21 : decode cX0_clear 21 = .ok (.aload_n 0, 1) := by decide +kernel
theorem dX0_clear_22 : decode cX0_clear 22 = .ok (.lconst 0, 1) := by decide +kernel
theorem dX0_clear_23 : decode cX0_clear 23 = .ok (.putfield 22, 3) := by decide +kernel
theorem dX0_clear_26 : decode cX0_clear 26 = .ok (.aload_n 0, 1) := by decide +kernel
theorem dX0_clear_27 : decode cX0_clear 27 = .ok (.lconst 0, 1) := by decide +kernel
theorem dX0_clear_28 : decode cX0_clear 28 = .ok (.putfield 26, 3) := by decide +kernel
theorem dX0_clear_31 : decode cX0_clear 31 = .ok (.return_, 1) := by decide +kernel
theorem dX0_addAtom_0 : decode cX0_addAtom 0 = .ok (.aload_n 0, 1) := by decide +kernel
theorem dX0_addAtom_1 : decode cX0_addAtom 1 = .ok (.getfield 18, 3) := by decide +kernel
theorem dX0_addAtom_4 : decode cX0_addAtom 4 = .ok (.bipush 60, 2) := by decide +kernel
theorem dX0_addAtom_6 : decode cX0_addAtom 6 = .ok (.if_icmp .ge 13, 3) := by decide +kernel
theorem dX0_addAtom_9 : decode cX0_addAtom 9 = .ok (.aload_n 0, 1) := by decide +kernel
theorem dX0_addAtom_10 : decode cX0_addAtom 10 = .ok (.dup, 1) := by decide +kernel
theorem dX0_addAtom_11 : decode cX0_addAtom 11 = .ok (.getfield 18, 3) := by decide +kernel
theorem dX0_addAtom_14 : decode cX0_addAtom 14 = .ok (.iconst 1, 1) := by decide +kernel
theorem dX0_addAtom_15 : decode cX0_addAtom 15 = .ok (.iadd, 1) := by decide +kernel
theorem dX0_addAtom_16 : decode cX0_addAtom 16 = .ok (.putfield 18, 3) := by decide +kernel
theorem dX0_addAtom_19 : decode cX0_addAtom 19 = .ok (.return_, 1) := by decide +kernel
theorem dX0_newest_0 : decode cX0_newest 0 = .ok (.aload_n 0, 1) := by decide +kernel
theorem dX0_newest_1 : decode cX0_newest 1 = .ok (.getfield 18, 3) := by decide +kernel
theorem dX0_newest_4 : decode cX0_newest 4 = .ok (.ifCond .le 14, 3) := by decide +kernel
theorem dX0_newest_7 : decode cX0_newest 7 = .ok (.lconst 1, 1) := by decide +kernel
theorem dX0_newest_8 : decode cX0_newest 8 = .ok (.aload_n 0, 1) := by decide +kernel
theorem dX0_newest_9 : decode cX0_newest 9 = .ok (.getfield 18, 3) := by decide +kernel
theorem dX0_newest_12 : decode cX0_newest 12 = .ok (.iconst 1, 1) := by decide +kernel
theorem dX0_newest_13 : decode cX0_newest 13 = .ok (.isub, 1) := by decide +kernel
theorem dX0_newest_14 : decode cX0_newest 14 = .ok (.lshl, 1) := by decide +kernel
theorem dX0_newest_15 : decode cX0_newest 15 = .ok (.goto 4, 3) := by decide +kernel
theorem dX0_newest_18 : decode cX0_newest 18 = .ok (.lconst 0, 1) := by decide +kernel
theorem dX0_newest_19 : decode cX0_newest 19 = .ok (.lreturn, 1) := by decide +kernel
theorem dX0_allow_0 : decode cX0_allow 0 = .ok (.iload_n 2, 1) := by decide +kernel
theorem dX0_allow_1 : decode cX0_allow 1 = .ok (.sipush 255, 3) := by decide +kernel
theorem dX0_allow_4 : decode cX0_allow 4 = .ok (.invokestatic 35, 3) := by decide +kernel
theorem dX0_allow_7 : decode cX0_allow 7 = .ok (.istore_n 3, 1) := by decide +kernel
theorem dX0_allow_8 : decode cX0_allow 8 = .ok (.iload_n 1, 1) := by decide +kernel
theorem dX0_allow_9 : decode cX0_allow 9 = .ok (.iconst 0, 1) := by decide +kernel
theorem dX0_allow_10 : decode cX0_allow 10 = .ok (.invokestatic 41, 3) := by decide +kernel
theorem dX0_allow_13 : decode cX0_allow 13 = .ok (.istore 4, 2) := by decide +kernel
theorem dX0_allow_15 : decode cX0_allow 15 = .ok (.iload 4, 2) := by decide +kernel
theorem dX0_allow_17 : decode cX0_allow 17 = .ok (.iload_n 3, 1) := by decide +kernel
theorem dX0_allow_18 : decode cX0_allow 18 = .ok (.if_icmp .gt 23, 3) := by decide +kernel
theorem dX0_allow_21 : decode cX0_allow 21 = .ok (.aload_n 0, 1) := by decide +kernel
theorem dX0_allow_22 : decode cX0_allow 22 = .ok (.getfield 9, 3) := by decide +kernel
theorem dX0_allow_25 : decode cX0_allow 25 = .ok (.iload 4, 2) := by decide +kernel
theorem dX0_allow_27 : decode cX0_allow 27 = .ok (.dup2, 1) := by decide +kernel
theorem dX0_allow_28 : decode cX0_allow 28 = .ok (.laload, 1) := by decide +kernel
theorem dX0_allow_29 : decode cX0_allow 29 = .ok (.aload_n 0, 1) := by decide +kernel
theorem dX0_allow_30 : decode cX0_allow 30 = .ok (.invokevirtual 44, 3) := by decide +kernel
theorem dX0_allow_33 : decode cX0_allow 33 = .ok (.lor, 1) := by decide +kernel
theorem dX0_allow_34 : decode cX0_allow 34 = .ok (.lastore, 1) := by decide +kernel
theorem dX0_allow_35 : decode cX0_allow 35 = .ok (.iinc 4 1, 3) := by decide +kernel
theorem dX0_allow_38 : decode cX0_allow 38 = .ok (.goto (-23), 3) := by decide +kernel
theorem dX0_allow_41 : decode cX0_allow 41 = .ok (.return_, 1) := by decide +kernel
theorem dX0_turnRound_0 : decode cX0_turnRound 0 = .ok (.iconst 0, 1) := by decide +kernel
theorem dX0_turnRound_1 : decode cX0_turnRound 1 = .ok (.istore_n 1, 1) := by decide +kernel
theorem dX0_turnRound_2 : decode cX0_turnRound 2 = .ok (.iload_n 1, 1) := by decide +kernel
theorem dX0_turnRound_3 : decode cX0_turnRound 3 = .ok (.sipush 256, 3) := by decide +kernel
theorem dX0_turnRound_6 : decode cX0_turnRound 6 = .ok (.if_icmp .ge 22, 3) := by decide +kernel
theorem dX0_turnRound_9 : decode cX0_turnRound 9 = .ok (.aload_n 0, 1) := by decide +kernel
theorem dX0_turnRound_10 : decode cX0_turnRound 10 = .ok (.getfield 9, 3) := by decide +kernel
theorem dX0_turnRound_13 : decode cX0_turnRound 13 = .ok (.iload_n 1, 1) := by decide +kernel
theorem dX0_turnRound_14 : decode cX0_turnRound 14 = .ok (.dup2, 1) := by decide +kernel
theorem dX0_turnRound_15 : decode cX0_turnRound 15 = .ok (.laload, 1) := by decide +kernel
theorem dX0_turnRound_16 : decode cX0_turnRound 16 = .ok (.aload_n 0, 1) := by decide +kernel
theorem dX0_turnRound_17 : decode cX0_turnRound 17 = .ok (.invokevirtual 44, 3) := by decide +kernel
theorem dX0_turnRound_20 : decode cX0_turnRound 20 = .ok (.lxor, 1) := by decide +kernel
theorem dX0_turnRound_21 : decode cX0_turnRound 21 = .ok (.lastore, 1) := by decide +kernel
theorem dX0_turnRound_22 : decode cX0_turnRound 22 = .ok (.iinc 1 1, 3) := by decide +kernel
theorem dX0_turnRound_25 : decode cX0_turnRound 25 = .ok (.goto (-23), 3) := by decide +kernel
theorem dX0_turnRound_28 : decode cX0_turnRound 28 = .ok (.return_, 1) := by decide +kernel
theorem dX0_connect_0 : decode cX0_connect 0 = .ok (.iconst 0, 1) := by decide +kernel
theorem dX0_connect_1 : decode cX0_connect 1 = .ok (.istore 5, 2) := by decide +kernel
theorem dX0_connect_3 : decode cX0_connect 3 = .ok (.iload 5, 2) := by decide +kernel
theorem dX0_connect_5 : decode cX0_connect 5 = .ok (.aload_n 0, 1) := by decide +kernel
theorem dX0_connect_6 : decode cX0_connect 6 = .ok (.getfield 18, 3) := by decide +kernel
theorem dX0_connect_9 : decode cX0_connect 9 = .ok (.if_icmp .ge 31, 3) := by decide +kernel
theorem dX0_connect_12 : decode cX0_connect 12 = .ok (.lload_n 1, 1) := by decide +kernel
theorem dX0_connect_13 : decode cX0_connect 13 = .ok (.iload 5, 2) := by decide +kernel
theorem dX0_connect_15 : decode cX0_connect 15 = .ok (.lushr, 1) := by decide +kernel
theorem dX0_connect_16 : decode cX0_connect 16 = .ok (.lconst 1, 1) := by decide +kernel
theorem dX0_connect_17 : decode cX0_connect 17 = .ok (.land, 1) := by decide +kernel
theorem dX0_connect_18 : decode cX0_connect 18 = .ok (.lconst 0, 1) := by decide +kernel
theorem dX0_connect_19 : decode cX0_connect 19 = .ok (.lcmp, 1) := by decide +kernel
theorem dX0_connect_20 : decode cX0_connect 20 = .ok (.ifCond .eq 14, 3) := by decide +kernel
theorem dX0_connect_23 : decode cX0_connect 23 = .ok (.aload_n 0, 1) := by decide +kernel
theorem dX0_connect_24 : decode cX0_connect 24 = .ok (.getfield 15, 3) := by decide +kernel
theorem dX0_connect_27 : decode cX0_connect 27 = .ok (.iload 5, 2) := by decide +kernel
theorem dX0_connect_29 : decode cX0_connect 29 = .ok (.dup2, 1) := by decide +kernel
theorem dX0_connect_30 : decode cX0_connect 30 = .ok (.laload, 1) := by decide +kernel
theorem dX0_connect_31 : decode cX0_connect 31 = .ok (.lload_n 3, 1) := by decide +kernel
theorem dX0_connect_32 : decode cX0_connect 32 = .ok (.lor, 1) := by decide +kernel
theorem dX0_connect_33 : decode cX0_connect 33 = .ok (.lastore, 1) := by decide +kernel
theorem dX0_connect_34 : decode cX0_connect 34 = .ok (.iinc 5 1, 3) := by decide +kernel
theorem dX0_connect_37 : decode cX0_connect 37 = .ok (.goto (-34), 3) := by decide +kernel
theorem dX0_connect_40 : decode cX0_connect 40 = .ok (.return_, 1) := by decide +kernel
theorem dX0_setEdges_0 : decode cX0_setEdges 0 = .ok (.aload_n 0, 1) := by decide +kernel
theorem dX0_setEdges_1 : decode cX0_setEdges 1 = .ok (.lload_n 1, 1) := by decide +kernel
theorem dX0_setEdges_2 : decode cX0_setEdges 2 = .ok (.putfield 22, 3) := by decide +kernel
theorem dX0_setEdges_5 : decode cX0_setEdges 5 = .ok (.aload_n 0, 1) := by decide +kernel
theorem dX0_setEdges_6 : decode cX0_setEdges 6 = .ok (.lload_n 3, 1) := by decide +kernel
theorem dX0_setEdges_7 : decode cX0_setEdges 7 = .ok (.putfield 26, 3) := by decide +kernel
theorem dX0_setEdges_10 : decode cX0_setEdges 10 = .ok (.return_, 1) := by decide +kernel
theorem dX0_longestFrom_0 : decode cX0_longestFrom 0 = .ok (.iconst 0, 1) := by decide +kernel
theorem dX0_longestFrom_1 : decode cX0_longestFrom 1 = .ok (.istore_n 3, 1) := by decide +kernel
theorem dX0_longestFrom_2 : decode cX0_longestFrom 2 = .ok (.aload_n 0, 1) := by decide +kernel
theorem dX0_longestFrom_3 : decode cX0_longestFrom 3 = .ok (.getfield 22, 3) := by decide +kernel
theorem dX0_longestFrom_6 : decode cX0_longestFrom 6 = .ok (.lstore 4, 2) := by decide +kernel
theorem dX0_longestFrom_8 : decode cX0_longestFrom 8 = .ok (.iload_n 2, 1) := by decide +kernel
theorem dX0_longestFrom_9 : decode cX0_longestFrom 9 = .ok (.istore 6, 2) := by decide +kernel
theorem dX0_longestFrom_11 : decode cX0_longestFrom 11 = .ok (.iload 6, 2) := by decide +kernel
theorem dX0_longestFrom_13 : decode cX0_longestFrom 13 = .ok (.aload_n 1, 1) := by decide +kernel
theorem dX0_longestFrom_14 : decode cX0_longestFrom 14 = .ok (.invokevirtual 48, 3) := by decide +kernel
theorem dX0_longestFrom_17 : decode cX0_longestFrom 17 = .ok (.if_icmp .ge 58, 3) := by decide +kernel
theorem dX0_longestFrom_20 : decode cX0_longestFrom 20 = .ok (.lload 4, 2) := by decide +kernel
theorem dX0_longestFrom_22 : decode cX0_longestFrom 22 = .ok (.lconst 0, 1) := by decide +kernel
theorem dX0_longestFrom_23 : decode cX0_longestFrom 23 = .ok (.lcmp, 1) := by decide +kernel
theorem dX0_longestFrom_24 : decode cX0_longestFrom 24 = .ok (.ifCond .eq 51, 3) := by decide +kernel
theorem dX0_longestFrom_27 : decode cX0_longestFrom 27 = .ok (.lload 4, 2) := by decide +kernel
theorem dX0_longestFrom_29 : decode cX0_longestFrom 29 = .ok (.aload_n 0, 1) := by decide +kernel
theorem dX0_longestFrom_30 : decode cX0_longestFrom 30 = .ok (.aload_n 1, 1) := by decide +kernel
theorem dX0_longestFrom_31 : decode cX0_longestFrom 31 = .ok (.iload 6, 2) := by decide +kernel
theorem dX0_longestFrom_33 : decode cX0_longestFrom 33 = .ok (.invokevirtual 54, 3) := by decide +kernel
theorem dX0_longestFrom_36 : decode cX0_longestFrom 36 = .ok (.invokevirtual 58, 3) := by decide +kernel
theorem dX0_longestFrom_39 : decode cX0_longestFrom 39 = .ok (.land, 1) := by decide +kernel
theorem dX0_longestFrom_40 : decode cX0_longestFrom 40 = .ok (.lstore 7, 2) := by decide +kernel
theorem dX0_longestFrom_42 : decode cX0_longestFrom 42 = .ok (.lload 7, 2) := by decide +kernel
theorem dX0_longestFrom_44 : decode cX0_longestFrom 44 = .ok (.aload_n 0, 1) := by decide +kernel
theorem dX0_longestFrom_45 : decode cX0_longestFrom 45 = .ok (.getfield 26, 3) := by decide +kernel
theorem dX0_longestFrom_48 : decode cX0_longestFrom 48 = .ok (.land, 1) := by decide +kernel
theorem dX0_longestFrom_49 : decode cX0_longestFrom 49 = .ok (.lconst 0, 1) := by decide +kernel
theorem dX0_longestFrom_50 : decode cX0_longestFrom 50 = .ok (.lcmp, 1) := by decide +kernel
theorem dX0_longestFrom_51 : decode cX0_longestFrom 51 = .ok (.ifCond .eq 10, 3) := by decide +kernel
theorem dX0_longestFrom_54 : decode cX0_longestFrom 54 = .ok (.iload 6, 2) := by decide +kernel
theorem dX0_longestFrom_56 : decode cX0_longestFrom 56 = .ok (.iconst 1, 1) := by decide +kernel
theorem dX0_longestFrom_57 : decode cX0_longestFrom 57 = .ok (.iadd, 1) := by decide +kernel
theorem dX0_longestFrom_58 : decode cX0_longestFrom 58 = .ok (.iload_n 2, 1) := by decide +kernel
theorem dX0_longestFrom_59 : decode cX0_longestFrom 59 = .ok (.isub, 1) := by decide +kernel
theorem dX0_longestFrom_60 : decode cX0_longestFrom 60 = .ok (.istore_n 3, 1) := by decide +kernel
theorem dX0_longestFrom_61 : decode cX0_longestFrom 61 = .ok (.aload_n 0, 1) := by decide +kernel
theorem dX0_longestFrom_62 : decode cX0_longestFrom 62 = .ok (.lload 7, 2) := by decide +kernel
theorem dX0_longestFrom_64 : decode cX0_longestFrom 64 = .ok (.invokevirtual 62, 3) := by decide +kernel
theorem dX0_longestFrom_67 : decode cX0_longestFrom 67 = .ok (.lstore 4, 2) := by decide +kernel
theorem dX0_longestFrom_69 : decode cX0_longestFrom 69 = .ok (.iinc 6 1, 3) := by decide +kernel
theorem dX0_longestFrom_72 : decode cX0_longestFrom 72 = .ok (.goto (-61), 3) := by decide +kernel
theorem dX0_longestFrom_75 : decode cX0_longestFrom 75 = .ok (.iload_n 3, 1) := by decide +kernel
theorem dX0_longestFrom_76 : decode cX0_longestFrom 76 = .ok (.ireturn, 1) := by decide +kernel
theorem dX0_fittingFor_0 : decode cX0_fittingFor 0 = .ok (.iload_n 1, 1) := by decide +kernel
theorem dX0_fittingFor_1 : decode cX0_fittingFor 1 = .ok (.ifCond .lt 19, 3) := by decide +kernel
theorem dX0_fittingFor_4 : decode cX0_fittingFor 4 = .ok (.iload_n 1, 1) := by decide +kernel
theorem dX0_fittingFor_5 : decode cX0_fittingFor 5 = .ok (.sipush 256, 3) := by decide +kernel
theorem dX0_fittingFor_8 : decode cX0_fittingFor 8 = .ok (.if_icmp .ge 12, 3) := by decide +kernel
theorem dX0_fittingFor_11 : decode cX0_fittingFor 11 = .ok (.aload_n 0, 1) := by decide +kernel
theorem dX0_fittingFor_12 : decode cX0_fittingFor 12 = .ok (.getfield 9, 3) := by decide +kernel
theorem dX0_fittingFor_15 : decode cX0_fittingFor 15 = .ok (.iload_n 1, 1) := by decide +kernel
theorem dX0_fittingFor_16 : decode cX0_fittingFor 16 = .ok (.laload, 1) := by decide +kernel
theorem dX0_fittingFor_17 : decode cX0_fittingFor 17 = .ok (.goto 4, 3) := by decide +kernel
theorem dX0_fittingFor_20 : decode cX0_fittingFor 20 = .ok (.lconst 0, 1) := by decide +kernel
theorem dX0_fittingFor_21 : decode cX0_fittingFor 21 = .ok (.lreturn, 1) := by decide +kernel
theorem dX0_behind_0 : decode cX0_behind 0 = .ok (.lconst 0, 1) := by decide +kernel
theorem dX0_behind_1 : decode cX0_behind 1 = .ok (.lstore_n 3, 1) := by decide +kernel
theorem dX0_behind_2 : decode cX0_behind 2 = .ok (.iconst 0, 1) := by decide +kernel
theorem dX0_behind_3 : decode cX0_behind 3 = .ok (.istore 5, 2) := by decide +kernel
theorem dX0_behind_5 : decode cX0_behind 5 = .ok (.iload 5, 2) := by decide +kernel
theorem dX0_behind_7 : decode cX0_behind 7 = .ok (.aload_n 0, 1) := by decide +kernel
theorem dX0_behind_8 : decode cX0_behind 8 = .ok (.getfield 18, 3) := by decide +kernel
theorem dX0_behind_11 : decode cX0_behind 11 = .ok (.if_icmp .ge 39, 3) := by decide +kernel
theorem dX0_behind_14 : decode cX0_behind 14 = .ok (.lload_n 1, 1) := by decide +kernel
theorem dX0_behind_15 : decode cX0_behind 15 = .ok (.iload 5, 2) := by decide +kernel
theorem dX0_behind_17 : decode cX0_behind 17 = .ok (.lushr, 1) := by decide +kernel
theorem dX0_behind_18 : decode cX0_behind 18 = .ok (.lconst 0, 1) := by decide +kernel
theorem dX0_behind_19 : decode cX0_behind 19 = .ok (.lcmp, 1) := by decide +kernel
theorem dX0_behind_20 : decode cX0_behind 20 = .ok (.ifCond .eq 30, 3) := by decide +kernel
theorem dX0_behind_23 : decode cX0_behind 23 = .ok (.lload_n 1, 1) := by decide +kernel
theorem dX0_behind_24 : decode cX0_behind 24 = .ok (.iload 5, 2) := by decide +kernel
theorem dX0_behind_26 : decode cX0_behind 26 = .ok (.lushr, 1) := by decide +kernel
theorem dX0_behind_27 : decode cX0_behind 27 = .ok (.lconst 1, 1) := by decide +kernel
theorem dX0_behind_28 : decode cX0_behind 28 = .ok (.land, 1) := by decide +kernel
theorem dX0_behind_29 : decode cX0_behind 29 = .ok (.lconst 0, 1) := by decide +kernel
theorem dX0_behind_30 : decode cX0_behind 30 = .ok (.lcmp, 1) := by decide +kernel
theorem dX0_behind_31 : decode cX0_behind 31 = .ok (.ifCond .eq 13, 3) := by decide +kernel
theorem dX0_behind_34 : decode cX0_behind 34 = .ok (.lload_n 3, 1) := by decide +kernel
theorem dX0_behind_35 : decode cX0_behind 35 = .ok (.aload_n 0, 1) := by decide +kernel
theorem dX0_behind_36 : decode cX0_behind 36 = .ok (.getfield 15, 3) := by decide +kernel
theorem dX0_behind_39 : decode cX0_behind 39 = .ok (.iload 5, 2) := by decide +kernel
theorem dX0_behind_41 : decode cX0_behind 41 = .ok (.laload, 1) := by decide +kernel
theorem dX0_behind_42 : decode cX0_behind 42 = .ok (.lor, 1) := by decide +kernel
theorem dX0_behind_43 : decode cX0_behind 43 = .ok (.lstore_n 3, 1) := by decide +kernel
theorem dX0_behind_44 : decode cX0_behind 44 = .ok (.iinc 5 1, 3) := by decide +kernel
theorem dX0_behind_47 : decode cX0_behind 47 = .ok (.goto (-42), 3) := by decide +kernel
theorem dX0_behind_50 : decode cX0_behind 50 = .ok (.lload_n 3, 1) := by decide +kernel
theorem dX0_behind_51 : decode cX0_behind 51 = .ok (.lreturn, 1) := by decide +kernel
theorem dX1_init_0 : decode cX1_init 0 = .ok (.aload_n 0, 1) := by decide +kernel
theorem dX1_init_1 : decode cX1_init 1 = .ok (.invokespecial 3, 3) := by decide +kernel
theorem dX1_init_4 : decode cX1_init 4 = .ok (.aload_n 0, 1) := by decide +kernel
theorem dX1_init_5 : decode cX1_init 5 = .ok (.sipush 480, 3) := by decide +kernel
theorem dX1_init_8 : decode cX1_init 8 = .ok (.newarray .byte, 2) := by decide +kernel
theorem dX1_init_10 : decode cX1_init 10 = .ok (.putfield 9, 3) := by decide +kernel
theorem dX1_init_13 : decode cX1_init 13 = .ok (.aload_n 0, 1) := by decide +kernel
theorem dX1_init_14 : decode cX1_init 14 = .ok (.bipush 40, 2) := by decide +kernel
theorem dX1_init_16 : decode cX1_init 16 = .ok (.newarray .int, 2) := by decide +kernel
theorem dX1_init_18 : decode cX1_init 18 = .ok (.putfield 15, 3) := by decide +kernel
theorem dX1_init_21 : decode cX1_init 21 = .ok (.aload_n 0, 1) := by decide +kernel
theorem dX1_init_22 : decode cX1_init 22 = .ok (.bipush 40, 2) := by decide +kernel
theorem dX1_init_24 : decode cX1_init 24 = .ok (.newarray .int, 2) := by decide +kernel
theorem dX1_init_26 : decode cX1_init 26 = .ok (.putfield 19, 3) := by decide +kernel
theorem dX1_init_29 : decode cX1_init 29 = .ok (.aload_n 0, 1) := by decide +kernel
theorem dX1_init_30 : decode cX1_init 30 = .ok (.iconst 0, 1) := by decide +kernel
theorem dX1_init_31 : decode cX1_init 31 = .ok (.putfield 22, 3) := by decide +kernel
theorem dX1_init_34 : decode cX1_init 34 = .ok (.aload_n 0, 1) := by decide +kernel
theorem dX1_init_35 : decode cX1_init 35 = .ok (.bipush 100, 2) := by decide +kernel
theorem dX1_init_37 : decode cX1_init 37 = .ok (.putfield 26, 3) := by decide +kernel
theorem dX1_init_40 : decode cX1_init 40 = .ok (.aload_n 0, 1) := by decide +kernel
theorem dX1_init_41 : decode cX1_init 41 = .ok (.sipush 301, 3) := by decide +kernel
theorem dX1_init_44 : decode cX1_init 44 = .ok (.newarray .int, 2) := by decide +kernel
theorem dX1_init_46 : decode cX1_init 46 = .ok (.putfield 29, 3) := by decide +kernel
theorem dX1_init_49 : decode cX1_init 49 = .ok (.aload_n 0, 1) := by decide +kernel
theorem dX1_init_50 : decode cX1_init 50 = .ok (.sipush 301, 3) := by decide +kernel
theorem dX1_init_53 : decode cX1_init 53 = .ok (.newarray .int, 2) := by decide +kernel
theorem dX1_init_55 : decode cX1_init 55 = .ok (.putfield 32, 3) := by decide +kernel
theorem dX1_init_58 : decode cX1_init 58 = .ok (.aload_n 0, 1) := by decide +kernel
theorem dX1_init_59 : decode cX1_init 59 = .ok (.sipush 301, 3) := by decide +kernel
theorem dX1_init_62 : decode cX1_init 62 = .ok (.newarray .int, 2) := by decide +kernel
theorem dX1_init_64 : decode cX1_init 64 = .ok (.putfield 35, 3) := by decide +kernel
theorem dX1_init_67 : decode cX1_init 67 = .ok (.aload_n 0, 1) := by decide +kernel
theorem dX1_init_68 : decode cX1_init 68 = .ok (.sipush 301, 3) := by decide +kernel
theorem dX1_init_71 : decode cX1_init 71 = .ok (.newarray .boolean, 2) := by decide +kernel
theorem dX1_init_73 : decode cX1_init 73 = .ok (.putfield 38, 3) := by decide +kernel
theorem dX1_init_76 : decode cX1_init 76 = .ok (.return_, 1) := by decide +kernel
theorem dX1_size_0 : decode cX1_size 0 = .ok (.aload_n 0, 1) := by decide +kernel
theorem dX1_size_1 : decode cX1_size 1 = .ok (.getfield 22, 3) := by decide +kernel
theorem dX1_size_4 : decode cX1_size 4 = .ok (.ireturn, 1) := by decide +kernel
theorem dX1_exchangeStrangeCost_0 : decode cX1_exchangeStrangeCost 0 = .ok (.aload_n 0, 1) := by decide +kernel
theorem dX1_exchangeStrangeCost_1 : decode cX1_exchangeStrangeCost 1 = .ok (.getfield 26, 3) := by decide +kernel
theorem dX1_exchangeStrangeCost_4 : decode cX1_exchangeStrangeCost 4 = .ok (.istore_n 2, 1) := by decide +kernel
theorem dX1_exchangeStrangeCost_5 : decode cX1_exchangeStrangeCost 5 = .ok (.aload_n 0, 1) := by decide +kernel
theorem dX1_exchangeStrangeCost_6 : decode cX1_exchangeStrangeCost 6 = .ok (.iload_n 1, 1) := by decide +kernel
theorem dX1_exchangeStrangeCost_7 : decode cX1_exchangeStrangeCost 7 = .ok (.putfield 26, 3) := by decide +kernel
theorem dX1_exchangeStrangeCost_10 : decode cX1_exchangeStrangeCost 10 = .ok (.iload_n 2, 1) := by decide +kernel
theorem dX1_exchangeStrangeCost_11 : decode cX1_exchangeStrangeCost 11 = .ok (.ireturn, 1) := by decide +kernel
theorem dX1_learn_0 : decode cX1_learn 0 = .ok (.aload_n 1, 1) := by decide +kernel
theorem dX1_learn_1 : decode cX1_learn 1 = .ok (.invokevirtual 42, 3) := by decide +kernel
theorem dX1_learn_4 : decode cX1_learn 4 = .ok (.istore_n 3, 1) := by decide +kernel
theorem dX1_learn_5 : decode cX1_learn 5 = .ok (.iload_n 3, 1) := by decide +kernel
theorem dX1_learn_6 : decode cX1_learn 6 = .ok (.iconst 1, 1) := by decide +kernel
theorem dX1_learn_7 : decode cX1_learn 7 = .ok (.if_icmp .lt 23, 3) := by decide +kernel
theorem dX1_learn_10 : decode cX1_learn 10 = .ok (.iload_n 3, 1) := by decide +kernel
theorem dX1_learn_11 : decode cX1_learn 11 = .ok (.bipush 12, 2) := by decide +kernel
theorem dX1_learn_13 : decode cX1_learn 13 = .ok (.if_icmp .gt 17, 3) := by decide +kernel
theorem dX1_learn_16 : decode cX1_learn 16 = .ok (.aload_n 1, 1) := by decide +kernel
theorem dX1_learn_17 : decode cX1_learn 17 = .ok (.invokevirtual 47, 3) := by decide +kernel
theorem dX1_learn_20 : decode cX1_learn 20 = .ok (.ifCond .ne 10, 3) := by decide +kernel
theorem dX1_learn_23 : decode cX1_learn 23 = .ok (.iload_n 2, 1) := by decide +kernel
theorem dX1_learn_24 : decode cX1_learn 24 = .ok (.invokestatic 51, 3) := by decide +kernel
theorem dX1_learn_27 : decode cX1_learn 27 = .ok (.ifCond .ne 5, 3) := by decide +kernel
theorem dX1_learn_30 : decode cX1_learn 30 = .ok (.iconst (-1), 1) := by decide +kernel
theorem dX1_learn_31 : decode cX1_learn 31 = .ok (.ireturn, 1) := by decide +kernel
theorem dX1_learn_32 : decode cX1_learn 32 = .ok (.aload_n 0, 1) := by decide +kernel
theorem dX1_learn_33 : decode cX1_learn 33 = .ok (.aload_n 1, 1) := by decide +kernel
theorem dX1_learn_34 : decode cX1_learn 34 = .ok (.invokevirtual 55, 3) := by decide +kernel
theorem dX1_learn_37 : decode cX1_learn 37 = .ok (.ifCond .eq 6, 3) := by decide +kernel
theorem dX1_learn_40 : decode cX1_learn 40 = .ok (.bipush (-2), 2) := by decide +kernel
theorem dX1_learn_42 : decode cX1_learn 42 = .ok (.ireturn, 1) := by decide +kernel
theorem dX1_learn_43 : decode cX1_learn 43 = .ok (.aload_n 0, 1) := by decide +kernel
theorem dX1_learn_44 : decode cX1_learn 44 = .ok (.getfield 22, 3) := by decide +kernel
theorem dX1_learn_47 : decode cX1_learn 47 = .ok (.bipush 40, 2) := by decide +kernel
theorem dX1_learn_49 : decode cX1_learn 49 = .ok (.if_icmp .lt 6, 3) := by decide +kernel
theorem dX1_learn_52 : decode cX1_learn 52 = .ok (.bipush (-3), 2) := by decide +kernel
theorem dX1_learn_54 : decode cX1_learn 54 = .ok (.ireturn, 1) := by decide +kernel
theorem dX1_learn_55 : decode cX1_learn 55 = .ok (.iconst 0, 1) := by decide +kernel
theorem dX1_learn_56 : decode cX1_learn 56 = .ok (.istore 4, 2) := by decide +kernel
theorem dX1_learn_58 : decode cX1_learn 58 = .ok (.iload 4, 2) := by decide +kernel
theorem dX1_learn_60 : decode cX1_learn 60 = .ok (.iload_n 3, 1) := by decide +kernel
theorem dX1_learn_61 : decode cX1_learn 61 = .ok (.if_icmp .ge 31, 3) := by decide +kernel
theorem dX1_learn_64 : decode cX1_learn 64 = .ok (.aload_n 0, 1) := by decide +kernel
theorem dX1_learn_65 : decode cX1_learn 65 = .ok (.getfield 9, 3) := by decide +kernel
theorem dX1_learn_68 : decode cX1_learn 68 = .ok (.aload_n 0, 1) := by decide +kernel
theorem dX1_learn_69 : decode cX1_learn 69 = .ok (.getfield 22, 3) := by decide +kernel
theorem dX1_learn_72 : decode cX1_learn 72 = .ok (.bipush 12, 2) := by decide +kernel
theorem dX1_learn_74 : decode cX1_learn 74 = .ok (.imul, 1) := by decide +kernel
theorem dX1_learn_75 : decode cX1_learn 75 = .ok (.iload 4, 2) := by decide +kernel
theorem dX1_learn_77 : decode cX1_learn 77 = .ok (.iadd, 1) := by decide +kernel
theorem dX1_learn_78 : decode cX1_learn 78 = .ok (.aload_n 1, 1) := by decide +kernel
theorem dX1_learn_79 : decode cX1_learn 79 = .ok (.iload 4, 2) := by decide +kernel
theorem dX1_learn_81 : decode cX1_learn 81 = .ok (.invokevirtual 59, 3) := by decide +kernel
theorem dX1_learn_84 : decode cX1_learn 84 = .ok (.i2b, 1) := by decide +kernel
theorem dX1_learn_85 : decode cX1_learn 85 = .ok (.bastore, 1) := by decide +kernel
theorem dX1_learn_86 : decode cX1_learn 86 = .ok (.iinc 4 1, 3) := by decide +kernel
theorem dX1_learn_89 : decode cX1_learn 89 = .ok (.goto (-31), 3) := by decide +kernel
theorem dX1_learn_92 : decode cX1_learn 92 = .ok (.aload_n 0, 1) := by decide +kernel
theorem dX1_learn_93 : decode cX1_learn 93 = .ok (.getfield 15, 3) := by decide +kernel
theorem dX1_learn_96 : decode cX1_learn 96 = .ok (.aload_n 0, 1) := by decide +kernel
theorem dX1_learn_97 : decode cX1_learn 97 = .ok (.getfield 22, 3) := by decide +kernel
theorem dX1_learn_100 : decode cX1_learn 100 = .ok (.iload_n 3, 1) := by decide +kernel
theorem dX1_learn_101 : decode cX1_learn 101 = .ok (.iastore, 1) := by decide +kernel
theorem dX1_learn_102 : decode cX1_learn 102 = .ok (.aload_n 0, 1) := by decide +kernel
theorem dX1_learn_103 : decode cX1_learn 103 = .ok (.getfield 19, 3) := by decide +kernel
theorem dX1_learn_106 : decode cX1_learn 106 = .ok (.aload_n 0, 1) := by decide +kernel
theorem dX1_learn_107 : decode cX1_learn 107 = .ok (.getfield 22, 3) := by decide +kernel
theorem dX1_learn_110 : decode cX1_learn 110 = .ok (.iload_n 2, 1) := by decide +kernel
theorem dX1_learn_111 : decode cX1_learn 111 = .ok (.iastore, 1) := by decide +kernel
theorem dX1_learn_112 : decode cX1_learn 112 = .ok (.aload_n 0, 1) := by decide +kernel
theorem dX1_learn_113 : decode cX1_learn 113 = .ok (.dup, 1) := by decide +kernel
theorem dX1_learn_114 : decode cX1_learn 114 = .ok (.getfield 22, 3) := by decide +kernel
theorem dX1_learn_117 : decode cX1_learn 117 = .ok (.iconst 1, 1) := by decide +kernel
theorem dX1_learn_118 : decode cX1_learn 118 = .ok (.iadd, 1) := by decide +kernel
theorem dX1_learn_119 : decode cX1_learn 119 = .ok (.putfield 22, 3) := by decide +kernel
theorem dX1_learn_122 : decode cX1_learn 122 = .ok (.aload_n 0, 1) := by decide +kernel
theorem dX1_learn_123 : decode cX1_learn 123 = .ok (.getfield 22, 3) := by decide +kernel
theorem dX1_learn_126 : decode cX1_learn 126 = .ok (.iconst 1, 1) := by decide +kernel
theorem dX1_learn_127 : decode cX1_learn 127 = .ok (.isub, 1) := by decide +kernel
theorem dX1_learn_128 : decode cX1_learn 128 = .ok (.ireturn, 1) := by decide +kernel
theorem dX1_knows_0 : decode cX1_knows 0 = .ok (.iconst 0, 1) := by decide +kernel
theorem dX1_knows_1 : decode cX1_knows 1 = .ok (.istore_n 2, 1) := by decide +kernel
theorem dX1_knows_2 : decode cX1_knows 2 = .ok (.iload_n 2, 1) := by decide +kernel
theorem dX1_knows_3 : decode cX1_knows 3 = .ok (.aload_n 0, 1) := by decide +kernel
theorem dX1_knows_4 : decode cX1_knows 4 = .ok (.getfield 22, 3) := by decide +kernel
theorem dX1_knows_7 : decode cX1_knows 7 = .ok (.if_icmp .ge 34, 3) := by decide +kernel
theorem dX1_knows_10 : decode cX1_knows 10 = .ok (.aload_n 0, 1) := by decide +kernel
theorem dX1_knows_11 : decode cX1_knows 11 = .ok (.getfield 15, 3) := by decide +kernel
theorem dX1_knows_14 : decode cX1_knows 14 = .ok (.iload_n 2, 1) := by decide +kernel
theorem dX1_knows_15 : decode cX1_knows 15 = .ok (.iaload, 1) := by decide +kernel
theorem dX1_knows_16 : decode cX1_knows 16 = .ok (.aload_n 1, 1) := by decide +kernel
theorem dX1_knows_17 : decode cX1_knows 17 = .ok (.invokevirtual 42, 3) := by decide +kernel
theorem dX1_knows_20 : decode cX1_knows 20 = .ok (.if_icmp .ne 15, 3) := by decide +kernel
theorem dX1_knows_23 : decode cX1_knows 23 = .ok (.aload_n 0, 1) := by decide +kernel
theorem dX1_knows_24 : decode cX1_knows 24 = .ok (.iload_n 2, 1) := by decide +kernel
theorem dX1_knows_25 : decode cX1_knows 25 = .ok (.aload_n 1, 1) := by decide +kernel
theorem dX1_knows_26 : decode cX1_knows 26 = .ok (.iconst 0, 1) := by decide +kernel
theorem dX1_knows_27 : decode cX1_knows 27 = .ok (.invokevirtual 63, 3) := by decide +kernel
theorem dX1_knows_30 : decode cX1_knows 30 = .ok (.ifCond .eq 5, 3) := by decide +kernel
theorem dX1_knows_33 : decode cX1_knows 33 = .ok (.iconst 1, 1) := by decide +kernel
theorem dX1_knows_34 : decode cX1_knows 34 = .ok (.ireturn, 1) := by decide +kernel
theorem dX1_knows_35 : decode cX1_knows 35 = .ok (.iinc 2 1, 3) := by decide +kernel
theorem dX1_knows_38 : decode cX1_knows 38 = .ok (.goto (-36), 3) := by decide +kernel
theorem dX1_knows_41 : decode cX1_knows 41 = .ok (.iconst 0, 1) := by decide +kernel
theorem dX1_knows_42 : decode cX1_knows 42 = .ok (.ireturn, 1) := by decide +kernel
theorem dX1_standsAt_0 : decode cX1_standsAt 0 = .ok (.iconst 0, 1) := by decide +kernel
theorem dX1_standsAt_1 : decode cX1_standsAt 1 = .ok (.istore 4, 2) := by decide +kernel
theorem dX1_standsAt_3 : decode cX1_standsAt 3 = .ok (.iload 4, 2) := by decide +kernel
theorem dX1_standsAt_5 : decode cX1_standsAt 5 = .ok (.aload_n 0, 1) := by decide +kernel
theorem dX1_standsAt_6 : decode cX1_standsAt 6 = .ok (.getfield 15, 3) := by decide +kernel
theorem dX1_standsAt_9 : decode cX1_standsAt 9 = .ok (.iload_n 1, 1) := by decide +kernel
theorem dX1_standsAt_10 : decode cX1_standsAt 10 = .ok (.iaload, 1) := by decide +kernel
theorem dX1_standsAt_11 : decode cX1_standsAt 11 = .ok (.if_icmp .ge 38, 3) := by decide +kernel
theorem dX1_standsAt_14 : decode cX1_standsAt 14 = .ok (.aload_n 0, 1) := by decide +kernel
theorem dX1_standsAt_15 : decode cX1_standsAt 15 = .ok (.getfield 9, 3) := by decide +kernel
theorem dX1_standsAt_18 : decode cX1_standsAt 18 = .ok (.iload_n 1, 1) := by decide +kernel
theorem dX1_standsAt_19 : decode cX1_standsAt 19 = .ok (.bipush 12, 2) := by decide +kernel
theorem dX1_standsAt_21 : decode cX1_standsAt 21 = .ok (.imul, 1) := by decide +kernel
theorem dX1_standsAt_22 : decode cX1_standsAt 22 = .ok (.iload 4, 2) := by decide +kernel
theorem dX1_standsAt_24 : decode cX1_standsAt 24 = .ok (.iadd, 1) := by decide +kernel
theorem dX1_standsAt_25 : decode cX1_standsAt 25 = .ok (.baload, 1) := by decide +kernel
theorem dX1_standsAt_26 : decode cX1_standsAt 26 = .ok (.sipush 255, 3) := by decide +kernel
theorem dX1_standsAt_29 : decode cX1_standsAt 29 = .ok (.iand, 1) := by decide +kernel
theorem dX1_standsAt_30 : decode cX1_standsAt 30 = .ok (.aload_n 2, 1) := by decide +kernel
theorem dX1_standsAt_31 : decode cX1_standsAt 31 = .ok (.iload_n 3, 1) := by decide +kernel
theorem dX1_standsAt_32 : decode cX1_standsAt 32 = .ok (.iload 4, 2) := by decide +kernel
theorem dX1_standsAt_34 : decode cX1_standsAt 34 = .ok (.iadd, 1) := by decide +kernel
theorem dX1_standsAt_35 : decode cX1_standsAt 35 = .ok (.invokevirtual 59, 3) := by decide +kernel
theorem dX1_standsAt_38 : decode cX1_standsAt 38 = .ok (.if_icmp .eq 5, 3) := by decide +kernel
theorem dX1_standsAt_41 : decode cX1_standsAt 41 = .ok (.iconst 0, 1) := by decide +kernel
theorem dX1_standsAt_42 : decode cX1_standsAt 42 = .ok (.ireturn, 1) := by decide +kernel
theorem dX1_standsAt_43 : decode cX1_standsAt 43 = .ok (.iinc 4 1, 3) := by decide +kernel
theorem dX1_standsAt_46 : decode cX1_standsAt 46 = .ok (.goto (-43), 3) := by decide +kernel
theorem dX1_standsAt_49 : decode cX1_standsAt 49 = .ok (.iconst 1, 1) := by decide +kernel
theorem dX1_standsAt_50 : decode cX1_standsAt 50 = .ok (.ireturn, 1) := by decide +kernel
theorem dX1_solve_0 : decode cX1_solve 0 = .ok (.iload_n 2, 1) := by decide +kernel
theorem dX1_solve_1 : decode cX1_solve 1 = .ok (.ifCond .lt 15, 3) := by decide +kernel
theorem dX1_solve_4 : decode cX1_solve 4 = .ok (.iload_n 3, 1) := by decide +kernel
theorem dX1_solve_5 : decode cX1_solve 5 = .ok (.iload_n 2, 1) := by decide +kernel
theorem dX1_solve_6 : decode cX1_solve 6 = .ok (.if_icmp .lt 10, 3) := by decide +kernel
theorem dX1_solve_9 : decode cX1_solve 9 = .ok (.iload_n 3, 1) := by decide +kernel
theorem dX1_solve_10 : decode cX1_solve 10 = .ok (.sipush 300, 3) := by decide +kernel
theorem dX1_solve_13 : decode cX1_solve 13 = .ok (.if_icmp .le 5, 3) := by decide +kernel
theorem dX1_solve_16 : decode cX1_solve 16 = .ok (.iconst (-1), 1) := by decide +kernel
theorem dX1_solve_17 : decode cX1_solve 17 = .ok (.ireturn, 1) := by decide +kernel
theorem dX1_solve_18 : decode cX1_solve 18 = .ok (.aload_n 0, 1) := by decide +kernel
theorem dX1_solve_19 : decode cX1_solve 19 = .ok (.getfield 29, 3) := by decide +kernel
theorem dX1_solve_22 : decode cX1_solve 22 = .ok (.iload_n 3, 1) := by decide +kernel
theorem dX1_solve_23 : decode cX1_solve 23 = .ok (.iconst 0, 1) := by decide +kernel
theorem dX1_solve_24 : decode cX1_solve 24 = .ok (.iastore, 1) := by decide +kernel
theorem dX1_solve_25 : decode cX1_solve 25 = .ok (.aload_n 0, 1) := by decide +kernel
theorem dX1_solve_26 : decode cX1_solve 26 = .ok (.getfield 32, 3) := by decide +kernel
theorem dX1_solve_29 : decode cX1_solve 29 = .ok (.iload_n 3, 1) := by decide +kernel
theorem dX1_solve_30 : decode cX1_solve 30 = .ok (.iconst 0, 1) := by decide +kernel
theorem dX1_solve_31 : decode cX1_solve 31 = .ok (.iastore, 1) := by decide +kernel
theorem dX1_solve_32 : decode cX1_solve 32 = .ok (.iload_n 3, 1) := by decide +kernel
theorem dX1_solve_33 : decode cX1_solve 33 = .ok (.iconst 1, 1) := by decide +kernel
theorem dX1_solve_34 : decode cX1_solve 34 = .ok (.isub, 1) := by decide +kernel
theorem dX1_solve_35 : decode cX1_solve 35 = .ok (.istore 4, 2) := by decide +kernel
theorem dX1_solve_37 : decode cX1_solve 37 = .ok (.iload 4, 2) := by decide +kernel
theorem dX1_solve_39 : decode cX1_solve 39 = .ok (.iload_n 2, 1) := by decide +kernel
theorem dX1_solve_40 : decode cX1_solve 40 = .ok (.if_icmp .lt 17, 3) := by decide +kernel
theorem dX1_solve_43 : decode cX1_solve 43 = .ok (.aload_n 0, 1) := by decide +kernel
theorem dX1_solve_44 : decode cX1_solve 44 = .ok (.aload_n 1, 1) := by decide +kernel
theorem dX1_solve_45 : decode cX1_solve 45 = .ok (.iload 4, 2) := by decide +kernel
theorem dX1_solve_47 : decode cX1_solve 47 = .ok (.iload_n 3, 1) := by decide +kernel
theorem dX1_solve_48 : decode cX1_solve 48 = .ok (.invokevirtual 67, 3) := by decide +kernel
theorem dX1_solve_51 : decode cX1_solve 51 = .ok (.iinc 4 (-1), 3) := by decide +kernel
theorem dX1_solve_54 : decode cX1_solve 54 = .ok (.goto (-17), 3) := by decide +kernel
theorem dX1_solve_57 : decode cX1_solve 57 = .ok (.aload_n 0, 1) := by decide +kernel
theorem dX1_solve_58 : decode cX1_solve 58 = .ok (.getfield 29, 3) := by decide +kernel
theorem dX1_solve_61 : decode cX1_solve 61 = .ok (.iload_n 2, 1) := by decide +kernel
theorem dX1_solve_62 : decode cX1_solve 62 = .ok (.iaload, 1) := by decide +kernel
theorem dX1_solve_63 : decode cX1_solve 63 = .ok (.ireturn, 1) := by decide +kernel
theorem dX1_choose_0 : decode cX1_choose 0 = .ok (.aload_n 0, 1) := by decide +kernel
theorem dX1_choose_1 : decode cX1_choose 1 = .ok (.getfield 29, 3) := by decide +kernel
theorem dX1_choose_4 : decode cX1_choose 4 = .ok (.iload_n 2, 1) := by decide +kernel
theorem dX1_choose_5 : decode cX1_choose 5 = .ok (.aload_n 0, 1) := by decide +kernel
theorem dX1_choose_6 : decode cX1_choose 6 = .ok (.getfield 26, 3) := by decide +kernel
theorem dX1_choose_9 : decode cX1_choose 9 = .ok (.aload_n 0, 1) := by decide +kernel
theorem dX1_choose_10 : decode cX1_choose 10 = .ok (.getfield 29, 3) := by decide +kernel
theorem dX1_choose_13 : decode cX1_choose 13 = .ok (.iload_n 2, 1) := by decide +kernel
theorem dX1_choose_14 : decode cX1_choose 14 = .ok (.iconst 1, 1) := by decide +kernel
theorem dX1_choose_15 : decode cX1_choose 15 = .ok (.iadd, 1) := by decide +kernel
theorem dX1_choose_16 : decode cX1_choose 16 = .ok (.iaload, 1) := by decide +kernel
theorem dX1_choose_17 : decode cX1_choose 17 = .ok (.iadd, 1) := by decide +kernel
theorem dX1_choose_18 : decode cX1_choose 18 = .ok (.iastore, 1) := by decide +kernel
theorem dX1_choose_19 : decode cX1_choose 19 = .ok (.aload_n 0, 1) := by decide +kernel
theorem dX1_choose_20 : decode cX1_choose 20 = .ok (.getfield 32, 3) := by decide +kernel
theorem dX1_choose_23 : decode cX1_choose 23 = .ok (.iload_n 2, 1) := by decide +kernel
theorem dX1_choose_24 : decode cX1_choose 24 = .ok (.iconst 1, 1) := by decide +kernel
theorem dX1_choose_25 : decode cX1_choose 25 = .ok (.aload_n 0, 1) := by decide +kernel
theorem dX1_choose_26 : decode cX1_choose 26 = .ok (.getfield 32, 3) := by decide +kernel
theorem dX1_choose_29 : decode cX1_choose 29 = .ok (.iload_n 2, 1) := by decide +kernel
theorem dX1_choose_30 : decode cX1_choose 30 = .ok (.iconst 1, 1) := by decide +kernel
theorem dX1_choose_31 : decode cX1_choose 31 = .ok (.iadd, 1) := by decide +kernel
theorem dX1_choose_32 : decode cX1_choose 32 = .ok (.iaload, 1) := by decide +kernel
theorem dX1_choose_33 : decode cX1_choose 33 = .ok (.iadd, 1) := by decide +kernel
theorem dX1_choose_34 : decode cX1_choose 34 = .ok (.iastore, 1) := by decide +kernel
theorem dX1_choose_35 : decode cX1_choose 35 = .ok (.aload_n 0, 1) := by decide +kernel
theorem dX1_choose_36 : decode cX1_choose 36 = .ok (.getfield 35, 3) := by decide +kernel
theorem dX1_choose_39 : decode cX1_choose 39 = .ok (.iload_n 2, 1) := by decide +kernel
theorem dX1_choose_40 : decode cX1_choose 40 = .ok (.iconst 1, 1) := by decide +kernel
theorem dX1_choose_41 : decode cX1_choose 41 = .ok (.iastore, 1) := by decide +kernel
theorem dX1_choose_42 : decode cX1_choose 42 = .ok (.iconst 0, 1) := by decide +kernel
theorem dX1_choose_43 : decode cX1_choose 43 = .ok (.istore 4, 2) := by decide +kernel
theorem dX1_choose_45 : decode cX1_choose 45 = .ok (.iconst 0, 1) := by decide +kernel
theorem dX1_choose_46 : decode cX1_choose 46 = .ok (.istore 5, 2) := by decide +kernel
theorem dX1_choose_48 : decode cX1_choose 48 = .ok (.iload 5, 2) := by decide +kernel
theorem dX1_choose_50 : decode cX1_choose 50 = .ok (.aload_n 0, 1) := by decide +kernel
theorem dX1_choose_51 : decode cX1_choose 51 = .ok (.getfield 22, 3) := by decide +kernel
theorem dX1_choose_54 : decode cX1_choose 54 = .ok (.if_icmp .ge 75, 3) := by decide +kernel
theorem dX1_choose_57 : decode cX1_choose 57 = .ok (.aload_n 0, 1) := by decide +kernel
theorem dX1_choose_58 : decode cX1_choose 58 = .ok (.getfield 15, 3) := by decide +kernel
theorem dX1_choose_61 : decode cX1_choose 61 = .ok (.iload 5, 2) := by decide +kernel
theorem dX1_choose_63 : decode cX1_choose 63 = .ok (.iaload, 1) := by decide +kernel
theorem dX1_choose_64 : decode cX1_choose 64 = .ok (.iload_n 3, 1) := by decide +kernel
theorem dX1_choose_65 : decode cX1_choose 65 = .ok (.iload_n 2, 1) := by decide +kernel
theorem dX1_choose_66 : decode cX1_choose 66 = .ok (.isub, 1) := by decide +kernel
theorem dX1_choose_67 : decode cX1_choose 67 = .ok (.if_icmp .gt 56, 3) := by decide +kernel
theorem dX1_choose_70 : decode cX1_choose 70 = .ok (.aload_n 0, 1) := by decide +kernel
theorem dX1_choose_71 : decode cX1_choose 71 = .ok (.iload 5, 2) := by decide +kernel
theorem dX1_choose_73 : decode cX1_choose 73 = .ok (.aload_n 1, 1) := by decide +kernel
theorem dX1_choose_74 : decode cX1_choose 74 = .ok (.iload_n 2, 1) := by decide +kernel
theorem dX1_choose_75 : decode cX1_choose 75 = .ok (.invokevirtual 63, 3) := by decide +kernel
theorem dX1_choose_78 : decode cX1_choose 78 = .ok (.ifCond .eq 45, 3) := by decide +kernel
theorem dX1_choose_81 : decode cX1_choose 81 = .ok (.iload 4, 2) := by decide +kernel
theorem dX1_choose_83 : decode cX1_choose 83 = .ok (.ifCond .ne 14, 3) := by decide +kernel
theorem dX1_choose_86 : decode cX1_choose 86 = .ok (.aload_n 0, 1) := by decide +kernel
theorem dX1_choose_87 : decode cX1_choose 87 = .ok (.getfield 15, 3) := by decide +kernel
theorem dX1_choose_90 : decode cX1_choose 90 = .ok (.iload 5, 2) := by decide +kernel
theorem dX1_choose_92 : decode cX1_choose 92 = .ok (.iaload, 1) := by decide +kernel
theorem dX1_choose_93 : decode cX1_choose 93 = .ok (.iconst 1, 1) := by decide +kernel
theorem dX1_choose_94 : decode cX1_choose 94 = .ok (.if_icmp .ne 7, 3) := by decide +kernel
theorem dX1_choose_97 : decode cX1_choose 97 = .ok (.iconst 1, 1) := by decide +kernel
theorem dX1_choose_98 : decode cX1_choose 98 = .ok (.goto 4, 3) := by decide +kernel
theorem dX1_choose_101 : decode cX1_choose 101 = .ok (.iconst 0, 1) := by decide +kernel
theorem dX1_choose_102 : decode cX1_choose 102 = .ok (.istore 4, 2) := by decide +kernel
theorem dX1_choose_104 : decode cX1_choose 104 = .ok (.aload_n 0, 1) := by decide +kernel
theorem dX1_choose_105 : decode cX1_choose 105 = .ok (.iload_n 2, 1) := by decide +kernel
theorem dX1_choose_106 : decode cX1_choose 106 = .ok (.aload_n 0, 1) := by decide +kernel
theorem dX1_choose_107 : decode cX1_choose 107 = .ok (.getfield 15, 3) := by decide +kernel
theorem dX1_choose_110 : decode cX1_choose 110 = .ok (.iload 5, 2) := by decide +kernel
theorem dX1_choose_112 : decode cX1_choose 112 = .ok (.iaload, 1) := by decide +kernel
theorem dX1_choose_113 : decode cX1_choose 113 = .ok (.aload_n 0, 1) := by decide +kernel
theorem dX1_choose_114 : decode cX1_choose 114 = .ok (.getfield 19, 3) := by decide +kernel
theorem dX1_choose_117 : decode cX1_choose 117 = .ok (.iload 5, 2) := by decide +kernel
theorem dX1_choose_119 : decode cX1_choose 119 = .ok (.iaload, 1) := by decide +kernel
theorem dX1_choose_120 : decode cX1_choose 120 = .ok (.invokevirtual 71, 3) := by decide +kernel
theorem dX1_choose_123 : decode cX1_choose 123 = .ok (.iinc 5 1, 3) := by decide +kernel
theorem dX1_choose_126 : decode cX1_choose 126 = .ok (.goto (-78), 3) := by decide +kernel
theorem dX1_choose_129 : decode cX1_choose 129 = .ok (.aload_n 0, 1) := by decide +kernel
theorem dX1_choose_130 : decode cX1_choose 130 = .ok (.getfield 38, 3) := by decide +kernel
theorem dX1_choose_133 : decode cX1_choose 133 = .ok (.iload_n 2, 1) := by decide +kernel
theorem dX1_choose_134 : decode cX1_choose 134 = .ok (.aload_n 0, 1) := by decide +kernel
theorem dX1_choose_135 : decode cX1_choose 135 = .ok (.getfield 35, 3) := by decide +kernel
theorem dX1_choose_138 : decode cX1_choose 138 = .ok (.iload_n 2, 1) := by decide +kernel
theorem dX1_choose_139 : decode cX1_choose 139 = .ok (.iaload, 1) := by decide +kernel
theorem dX1_choose_140 : decode cX1_choose 140 = .ok (.iconst 1, 1) := by decide +kernel
theorem dX1_choose_141 : decode cX1_choose 141 = .ok (.if_icmp .ne 12, 3) := by decide +kernel
theorem dX1_choose_144 : decode cX1_choose 144 = .ok (.iload 4, 2) := by decide +kernel
theorem dX1_choose_146 : decode cX1_choose 146 = .ok (.ifCond .ne 7, 3) := by decide +kernel
theorem dX1_choose_149 : decode cX1_choose 149 = .ok (.iconst 1, 1) := by decide +kernel
theorem dX1_choose_150 : decode cX1_choose 150 = .ok (.goto 4, 3) := by decide +kernel
theorem dX1_choose_153 : decode cX1_choose 153 = .ok (.iconst 0, 1) := by decide +kernel
theorem dX1_choose_154 : decode cX1_choose 154 = .ok (.bastore, 1) := by decide +kernel
theorem dX1_choose_155 : decode cX1_choose 155 = .ok (.return_, 1) := by decide +kernel
theorem dX1_tryPiece_0 : decode cX1_tryPiece 0 = .ok (.iload_n 3, 1) := by decide +kernel
theorem dX1_tryPiece_1 : decode cX1_tryPiece 1 = .ok (.aload_n 0, 1) := by decide +kernel
theorem dX1_tryPiece_2 : decode cX1_tryPiece 2 = .ok (.getfield 29, 3) := by decide +kernel
theorem dX1_tryPiece_5 : decode cX1_tryPiece 5 = .ok (.iload_n 1, 1) := by decide +kernel
theorem dX1_tryPiece_6 : decode cX1_tryPiece 6 = .ok (.iload_n 2, 1) := by decide +kernel
theorem dX1_tryPiece_7 : decode cX1_tryPiece 7 = .ok (.iadd, 1) := by decide +kernel
theorem dX1_tryPiece_8 : decode cX1_tryPiece 8 = .ok (.iaload, 1) := by decide +kernel
theorem dX1_tryPiece_9 : decode cX1_tryPiece 9 = .ok (.iadd, 1) := by decide +kernel
theorem dX1_tryPiece_10 : decode cX1_tryPiece 10 = .ok (.istore 4, 2) := by decide +kernel
theorem dX1_tryPiece_12 : decode cX1_tryPiece 12 = .ok (.iconst 1, 1) := by decide +kernel
theorem dX1_tryPiece_13 : decode cX1_tryPiece 13 = .ok (.aload_n 0, 1) := by decide +kernel
theorem dX1_tryPiece_14 : decode cX1_tryPiece 14 = .ok (.getfield 32, 3) := by decide +kernel
theorem dX1_tryPiece_17 : decode cX1_tryPiece 17 = .ok (.iload_n 1, 1) := by decide +kernel
theorem dX1_tryPiece_18 : decode cX1_tryPiece 18 = .ok (.iload_n 2, 1) := by decide +kernel
theorem dX1_tryPiece_19 : decode cX1_tryPiece 19 = .ok (.iadd, 1) := by decide +kernel
theorem dX1_tryPiece_20 : decode cX1_tryPiece 20 = .ok (.iaload, 1) := by decide +kernel
theorem dX1_tryPiece_21 : decode cX1_tryPiece 21 = .ok (.iadd, 1) := by decide +kernel
theorem dX1_tryPiece_22 : decode cX1_tryPiece 22 = .ok (.istore 5, 2) := by decide +kernel
theorem dX1_tryPiece_24 : decode cX1_tryPiece 24 = .ok (.iload 4, 2) := by decide +kernel
theorem dX1_tryPiece_26 : decode cX1_tryPiece 26 = .ok (.aload_n 0, 1) := by decide +kernel
theorem dX1_tryPiece_27 : decode cX1_tryPiece 27 = .ok (.getfield 29, 3) := by decide +kernel
theorem dX1_tryPiece_30 : decode cX1_tryPiece 30 = .ok (.iload_n 1, 1) := by decide +kernel
theorem dX1_tryPiece_31 : decode cX1_tryPiece 31 = .ok (.iaload, 1) := by decide +kernel
theorem dX1_tryPiece_32 : decode cX1_tryPiece 32 = .ok (.if_icmp .ge 7, 3) := by decide +kernel
theorem dX1_tryPiece_35 : decode cX1_tryPiece 35 = .ok (.iconst 1, 1) := by decide +kernel
theorem dX1_tryPiece_36 : decode cX1_tryPiece 36 = .ok (.goto 4, 3) := by decide +kernel
theorem dX1_tryPiece_39 : decode cX1_tryPiece 39 = .ok (.iconst 0, 1) := by decide +kernel
theorem dX1_tryPiece_40 : decode cX1_tryPiece 40 = .ok (.istore 6, 2) := by decide +kernel
theorem dX1_tryPiece_42 : decode cX1_tryPiece 42 = .ok (.iload 4, 2) := by decide +kernel
theorem dX1_tryPiece_44 : decode cX1_tryPiece 44 = .ok (.aload_n 0, 1) := by decide +kernel
theorem dX1_tryPiece_45 : decode cX1_tryPiece 45 = .ok (.getfield 29, 3) := by decide +kernel
theorem dX1_tryPiece_48 : decode cX1_tryPiece 48 = .ok (.iload_n 1, 1) := by decide +kernel
theorem dX1_tryPiece_49 : decode cX1_tryPiece 49 = .ok (.iaload, 1) := by decide +kernel
theorem dX1_tryPiece_50 : decode cX1_tryPiece 50 = .ok (.if_icmp .ne 42, 3) := by decide +kernel
theorem dX1_tryPiece_53 : decode cX1_tryPiece 53 = .ok (.iload 5, 2) := by decide +kernel
theorem dX1_tryPiece_55 : decode cX1_tryPiece 55 = .ok (.aload_n 0, 1) := by decide +kernel
theorem dX1_tryPiece_56 : decode cX1_tryPiece 56 = .ok (.getfield 32, 3) := by decide +kernel
theorem dX1_tryPiece_59 : decode cX1_tryPiece 59 = .ok (.iload_n 1, 1) := by decide +kernel
theorem dX1_tryPiece_60 : decode cX1_tryPiece 60 = .ok (.iaload, 1) := by decide +kernel
theorem dX1_tryPiece_61 : decode cX1_tryPiece 61 = .ok (.if_icmp .lt 24, 3) := by decide +kernel
theorem dX1_tryPiece_64 : decode cX1_tryPiece 64 = .ok (.iload 5, 2) := by decide +kernel
theorem dX1_tryPiece_66 : decode cX1_tryPiece 66 = .ok (.aload_n 0, 1) := by decide +kernel
theorem dX1_tryPiece_67 : decode cX1_tryPiece 67 = .ok (.getfield 32, 3) := by decide +kernel
theorem dX1_tryPiece_70 : decode cX1_tryPiece 70 = .ok (.iload_n 1, 1) := by decide +kernel
theorem dX1_tryPiece_71 : decode cX1_tryPiece 71 = .ok (.iaload, 1) := by decide +kernel
theorem dX1_tryPiece_72 : decode cX1_tryPiece 72 = .ok (.if_icmp .ne 17, 3) := by decide +kernel
theorem dX1_tryPiece_75 : decode cX1_tryPiece 75 = .ok (.iload_n 2, 1) := by decide +kernel
theorem dX1_tryPiece_76 : decode cX1_tryPiece 76 = .ok (.aload_n 0, 1) := by decide +kernel
theorem dX1_tryPiece_77 : decode cX1_tryPiece 77 = .ok (.getfield 35, 3) := by decide +kernel
theorem dX1_tryPiece_80 : decode cX1_tryPiece 80 = .ok (.iload_n 1, 1) := by decide +kernel
theorem dX1_tryPiece_81 : decode cX1_tryPiece 81 = .ok (.iaload, 1) := by decide +kernel
theorem dX1_tryPiece_82 : decode cX1_tryPiece 82 = .ok (.if_icmp .le 7, 3) := by decide +kernel
theorem dX1_tryPiece_85 : decode cX1_tryPiece 85 = .ok (.iconst 1, 1) := by decide +kernel
theorem dX1_tryPiece_86 : decode cX1_tryPiece 86 = .ok (.goto 4, 3) := by decide +kernel
theorem dX1_tryPiece_89 : decode cX1_tryPiece 89 = .ok (.iconst 0, 1) := by decide +kernel
theorem dX1_tryPiece_90 : decode cX1_tryPiece 90 = .ok (.istore 6, 2) := by decide +kernel
theorem dX1_tryPiece_92 : decode cX1_tryPiece 92 = .ok (.iload 6, 2) := by decide +kernel
theorem dX1_tryPiece_94 : decode cX1_tryPiece 94 = .ok (.ifCond .eq 26, 3) := by decide +kernel
theorem dX1_tryPiece_97 : decode cX1_tryPiece 97 = .ok (.aload_n 0, 1) := by decide +kernel
theorem dX1_tryPiece_98 : decode cX1_tryPiece 98 = .ok (.getfield 29, 3) := by decide +kernel
theorem dX1_tryPiece_101 : decode cX1_tryPiece 101 = .ok (.iload_n 1, 1) := by decide +kernel
theorem dX1_tryPiece_102 : decode cX1_tryPiece 102 = .ok (.iload 4, 2) := by decide +kernel
theorem dX1_tryPiece_104 : decode cX1_tryPiece 104 = .ok (.iastore, 1) := by decide +kernel
theorem dX1_tryPiece_105 : decode cX1_tryPiece 105 = .ok (.aload_n 0, 1) := by decide +kernel
theorem dX1_tryPiece_106 : decode cX1_tryPiece 106 = .ok (.getfield 32, 3) := by decide +kernel
theorem dX1_tryPiece_109 : decode cX1_tryPiece 109 = .ok (.iload_n 1, 1) := by decide +kernel
theorem dX1_tryPiece_110 : decode cX1_tryPiece 110 = .ok (.iload 5, 2) := by decide +kernel
theorem dX1_tryPiece_112 : decode cX1_tryPiece 112 = .ok (.iastore, 1) := by decide +kernel
theorem dX1_tryPiece_113 : decode cX1_tryPiece 113 = .ok (.aload_n 0, 1) := by decide +kernel
theorem dX1_tryPiece_114 : decode cX1_tryPiece 114 = .ok (.getfield 35, 3) := by decide +kernel
theorem dX1_tryPiece_117 : decode cX1_tryPiece 117 = .ok (.iload_n 1, 1) := by decide +kernel
theorem dX1_tryPiece_118 : decode cX1_tryPiece 118 = .ok (.iload_n 2, 1) := by decide +kernel
theorem dX1_tryPiece_119 : decode cX1_tryPiece 119 = .ok (.iastore, 1) := by decide +kernel
theorem dX1_tryPiece_120 : decode cX1_tryPiece 120 = .ok (.return_, 1) := by decide +kernel
theorem dX1_pieceAt_0 : decode cX1_pieceAt 0 = .ok (.iload_n 1, 1) := by decide +kernel
theorem dX1_pieceAt_1 : decode cX1_pieceAt 1 = .ok (.ifCond .lt 19, 3) := by decide +kernel
theorem dX1_pieceAt_4 : decode cX1_pieceAt 4 = .ok (.iload_n 1, 1) := by decide +kernel
theorem dX1_pieceAt_5 : decode cX1_pieceAt 5 = .ok (.sipush 300, 3) := by decide +kernel
theorem dX1_pieceAt_8 : decode cX1_pieceAt 8 = .ok (.if_icmp .gt 12, 3) := by decide +kernel
theorem dX1_pieceAt_11 : decode cX1_pieceAt 11 = .ok (.aload_n 0, 1) := by decide +kernel
theorem dX1_pieceAt_12 : decode cX1_pieceAt 12 = .ok (.getfield 35, 3) := by decide +kernel
theorem dX1_pieceAt_15 : decode cX1_pieceAt 15 = .ok (.iload_n 1, 1) := by decide +kernel
theorem dX1_pieceAt_16 : decode cX1_pieceAt 16 = .ok (.iaload, 1) := by decide +kernel
theorem dX1_pieceAt_17 : decode cX1_pieceAt 17 = .ok (.goto 4, 3) := by decide +kernel
theorem dX1_pieceAt_20 : decode cX1_pieceAt 20 = .ok (.iconst 0, 1) := by decide +kernel
theorem dX1_pieceAt_21 : decode cX1_pieceAt 21 = .ok (.ireturn, 1) := by decide +kernel
theorem dX1_isStrangeAt_0 : decode cX1_isStrangeAt 0 = .ok (.iload_n 1, 1) := by decide +kernel
theorem dX1_isStrangeAt_1 : decode cX1_isStrangeAt 1 = .ok (.ifCond .lt 23, 3) := by decide +kernel
theorem dX1_isStrangeAt_4 : decode cX1_isStrangeAt 4 = .ok (.iload_n 1, 1) := by decide +kernel
theorem dX1_isStrangeAt_5 : decode cX1_isStrangeAt 5 = .ok (.sipush 300, 3) := by decide +kernel
theorem dX1_isStrangeAt_8 : decode cX1_isStrangeAt 8 = .ok (.if_icmp .gt 16, 3) := by decide +kernel
theorem dX1_isStrangeAt_11 : decode cX1_isStrangeAt 11 = .ok (.aload_n 0, 1) := by decide +kernel
theorem dX1_isStrangeAt_12 : decode cX1_isStrangeAt 12 = .ok (.getfield 38, 3) := by decide +kernel
theorem dX1_isStrangeAt_15 : decode cX1_isStrangeAt 15 = .ok (.iload_n 1, 1) := by decide +kernel
theorem dX1_isStrangeAt_16 : decode cX1_isStrangeAt 16 = .ok (.baload, 1) := by decide +kernel
theorem dX1_isStrangeAt_17 : decode cX1_isStrangeAt 17 = .ok (.ifCond .eq 7, 3) := by decide +kernel
theorem dX1_isStrangeAt_20 : decode cX1_isStrangeAt 20 = .ok (.iconst 1, 1) := by decide +kernel
theorem dX1_isStrangeAt_21 : decode cX1_isStrangeAt 21 = .ok (.goto 4, 3) := by decide +kernel
theorem dX1_isStrangeAt_24 : decode cX1_isStrangeAt 24 = .ok (.iconst 0, 1) := by decide +kernel
theorem dX1_isStrangeAt_25 : decode cX1_isStrangeAt 25 = .ok (.ireturn, 1) := by decide +kernel
theorem dX2_init_0 : decode cX2_init 0 = .ok (.aload_n 0, 1) := by decide +kernel
theorem dX2_init_1 : decode cX2_init 1 = .ok (.invokespecial 3, 3) := by decide +kernel
theorem dX2_init_4 : decode cX2_init 4 = .ok (.aload_n 0, 1) := by decide +kernel
theorem dX2_init_5 : decode cX2_init 5 = .ok (.sipush 400, 3) := by decide +kernel
theorem dX2_init_8 : decode cX2_init 8 = .ok (.newarray .int, 2) := by decide +kernel
theorem dX2_init_10 : decode cX2_init 10 = .ok (.putfield 9, 3) := by decide +kernel
theorem dX2_init_13 : decode cX2_init 13 = .ok (.aload_n 0, 1) := by decide +kernel
theorem dX2_init_14 : decode cX2_init 14 = .ok (.sipush 400, 3) := by decide +kernel
theorem dX2_init_17 : decode cX2_init 17 = .ok (.newarray .int, 2) := by decide +kernel
theorem dX2_init_19 : decode cX2_init 19 = .ok (.putfield 15, 3) := by decide +kernel
theorem dX2_init_22 : decode cX2_init 22 = .ok (.aload_n 0, 1) := by decide +kernel
theorem dX2_init_23 : decode cX2_init 23 = .ok (.sipush 400, 3) := by decide +kernel
theorem dX2_init_26 : decode cX2_init 26 = .ok (.newarray .int, 2) := by decide +kernel
theorem dX2_init_28 : decode cX2_init 28 = .ok (.putfield 18, 3) := by decide +kernel
theorem dX2_init_31 : decode cX2_init 31 = .ok (.aload_n 0, 1) := by decide +kernel
theorem dX2_init_32 : decode cX2_init 32 = .ok (.sipush 300, 3) := by decide +kernel
theorem dX2_init_35 : decode cX2_init 35 = .ok (.putfield 21, 3) := by decide +kernel
theorem dX2_init_38 : decode cX2_init 38 = .ok (.aload_n 0, 1) := by decide +kernel
theorem dX2_init_39 : decode cX2_init 39 = .ok (.iconst 0, 1) := by decide +kernel
theorem dX2_init_40 : decode cX2_init 40 = .ok (.putfield 25, 3) := by decide +kernel
theorem dX2_init_43 : decode cX2_init 43 = .ok (.aload_n 0, 1) := by decide +kernel
theorem dX2_init_44 : decode cX2_init 44 = .ok (.iconst 0, 1) := by decide +kernel
theorem dX2_init_45 : decode cX2_init 45 = .ok (.putfield 28, 3) := by decide +kernel
theorem dX2_init_48 : decode cX2_init 48 = .ok (.aload_n 0, 1) := by decide +kernel
theorem dX2_init_49 : decode cX2_init 49 = .ok (.iconst 0, 1) := by decide +kernel
theorem dX2_init_50 : decode cX2_init 50 = .ok (.putfield 31, 3) := by decide +kernel
theorem dX2_init_53 : decode cX2_init 53 = .ok (.aload_n 0, 1) := by decide +kernel
theorem dX2_init_54 : decode cX2_init 54 = .ok (.iconst 0, 1) := by decide +kernel
theorem dX2_init_55 : decode cX2_init 55 = .ok (.putfield 35, 3) := by decide +kernel
theorem dX2_init_58 : decode cX2_init 58 = .ok (.aload_n 0, 1) := by decide +kernel
theorem dX2_init_59 : decode cX2_init 59 = .ok (.iconst (-1), 1) := by decide +kernel
theorem dX2_init_60 : decode cX2_init 60 = .ok (.putfield 38, 3) := by decide +kernel
theorem dX2_init_63 : decode cX2_init 63 = .ok (.aload_n 0, 1) := by decide +kernel
theorem dX2_init_64 : decode cX2_init 64 = .ok (.iconst (-1), 1) := by decide +kernel
theorem dX2_init_65 : decode cX2_init 65 = .ok (.putfield 41, 3) := by decide +kernel
theorem dX2_init_68 : decode cX2_init 68 = .ok (.return_, 1) := by decide +kernel
theorem dX2_size_0 : decode cX2_size 0 = .ok (.aload_n 0, 1) := by decide +kernel
theorem dX2_size_1 : decode cX2_size 1 = .ok (.getfield 28, 3) := by decide +kernel
theorem dX2_size_4 : decode cX2_size 4 = .ok (.ireturn, 1) := by decide +kernel
theorem dX2_isOver_0 : decode cX2_isOver 0 = .ok (.aload_n 0, 1) := by decide +kernel
theorem dX2_isOver_1 : decode cX2_isOver 1 = .ok (.getfield 31, 3) := by decide +kernel
theorem dX2_isOver_4 : decode cX2_isOver 4 = .ok (.ireturn, 1) := by decide +kernel
theorem dX2_has_0 : decode cX2_has 0 = .ok (.iload_n 1, 1) := by decide +kernel
theorem dX2_has_1 : decode cX2_has 1 = .ok (.ifCond .lt 15, 3) := by decide +kernel
theorem dX2_has_4 : decode cX2_has 4 = .ok (.iload_n 1, 1) := by decide +kernel
theorem dX2_has_5 : decode cX2_has 5 = .ok (.aload_n 0, 1) := by decide +kernel
theorem dX2_has_6 : decode cX2_has 6 = .ok (.getfield 28, 3) := by decide +kernel
theorem dX2_has_9 : decode cX2_has 9 = .ok (.if_icmp .ge 7, 3) := by decide +kernel
theorem dX2_has_12 : decode cX2_has 12 = .ok (.iconst 1, 1) := by decide +kernel
theorem dX2_has_13 : decode cX2_has 13 = .ok (.goto 4, 3) := by decide +kernel
theorem dX2_has_16 : decode cX2_has 16 = .ok (.iconst 0, 1) := by decide +kernel
theorem dX2_has_17 : decode cX2_has 17 = .ok (.ireturn, 1) := by decide +kernel
theorem dX2_placeOf_0 : decode cX2_placeOf 0 = .ok (.aload_n 0, 1) := by decide +kernel
theorem dX2_placeOf_1 : decode cX2_placeOf 1 = .ok (.iload_n 1, 1) := by decide +kernel
theorem dX2_placeOf_2 : decode cX2_placeOf 2 = .ok (.invokevirtual 44, 3) := by decide +kernel
theorem dX2_placeOf_5 : decode cX2_placeOf 5 = .ok (.ifCond .eq 12, 3) := by decide +kernel
theorem dX2_placeOf_8 : decode cX2_placeOf 8 = .ok (.aload_n 0, 1) := by decide +kernel
theorem dX2_placeOf_9 : decode cX2_placeOf 9 = .ok (.getfield 9, 3) := by decide +kernel
theorem dX2_placeOf_12 : decode cX2_placeOf 12 = .ok (.iload_n 1, 1) := by decide +kernel
theorem dX2_placeOf_13 : decode cX2_placeOf 13 = .ok (.iaload, 1) := by decide +kernel
theorem dX2_placeOf_14 : decode cX2_placeOf 14 = .ok (.goto 4, 3) := by decide +kernel
theorem dX2_placeOf_17 : decode cX2_placeOf 17 = .ok (.iconst (-1), 1) := by decide +kernel
theorem dX2_placeOf_18 : decode cX2_placeOf 18 = .ok (.ireturn, 1) := by decide +kernel
theorem dX2_endOf_0 : decode cX2_endOf 0 = .ok (.aload_n 0, 1) := by decide +kernel
theorem dX2_endOf_1 : decode cX2_endOf 1 = .ok (.iload_n 1, 1) := by decide +kernel
theorem dX2_endOf_2 : decode cX2_endOf 2 = .ok (.invokevirtual 44, 3) := by decide +kernel
theorem dX2_endOf_5 : decode cX2_endOf 5 = .ok (.ifCond .eq 12, 3) := by decide +kernel
theorem dX2_endOf_8 : decode cX2_endOf 8 = .ok (.aload_n 0, 1) := by decide +kernel
theorem dX2_endOf_9 : decode cX2_endOf 9 = .ok (.getfield 15, 3) := by decide +kernel
theorem dX2_endOf_12 : decode cX2_endOf 12 = .ok (.iload_n 1, 1) := by decide +kernel
theorem dX2_endOf_13 : decode cX2_endOf 13 = .ok (.iaload, 1) := by decide +kernel
theorem dX2_endOf_14 : decode cX2_endOf 14 = .ok (.goto 4, 3) := by decide +kernel
theorem dX2_endOf_17 : decode cX2_endOf 17 = .ok (.iconst (-1), 1) := by decide +kernel
theorem dX2_endOf_18 : decode cX2_endOf 18 = .ok (.ireturn, 1) := by decide +kernel
theorem dX2_positionOf_0 : decode cX2_positionOf 0 = .ok (.aload_n 0, 1) := by decide +kernel
theorem dX2_positionOf_1 : decode cX2_positionOf 1 = .ok (.iload_n 1, 1) := by decide +kernel
theorem dX2_positionOf_2 : decode cX2_positionOf 2 = .ok (.invokevirtual 44, 3) := by decide +kernel
theorem dX2_positionOf_5 : decode cX2_positionOf 5 = .ok (.ifCond .eq 12, 3) := by decide +kernel
theorem dX2_positionOf_8 : decode cX2_positionOf 8 = .ok (.aload_n 0, 1) := by decide +kernel
theorem dX2_positionOf_9 : decode cX2_positionOf 9 = .ok (.getfield 18, 3) := by decide +kernel
theorem dX2_positionOf_12 : decode cX2_positionOf 12 = .ok (.iload_n 1, 1) := by decide +kernel
theorem dX2_positionOf_13 : decode cX2_positionOf 13 = .ok (.iaload, 1) := by decide +kernel
theorem dX2_positionOf_14 : decode cX2_positionOf 14 = .ok (.goto 4, 3) := by decide +kernel
theorem dX2_positionOf_17 : decode cX2_positionOf 17 = .ok (.iconst (-1), 1) := by decide +kernel
theorem dX2_positionOf_18 : decode cX2_positionOf 18 = .ok (.ireturn, 1) := by decide +kernel
theorem dX2_lengthOf_0 : decode cX2_lengthOf 0 = .ok (.aload_n 0, 1) := by decide +kernel
theorem dX2_lengthOf_1 : decode cX2_lengthOf 1 = .ok (.iload_n 1, 1) := by decide +kernel
theorem dX2_lengthOf_2 : decode cX2_lengthOf 2 = .ok (.invokevirtual 48, 3) := by decide +kernel
theorem dX2_lengthOf_5 : decode cX2_lengthOf 5 = .ok (.aload_n 0, 1) := by decide +kernel
theorem dX2_lengthOf_6 : decode cX2_lengthOf 6 = .ok (.iload_n 1, 1) := by decide +kernel
theorem dX2_lengthOf_7 : decode cX2_lengthOf 7 = .ok (.invokevirtual 52, 3) := by decide +kernel
theorem dX2_lengthOf_10 : decode cX2_lengthOf 10 = .ok (.isub, 1) := by decide +kernel
theorem dX2_lengthOf_11 : decode cX2_lengthOf 11 = .ok (.ireturn, 1) := by decide +kernel
theorem dX2_exchangeLimit_0 : decode cX2_exchangeLimit 0 = .ok (.aload_n 0, 1) := by decide +kernel
theorem dX2_exchangeLimit_1 : decode cX2_exchangeLimit 1 = .ok (.getfield 21, 3) := by decide +kernel
theorem dX2_exchangeLimit_4 : decode cX2_exchangeLimit 4 = .ok (.istore_n 3, 1) := by decide +kernel
theorem dX2_exchangeLimit_5 : decode cX2_exchangeLimit 5 = .ok (.aload_n 0, 1) := by decide +kernel
theorem dX2_exchangeLimit_6 : decode cX2_exchangeLimit 6 = .ok (.iload_n 1, 1) := by decide +kernel
theorem dX2_exchangeLimit_7 : decode cX2_exchangeLimit 7 = .ok (.putfield 21, 3) := by decide +kernel
theorem dX2_exchangeLimit_10 : decode cX2_exchangeLimit 10 = .ok (.aload_n 0, 1) := by decide +kernel
theorem dX2_exchangeLimit_11 : decode cX2_exchangeLimit 11 = .ok (.iload_n 2, 1) := by decide +kernel
theorem dX2_exchangeLimit_12 : decode cX2_exchangeLimit 12 = .ok (.putfield 25, 3) := by decide +kernel
theorem dX2_exchangeLimit_15 : decode cX2_exchangeLimit 15 = .ok (.iload_n 3, 1) := by decide +kernel
theorem dX2_exchangeLimit_16 : decode cX2_exchangeLimit 16 = .ok (.ireturn, 1) := by decide +kernel
theorem dX2_clear_0 : decode cX2_clear 0 = .ok (.aload_n 0, 1) := by decide +kernel
theorem dX2_clear_1 : decode cX2_clear 1 = .ok (.iconst 0, 1) := by decide +kernel
theorem dX2_clear_2 : decode cX2_clear 2 = .ok (.putfield 28, 3) := by decide +kernel
theorem dX2_clear_5 : decode cX2_clear 5 = .ok (.aload_n 0, 1) := by decide +kernel
theorem dX2_clear_6 : decode cX2_clear 6 = .ok (.iconst 0, 1) := by decide +kernel
theorem dX2_clear_7 : decode cX2_clear 7 = .ok (.putfield 31, 3) := by decide +kernel
theorem dX2_clear_10 : decode cX2_clear 10 = .ok (.return_, 1) := by decide +kernel
theorem dX2_begin_0 : decode cX2_begin 0 = .ok (.aload_n 0, 1) := by decide +kernel
theorem dX2_begin_1 : decode cX2_begin 1 = .ok (.invokevirtual 55, 3) := by decide +kernel
theorem dX2_begin_4 : decode cX2_begin 4 = .ok (.aload_n 0, 1) := by decide +kernel
theorem dX2_begin_5 : decode cX2_begin 5 = .ok (.iload_n 1, 1) := by decide +kernel
theorem dX2_begin_6 : decode cX2_begin 6 = .ok (.putfield 35, 3) := by decide +kernel
theorem dX2_begin_9 : decode cX2_begin 9 = .ok (.aload_n 0, 1) := by decide +kernel
theorem dX2_begin_10 : decode cX2_begin 10 = .ok (.iconst (-1), 1) := by decide +kernel
theorem dX2_begin_11 : decode cX2_begin 11 = .ok (.putfield 38, 3) := by decide +kernel
theorem dX2_begin_14 : decode cX2_begin 14 = .ok (.aload_n 0, 1) := by decide +kernel
theorem dX2_begin_15 : decode cX2_begin 15 = .ok (.iconst (-1), 1) := by decide +kernel
theorem dX2_begin_16 : decode cX2_begin 16 = .ok (.putfield 41, 3) := by decide +kernel
theorem dX2_begin_19 : decode cX2_begin 19 = .ok (.return_, 1) := by decide +kernel
theorem dX2_add_0 : decode cX2_add 0 = .ok (.aload_n 0, 1) := by decide +kernel
theorem dX2_add_1 : decode cX2_add 1 = .ok (.getfield 35, 3) := by decide +kernel
theorem dX2_add_4 : decode cX2_add 4 = .ok (.ifCond .eq 11, 3) := by decide +kernel
theorem dX2_add_7 : decode cX2_add 7 = .ok (.iload_n 1, 1) := by decide +kernel
theorem dX2_add_8 : decode cX2_add 8 = .ok (.aload_n 0, 1) := by decide +kernel
theorem dX2_add_9 : decode cX2_add 9 = .ok (.getfield 41, 3) := by decide +kernel
theorem dX2_add_12 : decode cX2_add 12 = .ok (.if_icmp .eq 13, 3) := by decide +kernel
theorem dX2_add_15 : decode cX2_add 15 = .ok (.aload_n 0, 1) := by decide +kernel
theorem dX2_add_16 : decode cX2_add 16 = .ok (.dup, 1) := by decide +kernel
theorem dX2_add_17 : decode cX2_add 17 = .ok (.getfield 38, 3) := by decide +kernel
theorem dX2_add_20 : decode cX2_add 20 = .ok (.iconst 1, 1) := by decide +kernel
theorem dX2_add_21 : decode cX2_add 21 = .ok (.iadd, 1) := by decide +kernel
theorem dX2_add_22 : decode cX2_add 22 = .ok (.putfield 38, 3) := by decide +kernel
theorem dX2_add_25 : decode cX2_add 25 = .ok (.aload_n 0, 1) := by decide +kernel
theorem dX2_add_26 : decode cX2_add 26 = .ok (.iload_n 1, 1) := by decide +kernel
theorem dX2_add_27 : decode cX2_add 27 = .ok (.putfield 41, 3) := by decide +kernel
theorem dX2_add_30 : decode cX2_add 30 = .ok (.iload_n 2, 1) := by decide +kernel
theorem dX2_add_31 : decode cX2_add 31 = .ok (.iload_n 1, 1) := by decide +kernel
theorem dX2_add_32 : decode cX2_add 32 = .ok (.isub, 1) := by decide +kernel
theorem dX2_add_33 : decode cX2_add 33 = .ok (.aload_n 0, 1) := by decide +kernel
theorem dX2_add_34 : decode cX2_add 34 = .ok (.getfield 21, 3) := by decide +kernel
theorem dX2_add_37 : decode cX2_add 37 = .ok (.if_icmp .gt 12, 3) := by decide +kernel
theorem dX2_add_40 : decode cX2_add 40 = .ok (.aload_n 0, 1) := by decide +kernel
theorem dX2_add_41 : decode cX2_add 41 = .ok (.iload_n 1, 1) := by decide +kernel
theorem dX2_add_42 : decode cX2_add 42 = .ok (.iload_n 2, 1) := by decide +kernel
theorem dX2_add_43 : decode cX2_add 43 = .ok (.invokevirtual 58, 3) := by decide +kernel
theorem dX2_add_46 : decode cX2_add 46 = .ok (.goto 16, 3) := by decide +kernel
theorem dX2_add_49 : decode cX2_add 49 = .ok (.aload_n 0, 1) := by decide +kernel
theorem dX2_add_50 : decode cX2_add 50 = .ok (.getfield 25, 3) := by decide +kernel
theorem dX2_add_53 : decode cX2_add 53 = .ok (.ifCond .ne 9, 3) := by decide +kernel
theorem dX2_add_56 : decode cX2_add 56 = .ok (.aload_n 0, 1) := by decide +kernel
theorem dX2_add_57 : decode cX2_add 57 = .ok (.iload_n 1, 1) := by decide +kernel
theorem dX2_add_58 : decode cX2_add 58 = .ok (.iload_n 2, 1) := by decide +kernel
theorem dX2_add_59 : decode cX2_add 59 = .ok (.invokevirtual 62, 3) := by decide +kernel
theorem dX2_add_62 : decode cX2_add 62 = .ok (.return_, 1) := by decide +kernel
theorem dX2_addCut_0 : decode cX2_addCut 0 = .ok (.iload_n 1, 1) := by decide +kernel
theorem dX2_addCut_1 : decode cX2_addCut 1 = .ok (.istore_n 3, 1) := by decide +kernel
theorem dX2_addCut_2 : decode cX2_addCut 2 = .ok (.iload_n 3, 1) := by decide +kernel
theorem dX2_addCut_3 : decode cX2_addCut 3 = .ok (.iload_n 2, 1) := by decide +kernel
theorem dX2_addCut_4 : decode cX2_addCut 4 = .ok (.if_icmp .ge 61, 3) := by decide +kernel
theorem dX2_addCut_7 : decode cX2_addCut 7 = .ok (.aload_n 0, 1) := by decide +kernel
theorem dX2_addCut_8 : decode cX2_addCut 8 = .ok (.getfield 31, 3) := by decide +kernel
theorem dX2_addCut_11 : decode cX2_addCut 11 = .ok (.ifCond .ne 54, 3) := by decide +kernel
theorem dX2_addCut_14 : decode cX2_addCut 14 = .ok (.aload_n 0, 1) := by decide +kernel
theorem dX2_addCut_15 : decode cX2_addCut 15 = .ok (.getfield 35, 3) := by decide +kernel
theorem dX2_addCut_18 : decode cX2_addCut 18 = .ok (.ifCond .ne 18, 3) := by decide +kernel
theorem dX2_addCut_21 : decode cX2_addCut 21 = .ok (.iload_n 3, 1) := by decide +kernel
theorem dX2_addCut_22 : decode cX2_addCut 22 = .ok (.iload_n 1, 1) := by decide +kernel
theorem dX2_addCut_23 : decode cX2_addCut 23 = .ok (.if_icmp .le 13, 3) := by decide +kernel
theorem dX2_addCut_26 : decode cX2_addCut 26 = .ok (.aload_n 0, 1) := by decide +kernel
theorem dX2_addCut_27 : decode cX2_addCut 27 = .ok (.dup, 1) := by decide +kernel
theorem dX2_addCut_28 : decode cX2_addCut 28 = .ok (.getfield 38, 3) := by decide +kernel
theorem dX2_addCut_31 : decode cX2_addCut 31 = .ok (.iconst 1, 1) := by decide +kernel
theorem dX2_addCut_32 : decode cX2_addCut 32 = .ok (.iadd, 1) := by decide +kernel
theorem dX2_addCut_33 : decode cX2_addCut 33 = .ok (.putfield 38, 3) := by decide +kernel
theorem dX2_addCut_36 : decode cX2_addCut 36 = .ok (.aload_n 0, 1) := by decide +kernel
theorem dX2_addCut_37 : decode cX2_addCut 37 = .ok (.iload_n 3, 1) := by decide +kernel
theorem dX2_addCut_38 : decode cX2_addCut 38 = .ok (.iload_n 2, 1) := by decide +kernel
theorem dX2_addCut_39 : decode cX2_addCut 39 = .ok (.iload_n 3, 1) := by decide +kernel
theorem dX2_addCut_40 : decode cX2_addCut 40 = .ok (.aload_n 0, 1) := by decide +kernel
theorem dX2_addCut_41 : decode cX2_addCut 41 = .ok (.getfield 21, 3) := by decide +kernel
theorem dX2_addCut_44 : decode cX2_addCut 44 = .ok (.iadd, 1) := by decide +kernel
theorem dX2_addCut_45 : decode cX2_addCut 45 = .ok (.invokestatic 65, 3) := by decide +kernel
theorem dX2_addCut_48 : decode cX2_addCut 48 = .ok (.invokevirtual 58, 3) := by decide +kernel
theorem dX2_addCut_51 : decode cX2_addCut 51 = .ok (.iload_n 3, 1) := by decide +kernel
theorem dX2_addCut_52 : decode cX2_addCut 52 = .ok (.iconst 1, 1) := by decide +kernel
theorem dX2_addCut_53 : decode cX2_addCut 53 = .ok (.aload_n 0, 1) := by decide +kernel
theorem dX2_addCut_54 : decode cX2_addCut 54 = .ok (.getfield 21, 3) := by decide +kernel
theorem dX2_addCut_57 : decode cX2_addCut 57 = .ok (.invokestatic 71, 3) := by decide +kernel
theorem dX2_addCut_60 : decode cX2_addCut 60 = .ok (.iadd, 1) := by decide +kernel
theorem dX2_addCut_61 : decode cX2_addCut 61 = .ok (.istore_n 3, 1) := by decide +kernel
theorem dX2_addCut_62 : decode cX2_addCut 62 = .ok (.goto (-60), 3) := by decide +kernel
theorem dX2_addCut_65 : decode cX2_addCut 65 = .ok (.return_, 1) := by decide +kernel
theorem dX2_put_0 : decode cX2_put 0 = .ok (.aload_n 0, 1) := by decide +kernel
theorem dX2_put_1 : decode cX2_put 1 = .ok (.getfield 28, 3) := by decide +kernel
theorem dX2_put_4 : decode cX2_put 4 = .ok (.sipush 400, 3) := by decide +kernel
theorem dX2_put_7 : decode cX2_put 7 = .ok (.if_icmp .lt 9, 3) := by decide +kernel
theorem dX2_put_10 : decode cX2_put 10 = .ok (.aload_n 0, 1) := by decide +kernel
theorem dX2_put_11 : decode cX2_put 11 = .ok (.iconst 1, 1) := by decide +kernel
theorem dX2_put_12 : decode cX2_put 12 = .ok (.putfield 31, 3) := by decide +kernel
theorem dX2_put_15 : decode cX2_put 15 = .ok (.return_, 1) := by decide +kernel
theorem dX2_put_16 : decode cX2_put 16 = .ok (.aload_n 0, 1) := by decide +kernel
theorem dX2_put_17 : decode cX2_put 17 = .ok (.getfield 9, 3) := by decide +kernel
theorem dX2_put_20 : decode cX2_put 20 = .ok (.aload_n 0, 1) := by decide +kernel
theorem dX2_put_21 : decode cX2_put 21 = .ok (.getfield 28, 3) := by decide +kernel
theorem dX2_put_24 : decode cX2_put 24 = .ok (.iload_n 1, 1) := by decide +kernel
theorem dX2_put_25 : decode cX2_put 25 = .ok (.iastore, 1) := by decide +kernel
theorem dX2_put_26 : decode cX2_put 26 = .ok (.aload_n 0, 1) := by decide +kernel
theorem dX2_put_27 : decode cX2_put 27 = .ok (.getfield 15, 3) := by decide +kernel
theorem dX2_put_30 : decode cX2_put 30 = .ok (.aload_n 0, 1) := by decide +kernel
theorem dX2_put_31 : decode cX2_put 31 = .ok (.getfield 28, 3) := by decide +kernel
theorem dX2_put_34 : decode cX2_put 34 = .ok (.iload_n 2, 1) := by decide +kernel
theorem dX2_put_35 : decode cX2_put 35 = .ok (.iastore, 1) := by decide +kernel
theorem dX2_put_36 : decode cX2_put 36 = .ok (.aload_n 0, 1) := by decide +kernel
theorem dX2_put_37 : decode cX2_put 37 = .ok (.getfield 18, 3) := by decide +kernel
theorem dX2_put_40 : decode cX2_put 40 = .ok (.aload_n 0, 1) := by decide +kernel
theorem dX2_put_41 : decode cX2_put 41 = .ok (.getfield 28, 3) := by decide +kernel
theorem dX2_put_44 : decode cX2_put 44 = .ok (.aload_n 0, 1) := by decide +kernel
theorem dX2_put_45 : decode cX2_put 45 = .ok (.getfield 38, 3) := by decide +kernel
theorem dX2_put_48 : decode cX2_put 48 = .ok (.iastore, 1) := by decide +kernel
theorem dX2_put_49 : decode cX2_put 49 = .ok (.aload_n 0, 1) := by decide +kernel
theorem dX2_put_50 : decode cX2_put 50 = .ok (.dup, 1) := by decide +kernel
theorem dX2_put_51 : decode cX2_put 51 = .ok (.getfield 28, 3) := by decide +kernel
theorem dX2_put_54 : decode cX2_put 54 = .ok (.iconst 1, 1) := by decide +kernel
theorem dX2_put_55 : decode cX2_put 55 = .ok (.iadd, 1) := by decide +kernel
theorem dX2_put_56 : decode cX2_put 56 = .ok (.putfield 28, 3) := by decide +kernel
theorem dX2_put_59 : decode cX2_put 59 = .ok (.return_, 1) := by decide +kernel
theorem dX3_init_0 : decode cX3_init 0 = .ok (.aload_n 0, 1) := by decide +kernel
theorem dX3_init_1 : decode cX3_init 1 = .ok (.invokespecial 1, 3) := by decide +kernel
theorem dX3_init_4 : decode cX3_init 4 = .ok (.aload_n 0, 1) := by decide +kernel
theorem dX3_init_5 : decode cX3_init 5 = .ok (.lconst 0, 1) := by decide +kernel
theorem dX3_init_6 : decode cX3_init 6 = .ok (.iconst 0, 1) := by decide +kernel
theorem dX3_init_7 : decode cX3_init 7 = .ok (.invokevirtual 7, 3) := by decide +kernel
theorem dX3_init_10 : decode cX3_init 10 = .ok (.return_, 1) := by decide +kernel
theorem dX3_become_0 : decode cX3_become 0 = .ok (.aload_n 0, 1) := by decide +kernel
theorem dX3_become_1 : decode cX3_become 1 = .ok (.lload_n 1, 1) := by decide +kernel
theorem dX3_become_2 : decode cX3_become 2 = .ok (.putfield 13, 3) := by decide +kernel
theorem dX3_become_5 : decode cX3_become 5 = .ok (.aload_n 0, 1) := by decide +kernel
theorem dX3_become_6 : decode cX3_become 6 = .ok (.lload_n 1, 1) := by decide +kernel
theorem dX3_become_7 : decode cX3_become 7 = .ok (.putfield 17, 3) := by decide +kernel
theorem dX3_become_10 : decode cX3_become 10 = .ok (.aload_n 0, 1) := by decide +kernel
theorem dX3_become_11 : decode cX3_become 11 = .ok (.iload_n 3, 1) := by decide +kernel
theorem dX3_become_12 : decode cX3_become 12 = .ok (.putfield 20, 3) := by decide +kernel
theorem dX3_become_15 : decode cX3_become 15 = .ok (.return_, 1) := by decide +kernel
theorem dX3_becomeNothing_0 : decode cX3_becomeNothing 0 = .ok (.aload_n 0, 1) := by decide +kernel
theorem dX3_becomeNothing_1 : decode cX3_becomeNothing 1 = .ok (.lconst 0, 1) := by decide +kernel
theorem dX3_becomeNothing_2 : decode cX3_becomeNothing 2 = .ok (.iconst 0, 1) := by decide +kernel
theorem dX3_becomeNothing_3 : decode cX3_becomeNothing 3 = .ok (.invokevirtual 7, 3) := by decide +kernel
theorem dX3_becomeNothing_6 : decode cX3_becomeNothing 6 = .ok (.return_, 1) := by decide +kernel
theorem dX3_becomeEmptyRow_0 : decode cX3_becomeEmptyRow 0 = .ok (.aload_n 0, 1) := by decide +kernel
theorem dX3_becomeEmptyRow_1 : decode cX3_becomeEmptyRow 1 = .ok (.lconst 0, 1) := by decide +kernel
theorem dX3_becomeEmptyRow_2 : decode cX3_becomeEmptyRow 2 = .ok (.iconst 1, 1) := by decide +kernel
theorem dX3_becomeEmptyRow_3 : decode cX3_becomeEmptyRow 3 = .ok (.invokevirtual 7, 3) := by decide +kernel
theorem dX3_becomeEmptyRow_6 : decode cX3_becomeEmptyRow 6 = .ok (.return_, 1) := by decide +kernel
theorem dX3_becomeAtom_0 : decode cX3_becomeAtom 0 = .ok (.aload_n 0, 1) := by decide +kernel
theorem dX3_becomeAtom_1 : decode cX3_becomeAtom 1 = .ok (.lload_n 1, 1) := by decide +kernel
theorem dX3_becomeAtom_2 : decode cX3_becomeAtom 2 = .ok (.iconst 0, 1) := by decide +kernel
theorem dX3_becomeAtom_3 : decode cX3_becomeAtom 3 = .ok (.invokevirtual 7, 3) := by decide +kernel
theorem dX3_becomeAtom_6 : decode cX3_becomeAtom 6 = .ok (.return_, 1) := by decide +kernel
theorem dX3_becomeCopyOf_0 : decode cX3_becomeCopyOf 0 = .ok (.aload_n 0, 1) := by decide +kernel
theorem dX3_becomeCopyOf_1 : decode cX3_becomeCopyOf 1 = .ok (.aload_n 1, 1) := by decide +kernel
theorem dX3_becomeCopyOf_2 : decode cX3_becomeCopyOf 2 = .ok (.getfield 13, 3) := by decide +kernel
theorem dX3_becomeCopyOf_5 : decode cX3_becomeCopyOf 5 = .ok (.putfield 13, 3) := by decide +kernel
theorem dX3_becomeCopyOf_8 : decode cX3_becomeCopyOf 8 = .ok (.aload_n 0, 1) := by decide +kernel
theorem dX3_becomeCopyOf_9 : decode cX3_becomeCopyOf 9 = .ok (.aload_n 1, 1) := by decide +kernel
theorem dX3_becomeCopyOf_10 : decode cX3_becomeCopyOf 10 = .ok (.getfield 17, 3) := by decide +kernel
theorem dX3_becomeCopyOf_13 : decode cX3_becomeCopyOf 13 = .ok (.putfield 17, 3) := by decide +kernel
theorem dX3_becomeCopyOf_16 : decode cX3_becomeCopyOf 16 = .ok (.aload_n 0, 1) := by decide +kernel
theorem dX3_becomeCopyOf_17 : decode cX3_becomeCopyOf 17 = .ok (.aload_n 1, 1) := by decide +kernel
theorem dX3_becomeCopyOf_18 : decode cX3_becomeCopyOf 18 = .ok (.getfield 20, 3) := by decide +kernel
theorem dX3_becomeCopyOf_21 : decode cX3_becomeCopyOf 21 = .ok (.putfield 20, 3) := by decide +kernel
theorem dX3_becomeCopyOf_24 : decode cX3_becomeCopyOf 24 = .ok (.return_, 1) := by decide +kernel
theorem dX3_addChoice_0 : decode cX3_addChoice 0 = .ok (.aload_n 0, 1) := by decide +kernel
theorem dX3_addChoice_1 : decode cX3_addChoice 1 = .ok (.dup, 1) := by decide +kernel
theorem dX3_addChoice_2 : decode cX3_addChoice 2 = .ok (.getfield 13, 3) := by decide +kernel
theorem dX3_addChoice_5 : decode cX3_addChoice 5 = .ok (.aload_n 1, 1) := by decide +kernel
theorem dX3_addChoice_6 : decode cX3_addChoice 6 = .ok (.getfield 13, 3) := by decide +kernel
theorem dX3_addChoice_9 : decode cX3_addChoice 9 = .ok (.lor, 1) := by decide +kernel
theorem dX3_addChoice_10 : decode cX3_addChoice 10 = .ok (.putfield 13, 3) := by decide +kernel
theorem dX3_addChoice_13 : decode cX3_addChoice 13 = .ok (.aload_n 0, 1) := by decide +kernel
theorem dX3_addChoice_14 : decode cX3_addChoice 14 = .ok (.dup, 1) := by decide +kernel
theorem dX3_addChoice_15 : decode cX3_addChoice 15 = .ok (.getfield 17, 3) := by decide +kernel
theorem dX3_addChoice_18 : decode cX3_addChoice 18 = .ok (.aload_n 1, 1) := by decide +kernel
theorem dX3_addChoice_19 : decode cX3_addChoice 19 = .ok (.getfield 17, 3) := by decide +kernel
theorem dX3_addChoice_22 : decode cX3_addChoice 22 = .ok (.lor, 1) := by decide +kernel
theorem dX3_addChoice_23 : decode cX3_addChoice 23 = .ok (.putfield 17, 3) := by decide +kernel
theorem dX3_addChoice_26 : decode cX3_addChoice 26 = .ok (.aload_n 0, 1) := by decide +kernel
theorem dX3_addChoice_27 : decode cX3_addChoice 27 = .ok (.aload_n 0, 1) := by decide +kernel
theorem dX3_addChoice_28 : decode cX3_addChoice 28 = .ok (.getfield 20, 3) := by decide +kernel
theorem dX3_addChoice_31 : decode cX3_addChoice 31 = .ok (.ifCond .ne 10, 3) := by decide +kernel
theorem dX3_addChoice_34 : decode cX3_addChoice 34 = .ok (.aload_n 1, 1) := by decide +kernel
theorem dX3_addChoice_35 : decode cX3_addChoice 35 = .ok (.getfield 20, 3) := by decide +kernel
theorem dX3_addChoice_38 : decode cX3_addChoice 38 = .ok (.ifCond .eq 7, 3) := by decide +kernel
theorem dX3_addChoice_41 : decode cX3_addChoice 41 = .ok (.iconst 1, 1) := by decide +kernel
theorem dX3_addChoice_42 : decode cX3_addChoice 42 = .ok (.goto 4, 3) := by decide +kernel
theorem dX3_addChoice_45 : decode cX3_addChoice 45 = .ok (.iconst 0, 1) := by decide +kernel
theorem dX3_addChoice_46 : decode cX3_addChoice 46 = .ok (.putfield 20, 3) := by decide +kernel
theorem dX3_addChoice_49 : decode cX3_addChoice 49 = .ok (.return_, 1) := by decide +kernel
theorem dX3_addBehind_0 : decode cX3_addBehind 0 = .ok (.aload_n 0, 1) := by decide +kernel
theorem dX3_addBehind_1 : decode cX3_addBehind 1 = .ok (.getfield 20, 3) := by decide +kernel
theorem dX3_addBehind_4 : decode cX3_addBehind 4 = .ok (.ifCond .eq 16, 3) := by decide +kernel
theorem dX3_addBehind_7 : decode cX3_addBehind 7 = .ok (.aload_n 0, 1) := by decide +kernel
theorem dX3_addBehind_8 : decode cX3_addBehind 8 = .ok (.dup, 1) := by decide +kernel
theorem dX3_addBehind_9 : decode cX3_addBehind 9 = .ok (.getfield 13, 3) := by decide +kernel
theorem dX3_addBehind_12 : decode cX3_addBehind 12 = .ok (.aload_n 1, 1) := by decide +kernel
theorem dX3_addBehind_13 : decode cX3_addBehind 13 = .ok (.getfield 13, 3) := by decide +kernel
theorem dX3_addBehind_16 : decode cX3_addBehind 16 = .ok (.lor, 1) := by decide +kernel
theorem dX3_addBehind_17 : decode cX3_addBehind 17 = .ok (.putfield 13, 3) := by decide +kernel
theorem dX3_addBehind_20 : decode cX3_addBehind 20 = .ok (.aload_n 0, 1) := by decide +kernel
theorem dX3_addBehind_21 : decode cX3_addBehind 21 = .ok (.aload_n 1, 1) := by decide +kernel
theorem dX3_addBehind_22 : decode cX3_addBehind 22 = .ok (.getfield 20, 3) := by decide +kernel
theorem dX3_addBehind_25 : decode cX3_addBehind 25 = .ok (.ifCond .eq 15, 3) := by decide +kernel
theorem dX3_addBehind_28 : decode cX3_addBehind 28 = .ok (.aload_n 0, 1) := by decide +kernel
theorem dX3_addBehind_29 : decode cX3_addBehind 29 = .ok (.getfield 17, 3) := by decide +kernel
theorem dX3_addBehind_32 : decode cX3_addBehind 32 = .ok (.aload_n 1, 1) := by decide +kernel
theorem dX3_addBehind_33 : decode cX3_addBehind 33 = .ok (.getfield 17, 3) := by decide +kernel
theorem dX3_addBehind_36 : decode cX3_addBehind 36 = .ok (.lor, 1) := by decide +kernel
theorem dX3_addBehind_37 : decode cX3_addBehind 37 = .ok (.goto 7, 3) := by decide +kernel
theorem dX3_addBehind_40 : decode cX3_addBehind 40 = .ok (.aload_n 1, 1) := by decide +kernel
theorem dX3_addBehind_41 : decode cX3_addBehind 41 = .ok (.getfield 17, 3) := by decide +kernel
theorem dX3_addBehind_44 : decode cX3_addBehind 44 = .ok (.putfield 17, 3) := by decide +kernel
theorem dX3_addBehind_47 : decode cX3_addBehind 47 = .ok (.aload_n 0, 1) := by decide +kernel
theorem dX3_addBehind_48 : decode cX3_addBehind 48 = .ok (.aload_n 0, 1) := by decide +kernel
theorem dX3_addBehind_49 : decode cX3_addBehind 49 = .ok (.getfield 20, 3) := by decide +kernel
theorem dX3_addBehind_52 : decode cX3_addBehind 52 = .ok (.ifCond .eq 14, 3) := by decide +kernel
theorem dX3_addBehind_55 : decode cX3_addBehind 55 = .ok (.aload_n 1, 1) := by decide +kernel
theorem dX3_addBehind_56 : decode cX3_addBehind 56 = .ok (.getfield 20, 3) := by decide +kernel
theorem dX3_addBehind_59 : decode cX3_addBehind 59 = .ok (.ifCond .eq 7, 3) := by decide +kernel
theorem dX3_addBehind_62 : decode cX3_addBehind 62 = .ok (.iconst 1, 1) := by decide +kernel
theorem dX3_addBehind_63 : decode cX3_addBehind 63 = .ok (.goto 4, 3) := by decide +kernel
theorem dX3_addBehind_66 : decode cX3_addBehind 66 = .ok (.iconst 0, 1) := by decide +kernel
theorem dX3_addBehind_67 : decode cX3_addBehind 67 = .ok (.putfield 20, 3) := by decide +kernel
theorem dX3_addBehind_70 : decode cX3_addBehind 70 = .ok (.return_, 1) := by decide +kernel
theorem dX4_init_0 : decode cX4_init 0 = .ok (.aload_n 0, 1) := by decide +kernel
theorem dX4_init_1 : decode cX4_init 1 = .ok (.invokespecial 3, 3) := by decide +kernel
theorem dX4_init_4 : decode cX4_init 4 = .ok (.aload_n 0, 1) := by decide +kernel
theorem dX4_init_5 : decode cX4_init 5 = .ok (.new 9, 3) := by decide +kernel
theorem dX4_init_8 : decode cX4_init 8 = .ok (.dup, 1) := by decide +kernel
theorem dX4_init_9 : decode cX4_init 9 = .ok (.invokespecial 11, 3) := by decide +kernel
theorem dX4_init_12 : decode cX4_init 12 = .ok (.putfield 12, 3) := by decide +kernel
theorem dX4_init_15 : decode cX4_init 15 = .ok (.aload_n 0, 1) := by decide +kernel
theorem dX4_init_16 : decode cX4_init 16 = .ok (.bipush 9, 2) := by decide +kernel
theorem dX4_init_18 : decode cX4_init 18 = .ok (.anewarray 18, 3) := by decide +kernel
theorem dX4_init_21 : decode cX4_init 21 = .ok (.putfield 20, 3) := by decide +kernel
theorem dX4_init_24 : decode cX4_init 24 = .ok (.aload_n 0, 1) := by decide +kernel
theorem dX4_init_25 : decode cX4_init 25 = .ok (.bipush 9, 2) := by decide +kernel
theorem dX4_init_27 : decode cX4_init 27 = .ok (.anewarray 18, 3) := by decide +kernel
theorem dX4_init_30 : decode cX4_init 30 = .ok (.putfield 24, 3) := by decide +kernel
theorem dX4_init_33 : decode cX4_init 33 = .ok (.iconst 0, 1) := by decide +kernel
theorem dX4_init_34 : decode cX4_init 34 = .ok (.istore_n 1, 1) := by decide +kernel
theorem dX4_init_35 : decode cX4_init 35 = .ok (.iload_n 1, 1) := by decide +kernel
theorem dX4_init_36 : decode cX4_init 36 = .ok (.bipush 8, 2) := by decide +kernel
theorem dX4_init_38 : decode cX4_init 38 = .ok (.if_icmp .gt 35, 3) := by decide +kernel
theorem dX4_init_41 : decode cX4_init 41 = .ok (.aload_n 0, 1) := by decide +kernel
theorem dX4_init_42 : decode cX4_init 42 = .ok (.getfield 20, 3) := by decide +kernel
theorem dX4_init_45 : decode cX4_init 45 = .ok (.iload_n 1, 1) := by decide +kernel
theorem dX4_init_46 : decode cX4_init 46 = .ok (.new 18, 3) := by decide +kernel
theorem dX4_init_49 : decode cX4_init 49 = .ok (.dup, 1) := by decide +kernel
theorem dX4_init_50 : decode cX4_init 50 = .ok (.invokespecial 27, 3) := by decide +kernel
theorem dX4_init_53 : decode cX4_init 53 = .ok (.aastore, 1) := by decide +kernel
theorem dX4_init_54 : decode cX4_init 54 = .ok (.aload_n 0, 1) := by decide +kernel
theorem dX4_init_55 : decode cX4_init 55 = .ok (.getfield 24, 3) := by decide +kernel
theorem dX4_init_58 : decode cX4_init 58 = .ok (.iload_n 1, 1) := by decide +kernel
theorem dX4_init_59 : decode cX4_init 59 = .ok (.new 18, 3) := by decide +kernel
theorem dX4_init_62 : decode cX4_init 62 = .ok (.dup, 1) := by decide +kernel
theorem dX4_init_63 : decode cX4_init 63 = .ok (.invokespecial 27, 3) := by decide +kernel
theorem dX4_init_66 : decode cX4_init 66 = .ok (.aastore, 1) := by decide +kernel
theorem dX4_init_67 : decode cX4_init 67 = .ok (.iinc 1 1, 3) := by decide +kernel
theorem dX4_init_70 : decode cX4_init 70 = .ok (.goto (-35), 3) := by decide +kernel
theorem dX4_init_73 : decode cX4_init 73 = .ok (.aload_n 0, 1) := by decide +kernel
theorem dX4_init_74 : decode cX4_init 74 = .ok (.new 18, 3) := by decide +kernel
theorem dX4_init_77 : decode cX4_init 77 = .ok (.dup, 1) := by decide +kernel
theorem dX4_init_78 : decode cX4_init 78 = .ok (.invokespecial 27, 3) := by decide +kernel
theorem dX4_init_81 : decode cX4_init 81 = .ok (.putfield 28, 3) := by decide +kernel
theorem dX4_init_84 : decode cX4_init 84 = .ok (.aload_n 0, 1) := by decide +kernel
theorem dX4_init_85 : decode cX4_init 85 = .ok (.new 32, 3) := by decide +kernel
theorem dX4_init_88 : decode cX4_init 88 = .ok (.dup, 1) := by decide +kernel
theorem dX4_init_89 : decode cX4_init 89 = .ok (.invokespecial 34, 3) := by decide +kernel
theorem dX4_init_92 : decode cX4_init 92 = .ok (.putfield 35, 3) := by decide +kernel
theorem dX4_init_95 : decode cX4_init 95 = .ok (.aload_n 0, 1) := by decide +kernel
theorem dX4_init_96 : decode cX4_init 96 = .ok (.iconst 0, 1) := by decide +kernel
theorem dX4_init_97 : decode cX4_init 97 = .ok (.putfield 39, 3) := by decide +kernel
theorem dX4_init_100 : decode cX4_init 100 = .ok (.aload_n 0, 1) := by decide +kernel
theorem dX4_init_101 : decode cX4_init 101 = .ok (.iconst 0, 1) := by decide +kernel
theorem dX4_init_102 : decode cX4_init 102 = .ok (.putfield 43, 3) := by decide +kernel
theorem dX4_init_105 : decode cX4_init 105 = .ok (.aload_n 0, 1) := by decide +kernel
theorem dX4_init_106 : decode cX4_init 106 = .ok (.iconst (-1), 1) := by decide +kernel
theorem dX4_init_107 : decode cX4_init 107 = .ok (.putfield 46, 3) := by decide +kernel
theorem dX4_init_110 : decode cX4_init 110 = .ok (.return_, 1) := by decide +kernel
theorem dX4_exchange_0 : decode cX4_exchange 0 = .ok (.aload_n 0, 1) := by decide +kernel
theorem dX4_exchange_1 : decode cX4_exchange 1 = .ok (.getfield 35, 3) := by decide +kernel
theorem dX4_exchange_4 : decode cX4_exchange 4 = .ok (.astore_n 2, 1) := by decide +kernel
theorem dX4_exchange_5 : decode cX4_exchange 5 = .ok (.aload_n 0, 1) := by decide +kernel
theorem dX4_exchange_6 : decode cX4_exchange 6 = .ok (.aload_n 1, 1) := by decide +kernel
theorem dX4_exchange_7 : decode cX4_exchange 7 = .ok (.putfield 35, 3) := by decide +kernel
theorem dX4_exchange_10 : decode cX4_exchange 10 = .ok (.aload_n 2, 1) := by decide +kernel
theorem dX4_exchange_11 : decode cX4_exchange 11 = .ok (.areturn, 1) := by decide +kernel
theorem dX4_readFrom_0 : decode cX4_readFrom 0 = .ok (.aload_n 0, 1) := by decide +kernel
theorem dX4_readFrom_1 : decode cX4_readFrom 1 = .ok (.aload_n 1, 1) := by decide +kernel
theorem dX4_readFrom_2 : decode cX4_readFrom 2 = .ok (.invokevirtual 49, 3) := by decide +kernel
theorem dX4_readFrom_5 : decode cX4_readFrom 5 = .ok (.iconst 0, 1) := by decide +kernel
theorem dX4_readFrom_6 : decode cX4_readFrom 6 = .ok (.istore_n 2, 1) := by decide +kernel
theorem dX4_readFrom_7 : decode cX4_readFrom 7 = .ok (.iload_n 2, 1) := by decide +kernel
theorem dX4_readFrom_8 : decode cX4_readFrom 8 = .ok (.sipush 300, 3) := by decide +kernel
theorem dX4_readFrom_11 : decode cX4_readFrom 11 = .ok (.if_icmp .ge 153, 3) := by decide +kernel
theorem dX4_readFrom_14 : decode cX4_readFrom 14 = .ok (.aload_n 0, 1) := by decide +kernel
theorem dX4_readFrom_15 : decode cX4_readFrom 15 = .ok (.getfield 43, 3) := by decide +kernel
theorem dX4_readFrom_18 : decode cX4_readFrom 18 = .ok (.aload_n 0, 1) := by decide +kernel
theorem dX4_readFrom_19 : decode cX4_readFrom 19 = .ok (.getfield 12, 3) := by decide +kernel
theorem dX4_readFrom_22 : decode cX4_readFrom 22 = .ok (.invokevirtual 53, 3) := by decide +kernel
theorem dX4_readFrom_25 : decode cX4_readFrom 25 = .ok (.if_icmp .ge 139, 3) := by decide +kernel
theorem dX4_readFrom_28 : decode cX4_readFrom 28 = .ok (.aload_n 0, 1) := by decide +kernel
theorem dX4_readFrom_29 : decode cX4_readFrom 29 = .ok (.getfield 46, 3) := by decide +kernel
theorem dX4_readFrom_32 : decode cX4_readFrom 32 = .ok (.iconst (-1), 1) := by decide +kernel
theorem dX4_readFrom_33 : decode cX4_readFrom 33 = .ok (.if_icmp .ne 131, 3) := by decide +kernel
theorem dX4_readFrom_36 : decode cX4_readFrom 36 = .ok (.aload_n 0, 1) := by decide +kernel
theorem dX4_readFrom_37 : decode cX4_readFrom 37 = .ok (.getfield 12, 3) := by decide +kernel
theorem dX4_readFrom_40 : decode cX4_readFrom 40 = .ok (.aload_n 0, 1) := by decide +kernel
theorem dX4_readFrom_41 : decode cX4_readFrom 41 = .ok (.getfield 43, 3) := by decide +kernel
theorem dX4_readFrom_44 : decode cX4_readFrom 44 = .ok (.invokevirtual 57, 3) := by decide +kernel
theorem dX4_readFrom_47 : decode cX4_readFrom 47 = .ok (.lookupswitch 107 #[(40, 65), (41, 72), (42, 96), (43, 96), (63, 96), (93, 96), (124, 79)], 65) := by decide +kernel
theorem dX4_readFrom_112 : decode cX4_readFrom 112 = .ok (.aload_n 0, 1) := by decide +kernel
theorem dX4_readFrom_113 : decode cX4_readFrom 113 = .ok (.invokevirtual 60, 3) := by decide +kernel
theorem dX4_readFrom_116 : decode cX4_readFrom 116 = .ok (.goto 42, 3) := by decide +kernel
theorem dX4_readFrom_119 : decode cX4_readFrom 119 = .ok (.aload_n 0, 1) := by decide +kernel
theorem dX4_readFrom_120 : decode cX4_readFrom 120 = .ok (.invokevirtual 63, 3) := by decide +kernel
theorem dX4_readFrom_123 : decode cX4_readFrom 123 = .ok (.goto 35, 3) := by decide +kernel
theorem dX4_readFrom_126 : decode cX4_readFrom 126 = .ok (.aload_n 0, 1) := by decide +kernel
theorem dX4_readFrom_127 : decode cX4_readFrom 127 = .ok (.invokevirtual 66, 3) := by decide +kernel
theorem dX4_readFrom_130 : decode cX4_readFrom 130 = .ok (.aload_n 0, 1) := by decide +kernel
theorem dX4_readFrom_131 : decode cX4_readFrom 131 = .ok (.dup, 1) := by decide +kernel
theorem dX4_readFrom_132 : decode cX4_readFrom 132 = .ok (.getfield 43, 3) := by decide +kernel
theorem dX4_readFrom_135 : decode cX4_readFrom 135 = .ok (.iconst 1, 1) := by decide +kernel
theorem dX4_readFrom_136 : decode cX4_readFrom 136 = .ok (.iadd, 1) := by decide +kernel
theorem dX4_readFrom_137 : decode cX4_readFrom 137 = .ok (.putfield 43, 3) := by decide +kernel
theorem dX4_readFrom_140 : decode cX4_readFrom 140 = .ok (.goto 18, 3) := by decide +kernel
theorem dX4_readFrom_143 : decode cX4_readFrom 143 = .ok (.aload_n 0, 1) := by decide +kernel
theorem dX4_readFrom_144 : decode cX4_readFrom 144 = .ok (.aload_n 0, 1) := by decide +kernel
theorem dX4_readFrom_145 : decode cX4_readFrom 145 = .ok (.getfield 43, 3) := by decide +kernel
theorem dX4_readFrom_148 : decode cX4_readFrom 148 = .ok (.putfield 46, 3) := by decide +kernel
theorem dX4_readFrom_151 : decode cX4_readFrom 151 = .ok (.goto 7, 3) := by decide +kernel
theorem dX4_readFrom_154 : decode cX4_readFrom 154 = .ok (.aload_n 0, 1) := by decide +kernel
theorem dX4_readFrom_155 : decode cX4_readFrom 155 = .ok (.invokevirtual 69, 3) := by decide +kernel
theorem dX4_readFrom_158 : decode cX4_readFrom 158 = .ok (.iinc 2 1, 3) := by decide +kernel
theorem dX4_readFrom_161 : decode cX4_readFrom 161 = .ok (.goto (-154), 3) := by decide +kernel
theorem dX4_readFrom_164 : decode cX4_readFrom 164 = .ok (.aload_n 0, 1) := by decide +kernel
theorem dX4_readFrom_165 : decode cX4_readFrom 165 = .ok (.invokevirtual 72, 3) := by decide +kernel
theorem dX4_readFrom_168 : decode cX4_readFrom 168 = .ok (.aload_n 0, 1) := by decide +kernel
theorem dX4_readFrom_169 : decode cX4_readFrom 169 = .ok (.getfield 46, 3) := by decide +kernel
theorem dX4_readFrom_172 : decode cX4_readFrom 172 = .ok (.ireturn, 1) := by decide +kernel
theorem dX4_begin_0 : decode cX4_begin 0 = .ok (.aload_n 0, 1) := by decide +kernel
theorem dX4_begin_1 : decode cX4_begin 1 = .ok (.getfield 12, 3) := by decide +kernel
theorem dX4_begin_4 : decode cX4_begin 4 = .ok (.aload_n 1, 1) := by decide +kernel
theorem dX4_begin_5 : decode cX4_begin 5 = .ok (.invokevirtual 75, 3) := by decide +kernel
theorem dX4_begin_8 : decode cX4_begin 8 = .ok (.aload_n 0, 1) := by decide +kernel
theorem dX4_begin_9 : decode cX4_begin 9 = .ok (.getfield 35, 3) := by decide +kernel
theorem dX4_begin_12 : decode cX4_begin 12 = .ok (.invokevirtual 78, 3) := by decide +kernel
theorem dX4_begin_15 : decode cX4_begin 15 = .ok (.aload_n 0, 1) := by decide +kernel
theorem dX4_begin_16 : decode cX4_begin 16 = .ok (.iconst 0, 1) := by decide +kernel
theorem dX4_begin_17 : decode cX4_begin 17 = .ok (.putfield 43, 3) := by decide +kernel
theorem dX4_begin_20 : decode cX4_begin 20 = .ok (.aload_n 0, 1) := by decide +kernel
theorem dX4_begin_21 : decode cX4_begin 21 = .ok (.iconst (-1), 1) := by decide +kernel
theorem dX4_begin_22 : decode cX4_begin 22 = .ok (.putfield 46, 3) := by decide +kernel
theorem dX4_begin_25 : decode cX4_begin 25 = .ok (.aload_n 0, 1) := by decide +kernel
theorem dX4_begin_26 : decode cX4_begin 26 = .ok (.iconst 0, 1) := by decide +kernel
theorem dX4_begin_27 : decode cX4_begin 27 = .ok (.putfield 39, 3) := by decide +kernel
theorem dX4_begin_30 : decode cX4_begin 30 = .ok (.aload_n 0, 1) := by decide +kernel
theorem dX4_begin_31 : decode cX4_begin 31 = .ok (.invokevirtual 81, 3) := by decide +kernel
theorem dX4_begin_34 : decode cX4_begin 34 = .ok (.return_, 1) := by decide +kernel
theorem dX4_end_0 : decode cX4_end 0 = .ok (.aload_n 0, 1) := by decide +kernel
theorem dX4_end_1 : decode cX4_end 1 = .ok (.getfield 46, 3) := by decide +kernel
theorem dX4_end_4 : decode cX4_end 4 = .ok (.iconst (-1), 1) := by decide +kernel
theorem dX4_end_5 : decode cX4_end 5 = .ok (.if_icmp .ne 21, 3) := by decide +kernel
theorem dX4_end_8 : decode cX4_end 8 = .ok (.aload_n 0, 1) := by decide +kernel
theorem dX4_end_9 : decode cX4_end 9 = .ok (.getfield 39, 3) := by decide +kernel
theorem dX4_end_12 : decode cX4_end 12 = .ok (.ifCond .le 14, 3) := by decide +kernel
theorem dX4_end_15 : decode cX4_end 15 = .ok (.aload_n 0, 1) := by decide +kernel
theorem dX4_end_16 : decode cX4_end 16 = .ok (.aload_n 0, 1) := by decide +kernel
theorem dX4_end_17 : decode cX4_end 17 = .ok (.getfield 12, 3) := by decide +kernel
theorem dX4_end_20 : decode cX4_end 20 = .ok (.invokevirtual 53, 3) := by decide +kernel
theorem dX4_end_23 : decode cX4_end 23 = .ok (.putfield 46, 3) := by decide +kernel
theorem dX4_end_26 : decode cX4_end 26 = .ok (.aload_n 0, 1) := by decide +kernel
theorem dX4_end_27 : decode cX4_end 27 = .ok (.invokevirtual 66, 3) := by decide +kernel
theorem dX4_end_30 : decode cX4_end 30 = .ok (.aload_n 0, 1) := by decide +kernel
theorem dX4_end_31 : decode cX4_end 31 = .ok (.getfield 35, 3) := by decide +kernel
theorem dX4_end_34 : decode cX4_end 34 = .ok (.aload_n 0, 1) := by decide +kernel
theorem dX4_end_35 : decode cX4_end 35 = .ok (.getfield 20, 3) := by decide +kernel
theorem dX4_end_38 : decode cX4_end 38 = .ok (.iconst 0, 1) := by decide +kernel
theorem dX4_end_39 : decode cX4_end 39 = .ok (.aaload, 1) := by decide +kernel
theorem dX4_end_40 : decode cX4_end 40 = .ok (.getfield 84, 3) := by decide +kernel
theorem dX4_end_43 : decode cX4_end 43 = .ok (.aload_n 0, 1) := by decide +kernel
theorem dX4_end_44 : decode cX4_end 44 = .ok (.getfield 20, 3) := by decide +kernel
theorem dX4_end_47 : decode cX4_end 47 = .ok (.iconst 0, 1) := by decide +kernel
theorem dX4_end_48 : decode cX4_end 48 = .ok (.aaload, 1) := by decide +kernel
theorem dX4_end_49 : decode cX4_end 49 = .ok (.getfield 88, 3) := by decide +kernel
theorem dX4_end_52 : decode cX4_end 52 = .ok (.invokevirtual 91, 3) := by decide +kernel
theorem dX4_end_55 : decode cX4_end 55 = .ok (.return_, 1) := by decide +kernel
theorem dX4_beginChoices_0 : decode cX4_beginChoices 0 = .ok (.aload_n 0, 1) := by decide +kernel
theorem dX4_beginChoices_1 : decode cX4_beginChoices 1 = .ok (.getfield 20, 3) := by decide +kernel
theorem dX4_beginChoices_4 : decode cX4_beginChoices 4 = .ok (.aload_n 0, 1) := by decide +kernel
theorem dX4_beginChoices_5 : decode cX4_beginChoices 5 = .ok (.getfield 39, 3) := by decide +kernel
theorem dX4_beginChoices_8 : decode cX4_beginChoices 8 = .ok (.aaload, 1) := by decide +kernel
theorem dX4_beginChoices_9 : decode cX4_beginChoices 9 = .ok (.invokevirtual 95, 3) := by decide +kernel
theorem dX4_beginChoices_12 : decode cX4_beginChoices 12 = .ok (.aload_n 0, 1) := by decide +kernel
theorem dX4_beginChoices_13 : decode cX4_beginChoices 13 = .ok (.getfield 24, 3) := by decide +kernel
theorem dX4_beginChoices_16 : decode cX4_beginChoices 16 = .ok (.aload_n 0, 1) := by decide +kernel
theorem dX4_beginChoices_17 : decode cX4_beginChoices 17 = .ok (.getfield 39, 3) := by decide +kernel
theorem dX4_beginChoices_20 : decode cX4_beginChoices 20 = .ok (.aaload, 1) := by decide +kernel
theorem dX4_beginChoices_21 : decode cX4_beginChoices 21 = .ok (.invokevirtual 98, 3) := by decide +kernel
theorem dX4_beginChoices_24 : decode cX4_beginChoices 24 = .ok (.return_, 1) := by decide +kernel
theorem dX4_endRow_0 : decode cX4_endRow 0 = .ok (.aload_n 0, 1) := by decide +kernel
theorem dX4_endRow_1 : decode cX4_endRow 1 = .ok (.getfield 20, 3) := by decide +kernel
theorem dX4_endRow_4 : decode cX4_endRow 4 = .ok (.aload_n 0, 1) := by decide +kernel
theorem dX4_endRow_5 : decode cX4_endRow 5 = .ok (.getfield 39, 3) := by decide +kernel
theorem dX4_endRow_8 : decode cX4_endRow 8 = .ok (.aaload, 1) := by decide +kernel
theorem dX4_endRow_9 : decode cX4_endRow 9 = .ok (.aload_n 0, 1) := by decide +kernel
theorem dX4_endRow_10 : decode cX4_endRow 10 = .ok (.getfield 24, 3) := by decide +kernel
theorem dX4_endRow_13 : decode cX4_endRow 13 = .ok (.aload_n 0, 1) := by decide +kernel
theorem dX4_endRow_14 : decode cX4_endRow 14 = .ok (.getfield 39, 3) := by decide +kernel
theorem dX4_endRow_17 : decode cX4_endRow 17 = .ok (.aaload, 1) := by decide +kernel
theorem dX4_endRow_18 : decode cX4_endRow 18 = .ok (.invokevirtual 101, 3) := by decide +kernel
theorem dX4_endRow_21 : decode cX4_endRow 21 = .ok (.aload_n 0, 1) := by decide +kernel
theorem dX4_endRow_22 : decode cX4_endRow 22 = .ok (.getfield 24, 3) := by decide +kernel
theorem dX4_endRow_25 : decode cX4_endRow 25 = .ok (.aload_n 0, 1) := by decide +kernel
theorem dX4_endRow_26 : decode cX4_endRow 26 = .ok (.getfield 39, 3) := by decide +kernel
theorem dX4_endRow_29 : decode cX4_endRow 29 = .ok (.aaload, 1) := by decide +kernel
theorem dX4_endRow_30 : decode cX4_endRow 30 = .ok (.invokevirtual 98, 3) := by decide +kernel
theorem dX4_endRow_33 : decode cX4_endRow 33 = .ok (.return_, 1) := by decide +kernel
theorem dX4_open_0 : decode cX4_open 0 = .ok (.aload_n 0, 1) := by decide +kernel
theorem dX4_open_1 : decode cX4_open 1 = .ok (.getfield 39, 3) := by decide +kernel
theorem dX4_open_4 : decode cX4_open 4 = .ok (.bipush 8, 2) := by decide +kernel
theorem dX4_open_6 : decode cX4_open 6 = .ok (.if_icmp .lt 12, 3) := by decide +kernel
theorem dX4_open_9 : decode cX4_open 9 = .ok (.aload_n 0, 1) := by decide +kernel
theorem dX4_open_10 : decode cX4_open 10 = .ok (.aload_n 0, 1) := by decide +kernel
theorem dX4_open_11 : decode cX4_open 11 = .ok (.getfield 43, 3) := by decide +kernel
theorem dX4_open_14 : decode cX4_open 14 = .ok (.putfield 46, 3) := by decide +kernel
theorem dX4_open_17 : decode cX4_open 17 = .ok (.return_, 1) := by decide +kernel
theorem dX4_open_18 : decode cX4_open 18 = .ok (.aload_n 0, 1) := by decide +kernel
theorem dX4_open_19 : decode cX4_open 19 = .ok (.dup, 1) := by decide +kernel
theorem dX4_open_20 : decode cX4_open 20 = .ok (.getfield 39, 3) := by decide +kernel
theorem dX4_open_23 : decode cX4_open 23 = .ok (.iconst 1, 1) := by decide +kernel
theorem dX4_open_24 : decode cX4_open 24 = .ok (.iadd, 1) := by decide +kernel
theorem dX4_open_25 : decode cX4_open 25 = .ok (.putfield 39, 3) := by decide +kernel
theorem dX4_open_28 : decode cX4_open 28 = .ok (.aload_n 0, 1) := by decide +kernel
theorem dX4_open_29 : decode cX4_open 29 = .ok (.dup, 1) := by decide +kernel
theorem dX4_open_30 : decode cX4_open 30 = .ok (.getfield 43, 3) := by decide +kernel
theorem dX4_open_33 : decode cX4_open 33 = .ok (.iconst 1, 1) := by decide +kernel
theorem dX4_open_34 : decode cX4_open 34 = .ok (.iadd, 1) := by decide +kernel
theorem dX4_open_35 : decode cX4_open 35 = .ok (.putfield 43, 3) := by decide +kernel
theorem dX4_open_38 : decode cX4_open 38 = .ok (.aload_n 0, 1) := by decide +kernel
theorem dX4_open_39 : decode cX4_open 39 = .ok (.invokevirtual 81, 3) := by decide +kernel
theorem dX4_open_42 : decode cX4_open 42 = .ok (.return_, 1) := by decide +kernel
theorem dX4_close_0 : decode cX4_close 0 = .ok (.aload_n 0, 1) := by decide +kernel
theorem dX4_close_1 : decode cX4_close 1 = .ok (.getfield 39, 3) := by decide +kernel
theorem dX4_close_4 : decode cX4_close 4 = .ok (.ifCond .gt 12, 3) := by decide +kernel
theorem dX4_close_7 : decode cX4_close 7 = .ok (.aload_n 0, 1) := by decide +kernel
theorem dX4_close_8 : decode cX4_close 8 = .ok (.aload_n 0, 1) := by decide +kernel
theorem dX4_close_9 : decode cX4_close 9 = .ok (.getfield 43, 3) := by decide +kernel
theorem dX4_close_12 : decode cX4_close 12 = .ok (.putfield 46, 3) := by decide +kernel
theorem dX4_close_15 : decode cX4_close 15 = .ok (.return_, 1) := by decide +kernel
theorem dX4_close_16 : decode cX4_close 16 = .ok (.aload_n 0, 1) := by decide +kernel
theorem dX4_close_17 : decode cX4_close 17 = .ok (.invokevirtual 66, 3) := by decide +kernel
theorem dX4_close_20 : decode cX4_close 20 = .ok (.aload_n 0, 1) := by decide +kernel
theorem dX4_close_21 : decode cX4_close 21 = .ok (.getfield 28, 3) := by decide +kernel
theorem dX4_close_24 : decode cX4_close 24 = .ok (.aload_n 0, 1) := by decide +kernel
theorem dX4_close_25 : decode cX4_close 25 = .ok (.getfield 20, 3) := by decide +kernel
theorem dX4_close_28 : decode cX4_close 28 = .ok (.aload_n 0, 1) := by decide +kernel
theorem dX4_close_29 : decode cX4_close 29 = .ok (.getfield 39, 3) := by decide +kernel
theorem dX4_close_32 : decode cX4_close 32 = .ok (.aaload, 1) := by decide +kernel
theorem dX4_close_33 : decode cX4_close 33 = .ok (.invokevirtual 105, 3) := by decide +kernel
theorem dX4_close_36 : decode cX4_close 36 = .ok (.aload_n 0, 1) := by decide +kernel
theorem dX4_close_37 : decode cX4_close 37 = .ok (.dup, 1) := by decide +kernel
theorem dX4_close_38 : decode cX4_close 38 = .ok (.getfield 39, 3) := by decide +kernel
theorem dX4_close_41 : decode cX4_close 41 = .ok (.iconst 1, 1) := by decide +kernel
theorem dX4_close_42 : decode cX4_close 42 = .ok (.isub, 1) := by decide +kernel
theorem dX4_close_43 : decode cX4_close 43 = .ok (.putfield 39, 3) := by decide +kernel
theorem dX4_close_46 : decode cX4_close 46 = .ok (.aload_n 0, 1) := by decide +kernel
theorem dX4_close_47 : decode cX4_close 47 = .ok (.dup, 1) := by decide +kernel
theorem dX4_close_48 : decode cX4_close 48 = .ok (.getfield 43, 3) := by decide +kernel
theorem dX4_close_51 : decode cX4_close 51 = .ok (.iconst 1, 1) := by decide +kernel
theorem dX4_close_52 : decode cX4_close 52 = .ok (.iadd, 1) := by decide +kernel
theorem dX4_close_53 : decode cX4_close 53 = .ok (.putfield 43, 3) := by decide +kernel
theorem dX4_close_56 : decode cX4_close 56 = .ok (.aload_n 0, 1) := by decide +kernel
theorem dX4_close_57 : decode cX4_close 57 = .ok (.invokevirtual 108, 3) := by decide +kernel
theorem dX4_close_60 : decode cX4_close 60 = .ok (.return_, 1) := by decide +kernel
theorem dX4_endPiece_0 : decode cX4_endPiece 0 = .ok (.aload_n 0, 1) := by decide +kernel
theorem dX4_endPiece_1 : decode cX4_endPiece 1 = .ok (.getfield 12, 3) := by decide +kernel
theorem dX4_endPiece_4 : decode cX4_endPiece 4 = .ok (.aload_n 0, 1) := by decide +kernel
theorem dX4_endPiece_5 : decode cX4_endPiece 5 = .ok (.getfield 43, 3) := by decide +kernel
theorem dX4_endPiece_8 : decode cX4_endPiece 8 = .ok (.invokevirtual 57, 3) := by decide +kernel
theorem dX4_endPiece_11 : decode cX4_endPiece 11 = .ok (.istore_n 1, 1) := by decide +kernel
theorem dX4_endPiece_12 : decode cX4_endPiece 12 = .ok (.iload_n 1, 1) := by decide +kernel
theorem dX4_endPiece_13 : decode cX4_endPiece 13 = .ok (.bipush 42, 2) := by decide +kernel
theorem dX4_endPiece_15 : decode cX4_endPiece 15 = .ok (.if_icmp .eq 9, 3) := by decide +kernel
theorem dX4_endPiece_18 : decode cX4_endPiece 18 = .ok (.iload_n 1, 1) := by decide +kernel
theorem dX4_endPiece_19 : decode cX4_endPiece 19 = .ok (.bipush 43, 2) := by decide +kernel
theorem dX4_endPiece_21 : decode cX4_endPiece 21 = .ok (.if_icmp .ne 7, 3) := by decide +kernel
theorem dX4_endPiece_24 : decode cX4_endPiece 24 = .ok (.iconst 1, 1) := by decide +kernel
theorem dX4_endPiece_25 : decode cX4_endPiece 25 = .ok (.goto 4, 3) := by decide +kernel
theorem dX4_endPiece_28 : decode cX4_endPiece 28 = .ok (.iconst 0, 1) := by decide +kernel
theorem dX4_endPiece_29 : decode cX4_endPiece 29 = .ok (.istore_n 2, 1) := by decide +kernel
theorem dX4_endPiece_30 : decode cX4_endPiece 30 = .ok (.iload_n 1, 1) := by decide +kernel
theorem dX4_endPiece_31 : decode cX4_endPiece 31 = .ok (.bipush 42, 2) := by decide +kernel
theorem dX4_endPiece_33 : decode cX4_endPiece 33 = .ok (.if_icmp .eq 9, 3) := by decide +kernel
theorem dX4_endPiece_36 : decode cX4_endPiece 36 = .ok (.iload_n 1, 1) := by decide +kernel
theorem dX4_endPiece_37 : decode cX4_endPiece 37 = .ok (.bipush 63, 2) := by decide +kernel
theorem dX4_endPiece_39 : decode cX4_endPiece 39 = .ok (.if_icmp .ne 7, 3) := by decide +kernel
theorem dX4_endPiece_42 : decode cX4_endPiece 42 = .ok (.iconst 1, 1) := by decide +kernel
theorem dX4_endPiece_43 : decode cX4_endPiece 43 = .ok (.goto 4, 3) := by decide +kernel
theorem dX4_endPiece_46 : decode cX4_endPiece 46 = .ok (.iconst 0, 1) := by decide +kernel
theorem dX4_endPiece_47 : decode cX4_endPiece 47 = .ok (.istore_n 3, 1) := by decide +kernel
theorem dX4_endPiece_48 : decode cX4_endPiece 48 = .ok (.iload_n 2, 1) := by decide +kernel
theorem dX4_endPiece_49 : decode cX4_endPiece 49 = .ok (.ifCond .eq 24, 3) := by decide +kernel
theorem dX4_endPiece_52 : decode cX4_endPiece 52 = .ok (.aload_n 0, 1) := by decide +kernel
theorem dX4_endPiece_53 : decode cX4_endPiece 53 = .ok (.getfield 35, 3) := by decide +kernel
theorem dX4_endPiece_56 : decode cX4_endPiece 56 = .ok (.aload_n 0, 1) := by decide +kernel
theorem dX4_endPiece_57 : decode cX4_endPiece 57 = .ok (.getfield 28, 3) := by decide +kernel
theorem dX4_endPiece_60 : decode cX4_endPiece 60 = .ok (.getfield 88, 3) := by decide +kernel
theorem dX4_endPiece_63 : decode cX4_endPiece 63 = .ok (.aload_n 0, 1) := by decide +kernel
theorem dX4_endPiece_64 : decode cX4_endPiece 64 = .ok (.getfield 28, 3) := by decide +kernel
theorem dX4_endPiece_67 : decode cX4_endPiece 67 = .ok (.getfield 84, 3) := by decide +kernel
theorem dX4_endPiece_70 : decode cX4_endPiece 70 = .ok (.invokevirtual 111, 3) := by decide +kernel
theorem dX4_endPiece_73 : decode cX4_endPiece 73 = .ok (.iload_n 3, 1) := by decide +kernel
theorem dX4_endPiece_74 : decode cX4_endPiece 74 = .ok (.ifCond .eq 11, 3) := by decide +kernel
theorem dX4_endPiece_77 : decode cX4_endPiece 77 = .ok (.aload_n 0, 1) := by decide +kernel
theorem dX4_endPiece_78 : decode cX4_endPiece 78 = .ok (.getfield 28, 3) := by decide +kernel
theorem dX4_endPiece_81 : decode cX4_endPiece 81 = .ok (.iconst 1, 1) := by decide +kernel
theorem dX4_endPiece_82 : decode cX4_endPiece 82 = .ok (.putfield 114, 3) := by decide +kernel
theorem dX4_endPiece_85 : decode cX4_endPiece 85 = .ok (.iload_n 2, 1) := by decide +kernel
theorem dX4_endPiece_86 : decode cX4_endPiece 86 = .ok (.ifCond .ne 7, 3) := by decide +kernel
theorem dX4_endPiece_89 : decode cX4_endPiece 89 = .ok (.iload_n 3, 1) := by decide +kernel
theorem dX4_endPiece_90 : decode cX4_endPiece 90 = .ok (.ifCond .eq 13, 3) := by decide +kernel
theorem dX4_endPiece_93 : decode cX4_endPiece 93 = .ok (.aload_n 0, 1) := by decide +kernel
theorem dX4_endPiece_94 : decode cX4_endPiece 94 = .ok (.dup, 1) := by decide +kernel
theorem dX4_endPiece_95 : decode cX4_endPiece 95 = .ok (.getfield 43, 3) := by decide +kernel
theorem dX4_endPiece_98 : decode cX4_endPiece 98 = .ok (.iconst 1, 1) := by decide +kernel
theorem dX4_endPiece_99 : decode cX4_endPiece 99 = .ok (.iadd, 1) := by decide +kernel
theorem dX4_endPiece_100 : decode cX4_endPiece 100 = .ok (.putfield 43, 3) := by decide +kernel
theorem dX4_endPiece_103 : decode cX4_endPiece 103 = .ok (.aload_n 0, 1) := by decide +kernel
theorem dX4_endPiece_104 : decode cX4_endPiece 104 = .ok (.getfield 35, 3) := by decide +kernel
theorem dX4_endPiece_107 : decode cX4_endPiece 107 = .ok (.aload_n 0, 1) := by decide +kernel
theorem dX4_endPiece_108 : decode cX4_endPiece 108 = .ok (.getfield 24, 3) := by decide +kernel
theorem dX4_endPiece_111 : decode cX4_endPiece 111 = .ok (.aload_n 0, 1) := by decide +kernel
theorem dX4_endPiece_112 : decode cX4_endPiece 112 = .ok (.getfield 39, 3) := by decide +kernel
theorem dX4_endPiece_115 : decode cX4_endPiece 115 = .ok (.aaload, 1) := by decide +kernel
theorem dX4_endPiece_116 : decode cX4_endPiece 116 = .ok (.getfield 88, 3) := by decide +kernel
theorem dX4_endPiece_119 : decode cX4_endPiece 119 = .ok (.aload_n 0, 1) := by decide +kernel
theorem dX4_endPiece_120 : decode cX4_endPiece 120 = .ok (.getfield 28, 3) := by decide +kernel
theorem dX4_endPiece_123 : decode cX4_endPiece 123 = .ok (.getfield 84, 3) := by decide +kernel
theorem dX4_endPiece_126 : decode cX4_endPiece 126 = .ok (.invokevirtual 111, 3) := by decide +kernel
theorem dX4_endPiece_129 : decode cX4_endPiece 129 = .ok (.aload_n 0, 1) := by decide +kernel
theorem dX4_endPiece_130 : decode cX4_endPiece 130 = .ok (.getfield 24, 3) := by decide +kernel
theorem dX4_endPiece_133 : decode cX4_endPiece 133 = .ok (.aload_n 0, 1) := by decide +kernel
theorem dX4_endPiece_134 : decode cX4_endPiece 134 = .ok (.getfield 39, 3) := by decide +kernel
theorem dX4_endPiece_137 : decode cX4_endPiece 137 = .ok (.aaload, 1) := by decide +kernel
theorem dX4_endPiece_138 : decode cX4_endPiece 138 = .ok (.aload_n 0, 1) := by decide +kernel
theorem dX4_endPiece_139 : decode cX4_endPiece 139 = .ok (.getfield 28, 3) := by decide +kernel
theorem dX4_endPiece_142 : decode cX4_endPiece 142 = .ok (.invokevirtual 118, 3) := by decide +kernel
theorem dX4_endPiece_145 : decode cX4_endPiece 145 = .ok (.return_, 1) := by decide +kernel
theorem dX4_readAtom_0 : decode cX4_readAtom 0 = .ok (.aload_n 0, 1) := by decide +kernel
theorem dX4_readAtom_1 : decode cX4_readAtom 1 = .ok (.getfield 35, 3) := by decide +kernel
theorem dX4_readAtom_4 : decode cX4_readAtom 4 = .ok (.invokevirtual 121, 3) := by decide +kernel
theorem dX4_readAtom_7 : decode cX4_readAtom 7 = .ok (.bipush 60, 2) := by decide +kernel
theorem dX4_readAtom_9 : decode cX4_readAtom 9 = .ok (.if_icmp .lt 12, 3) := by decide +kernel
theorem dX4_readAtom_12 : decode cX4_readAtom 12 = .ok (.aload_n 0, 1) := by decide +kernel
theorem dX4_readAtom_13 : decode cX4_readAtom 13 = .ok (.aload_n 0, 1) := by decide +kernel
theorem dX4_readAtom_14 : decode cX4_readAtom 14 = .ok (.getfield 43, 3) := by decide +kernel
theorem dX4_readAtom_17 : decode cX4_readAtom 17 = .ok (.putfield 46, 3) := by decide +kernel
theorem dX4_readAtom_20 : decode cX4_readAtom 20 = .ok (.return_, 1) := by decide +kernel
theorem dX4_readAtom_21 : decode cX4_readAtom 21 = .ok (.aload_n 0, 1) := by decide +kernel
theorem dX4_readAtom_22 : decode cX4_readAtom 22 = .ok (.getfield 35, 3) := by decide +kernel
theorem dX4_readAtom_25 : decode cX4_readAtom 25 = .ok (.invokevirtual 124, 3) := by decide +kernel
theorem dX4_readAtom_28 : decode cX4_readAtom 28 = .ok (.aload_n 0, 1) := by decide +kernel
theorem dX4_readAtom_29 : decode cX4_readAtom 29 = .ok (.getfield 12, 3) := by decide +kernel
theorem dX4_readAtom_32 : decode cX4_readAtom 32 = .ok (.aload_n 0, 1) := by decide +kernel
theorem dX4_readAtom_33 : decode cX4_readAtom 33 = .ok (.getfield 43, 3) := by decide +kernel
theorem dX4_readAtom_36 : decode cX4_readAtom 36 = .ok (.invokevirtual 57, 3) := by decide +kernel
theorem dX4_readAtom_39 : decode cX4_readAtom 39 = .ok (.istore_n 1, 1) := by decide +kernel
theorem dX4_readAtom_40 : decode cX4_readAtom 40 = .ok (.iload_n 1, 1) := by decide +kernel
theorem dX4_readAtom_41 : decode cX4_readAtom 41 = .ok (.bipush 91, 2) := by decide +kernel
theorem dX4_readAtom_43 : decode cX4_readAtom 43 = .ok (.if_icmp .ne 10, 3) := by decide +kernel
theorem dX4_readAtom_46 : decode cX4_readAtom 46 = .ok (.aload_n 0, 1) := by decide +kernel
theorem dX4_readAtom_47 : decode cX4_readAtom 47 = .ok (.invokevirtual 127, 3) := by decide +kernel
theorem dX4_readAtom_50 : decode cX4_readAtom 50 = .ok (.goto 41, 3) := by decide +kernel
theorem dX4_readAtom_53 : decode cX4_readAtom 53 = .ok (.iload_n 1, 1) := by decide +kernel
theorem dX4_readAtom_54 : decode cX4_readAtom 54 = .ok (.bipush 46, 2) := by decide +kernel
theorem dX4_readAtom_56 : decode cX4_readAtom 56 = .ok (.if_icmp .ne 20, 3) := by decide +kernel
theorem dX4_readAtom_59 : decode cX4_readAtom 59 = .ok (.aload_n 0, 1) := by decide +kernel
theorem dX4_readAtom_60 : decode cX4_readAtom 60 = .ok (.dup, 1) := by decide +kernel
theorem dX4_readAtom_61 : decode cX4_readAtom 61 = .ok (.getfield 43, 3) := by decide +kernel
theorem dX4_readAtom_64 : decode cX4_readAtom 64 = .ok (.iconst 1, 1) := by decide +kernel
theorem dX4_readAtom_65 : decode cX4_readAtom 65 = .ok (.iadd, 1) := by decide +kernel
theorem dX4_readAtom_66 : decode cX4_readAtom 66 = .ok (.putfield 43, 3) := by decide +kernel
theorem dX4_readAtom_69 : decode cX4_readAtom 69 = .ok (.aload_n 0, 1) := by decide +kernel
theorem dX4_readAtom_70 : decode cX4_readAtom 70 = .ok (.invokevirtual 130, 3) := by decide +kernel
theorem dX4_readAtom_73 : decode cX4_readAtom 73 = .ok (.goto 18, 3) := by decide +kernel
theorem dX4_readAtom_76 : decode cX4_readAtom 76 = .ok (.aload_n 0, 1) := by decide +kernel
theorem dX4_readAtom_77 : decode cX4_readAtom 77 = .ok (.iconst 0, 1) := by decide +kernel
theorem dX4_readAtom_78 : decode cX4_readAtom 78 = .ok (.invokevirtual 133, 3) := by decide +kernel
theorem dX4_readAtom_81 : decode cX4_readAtom 81 = .ok (.istore_n 2, 1) := by decide +kernel
theorem dX4_readAtom_82 : decode cX4_readAtom 82 = .ok (.aload_n 0, 1) := by decide +kernel
theorem dX4_readAtom_83 : decode cX4_readAtom 83 = .ok (.getfield 35, 3) := by decide +kernel
theorem dX4_readAtom_86 : decode cX4_readAtom 86 = .ok (.iload_n 2, 1) := by decide +kernel
theorem dX4_readAtom_87 : decode cX4_readAtom 87 = .ok (.iload_n 2, 1) := by decide +kernel
theorem dX4_readAtom_88 : decode cX4_readAtom 88 = .ok (.invokevirtual 137, 3) := by decide +kernel
theorem dX4_readAtom_91 : decode cX4_readAtom 91 = .ok (.aload_n 0, 1) := by decide +kernel
theorem dX4_readAtom_92 : decode cX4_readAtom 92 = .ok (.getfield 46, 3) := by decide +kernel
theorem dX4_readAtom_95 : decode cX4_readAtom 95 = .ok (.iconst (-1), 1) := by decide +kernel
theorem dX4_readAtom_96 : decode cX4_readAtom 96 = .ok (.if_icmp .ne 21, 3) := by decide +kernel
theorem dX4_readAtom_99 : decode cX4_readAtom 99 = .ok (.aload_n 0, 1) := by decide +kernel
theorem dX4_readAtom_100 : decode cX4_readAtom 100 = .ok (.getfield 28, 3) := by decide +kernel
theorem dX4_readAtom_103 : decode cX4_readAtom 103 = .ok (.aload_n 0, 1) := by decide +kernel
theorem dX4_readAtom_104 : decode cX4_readAtom 104 = .ok (.getfield 35, 3) := by decide +kernel
theorem dX4_readAtom_107 : decode cX4_readAtom 107 = .ok (.invokevirtual 141, 3) := by decide +kernel
theorem dX4_readAtom_110 : decode cX4_readAtom 110 = .ok (.invokevirtual 145, 3) := by decide +kernel
theorem dX4_readAtom_113 : decode cX4_readAtom 113 = .ok (.aload_n 0, 1) := by decide +kernel
theorem dX4_readAtom_114 : decode cX4_readAtom 114 = .ok (.invokevirtual 108, 3) := by decide +kernel
theorem dX4_readAtom_117 : decode cX4_readAtom 117 = .ok (.return_, 1) := by decide +kernel
theorem dX4_allowSolid_0 : decode cX4_allowSolid 0 = .ok (.aload_n 0, 1) := by decide +kernel
theorem dX4_allowSolid_1 : decode cX4_allowSolid 1 = .ok (.getfield 35, 3) := by decide +kernel
theorem dX4_allowSolid_4 : decode cX4_allowSolid 4 = .ok (.bipush 32, 2) := by decide +kernel
theorem dX4_allowSolid_6 : decode cX4_allowSolid 6 = .ok (.bipush 32, 2) := by decide +kernel
theorem dX4_allowSolid_8 : decode cX4_allowSolid 8 = .ok (.invokevirtual 137, 3) := by decide +kernel
theorem dX4_allowSolid_11 : decode cX4_allowSolid 11 = .ok (.aload_n 0, 1) := by decide +kernel
theorem dX4_allowSolid_12 : decode cX4_allowSolid 12 = .ok (.getfield 35, 3) := by decide +kernel
theorem dX4_allowSolid_15 : decode cX4_allowSolid 15 = .ok (.bipush 9, 2) := by decide +kernel
theorem dX4_allowSolid_17 : decode cX4_allowSolid 17 = .ok (.bipush 10, 2) := by decide +kernel
theorem dX4_allowSolid_19 : decode cX4_allowSolid 19 = .ok (.invokevirtual 137, 3) := by decide +kernel
theorem dX4_allowSolid_22 : decode cX4_allowSolid 22 = .ok (.aload_n 0, 1) := by decide +kernel
theorem dX4_allowSolid_23 : decode cX4_allowSolid 23 = .ok (.getfield 35, 3) := by decide +kernel
theorem dX4_allowSolid_26 : decode cX4_allowSolid 26 = .ok (.invokevirtual 149, 3) := by decide +kernel
theorem dX4_allowSolid_29 : decode cX4_allowSolid 29 = .ok (.return_, 1) := by decide +kernel
theorem dX4_readSet_0 : decode cX4_readSet 0 = .ok (.aload_n 0, 1) := by decide +kernel
theorem dX4_readSet_1 : decode cX4_readSet 1 = .ok (.dup, 1) := by decide +kernel
theorem dX4_readSet_2 : decode cX4_readSet 2 = .ok (.getfield 43, 3) := by decide +kernel
theorem dX4_readSet_5 : decode cX4_readSet 5 = .ok (.iconst 1, 1) := by decide +kernel
theorem dX4_readSet_6 : decode cX4_readSet 6 = .ok (.iadd, 1) := by decide +kernel
theorem dX4_readSet_7 : decode cX4_readSet 7 = .ok (.putfield 43, 3) := by decide +kernel
theorem dX4_readSet_10 : decode cX4_readSet 10 = .ok (.aload_n 0, 1) := by decide +kernel
theorem dX4_readSet_11 : decode cX4_readSet 11 = .ok (.getfield 12, 3) := by decide +kernel
theorem dX4_readSet_14 : decode cX4_readSet 14 = .ok (.aload_n 0, 1) := by decide +kernel
theorem dX4_readSet_15 : decode cX4_readSet 15 = .ok (.getfield 43, 3) := by decide +kernel
theorem dX4_readSet_18 : decode cX4_readSet 18 = .ok (.invokevirtual 57, 3) := by decide +kernel
theorem dX4_readSet_21 : decode cX4_readSet 21 = .ok (.bipush 94, 2) := by decide +kernel
theorem dX4_readSet_23 : decode cX4_readSet 23 = .ok (.if_icmp .ne 7, 3) := by decide +kernel
theorem dX4_readSet_26 : decode cX4_readSet 26 = .ok (.iconst 1, 1) := by decide +kernel
theorem dX4_readSet_27 : decode cX4_readSet 27 = .ok (.goto 4, 3) := by decide +kernel
theorem dX4_readSet_30 : decode cX4_readSet 30 = .ok (.iconst 0, 1) := by decide +kernel
theorem dX4_readSet_31 : decode cX4_readSet 31 = .ok (.istore_n 1, 1) := by decide +kernel
theorem dX4_readSet_32 : decode cX4_readSet 32 = .ok (.iload_n 1, 1) := by decide +kernel
theorem dX4_readSet_33 : decode cX4_readSet 33 = .ok (.ifCond .eq 13, 3) := by decide +kernel
theorem dX4_readSet_36 : decode cX4_readSet 36 = .ok (.aload_n 0, 1) := by decide +kernel
theorem dX4_readSet_37 : decode cX4_readSet 37 = .ok (.dup, 1) := by decide +kernel
theorem dX4_readSet_38 : decode cX4_readSet 38 = .ok (.getfield 43, 3) := by decide +kernel
theorem dX4_readSet_41 : decode cX4_readSet 41 = .ok (.iconst 1, 1) := by decide +kernel
theorem dX4_readSet_42 : decode cX4_readSet 42 = .ok (.iadd, 1) := by decide +kernel
theorem dX4_readSet_43 : decode cX4_readSet 43 = .ok (.putfield 43, 3) := by decide +kernel
theorem dX4_readSet_46 : decode cX4_readSet 46 = .ok (.aload_n 0, 1) := by decide +kernel
theorem dX4_readSet_47 : decode cX4_readSet 47 = .ok (.invokevirtual 152, 3) := by decide +kernel
theorem dX4_readSet_50 : decode cX4_readSet 50 = .ok (.iconst 0, 1) := by decide +kernel
theorem dX4_readSet_51 : decode cX4_readSet 51 = .ok (.istore_n 2, 1) := by decide +kernel
theorem dX4_readSet_52 : decode cX4_readSet 52 = .ok (.iload_n 2, 1) := by decide +kernel
theorem dX4_readSet_53 : decode cX4_readSet 53 = .ok (.sipush 300, 3) := by decide +kernel
theorem dX4_readSet_56 : decode cX4_readSet 56 = .ok (.if_icmp .ge 37, 3) := by decide +kernel
theorem dX4_readSet_59 : decode cX4_readSet 59 = .ok (.aload_n 0, 1) := by decide +kernel
theorem dX4_readSet_60 : decode cX4_readSet 60 = .ok (.getfield 46, 3) := by decide +kernel
theorem dX4_readSet_63 : decode cX4_readSet 63 = .ok (.iconst (-1), 1) := by decide +kernel
theorem dX4_readSet_64 : decode cX4_readSet 64 = .ok (.if_icmp .ne 29, 3) := by decide +kernel
theorem dX4_readSet_67 : decode cX4_readSet 67 = .ok (.aload_n 0, 1) := by decide +kernel
theorem dX4_readSet_68 : decode cX4_readSet 68 = .ok (.getfield 12, 3) := by decide +kernel
theorem dX4_readSet_71 : decode cX4_readSet 71 = .ok (.aload_n 0, 1) := by decide +kernel
theorem dX4_readSet_72 : decode cX4_readSet 72 = .ok (.getfield 43, 3) := by decide +kernel
theorem dX4_readSet_75 : decode cX4_readSet 75 = .ok (.invokevirtual 57, 3) := by decide +kernel
theorem dX4_readSet_78 : decode cX4_readSet 78 = .ok (.bipush 93, 2) := by decide +kernel
theorem dX4_readSet_80 : decode cX4_readSet 80 = .ok (.if_icmp .eq 13, 3) := by decide +kernel
theorem dX4_readSet_83 : decode cX4_readSet 83 = .ok (.aload_n 0, 1) := by decide +kernel
theorem dX4_readSet_84 : decode cX4_readSet 84 = .ok (.invokevirtual 152, 3) := by decide +kernel
theorem dX4_readSet_87 : decode cX4_readSet 87 = .ok (.iinc 2 1, 3) := by decide +kernel
theorem dX4_readSet_90 : decode cX4_readSet 90 = .ok (.goto (-38), 3) := by decide +kernel
theorem dX4_readSet_93 : decode cX4_readSet 93 = .ok (.aload_n 0, 1) := by decide +kernel
theorem dX4_readSet_94 : decode cX4_readSet 94 = .ok (.dup, 1) := by decide +kernel
theorem dX4_readSet_95 : decode cX4_readSet 95 = .ok (.getfield 43, 3) := by decide +kernel
theorem dX4_readSet_98 : decode cX4_readSet 98 = .ok (.iconst 1, 1) := by decide +kernel
theorem dX4_readSet_99 : decode cX4_readSet 99 = .ok (.iadd, 1) := by decide +kernel
theorem dX4_readSet_100 : decode cX4_readSet 100 = .ok (.putfield 43, 3) := by decide +kernel
theorem dX4_readSet_103 : decode cX4_readSet 103 = .ok (.iload_n 1, 1) := by decide +kernel
theorem dX4_readSet_104 : decode cX4_readSet 104 = .ok (.ifCond .eq 10, 3) := by decide +kernel
theorem dX4_readSet_107 : decode cX4_readSet 107 = .ok (.aload_n 0, 1) := by decide +kernel
theorem dX4_readSet_108 : decode cX4_readSet 108 = .ok (.getfield 35, 3) := by decide +kernel
theorem dX4_readSet_111 : decode cX4_readSet 111 = .ok (.invokevirtual 149, 3) := by decide +kernel
theorem dX4_readSet_114 : decode cX4_readSet 114 = .ok (.return_, 1) := by decide +kernel
theorem dX4_readRange_0 : decode cX4_readRange 0 = .ok (.aload_n 0, 1) := by decide +kernel
theorem dX4_readRange_1 : decode cX4_readRange 1 = .ok (.iconst 1, 1) := by decide +kernel
theorem dX4_readRange_2 : decode cX4_readRange 2 = .ok (.invokevirtual 133, 3) := by decide +kernel
theorem dX4_readRange_5 : decode cX4_readRange 5 = .ok (.istore_n 1, 1) := by decide +kernel
theorem dX4_readRange_6 : decode cX4_readRange 6 = .ok (.iload_n 1, 1) := by decide +kernel
theorem dX4_readRange_7 : decode cX4_readRange 7 = .ok (.istore_n 2, 1) := by decide +kernel
theorem dX4_readRange_8 : decode cX4_readRange 8 = .ok (.aload_n 0, 1) := by decide +kernel
theorem dX4_readRange_9 : decode cX4_readRange 9 = .ok (.getfield 46, 3) := by decide +kernel
theorem dX4_readRange_12 : decode cX4_readRange 12 = .ok (.iconst (-1), 1) := by decide +kernel
theorem dX4_readRange_13 : decode cX4_readRange 13 = .ok (.if_icmp .ne 58, 3) := by decide +kernel
theorem dX4_readRange_16 : decode cX4_readRange 16 = .ok (.aload_n 0, 1) := by decide +kernel
theorem dX4_readRange_17 : decode cX4_readRange 17 = .ok (.getfield 12, 3) := by decide +kernel
theorem dX4_readRange_20 : decode cX4_readRange 20 = .ok (.aload_n 0, 1) := by decide +kernel
theorem dX4_readRange_21 : decode cX4_readRange 21 = .ok (.getfield 43, 3) := by decide +kernel
theorem dX4_readRange_24 : decode cX4_readRange 24 = .ok (.invokevirtual 57, 3) := by decide +kernel
theorem dX4_readRange_27 : decode cX4_readRange 27 = .ok (.bipush 45, 2) := by decide +kernel
theorem dX4_readRange_29 : decode cX4_readRange 29 = .ok (.if_icmp .ne 42, 3) := by decide +kernel
theorem dX4_readRange_32 : decode cX4_readRange 32 = .ok (.aload_n 0, 1) := by decide +kernel
theorem dX4_readRange_33 : decode cX4_readRange 33 = .ok (.dup, 1) := by decide +kernel
theorem dX4_readRange_34 : decode cX4_readRange 34 = .ok (.getfield 43, 3) := by decide +kernel
theorem dX4_readRange_37 : decode cX4_readRange 37 = .ok (.iconst 1, 1) := by decide +kernel
theorem dX4_readRange_38 : decode cX4_readRange 38 = .ok (.iadd, 1) := by decide +kernel
theorem dX4_readRange_39 : decode cX4_readRange 39 = .ok (.putfield 43, 3) := by decide +kernel
theorem dX4_readRange_42 : decode cX4_readRange 42 = .ok (.aload_n 0, 1) := by decide +kernel
theorem dX4_readRange_43 : decode cX4_readRange 43 = .ok (.getfield 43, 3) := by decide +kernel
theorem dX4_readRange_46 : decode cX4_readRange 46 = .ok (.istore_n 3, 1) := by decide +kernel
theorem dX4_readRange_47 : decode cX4_readRange 47 = .ok (.aload_n 0, 1) := by decide +kernel
theorem dX4_readRange_48 : decode cX4_readRange 48 = .ok (.iconst 1, 1) := by decide +kernel
theorem dX4_readRange_49 : decode cX4_readRange 49 = .ok (.invokevirtual 133, 3) := by decide +kernel
theorem dX4_readRange_52 : decode cX4_readRange 52 = .ok (.istore_n 2, 1) := by decide +kernel
theorem dX4_readRange_53 : decode cX4_readRange 53 = .ok (.aload_n 0, 1) := by decide +kernel
theorem dX4_readRange_54 : decode cX4_readRange 54 = .ok (.getfield 46, 3) := by decide +kernel
theorem dX4_readRange_57 : decode cX4_readRange 57 = .ok (.iconst (-1), 1) := by decide +kernel
theorem dX4_readRange_58 : decode cX4_readRange 58 = .ok (.if_icmp .ne 13, 3) := by decide +kernel
theorem dX4_readRange_61 : decode cX4_readRange 61 = .ok (.iload_n 2, 1) := by decide +kernel
theorem dX4_readRange_62 : decode cX4_readRange 62 = .ok (.iload_n 1, 1) := by decide +kernel
theorem dX4_readRange_63 : decode cX4_readRange 63 = .ok (.if_icmp .ge 8, 3) := by decide +kernel
theorem dX4_readRange_66 : decode cX4_readRange 66 = .ok (.aload_n 0, 1) := by decide +kernel
theorem dX4_readRange_67 : decode cX4_readRange 67 = .ok (.iload_n 3, 1) := by decide +kernel
theorem dX4_readRange_68 : decode cX4_readRange 68 = .ok (.putfield 46, 3) := by decide +kernel
theorem dX4_readRange_71 : decode cX4_readRange 71 = .ok (.aload_n 0, 1) := by decide +kernel
theorem dX4_readRange_72 : decode cX4_readRange 72 = .ok (.getfield 46, 3) := by decide +kernel
theorem dX4_readRange_75 : decode cX4_readRange 75 = .ok (.iconst (-1), 1) := by decide +kernel
theorem dX4_readRange_76 : decode cX4_readRange 76 = .ok (.if_icmp .ne 12, 3) := by decide +kernel
theorem dX4_readRange_79 : decode cX4_readRange 79 = .ok (.aload_n 0, 1) := by decide +kernel
theorem dX4_readRange_80 : decode cX4_readRange 80 = .ok (.getfield 35, 3) := by decide +kernel
theorem dX4_readRange_83 : decode cX4_readRange 83 = .ok (.iload_n 1, 1) := by decide +kernel
theorem dX4_readRange_84 : decode cX4_readRange 84 = .ok (.iload_n 2, 1) := by decide +kernel
theorem dX4_readRange_85 : decode cX4_readRange 85 = .ok (.invokevirtual 137, 3) := by decide +kernel
theorem dX4_readRange_88 : decode cX4_readRange 88 = .ok (.return_, 1) := by decide +kernel
theorem dX4_readSign_0 : decode cX4_readSign 0 = .ok (.aload_n 0, 1) := by decide +kernel
theorem dX4_readSign_1 : decode cX4_readSign 1 = .ok (.getfield 12, 3) := by decide +kernel
theorem dX4_readSign_4 : decode cX4_readSign 4 = .ok (.aload_n 0, 1) := by decide +kernel
theorem dX4_readSign_5 : decode cX4_readSign 5 = .ok (.getfield 43, 3) := by decide +kernel
theorem dX4_readSign_8 : decode cX4_readSign 8 = .ok (.invokevirtual 57, 3) := by decide +kernel
theorem dX4_readSign_11 : decode cX4_readSign 11 = .ok (.istore_n 2, 1) := by decide +kernel
theorem dX4_readSign_12 : decode cX4_readSign 12 = .ok (.iload_n 1, 1) := by decide +kernel
theorem dX4_readSign_13 : decode cX4_readSign 13 = .ok (.ifCond .eq 31, 3) := by decide +kernel
theorem dX4_readSign_16 : decode cX4_readSign 16 = .ok (.iload_n 2, 1) := by decide +kernel
theorem dX4_readSign_17 : decode cX4_readSign 17 = .ok (.bipush 93, 2) := by decide +kernel
theorem dX4_readSign_19 : decode cX4_readSign 19 = .ok (.if_icmp .eq 15, 3) := by decide +kernel
theorem dX4_readSign_22 : decode cX4_readSign 22 = .ok (.iload_n 2, 1) := by decide +kernel
theorem dX4_readSign_23 : decode cX4_readSign 23 = .ok (.bipush 94, 2) := by decide +kernel
theorem dX4_readSign_25 : decode cX4_readSign 25 = .ok (.if_icmp .eq 9, 3) := by decide +kernel
theorem dX4_readSign_28 : decode cX4_readSign 28 = .ok (.iload_n 2, 1) := by decide +kernel
theorem dX4_readSign_29 : decode cX4_readSign 29 = .ok (.bipush 45, 2) := by decide +kernel
theorem dX4_readSign_31 : decode cX4_readSign 31 = .ok (.if_icmp .ne 13, 3) := by decide +kernel
theorem dX4_readSign_34 : decode cX4_readSign 34 = .ok (.aload_n 0, 1) := by decide +kernel
theorem dX4_readSign_35 : decode cX4_readSign 35 = .ok (.aload_n 0, 1) := by decide +kernel
theorem dX4_readSign_36 : decode cX4_readSign 36 = .ok (.getfield 43, 3) := by decide +kernel
theorem dX4_readSign_39 : decode cX4_readSign 39 = .ok (.putfield 46, 3) := by decide +kernel
theorem dX4_readSign_42 : decode cX4_readSign 42 = .ok (.iconst (-1), 1) := by decide +kernel
theorem dX4_readSign_43 : decode cX4_readSign 43 = .ok (.ireturn, 1) := by decide +kernel
theorem dX4_readSign_44 : decode cX4_readSign 44 = .ok (.iload_n 2, 1) := by decide +kernel
theorem dX4_readSign_45 : decode cX4_readSign 45 = .ok (.bipush 92, 2) := by decide +kernel
theorem dX4_readSign_47 : decode cX4_readSign 47 = .ok (.if_icmp .ne 25, 3) := by decide +kernel
theorem dX4_readSign_50 : decode cX4_readSign 50 = .ok (.aload_n 0, 1) := by decide +kernel
theorem dX4_readSign_51 : decode cX4_readSign 51 = .ok (.dup, 1) := by decide +kernel
theorem dX4_readSign_52 : decode cX4_readSign 52 = .ok (.getfield 43, 3) := by decide +kernel
theorem dX4_readSign_55 : decode cX4_readSign 55 = .ok (.iconst 1, 1) := by decide +kernel
theorem dX4_readSign_56 : decode cX4_readSign 56 = .ok (.iadd, 1) := by decide +kernel
theorem dX4_readSign_57 : decode cX4_readSign 57 = .ok (.putfield 43, 3) := by decide +kernel
theorem dX4_readSign_60 : decode cX4_readSign 60 = .ok (.aload_n 0, 1) := by decide +kernel
theorem dX4_readSign_61 : decode cX4_readSign 61 = .ok (.getfield 12, 3) := by decide +kernel
theorem dX4_readSign_64 : decode cX4_readSign 64 = .ok (.aload_n 0, 1) := by decide +kernel
theorem dX4_readSign_65 : decode cX4_readSign 65 = .ok (.getfield 43, 3) := by decide +kernel
theorem dX4_readSign_68 : decode cX4_readSign 68 = .ok (.invokevirtual 57, 3) := by decide +kernel
theorem dX4_readSign_71 : decode cX4_readSign 71 = .ok (.istore_n 2, 1) := by decide +kernel
theorem dX4_readSign_72 : decode cX4_readSign 72 = .ok (.iload_n 2, 1) := by decide +kernel
theorem dX4_readSign_73 : decode cX4_readSign 73 = .ok (.iconst (-1), 1) := by decide +kernel
theorem dX4_readSign_74 : decode cX4_readSign 74 = .ok (.if_icmp .ne 14, 3) := by decide +kernel
theorem dX4_readSign_77 : decode cX4_readSign 77 = .ok (.aload_n 0, 1) := by decide +kernel
theorem dX4_readSign_78 : decode cX4_readSign 78 = .ok (.aload_n 0, 1) := by decide +kernel
theorem dX4_readSign_79 : decode cX4_readSign 79 = .ok (.getfield 12, 3) := by decide +kernel
theorem dX4_readSign_82 : decode cX4_readSign 82 = .ok (.invokevirtual 53, 3) := by decide +kernel
theorem dX4_readSign_85 : decode cX4_readSign 85 = .ok (.putfield 46, 3) := by decide +kernel
theorem dX4_readSign_88 : decode cX4_readSign 88 = .ok (.aload_n 0, 1) := by decide +kernel
theorem dX4_readSign_89 : decode cX4_readSign 89 = .ok (.dup, 1) := by decide +kernel
theorem dX4_readSign_90 : decode cX4_readSign 90 = .ok (.getfield 43, 3) := by decide +kernel
theorem dX4_readSign_93 : decode cX4_readSign 93 = .ok (.iconst 1, 1) := by decide +kernel
theorem dX4_readSign_94 : decode cX4_readSign 94 = .ok (.iadd, 1) := by decide +kernel
theorem dX4_readSign_95 : decode cX4_readSign 95 = .ok (.putfield 43, 3) := by decide +kernel
theorem dX4_readSign_98 : decode cX4_readSign 98 = .ok (.iload_n 2, 1) := by decide +kernel
theorem dX4_readSign_99 : decode cX4_readSign 99 = .ok (.ireturn, 1) := by decide +kernel
theorem dX5_init_0 : decode cX5_init 0 = .ok (.aload_n 0, 1) := by decide +kernel
theorem dX5_init_1 : decode cX5_init 1 = .ok (.invokespecial 3, 3) := by decide +kernel
theorem dX5_init_4 : decode cX5_init 4 = .ok (.aload_n 0, 1) := by decide +kernel
theorem dX5_init_5 : decode cX5_init 5 = .ok (.sipush 300, 3) := by decide +kernel
theorem dX5_init_8 : decode cX5_init 8 = .ok (.newarray .byte, 2) := by decide +kernel
theorem dX5_init_10 : decode cX5_init 10 = .ok (.putfield 9, 3) := by decide +kernel
theorem dX5_init_13 : decode cX5_init 13 = .ok (.aload_n 0, 1) := by decide +kernel
theorem dX5_init_14 : decode cX5_init 14 = .ok (.iconst 0, 1) := by decide +kernel
theorem dX5_init_15 : decode cX5_init 15 = .ok (.putfield 15, 3) := by decide +kernel
theorem dX5_init_18 : decode cX5_init 18 = .ok (.return_, 1) := by decide +kernel
theorem dX5_size_0 : decode cX5_size 0 = .ok (.aload_n 0, 1) := by decide +kernel
theorem dX5_size_1 : decode cX5_size 1 = .ok (.getfield 15, 3) := by decide +kernel
theorem dX5_size_4 : decode cX5_size 4 = .ok (.ireturn, 1) := by decide +kernel
theorem dX5_at_0 : decode cX5_at 0 = .ok (.iload_n 1, 1) := by decide +kernel
theorem dX5_at_1 : decode cX5_at 1 = .ok (.ifCond .lt 24, 3) := by decide +kernel
theorem dX5_at_4 : decode cX5_at 4 = .ok (.iload_n 1, 1) := by decide +kernel
theorem dX5_at_5 : decode cX5_at 5 = .ok (.aload_n 0, 1) := by decide +kernel
theorem dX5_at_6 : decode cX5_at 6 = .ok (.getfield 15, 3) := by decide +kernel
theorem dX5_at_9 : decode cX5_at 9 = .ok (.if_icmp .ge 16, 3) := by decide +kernel
theorem dX5_at_12 : decode cX5_at 12 = .ok (.aload_n 0, 1) := by decide +kernel
theorem dX5_at_13 : decode cX5_at 13 = .ok (.getfield 9, 3) := by decide +kernel
theorem dX5_at_16 : decode cX5_at 16 = .ok (.iload_n 1, 1) := by decide +kernel
theorem dX5_at_17 : decode cX5_at 17 = .ok (.baload, 1) := by decide +kernel
theorem dX5_at_18 : decode cX5_at 18 = .ok (.sipush 255, 3) := by decide +kernel
theorem dX5_at_21 : decode cX5_at 21 = .ok (.iand, 1) := by decide +kernel
theorem dX5_at_22 : decode cX5_at 22 = .ok (.goto 4, 3) := by decide +kernel
theorem dX5_at_25 : decode cX5_at 25 = .ok (.iconst (-1), 1) := by decide +kernel
theorem dX5_at_26 : decode cX5_at 26 = .ok (.ireturn, 1) := by decide +kernel
theorem dX5_append_0 : decode cX5_append 0 = .ok (.aload_n 0, 1) := by decide +kernel
theorem dX5_append_1 : decode cX5_append 1 = .ok (.getfield 15, 3) := by decide +kernel
theorem dX5_append_4 : decode cX5_append 4 = .ok (.sipush 300, 3) := by decide +kernel
theorem dX5_append_7 : decode cX5_append 7 = .ok (.if_icmp .ge 24, 3) := by decide +kernel
theorem dX5_append_10 : decode cX5_append 10 = .ok (.aload_n 0, 1) := by decide +kernel
theorem dX5_append_11 : decode cX5_append 11 = .ok (.getfield 9, 3) := by decide +kernel
theorem dX5_append_14 : decode cX5_append 14 = .ok (.aload_n 0, 1) := by decide +kernel
theorem dX5_append_15 : decode cX5_append 15 = .ok (.getfield 15, 3) := by decide +kernel
theorem dX5_append_18 : decode cX5_append 18 = .ok (.iload_n 1, 1) := by decide +kernel
theorem dX5_append_19 : decode cX5_append 19 = .ok (.i2b, 1) := by decide +kernel
theorem dX5_append_20 : decode cX5_append 20 = .ok (.bastore, 1) := by decide +kernel
theorem dX5_append_21 : decode cX5_append 21 = .ok (.aload_n 0, 1) := by decide +kernel
theorem dX5_append_22 : decode cX5_append 22 = .ok (.dup, 1) := by decide +kernel
theorem dX5_append_23 : decode cX5_append 23 = .ok (.getfield 15, 3) := by decide +kernel
theorem dX5_append_26 : decode cX5_append 26 = .ok (.iconst 1, 1) := by decide +kernel
theorem dX5_append_27 : decode cX5_append 27 = .ok (.iadd, 1) := by decide +kernel
theorem dX5_append_28 : decode cX5_append 28 = .ok (.putfield 15, 3) := by decide +kernel
theorem dX5_append_31 : decode cX5_append 31 = .ok (.return_, 1) := by decide +kernel
theorem dX5_clear_0 : decode cX5_clear 0 = .ok (.aload_n 0, 1) := by decide +kernel
theorem dX5_clear_1 : decode cX5_clear 1 = .ok (.iconst 0, 1) := by decide +kernel
theorem dX5_clear_2 : decode cX5_clear 2 = .ok (.putfield 15, 3) := by decide +kernel
theorem dX5_clear_5 : decode cX5_clear 5 = .ok (.return_, 1) := by decide +kernel
theorem dX5_takeOver_0 : decode cX5_takeOver 0 = .ok (.aload_n 0, 1) := by decide +kernel
theorem dX5_takeOver_1 : decode cX5_takeOver 1 = .ok (.iconst 0, 1) := by decide +kernel
theorem dX5_takeOver_2 : decode cX5_takeOver 2 = .ok (.putfield 15, 3) := by decide +kernel
theorem dX5_takeOver_5 : decode cX5_takeOver 5 = .ok (.iconst 0, 1) := by decide +kernel
theorem dX5_takeOver_6 : decode cX5_takeOver 6 = .ok (.istore_n 2, 1) := by decide +kernel
theorem dX5_takeOver_7 : decode cX5_takeOver 7 = .ok (.iload_n 2, 1) := by decide +kernel
theorem dX5_takeOver_8 : decode cX5_takeOver 8 = .ok (.aload_n 1, 1) := by decide +kernel
theorem dX5_takeOver_9 : decode cX5_takeOver 9 = .ok (.getfield 15, 3) := by decide +kernel
theorem dX5_takeOver_12 : decode cX5_takeOver 12 = .ok (.if_icmp .ge 18, 3) := by decide +kernel
theorem dX5_takeOver_15 : decode cX5_takeOver 15 = .ok (.aload_n 0, 1) := by decide +kernel
theorem dX5_takeOver_16 : decode cX5_takeOver 16 = .ok (.aload_n 1, 1) := by decide +kernel
theorem dX5_takeOver_17 : decode cX5_takeOver 17 = .ok (.iload_n 2, 1) := by decide +kernel
theorem dX5_takeOver_18 : decode cX5_takeOver 18 = .ok (.invokevirtual 19, 3) := by decide +kernel
theorem dX5_takeOver_21 : decode cX5_takeOver 21 = .ok (.invokevirtual 23, 3) := by decide +kernel
theorem dX5_takeOver_24 : decode cX5_takeOver 24 = .ok (.iinc 2 1, 3) := by decide +kernel
theorem dX5_takeOver_27 : decode cX5_takeOver 27 = .ok (.goto (-20), 3) := by decide +kernel
theorem dX5_takeOver_30 : decode cX5_takeOver 30 = .ok (.aload_n 1, 1) := by decide +kernel
theorem dX5_takeOver_31 : decode cX5_takeOver 31 = .ok (.invokevirtual 27, 3) := by decide +kernel
theorem dX5_takeOver_34 : decode cX5_takeOver 34 = .ok (.return_, 1) := by decide +kernel
theorem dX5_hasBlank_0 : decode cX5_hasBlank 0 = .ok (.iconst 0, 1) := by decide +kernel
theorem dX5_hasBlank_1 : decode cX5_hasBlank 1 = .ok (.istore_n 1, 1) := by decide +kernel
theorem dX5_hasBlank_2 : decode cX5_hasBlank 2 = .ok (.iload_n 1, 1) := by decide +kernel
theorem dX5_hasBlank_3 : decode cX5_hasBlank 3 = .ok (.aload_n 0, 1) := by decide +kernel
theorem dX5_hasBlank_4 : decode cX5_hasBlank 4 = .ok (.getfield 15, 3) := by decide +kernel
theorem dX5_hasBlank_7 : decode cX5_hasBlank 7 = .ok (.if_icmp .ge 22, 3) := by decide +kernel
theorem dX5_hasBlank_10 : decode cX5_hasBlank 10 = .ok (.aload_n 0, 1) := by decide +kernel
theorem dX5_hasBlank_11 : decode cX5_hasBlank 11 = .ok (.iload_n 1, 1) := by decide +kernel
theorem dX5_hasBlank_12 : decode cX5_hasBlank 12 = .ok (.invokevirtual 19, 3) := by decide +kernel
theorem dX5_hasBlank_15 : decode cX5_hasBlank 15 = .ok (.invokestatic 30, 3) := by decide +kernel
theorem dX5_hasBlank_18 : decode cX5_hasBlank 18 = .ok (.ifCond .eq 5, 3) := by decide +kernel
theorem dX5_hasBlank_21 : decode cX5_hasBlank 21 = .ok (.iconst 1, 1) := by decide +kernel
theorem dX5_hasBlank_22 : decode cX5_hasBlank 22 = .ok (.ireturn, 1) := by decide +kernel
theorem dX5_hasBlank_23 : decode cX5_hasBlank 23 = .ok (.iinc 1 1, 3) := by decide +kernel
theorem dX5_hasBlank_26 : decode cX5_hasBlank 26 = .ok (.goto (-24), 3) := by decide +kernel
theorem dX5_hasBlank_29 : decode cX5_hasBlank 29 = .ok (.iconst 0, 1) := by decide +kernel
theorem dX5_hasBlank_30 : decode cX5_hasBlank 30 = .ok (.ireturn, 1) := by decide +kernel
theorem dX6_init_0 : decode cX6_init 0 = .ok (.aload_n 0, 1) := by decide +kernel
theorem dX6_init_1 : decode cX6_init 1 = .ok (.invokespecial 1, 3) := by decide +kernel
theorem dX6_init_4 : decode cX6_init 4 = .ok (.aload_n 0, 1) := by decide +kernel
theorem dX6_init_5 : decode cX6_init 5 = .ok (.new 7, 3) := by decide +kernel
theorem dX6_init_8 : decode cX6_init 8 = .ok (.dup, 1) := by decide +kernel
theorem dX6_init_9 : decode cX6_init 9 = .ok (.invokespecial 9, 3) := by decide +kernel
theorem dX6_init_12 : decode cX6_init 12 = .ok (.putfield 10, 3) := by decide +kernel
theorem dX6_init_15 : decode cX6_init 15 = .ok (.aload_n 0, 1) := by decide +kernel
theorem dX6_init_16 : decode cX6_init 16 = .ok (.new 7, 3) := by decide +kernel
theorem dX6_init_19 : decode cX6_init 19 = .ok (.dup, 1) := by decide +kernel
theorem dX6_init_20 : decode cX6_init 20 = .ok (.invokespecial 9, 3) := by decide +kernel
theorem dX6_init_23 : decode cX6_init 23 = .ok (.putfield 16, 3) := by decide +kernel
theorem dX6_init_26 : decode cX6_init 26 = .ok (.aload_n 0, 1) := by decide +kernel
theorem dX6_init_27 : decode cX6_init 27 = .ok (.new 19, 3) := by decide +kernel
theorem dX6_init_30 : decode cX6_init 30 = .ok (.dup, 1) := by decide +kernel
theorem dX6_init_31 : decode cX6_init 31 = .ok (.invokespecial 21, 3) := by decide +kernel
theorem dX6_init_34 : decode cX6_init 34 = .ok (.putfield 22, 3) := by decide +kernel
theorem dX6_init_37 : decode cX6_init 37 = .ok (.aload_n 0, 1) := by decide +kernel
theorem dX6_init_38 : decode cX6_init 38 = .ok (.new 26, 3) := by decide +kernel
theorem dX6_init_41 : decode cX6_init 41 = .ok (.dup, 1) := by decide +kernel
theorem dX6_init_42 : decode cX6_init 42 = .ok (.invokespecial 28, 3) := by decide +kernel
theorem dX6_init_45 : decode cX6_init 45 = .ok (.putfield 29, 3) := by decide +kernel
theorem dX6_init_48 : decode cX6_init 48 = .ok (.aload_n 0, 1) := by decide +kernel
theorem dX6_init_49 : decode cX6_init 49 = .ok (.new 33, 3) := by decide +kernel
theorem dX6_init_52 : decode cX6_init 52 = .ok (.dup, 1) := by decide +kernel
theorem dX6_init_53 : decode cX6_init 53 = .ok (.invokespecial 35, 3) := by decide +kernel
theorem dX6_init_56 : decode cX6_init 56 = .ok (.putfield 36, 3) := by decide +kernel
theorem dX6_init_59 : decode cX6_init 59 = .ok (.aload_n 0, 1) := by decide +kernel
theorem dX6_init_60 : decode cX6_init 60 = .ok (.new 40, 3) := by decide +kernel
theorem dX6_init_63 : decode cX6_init 63 = .ok (.dup, 1) := by decide +kernel
theorem dX6_init_64 : decode cX6_init 64 = .ok (.invokespecial 42, 3) := by decide +kernel
theorem dX6_init_67 : decode cX6_init 67 = .ok (.putfield 43, 3) := by decide +kernel
theorem dX6_init_70 : decode cX6_init 70 = .ok (.aload_n 0, 1) := by decide +kernel
theorem dX6_init_71 : decode cX6_init 71 = .ok (.iconst 0, 1) := by decide +kernel
theorem dX6_init_72 : decode cX6_init 72 = .ok (.putfield 47, 3) := by decide +kernel
theorem dX6_init_75 : decode cX6_init 75 = .ok (.return_, 1) := by decide +kernel
theorem dX6_feed_0 : decode cX6_feed 0 = .ok (.iload_n 1, 1) := by decide +kernel
theorem dX6_feed_1 : decode cX6_feed 1 = .ok (.iconst 1, 1) := by decide +kernel
theorem dX6_feed_2 : decode cX6_feed 2 = .ok (.if_icmp .lt 9, 3) := by decide +kernel
theorem dX6_feed_5 : decode cX6_feed 5 = .ok (.iload_n 1, 1) := by decide +kernel
theorem dX6_feed_6 : decode cX6_feed 6 = .ok (.bipush 8, 2) := by decide +kernel
theorem dX6_feed_8 : decode cX6_feed 8 = .ok (.if_icmp .le 5, 3) := by decide +kernel
theorem dX6_feed_11 : decode cX6_feed 11 = .ok (.iconst (-1), 1) := by decide +kernel
theorem dX6_feed_12 : decode cX6_feed 12 = .ok (.ireturn, 1) := by decide +kernel
theorem dX6_feed_13 : decode cX6_feed 13 = .ok (.aload_n 0, 1) := by decide +kernel
theorem dX6_feed_14 : decode cX6_feed 14 = .ok (.getfield 10, 3) := by decide +kernel
theorem dX6_feed_17 : decode cX6_feed 17 = .ok (.invokevirtual 51, 3) := by decide +kernel
theorem dX6_feed_20 : decode cX6_feed 20 = .ok (.iload_n 1, 1) := by decide +kernel
theorem dX6_feed_21 : decode cX6_feed 21 = .ok (.iadd, 1) := by decide +kernel
theorem dX6_feed_22 : decode cX6_feed 22 = .ok (.sipush 300, 3) := by decide +kernel
theorem dX6_feed_25 : decode cX6_feed 25 = .ok (.if_icmp .le 6, 3) := by decide +kernel
theorem dX6_feed_28 : decode cX6_feed 28 = .ok (.bipush (-3), 2) := by decide +kernel
theorem dX6_feed_30 : decode cX6_feed 30 = .ok (.ireturn, 1) := by decide +kernel
theorem dX6_feed_31 : decode cX6_feed 31 = .ok (.iconst 0, 1) := by decide +kernel
theorem dX6_feed_32 : decode cX6_feed 32 = .ok (.istore 4, 2) := by decide +kernel
theorem dX6_feed_34 : decode cX6_feed 34 = .ok (.iload 4, 2) := by decide +kernel
theorem dX6_feed_36 : decode cX6_feed 36 = .ok (.iload_n 1, 1) := by decide +kernel
theorem dX6_feed_37 : decode cX6_feed 37 = .ok (.if_icmp .ge 28, 3) := by decide +kernel
theorem dX6_feed_40 : decode cX6_feed 40 = .ok (.aload_n 0, 1) := by decide +kernel
theorem dX6_feed_41 : decode cX6_feed 41 = .ok (.getfield 10, 3) := by decide +kernel
theorem dX6_feed_44 : decode cX6_feed 44 = .ok (.lload_n 2, 1) := by decide +kernel
theorem dX6_feed_45 : decode cX6_feed 45 = .ok (.bipush 8, 2) := by decide +kernel
theorem dX6_feed_47 : decode cX6_feed 47 = .ok (.iload 4, 2) := by decide +kernel
theorem dX6_feed_49 : decode cX6_feed 49 = .ok (.imul, 1) := by decide +kernel
theorem dX6_feed_50 : decode cX6_feed 50 = .ok (.lushr, 1) := by decide +kernel
theorem dX6_feed_51 : decode cX6_feed 51 = .ok (.l2i, 1) := by decide +kernel
theorem dX6_feed_52 : decode cX6_feed 52 = .ok (.sipush 255, 3) := by decide +kernel
theorem dX6_feed_55 : decode cX6_feed 55 = .ok (.iand, 1) := by decide +kernel
theorem dX6_feed_56 : decode cX6_feed 56 = .ok (.invokevirtual 55, 3) := by decide +kernel
theorem dX6_feed_59 : decode cX6_feed 59 = .ok (.iinc 4 1, 3) := by decide +kernel
theorem dX6_feed_62 : decode cX6_feed 62 = .ok (.goto (-28), 3) := by decide +kernel
theorem dX6_feed_65 : decode cX6_feed 65 = .ok (.aload_n 0, 1) := by decide +kernel
theorem dX6_feed_66 : decode cX6_feed 66 = .ok (.getfield 10, 3) := by decide +kernel
theorem dX6_feed_69 : decode cX6_feed 69 = .ok (.invokevirtual 51, 3) := by decide +kernel
theorem dX6_feed_72 : decode cX6_feed 72 = .ok (.ireturn, 1) := by decide +kernel
theorem dX6_text_0 : decode cX6_text 0 = .ok (.aload_n 0, 1) := by decide +kernel
theorem dX6_text_1 : decode cX6_text 1 = .ok (.getfield 16, 3) := by decide +kernel
theorem dX6_text_4 : decode cX6_text 4 = .ok (.aload_n 0, 1) := by decide +kernel
theorem dX6_text_5 : decode cX6_text 5 = .ok (.getfield 10, 3) := by decide +kernel
theorem dX6_text_8 : decode cX6_text 8 = .ok (.invokevirtual 59, 3) := by decide +kernel
theorem dX6_text_11 : decode cX6_text 11 = .ok (.aload_n 0, 1) := by decide +kernel
theorem dX6_text_12 : decode cX6_text 12 = .ok (.getfield 22, 3) := by decide +kernel
theorem dX6_text_15 : decode cX6_text 15 = .ok (.invokevirtual 63, 3) := by decide +kernel
theorem dX6_text_18 : decode cX6_text 18 = .ok (.aload_n 0, 1) := by decide +kernel
theorem dX6_text_19 : decode cX6_text 19 = .ok (.getfield 16, 3) := by decide +kernel
theorem dX6_text_22 : decode cX6_text 22 = .ok (.invokevirtual 51, 3) := by decide +kernel
theorem dX6_text_25 : decode cX6_text 25 = .ok (.ireturn, 1) := by decide +kernel
theorem dX6_pattern_0 : decode cX6_pattern 0 = .ok (.aload_n 0, 1) := by decide +kernel
theorem dX6_pattern_1 : decode cX6_pattern 1 = .ok (.getfield 36, 3) := by decide +kernel
theorem dX6_pattern_4 : decode cX6_pattern 4 = .ok (.aload_n 0, 1) := by decide +kernel
theorem dX6_pattern_5 : decode cX6_pattern 5 = .ok (.getfield 10, 3) := by decide +kernel
theorem dX6_pattern_8 : decode cX6_pattern 8 = .ok (.invokevirtual 66, 3) := by decide +kernel
theorem dX6_pattern_11 : decode cX6_pattern 11 = .ok (.istore_n 1, 1) := by decide +kernel
theorem dX6_pattern_12 : decode cX6_pattern 12 = .ok (.iload_n 1, 1) := by decide +kernel
theorem dX6_pattern_13 : decode cX6_pattern 13 = .ok (.iconst (-1), 1) := by decide +kernel
theorem dX6_pattern_14 : decode cX6_pattern 14 = .ok (.if_icmp .eq 8, 3) := by decide +kernel
theorem dX6_pattern_17 : decode cX6_pattern 17 = .ok (.bipush (-10), 2) := by decide +kernel
theorem dX6_pattern_19 : decode cX6_pattern 19 = .ok (.iload_n 1, 1) := by decide +kernel
theorem dX6_pattern_20 : decode cX6_pattern 20 = .ok (.isub, 1) := by decide +kernel
theorem dX6_pattern_21 : decode cX6_pattern 21 = .ok (.ireturn, 1) := by decide +kernel
theorem dX6_pattern_22 : decode cX6_pattern 22 = .ok (.aload_n 0, 1) := by decide +kernel
theorem dX6_pattern_23 : decode cX6_pattern 23 = .ok (.aload_n 0, 1) := by decide +kernel
theorem dX6_pattern_24 : decode cX6_pattern 24 = .ok (.getfield 36, 3) := by decide +kernel
theorem dX6_pattern_27 : decode cX6_pattern 27 = .ok (.aload_n 0, 1) := by decide +kernel
theorem dX6_pattern_28 : decode cX6_pattern 28 = .ok (.getfield 43, 3) := by decide +kernel
theorem dX6_pattern_31 : decode cX6_pattern 31 = .ok (.invokevirtual 70, 3) := by decide +kernel
theorem dX6_pattern_34 : decode cX6_pattern 34 = .ok (.putfield 43, 3) := by decide +kernel
theorem dX6_pattern_37 : decode cX6_pattern 37 = .ok (.aload_n 0, 1) := by decide +kernel
theorem dX6_pattern_38 : decode cX6_pattern 38 = .ok (.getfield 43, 3) := by decide +kernel
theorem dX6_pattern_41 : decode cX6_pattern 41 = .ok (.invokevirtual 74, 3) := by decide +kernel
theorem dX6_pattern_44 : decode cX6_pattern 44 = .ok (.ireturn, 1) := by decide +kernel
theorem dX6_word_0 : decode cX6_word 0 = .ok (.aload_n 0, 1) := by decide +kernel
theorem dX6_word_1 : decode cX6_word 1 = .ok (.getfield 29, 3) := by decide +kernel
theorem dX6_word_4 : decode cX6_word 4 = .ok (.aload_n 0, 1) := by decide +kernel
theorem dX6_word_5 : decode cX6_word 5 = .ok (.getfield 10, 3) := by decide +kernel
theorem dX6_word_8 : decode cX6_word 8 = .ok (.iload_n 1, 1) := by decide +kernel
theorem dX6_word_9 : decode cX6_word 9 = .ok (.invokevirtual 77, 3) := by decide +kernel
theorem dX6_word_12 : decode cX6_word 12 = .ok (.istore_n 2, 1) := by decide +kernel
theorem dX6_word_13 : decode cX6_word 13 = .ok (.aload_n 0, 1) := by decide +kernel
theorem dX6_word_14 : decode cX6_word 14 = .ok (.getfield 10, 3) := by decide +kernel
theorem dX6_word_17 : decode cX6_word 17 = .ok (.invokevirtual 81, 3) := by decide +kernel
theorem dX6_word_20 : decode cX6_word 20 = .ok (.iload_n 2, 1) := by decide +kernel
theorem dX6_word_21 : decode cX6_word 21 = .ok (.ireturn, 1) := by decide +kernel
theorem dX6_strange_0 : decode cX6_strange 0 = .ok (.iload_n 1, 1) := by decide +kernel
theorem dX6_strange_1 : decode cX6_strange 1 = .ok (.invokestatic 82, 3) := by decide +kernel
theorem dX6_strange_4 : decode cX6_strange 4 = .ok (.ifCond .ne 5, 3) := by decide +kernel
theorem dX6_strange_7 : decode cX6_strange 7 = .ok (.iconst (-1), 1) := by decide +kernel
theorem dX6_strange_8 : decode cX6_strange 8 = .ok (.ireturn, 1) := by decide +kernel
theorem dX6_strange_9 : decode cX6_strange 9 = .ok (.aload_n 0, 1) := by decide +kernel
theorem dX6_strange_10 : decode cX6_strange 10 = .ok (.getfield 29, 3) := by decide +kernel
theorem dX6_strange_13 : decode cX6_strange 13 = .ok (.iload_n 1, 1) := by decide +kernel
theorem dX6_strange_14 : decode cX6_strange 14 = .ok (.invokevirtual 86, 3) := by decide +kernel
theorem dX6_strange_17 : decode cX6_strange 17 = .ok (.ireturn, 1) := by decide +kernel
theorem dX6_links_0 : decode cX6_links 0 = .ok (.aload_n 0, 1) := by decide +kernel
theorem dX6_links_1 : decode cX6_links 1 = .ok (.getfield 47, 3) := by decide +kernel
theorem dX6_links_4 : decode cX6_links 4 = .ok (.ifCond .eq 7, 3) := by decide +kernel
theorem dX6_links_7 : decode cX6_links 7 = .ok (.iconst 1, 1) := by decide +kernel
theorem dX6_links_8 : decode cX6_links 8 = .ok (.goto 4, 3) := by decide +kernel
theorem dX6_links_11 : decode cX6_links 11 = .ok (.iconst 0, 1) := by decide +kernel
theorem dX6_links_12 : decode cX6_links 12 = .ok (.istore_n 2, 1) := by decide +kernel
theorem dX6_links_13 : decode cX6_links 13 = .ok (.aload_n 0, 1) := by decide +kernel
theorem dX6_links_14 : decode cX6_links 14 = .ok (.iload_n 1, 1) := by decide +kernel
theorem dX6_links_15 : decode cX6_links 15 = .ok (.putfield 47, 3) := by decide +kernel
theorem dX6_links_18 : decode cX6_links 18 = .ok (.iload_n 2, 1) := by decide +kernel
theorem dX6_links_19 : decode cX6_links 19 = .ok (.ireturn, 1) := by decide +kernel
theorem dX6_longest_0 : decode cX6_longest 0 = .ok (.iload_n 1, 1) := by decide +kernel
theorem dX6_longest_1 : decode cX6_longest 1 = .ok (.iconst 1, 1) := by decide +kernel
theorem dX6_longest_2 : decode cX6_longest 2 = .ok (.if_icmp .lt 19, 3) := by decide +kernel
theorem dX6_longest_5 : decode cX6_longest 5 = .ok (.iload_n 1, 1) := by decide +kernel
theorem dX6_longest_6 : decode cX6_longest 6 = .ok (.sipush 300, 3) := by decide +kernel
theorem dX6_longest_9 : decode cX6_longest 9 = .ok (.if_icmp .gt 12, 3) := by decide +kernel
theorem dX6_longest_12 : decode cX6_longest 12 = .ok (.iload_n 2, 1) := by decide +kernel
theorem dX6_longest_13 : decode cX6_longest 13 = .ok (.ifCond .eq 10, 3) := by decide +kernel
theorem dX6_longest_16 : decode cX6_longest 16 = .ok (.iload_n 2, 1) := by decide +kernel
theorem dX6_longest_17 : decode cX6_longest 17 = .ok (.iconst 1, 1) := by decide +kernel
theorem dX6_longest_18 : decode cX6_longest 18 = .ok (.if_icmp .eq 5, 3) := by decide +kernel
theorem dX6_longest_21 : decode cX6_longest 21 = .ok (.iconst (-1), 1) := by decide +kernel
theorem dX6_longest_22 : decode cX6_longest 22 = .ok (.ireturn, 1) := by decide +kernel
theorem dX6_longest_23 : decode cX6_longest 23 = .ok (.aload_n 0, 1) := by decide +kernel
theorem dX6_longest_24 : decode cX6_longest 24 = .ok (.getfield 22, 3) := by decide +kernel
theorem dX6_longest_27 : decode cX6_longest 27 = .ok (.iload_n 1, 1) := by decide +kernel
theorem dX6_longest_28 : decode cX6_longest 28 = .ok (.iload_n 2, 1) := by decide +kernel
theorem dX6_longest_29 : decode cX6_longest 29 = .ok (.invokevirtual 90, 3) := by decide +kernel
theorem dX6_longest_32 : decode cX6_longest 32 = .ok (.ireturn, 1) := by decide +kernel
theorem dX6_tokens_0 : decode cX6_tokens 0 = .ok (.iload_n 1, 1) := by decide +kernel
theorem dX6_tokens_1 : decode cX6_tokens 1 = .ok (.ifCond .lt 9, 3) := by decide +kernel
theorem dX6_tokens_4 : decode cX6_tokens 4 = .ok (.iload_n 1, 1) := by decide +kernel
theorem dX6_tokens_5 : decode cX6_tokens 5 = .ok (.bipush 8, 2) := by decide +kernel
theorem dX6_tokens_7 : decode cX6_tokens 7 = .ok (.if_icmp .le 5, 3) := by decide +kernel
theorem dX6_tokens_10 : decode cX6_tokens 10 = .ok (.iconst (-1), 1) := by decide +kernel
theorem dX6_tokens_11 : decode cX6_tokens 11 = .ok (.ireturn, 1) := by decide +kernel
theorem dX6_tokens_12 : decode cX6_tokens 12 = .ok (.iload_n 1, 1) := by decide +kernel
theorem dX6_tokens_13 : decode cX6_tokens 13 = .ok (.iconst 5, 1) := by decide +kernel
theorem dX6_tokens_14 : decode cX6_tokens 14 = .ok (.if_icmp .eq 9, 3) := by decide +kernel
theorem dX6_tokens_17 : decode cX6_tokens 17 = .ok (.iload_n 1, 1) := by decide +kernel
theorem dX6_tokens_18 : decode cX6_tokens 18 = .ok (.bipush 6, 2) := by decide +kernel
theorem dX6_tokens_20 : decode cX6_tokens 20 = .ok (.if_icmp .ne 7, 3) := by decide +kernel
theorem dX6_tokens_23 : decode cX6_tokens 23 = .ok (.iconst 1, 1) := by decide +kernel
theorem dX6_tokens_24 : decode cX6_tokens 24 = .ok (.goto 4, 3) := by decide +kernel
theorem dX6_tokens_27 : decode cX6_tokens 27 = .ok (.iconst 0, 1) := by decide +kernel
theorem dX6_tokens_28 : decode cX6_tokens 28 = .ok (.istore 4, 2) := by decide +kernel
theorem dX6_tokens_30 : decode cX6_tokens 30 = .ok (.iload 4, 2) := by decide +kernel
theorem dX6_tokens_32 : decode cX6_tokens 32 = .ok (.ifCond .eq 29, 3) := by decide +kernel
theorem dX6_tokens_35 : decode cX6_tokens 35 = .ok (.iload_n 2, 1) := by decide +kernel
